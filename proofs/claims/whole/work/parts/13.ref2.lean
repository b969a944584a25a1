noncomputable section
-- X7_save
def f_X7_save_L106 : Nat → Int32 → HP → Option HP
  | 0, _, _ => none
  | n + 1, x1, h => if (3 : Int32) ≤ x1 then (some h) else (gd (inb x1 3) (gd (inb x1 3) (lt (si h 118 (Int32.toNatClampNeg x1) (h.1 103 (Int32.toNatClampNeg x1))) fun g19 => lt (x1 + 1 : Int32) fun v21 => f_X7_save_L106 n v21 g19)))
set_option maxHeartbeats 4000000 in
set_option maxRecDepth 100000 in
theorem A_X7_save_L106 (X : XE) (h' : HP) : ∀ (n : Nat) (x1 : Int32) (h : HP), f_X7_save_L106 n x1 h = some h' → Run mX7_save 1 X 106 [(0, .ref (X.1 96)), (1, .int x1)] [] h none h' := by
  intro n
  induction n with
  | zero => intro x1 h hf; cases hf
  | succ n ih =>
    intro x1 h hf
    rw [f_X7_save_L106] at hf
    refine r_iload_n 107 rfl 1 rfl rfl (ck DX7_save_1 9 rfl) ?_
    refine r_iconst 108 rfl ic_3 (ck DX7_save_1 10 rfl) ?_
    rcases if_so hf with ⟨c16, hf⟩ | ⟨c16, hf⟩
    · refine r_icmp_ge_t 129 (ck DX7_save_1 11 rfl) (by decide) c16 ?_
      obtain rfl := so1 hf
      exact r_vret rfl (ck DX7_save_1 22 rfl)
    · refine r_icmp_ge_f 111 rfl 129 (ck DX7_save_1 11 rfl) (by decide) c16 ?_
      refine r_aload_n 112 rfl 0 rfl rfl (ck DX7_save_1 12 rfl) ?_
      refine r_getr (q := 118) 115 rfl (lq_7_42) sh_96 kd_7_42 fl_X7_139 (ck DX7_save_1 13 rfl) ?_
      refine r_iload_n 116 rfl 1 rfl rfl (ck DX7_save_1 14 rfl) ?_
      refine r_aload_n 117 rfl 0 rfl rfl (ck DX7_save_1 15 rfl) ?_
      refine r_getr (q := 103) 120 rfl (lq_7_12) sh_96 kd_7_12 fl_X7_47 (ck DX7_save_1 16 rfl) ?_
      refine r_iload_n 121 rfl 1 rfl rfl (ck DX7_save_1 17 rfl) ?_
      obtain ⟨b17, hf⟩ := gd_so hf
      refine r_iald 122 rfl sh_103 (inb_vp b17) (ck DX7_save_1 18 rfl) ?_
      obtain ⟨b18, hf⟩ := gd_so hf
      obtain ⟨g19, e20, hf⟩ := lt_so hf
      refine r_iast 123 rfl sh_118 (inb_vp b18) (ck DX7_save_1 19 rfl) ?_
      refine r_heap e20 ?_
      obtain ⟨v21, e22, hf⟩ := lt_so hf
      refine r_iinc (lv' := [(1, .int v21), (0, .ref (X.1 96))]) 126 rfl 1 (ck DX7_save_1 20 rfl) rfl (by rw [e22, ic_1]) (by decide) rfl ?_
      refine r_goto 106 (ck DX7_save_1 21 rfl) (by decide) ?_
      refine r_sub (lv' := [(0, .ref (X.1 96)), (1, .int v21)]) [1, 0] rfl ?_
      exact ih v21 g19 hf
def f_X7_save_L56 : Nat → Int32 → HP → Option HP
  | 0, _, _ => none
  | n + 1, x1, h => if (6 : Int32) ≤ x1 then (f_X7_save_L106 FZ 0 h) else (gd (inb x1 6) (gd (inb x1 6) (lt (si h 115 (Int32.toNatClampNeg x1) (h.1 99 (Int32.toNatClampNeg x1))) fun g25 => gd (inb x1 6) (gd (inb x1 6) (lt (si g25 116 (Int32.toNatClampNeg x1) (g25.1 100 (Int32.toNatClampNeg x1))) fun g29 => gd (inb x1 6) (gd (inb x1 6) (lt (si g29 117 (Int32.toNatClampNeg x1) (g29.1 101 (Int32.toNatClampNeg x1))) fun g33 => lt (x1 + 1 : Int32) fun v35 => f_X7_save_L56 n v35 g33)))))))
set_option maxHeartbeats 4000000 in
set_option maxRecDepth 100000 in
theorem A_X7_save_L56 (X : XE) (h' : HP) : ∀ (n : Nat) (x1 : Int32) (h : HP), f_X7_save_L56 n x1 h = some h' → Run mX7_save 1 X 56 [(0, .ref (X.1 96)), (1, .int x1)] [] h none h' := by
  intro n
  induction n with
  | zero => intro x1 h hf; cases hf
  | succ n ih =>
    intro x1 h hf
    rw [f_X7_save_L56] at hf
    refine r_iload_n 57 rfl 1 rfl rfl (ck DX7_save_0 28 rfl) ?_
    refine r_bipush 59 rfl bp_6 (ck DX7_save_0 29 rfl) ?_
    rcases if_so hf with ⟨c15, hf⟩ | ⟨c15, hf⟩
    · refine r_icmp_ge_t 104 (ck DX7_save_0 30 rfl) (by decide) c15 ?_
      refine r_iconst 105 rfl ic_0 (ck DX7_save_1 7 rfl) ?_
      refine r_istore_n (lv' := [(1, .int 0), (0, .ref (X.1 96))]) 106 rfl (ck DX7_save_1 8 rfl) (by decide) rfl rfl ?_
      refine r_sub (lv' := [(0, .ref (X.1 96)), (1, .int 0)]) [1, 0] rfl ?_
      exact A_X7_save_L106 X _ FZ 0 h hf
    · refine r_icmp_ge_f 62 rfl 104 (ck DX7_save_0 30 rfl) (by decide) c15 ?_
      refine r_aload_n 63 rfl 0 rfl rfl (ck DX7_save_0 31 rfl) ?_
      refine r_getr (q := 115) 66 rfl (lq_7_39) sh_96 kd_7_39 fl_X7_130 (ck DX7_save_0 32 rfl) ?_
      refine r_iload_n 67 rfl 1 rfl rfl (ck DX7_save_0 33 rfl) ?_
      refine r_aload_n 68 rfl 0 rfl rfl (ck DX7_save_0 34 rfl) ?_
      refine r_getr (q := 99) 71 rfl (lq_7_8) sh_96 kd_7_8 fl_X7_35 (ck DX7_save_0 35 rfl) ?_
      refine r_iload_n 72 rfl 1 rfl rfl (ck DX7_save_0 36 rfl) ?_
      obtain ⟨b23, hf⟩ := gd_so hf
      refine r_iald 73 rfl sh_99 (inb_vp b23) (ck DX7_save_0 37 rfl) ?_
      obtain ⟨b24, hf⟩ := gd_so hf
      obtain ⟨g25, e26, hf⟩ := lt_so hf
      refine r_iast 74 rfl sh_115 (inb_vp b24) (ck DX7_save_0 38 rfl) ?_
      refine r_heap e26 ?_
      refine r_aload_n 75 rfl 0 rfl rfl (ck DX7_save_0 39 rfl) ?_
      refine r_getr (q := 116) 78 rfl (lq_7_40) sh_96 kd_7_40 fl_X7_133 (ck DX7_save_0 40 rfl) ?_
      refine r_iload_n 79 rfl 1 rfl rfl (ck DX7_save_0 41 rfl) ?_
      refine r_aload_n 80 rfl 0 rfl rfl (ck DX7_save_0 42 rfl) ?_
      refine r_getr (q := 100) 83 rfl (lq_7_9) sh_96 kd_7_9 fl_X7_38 (ck DX7_save_0 43 rfl) ?_
      refine r_iload_n 84 rfl 1 rfl rfl (ck DX7_save_0 44 rfl) ?_
      obtain ⟨b27, hf⟩ := gd_so hf
      refine r_iald 85 rfl sh_100 (inb_vp b27) (ck DX7_save_0 45 rfl) ?_
      obtain ⟨b28, hf⟩ := gd_so hf
      obtain ⟨g29, e30, hf⟩ := lt_so hf
      refine r_iast 86 rfl sh_116 (inb_vp b28) (ck DX7_save_0 46 rfl) ?_
      refine r_heap e30 ?_
      refine r_aload_n 87 rfl 0 rfl rfl (ck DX7_save_0 47 rfl) ?_
      refine r_getr (q := 117) 90 rfl (lq_7_41) sh_96 kd_7_41 fl_X7_136 (ck DX7_save_0 48 rfl) ?_
      refine r_iload_n 91 rfl 1 rfl rfl (ck DX7_save_0 49 rfl) ?_
      refine r_aload_n 92 rfl 0 rfl rfl (ck DX7_save_1 0 rfl) ?_
      refine r_getr (q := 101) 95 rfl (lq_7_10) sh_96 kd_7_10 fl_X7_41 (ck DX7_save_1 1 rfl) ?_
      refine r_iload_n 96 rfl 1 rfl rfl (ck DX7_save_1 2 rfl) ?_
      obtain ⟨b31, hf⟩ := gd_so hf
      refine r_iald 97 rfl sh_101 (inb_vp b31) (ck DX7_save_1 3 rfl) ?_
      obtain ⟨b32, hf⟩ := gd_so hf
      obtain ⟨g33, e34, hf⟩ := lt_so hf
      refine r_iast 98 rfl sh_117 (inb_vp b32) (ck DX7_save_1 4 rfl) ?_
      refine r_heap e34 ?_
      obtain ⟨v35, e36, hf⟩ := lt_so hf
      refine r_iinc (lv' := [(1, .int v35), (0, .ref (X.1 96))]) 101 rfl 1 (ck DX7_save_1 5 rfl) rfl (by rw [e36, ic_1]) (by decide) rfl ?_
      refine r_goto 56 (ck DX7_save_1 6 rfl) (by decide) ?_
      refine r_sub (lv' := [(0, .ref (X.1 96)), (1, .int v35)]) [1, 0] rfl ?_
      exact ih v35 g33 hf
def f_X7_save (h : HP) : Option HP := lt (si h 96 31 2000000000) fun g1 => lt (si g1 96 32 2000000000) fun g3 => lt (si g3 96 34 (g3.1 96 1)) fun g5 => lt (si g5 96 35 (g5.1 96 2)) fun g7 => lt (si g7 96 36 (g7.1 96 3)) fun g9 => lt (si g9 96 37 (g9.1 96 4)) fun g11 => lt (si g11 96 38 (g11.1 96 5)) fun g13 => f_X7_save_L56 FZ 0 g13
set_option maxHeartbeats 4000000 in
set_option maxRecDepth 100000 in
theorem A_X7_save (X : XE) (h : HP) (h' : HP) (hf : f_X7_save h = some h') : CC mX7_save 1 X [.ref (X.1 96)] h none h' := by
  refine CC_of rfl (Nat.le_of_ble_eq_true rfl) ?_
  show Run mX7_save 1 X 0 [(0, .ref (X.1 96))] [] h none h'
  unfold f_X7_save at hf
  refine r_aload_n 1 rfl 0 rfl rfl (ck DX7_save_0 0 rfl) ?_
  refine r_ldcw 4 rfl cn_X7_401 (ck DX7_save_0 1 rfl) ?_
  obtain ⟨g1, e2, hf⟩ := lt_so hf
  refine r_puti 7 rfl sh_96 kd_7_31 fw_X7_106 rfl rfl (ck DX7_save_0 2 rfl) ?_
  refine r_heap e2 ?_
  refine r_aload_n 8 rfl 0 rfl rfl (ck DX7_save_0 3 rfl) ?_
  refine r_ldcw 11 rfl cn_X7_401 (ck DX7_save_0 4 rfl) ?_
  obtain ⟨g3, e4, hf⟩ := lt_so hf
  refine r_puti 14 rfl sh_96 kd_7_32 fw_X7_109 rfl rfl (ck DX7_save_0 5 rfl) ?_
  refine r_heap e4 ?_
  refine r_aload_n 15 rfl 0 rfl rfl (ck DX7_save_0 6 rfl) ?_
  refine r_aload_n 16 rfl 0 rfl rfl (ck DX7_save_0 7 rfl) ?_
  refine r_geti 19 rfl sh_96 kd_7_1 fl_X7_13 (ck DX7_save_0 8 rfl) ?_
  obtain ⟨g5, e6, hf⟩ := lt_so hf
  refine r_puti 22 rfl sh_96 kd_7_34 fw_X7_115 rfl rfl (ck DX7_save_0 9 rfl) ?_
  refine r_heap e6 ?_
  refine r_aload_n 23 rfl 0 rfl rfl (ck DX7_save_0 10 rfl) ?_
  refine r_aload_n 24 rfl 0 rfl rfl (ck DX7_save_0 11 rfl) ?_
  refine r_geti 27 rfl sh_96 kd_7_2 fl_X7_16 (ck DX7_save_0 12 rfl) ?_
  obtain ⟨g7, e8, hf⟩ := lt_so hf
  refine r_puti 30 rfl sh_96 kd_7_35 fw_X7_118 rfl rfl (ck DX7_save_0 13 rfl) ?_
  refine r_heap e8 ?_
  refine r_aload_n 31 rfl 0 rfl rfl (ck DX7_save_0 14 rfl) ?_
  refine r_aload_n 32 rfl 0 rfl rfl (ck DX7_save_0 15 rfl) ?_
  refine r_geti 35 rfl sh_96 kd_7_3 fl_X7_19 (ck DX7_save_0 16 rfl) ?_
  obtain ⟨g9, e10, hf⟩ := lt_so hf
  refine r_puti 38 rfl sh_96 kd_7_36 fw_X7_121 rfl rfl (ck DX7_save_0 17 rfl) ?_
  refine r_heap e10 ?_
  refine r_aload_n 39 rfl 0 rfl rfl (ck DX7_save_0 18 rfl) ?_
  refine r_aload_n 40 rfl 0 rfl rfl (ck DX7_save_0 19 rfl) ?_
  refine r_geti 43 rfl sh_96 kd_7_4 fl_X7_22 (ck DX7_save_0 20 rfl) ?_
  obtain ⟨g11, e12, hf⟩ := lt_so hf
  refine r_puti 46 rfl sh_96 kd_7_37 fw_X7_124 rfl rfl (ck DX7_save_0 21 rfl) ?_
  refine r_heap e12 ?_
  refine r_aload_n 47 rfl 0 rfl rfl (ck DX7_save_0 22 rfl) ?_
  refine r_aload_n 48 rfl 0 rfl rfl (ck DX7_save_0 23 rfl) ?_
  refine r_geti 51 rfl sh_96 kd_7_5 fl_X7_25 (ck DX7_save_0 24 rfl) ?_
  obtain ⟨g13, e14, hf⟩ := lt_so hf
  refine r_puti 54 rfl sh_96 kd_7_38 fw_X7_127 rfl rfl (ck DX7_save_0 25 rfl) ?_
  refine r_heap e14 ?_
  refine r_iconst 55 rfl ic_0 (ck DX7_save_0 26 rfl) ?_
  refine r_istore_n (lv' := [(1, .int 0), (0, .ref (X.1 96))]) 56 rfl (ck DX7_save_0 27 rfl) (by decide) rfl rfl ?_
  refine r_sub (lv' := [(0, .ref (X.1 96)), (1, .int 0)]) [1, 0] rfl ?_
  exact A_X7_save_L56 X _ FZ 0 g13 hf
-- X7_putBack
def f_X7_putBack_L105 : Nat → Int32 → HP → Option HP
  | 0, _, _ => none
  | n + 1, x1, h => if (3 : Int32) ≤ x1 then (some h) else (gd (inb x1 3) (gd (inb x1 3) (lt (si h 103 (Int32.toNatClampNeg x1) (h.1 118 (Int32.toNatClampNeg x1))) fun g19 => lt (x1 + 1 : Int32) fun v21 => f_X7_putBack_L105 n v21 g19)))
set_option maxHeartbeats 4000000 in
set_option maxRecDepth 100000 in
theorem A_X7_putBack_L105 (X : XE) (h' : HP) : ∀ (n : Nat) (x1 : Int32) (h : HP), f_X7_putBack_L105 n x1 h = some h' → Run mX7_putBack 1 X 105 [(0, .ref (X.1 96)), (1, .int x1)] [] h none h' := by
  intro n
  induction n with
  | zero => intro x1 h hf; cases hf
  | succ n ih =>
    intro x1 h hf
    rw [f_X7_putBack_L105] at hf
    refine r_iload_n 106 rfl 1 rfl rfl (ck DX7_putBack_1 9 rfl) ?_
    refine r_iconst 107 rfl ic_3 (ck DX7_putBack_1 10 rfl) ?_
    rcases if_so hf with ⟨c16, hf⟩ | ⟨c16, hf⟩
    · refine r_icmp_ge_t 128 (ck DX7_putBack_1 11 rfl) (by decide) c16 ?_
      obtain rfl := so1 hf
      exact r_vret rfl (ck DX7_putBack_1 22 rfl)
    · refine r_icmp_ge_f 110 rfl 128 (ck DX7_putBack_1 11 rfl) (by decide) c16 ?_
      refine r_aload_n 111 rfl 0 rfl rfl (ck DX7_putBack_1 12 rfl) ?_
      refine r_getr (q := 103) 114 rfl (lq_7_12) sh_96 kd_7_12 fl_X7_47 (ck DX7_putBack_1 13 rfl) ?_
      refine r_iload_n 115 rfl 1 rfl rfl (ck DX7_putBack_1 14 rfl) ?_
      refine r_aload_n 116 rfl 0 rfl rfl (ck DX7_putBack_1 15 rfl) ?_
      refine r_getr (q := 118) 119 rfl (lq_7_42) sh_96 kd_7_42 fl_X7_139 (ck DX7_putBack_1 16 rfl) ?_
      refine r_iload_n 120 rfl 1 rfl rfl (ck DX7_putBack_1 17 rfl) ?_
      obtain ⟨b17, hf⟩ := gd_so hf
      refine r_iald 121 rfl sh_118 (inb_vp b17) (ck DX7_putBack_1 18 rfl) ?_
      obtain ⟨b18, hf⟩ := gd_so hf
      obtain ⟨g19, e20, hf⟩ := lt_so hf
      refine r_iast 122 rfl sh_103 (inb_vp b18) (ck DX7_putBack_1 19 rfl) ?_
      refine r_heap e20 ?_
      obtain ⟨v21, e22, hf⟩ := lt_so hf
      refine r_iinc (lv' := [(1, .int v21), (0, .ref (X.1 96))]) 125 rfl 1 (ck DX7_putBack_1 20 rfl) rfl (by rw [e22, ic_1]) (by decide) rfl ?_
      refine r_goto 105 (ck DX7_putBack_1 21 rfl) (by decide) ?_
      refine r_sub (lv' := [(0, .ref (X.1 96)), (1, .int v21)]) [1, 0] rfl ?_
      exact ih v21 g19 hf
def f_X7_putBack_L55 : Nat → Int32 → HP → Option HP
  | 0, _, _ => none
  | n + 1, x1, h => if (6 : Int32) ≤ x1 then (f_X7_putBack_L105 FZ 0 h) else (gd (inb x1 6) (gd (inb x1 6) (lt (si h 99 (Int32.toNatClampNeg x1) (h.1 115 (Int32.toNatClampNeg x1))) fun g25 => gd (inb x1 6) (gd (inb x1 6) (lt (si g25 100 (Int32.toNatClampNeg x1) (g25.1 116 (Int32.toNatClampNeg x1))) fun g29 => gd (inb x1 6) (gd (inb x1 6) (lt (si g29 101 (Int32.toNatClampNeg x1) (g29.1 117 (Int32.toNatClampNeg x1))) fun g33 => lt (x1 + 1 : Int32) fun v35 => f_X7_putBack_L55 n v35 g33)))))))
set_option maxHeartbeats 4000000 in
set_option maxRecDepth 100000 in
theorem A_X7_putBack_L55 (X : XE) (h' : HP) : ∀ (n : Nat) (x1 : Int32) (h : HP), f_X7_putBack_L55 n x1 h = some h' → Run mX7_putBack 1 X 55 [(0, .ref (X.1 96)), (1, .int x1)] [] h none h' := by
  intro n
  induction n with
  | zero => intro x1 h hf; cases hf
  | succ n ih =>
    intro x1 h hf
    rw [f_X7_putBack_L55] at hf
    refine r_iload_n 56 rfl 1 rfl rfl (ck DX7_putBack_0 28 rfl) ?_
    refine r_bipush 58 rfl bp_6 (ck DX7_putBack_0 29 rfl) ?_
    rcases if_so hf with ⟨c15, hf⟩ | ⟨c15, hf⟩
    · refine r_icmp_ge_t 103 (ck DX7_putBack_0 30 rfl) (by decide) c15 ?_
      refine r_iconst 104 rfl ic_0 (ck DX7_putBack_1 7 rfl) ?_
      refine r_istore_n (lv' := [(1, .int 0), (0, .ref (X.1 96))]) 105 rfl (ck DX7_putBack_1 8 rfl) (by decide) rfl rfl ?_
      refine r_sub (lv' := [(0, .ref (X.1 96)), (1, .int 0)]) [1, 0] rfl ?_
      exact A_X7_putBack_L105 X _ FZ 0 h hf
    · refine r_icmp_ge_f 61 rfl 103 (ck DX7_putBack_0 30 rfl) (by decide) c15 ?_
      refine r_aload_n 62 rfl 0 rfl rfl (ck DX7_putBack_0 31 rfl) ?_
      refine r_getr (q := 99) 65 rfl (lq_7_8) sh_96 kd_7_8 fl_X7_35 (ck DX7_putBack_0 32 rfl) ?_
      refine r_iload_n 66 rfl 1 rfl rfl (ck DX7_putBack_0 33 rfl) ?_
      refine r_aload_n 67 rfl 0 rfl rfl (ck DX7_putBack_0 34 rfl) ?_
      refine r_getr (q := 115) 70 rfl (lq_7_39) sh_96 kd_7_39 fl_X7_130 (ck DX7_putBack_0 35 rfl) ?_
      refine r_iload_n 71 rfl 1 rfl rfl (ck DX7_putBack_0 36 rfl) ?_
      obtain ⟨b23, hf⟩ := gd_so hf
      refine r_iald 72 rfl sh_115 (inb_vp b23) (ck DX7_putBack_0 37 rfl) ?_
      obtain ⟨b24, hf⟩ := gd_so hf
      obtain ⟨g25, e26, hf⟩ := lt_so hf
      refine r_iast 73 rfl sh_99 (inb_vp b24) (ck DX7_putBack_0 38 rfl) ?_
      refine r_heap e26 ?_
      refine r_aload_n 74 rfl 0 rfl rfl (ck DX7_putBack_0 39 rfl) ?_
      refine r_getr (q := 100) 77 rfl (lq_7_9) sh_96 kd_7_9 fl_X7_38 (ck DX7_putBack_0 40 rfl) ?_
      refine r_iload_n 78 rfl 1 rfl rfl (ck DX7_putBack_0 41 rfl) ?_
      refine r_aload_n 79 rfl 0 rfl rfl (ck DX7_putBack_0 42 rfl) ?_
      refine r_getr (q := 116) 82 rfl (lq_7_40) sh_96 kd_7_40 fl_X7_133 (ck DX7_putBack_0 43 rfl) ?_
      refine r_iload_n 83 rfl 1 rfl rfl (ck DX7_putBack_0 44 rfl) ?_
      obtain ⟨b27, hf⟩ := gd_so hf
      refine r_iald 84 rfl sh_116 (inb_vp b27) (ck DX7_putBack_0 45 rfl) ?_
      obtain ⟨b28, hf⟩ := gd_so hf
      obtain ⟨g29, e30, hf⟩ := lt_so hf
      refine r_iast 85 rfl sh_100 (inb_vp b28) (ck DX7_putBack_0 46 rfl) ?_
      refine r_heap e30 ?_
      refine r_aload_n 86 rfl 0 rfl rfl (ck DX7_putBack_0 47 rfl) ?_
      refine r_getr (q := 101) 89 rfl (lq_7_10) sh_96 kd_7_10 fl_X7_41 (ck DX7_putBack_0 48 rfl) ?_
      refine r_iload_n 90 rfl 1 rfl rfl (ck DX7_putBack_0 49 rfl) ?_
      refine r_aload_n 91 rfl 0 rfl rfl (ck DX7_putBack_1 0 rfl) ?_
      refine r_getr (q := 117) 94 rfl (lq_7_41) sh_96 kd_7_41 fl_X7_136 (ck DX7_putBack_1 1 rfl) ?_
      refine r_iload_n 95 rfl 1 rfl rfl (ck DX7_putBack_1 2 rfl) ?_
      obtain ⟨b31, hf⟩ := gd_so hf
      refine r_iald 96 rfl sh_117 (inb_vp b31) (ck DX7_putBack_1 3 rfl) ?_
      obtain ⟨b32, hf⟩ := gd_so hf
      obtain ⟨g33, e34, hf⟩ := lt_so hf
      refine r_iast 97 rfl sh_101 (inb_vp b32) (ck DX7_putBack_1 4 rfl) ?_
      refine r_heap e34 ?_
      obtain ⟨v35, e36, hf⟩ := lt_so hf
      refine r_iinc (lv' := [(1, .int v35), (0, .ref (X.1 96))]) 100 rfl 1 (ck DX7_putBack_1 5 rfl) rfl (by rw [e36, ic_1]) (by decide) rfl ?_
      refine r_goto 55 (ck DX7_putBack_1 6 rfl) (by decide) ?_
      refine r_sub (lv' := [(0, .ref (X.1 96)), (1, .int v35)]) [1, 0] rfl ?_
      exact ih v35 g33 hf
def f_X7_putBack (h : HP) : Option HP := lt (si h 96 31 99999) fun g1 => lt (si g1 96 32 9999) fun g3 => lt (si g3 96 1 (g3.1 96 34)) fun g5 => lt (si g5 96 2 (g5.1 96 35)) fun g7 => lt (si g7 96 3 (g7.1 96 36)) fun g9 => lt (si g9 96 4 (g9.1 96 37)) fun g11 => lt (si g11 96 5 (g11.1 96 38)) fun g13 => f_X7_putBack_L55 FZ 0 g13
set_option maxHeartbeats 4000000 in
set_option maxRecDepth 100000 in
theorem A_X7_putBack (X : XE) (h : HP) (h' : HP) (hf : f_X7_putBack h = some h') : CC mX7_putBack 1 X [.ref (X.1 96)] h none h' := by
  refine CC_of rfl (Nat.le_of_ble_eq_true rfl) ?_
  show Run mX7_putBack 1 X 0 [(0, .ref (X.1 96))] [] h none h'
  unfold f_X7_putBack at hf
  refine r_aload_n 1 rfl 0 rfl rfl (ck DX7_putBack_0 0 rfl) ?_
  refine r_ldc 3 rfl cn_X7_105 (ck DX7_putBack_0 1 rfl) ?_
  obtain ⟨g1, e2, hf⟩ := lt_so hf
  refine r_puti 6 rfl sh_96 kd_7_31 fw_X7_106 rfl rfl (ck DX7_putBack_0 2 rfl) ?_
  refine r_heap e2 ?_
  refine r_aload_n 7 rfl 0 rfl rfl (ck DX7_putBack_0 3 rfl) ?_
  refine r_sipush 10 rfl sp_9999 (ck DX7_putBack_0 4 rfl) ?_
  obtain ⟨g3, e4, hf⟩ := lt_so hf
  refine r_puti 13 rfl sh_96 kd_7_32 fw_X7_109 rfl rfl (ck DX7_putBack_0 5 rfl) ?_
  refine r_heap e4 ?_
  refine r_aload_n 14 rfl 0 rfl rfl (ck DX7_putBack_0 6 rfl) ?_
  refine r_aload_n 15 rfl 0 rfl rfl (ck DX7_putBack_0 7 rfl) ?_
  refine r_geti 18 rfl sh_96 kd_7_34 fl_X7_115 (ck DX7_putBack_0 8 rfl) ?_
  obtain ⟨g5, e6, hf⟩ := lt_so hf
  refine r_puti 21 rfl sh_96 kd_7_1 fw_X7_13 rfl rfl (ck DX7_putBack_0 9 rfl) ?_
  refine r_heap e6 ?_
  refine r_aload_n 22 rfl 0 rfl rfl (ck DX7_putBack_0 10 rfl) ?_
  refine r_aload_n 23 rfl 0 rfl rfl (ck DX7_putBack_0 11 rfl) ?_
  refine r_geti 26 rfl sh_96 kd_7_35 fl_X7_118 (ck DX7_putBack_0 12 rfl) ?_
  obtain ⟨g7, e8, hf⟩ := lt_so hf
  refine r_puti 29 rfl sh_96 kd_7_2 fw_X7_16 rfl rfl (ck DX7_putBack_0 13 rfl) ?_
  refine r_heap e8 ?_
  refine r_aload_n 30 rfl 0 rfl rfl (ck DX7_putBack_0 14 rfl) ?_
  refine r_aload_n 31 rfl 0 rfl rfl (ck DX7_putBack_0 15 rfl) ?_
  refine r_geti 34 rfl sh_96 kd_7_36 fl_X7_121 (ck DX7_putBack_0 16 rfl) ?_
  obtain ⟨g9, e10, hf⟩ := lt_so hf
  refine r_puti 37 rfl sh_96 kd_7_3 fw_X7_19 rfl rfl (ck DX7_putBack_0 17 rfl) ?_
  refine r_heap e10 ?_
  refine r_aload_n 38 rfl 0 rfl rfl (ck DX7_putBack_0 18 rfl) ?_
  refine r_aload_n 39 rfl 0 rfl rfl (ck DX7_putBack_0 19 rfl) ?_
  refine r_geti 42 rfl sh_96 kd_7_37 fl_X7_124 (ck DX7_putBack_0 20 rfl) ?_
  obtain ⟨g11, e12, hf⟩ := lt_so hf
  refine r_puti 45 rfl sh_96 kd_7_4 fw_X7_22 rfl rfl (ck DX7_putBack_0 21 rfl) ?_
  refine r_heap e12 ?_
  refine r_aload_n 46 rfl 0 rfl rfl (ck DX7_putBack_0 22 rfl) ?_
  refine r_aload_n 47 rfl 0 rfl rfl (ck DX7_putBack_0 23 rfl) ?_
  refine r_geti 50 rfl sh_96 kd_7_38 fl_X7_127 (ck DX7_putBack_0 24 rfl) ?_
  obtain ⟨g13, e14, hf⟩ := lt_so hf
  refine r_puti 53 rfl sh_96 kd_7_5 fw_X7_25 rfl rfl (ck DX7_putBack_0 25 rfl) ?_
  refine r_heap e14 ?_
  refine r_iconst 54 rfl ic_0 (ck DX7_putBack_0 26 rfl) ?_
  refine r_istore_n (lv' := [(1, .int 0), (0, .ref (X.1 96))]) 55 rfl (ck DX7_putBack_0 27 rfl) (by decide) rfl rfl ?_
  refine r_sub (lv' := [(0, .ref (X.1 96)), (1, .int 0)]) [1, 0] rfl ?_
  exact A_X7_putBack_L55 X _ FZ 0 g13 hf
-- X7_on
def f_X7_on_J46 (x1 : Int32) (x2 : Int32) (h : HP) : Option (Int32 × HP) := bo (f_X7_isDays x1) fun v10 => if v10 = 0 then (some ((-2), h)) else (bo (f_X7_save h) fun g13 => bo (f_X7_goDays x1 g13) fun g15 => if x2 = 0 then (lt (((g15.1 96 4) - (g15.1 96 37)) : Int32) fun v18 => bo (f_X7_putBack g15) fun g20 => some (v18, g20)) else (if x2 = 1 then (bo (f_X7_height g15) fun v23 => bo (f_X7_putBack g15) fun g25 => some (v23, g25)) else (if x2 = 2 then (lt ((g15.1 96 1) : Int32) fun v28 => bo (f_X7_putBack g15) fun g30 => some (v28, g30)) else (if (20 : Int32) ≤ x2 then (gd (inb (x2 - 20) 6) (lt ((g15.1 100 (Int32.toNatClampNeg (x2 - 20))) : Int32) fun v34 => bo (f_X7_putBack g15) fun g36 => some (v34, g36))) else (gd (inb (x2 - 10) 6) (lt ((g15.1 99 (Int32.toNatClampNeg (x2 - 10))) : Int32) fun v39 => bo (f_X7_putBack g15) fun g41 => some (v39, g41)))))))
set_option maxHeartbeats 4000000 in
set_option maxRecDepth 100000 in
theorem A_X7_on_J46 (X : XE) (r : Int32) (h' : HP) (x1 : Int32) (x2 : Int32) (h : HP) (hf : f_X7_on_J46 x1 x2 h = some (r, h')) : Run mX7_on 9 X 46 [(0, .ref (X.1 96)), (1, .int x1), (2, .int x2)] [] h (some (.int r)) h' := by
  unfold f_X7_on_J46 at hf
  refine r_aload_n 47 rfl 0 rfl rfl (ck DX7_on_0 26 rfl) ?_
  refine r_iload_n 48 rfl 1 rfl rfl (ck DX7_on_0 27 rfl) ?_
  obtain ⟨v10, e11, hf⟩ := bo_so hf
  refine r_callVi 51 rfl (A_X7_isDays X x1 h v10 e11) (by omega) cw_X7_395 sh_96 cl_7 rfl rfl (Nat.le_of_ble_eq_true rfl) (ck DX7_on_0 28 rfl) ?_
  rcases if_so hf with ⟨c12, hf⟩ | ⟨c12, hf⟩
  · refine r_if_ne_t 54 rfl 57 (ck DX7_on_0 29 rfl) (by decide) c12 ?_
    refine r_bipush 56 rfl bp_m2 (ck DX7_on_0 30 rfl) ?_
    obtain ⟨rfl, rfl⟩ := so2 hf
    exact r_iret rfl rfl (ck DX7_on_0 31 rfl)
  · refine r_if_ne_f 57 (ck DX7_on_0 29 rfl) (by decide) c12 ?_
    refine r_aload_n 58 rfl 0 rfl rfl (ck DX7_on_0 32 rfl) ?_
    obtain ⟨g13, e14, hf⟩ := bo_so hf
    refine r_callVv 61 rfl (A_X7_save X h g13 e14) (by omega) cw_X7_402 sh_96 cl_7 rfl rfl (Nat.le_of_ble_eq_true rfl) (ck DX7_on_0 33 rfl) ?_
    refine r_aload_n 62 rfl 0 rfl rfl (ck DX7_on_0 34 rfl) ?_
    refine r_iload_n 63 rfl 1 rfl rfl (ck DX7_on_0 35 rfl) ?_
    obtain ⟨g15, e16, hf⟩ := bo_so hf
    refine r_callVv 66 rfl (A_X7_goDays X x1 g13 g15 e16) (by omega) cw_X7_398 sh_96 cl_7 rfl rfl (Nat.le_of_ble_eq_true rfl) (ck DX7_on_0 36 rfl) ?_
    refine r_iload_n 67 rfl 2 rfl rfl (ck DX7_on_0 37 rfl) ?_
    rcases if_so hf with ⟨c17, hf⟩ | ⟨c17, hf⟩
    · refine r_if_ne_t 70 rfl 82 (ck DX7_on_0 38 rfl) (by decide) c17 ?_
      refine r_aload_n 71 rfl 0 rfl rfl (ck DX7_on_0 39 rfl) ?_
      refine r_geti 74 rfl sh_96 kd_7_4 fl_X7_22 (ck DX7_on_0 40 rfl) ?_
      refine r_aload_n 75 rfl 0 rfl rfl (ck DX7_on_0 41 rfl) ?_
      refine r_geti 78 rfl sh_96 kd_7_37 fl_X7_124 (ck DX7_on_0 42 rfl) ?_
      refine r_isub 79 rfl (ck DX7_on_0 43 rfl) ?_
      refine r_goto 133 (ck DX7_on_0 44 rfl) (by decide) ?_
      obtain ⟨v18, e19, hf⟩ := lt_so hf
      refine r_top e19 ?_
      refine r_istore_n (lv' := [(3, .int v18), (0, .ref (X.1 96)), (1, .int x1), (2, .int x2)]) 134 rfl (ck DX7_on_1 23 rfl) (by decide) rfl rfl ?_
      refine r_aload_n 135 rfl 1 rfl rfl (ck DX7_on_1 24 rfl) ?_
      obtain ⟨g20, e21, hf⟩ := bo_so hf
      refine r_callVv 138 rfl (A_X7_putBack X g15 g20 e21) (by omega) cw_X7_405 sh_96 cl_7 rfl rfl (Nat.le_of_ble_eq_true rfl) (ck DX7_on_1 25 rfl) ?_
      refine r_iload_n 139 rfl 0 rfl rfl (ck DX7_on_1 26 rfl) ?_
      obtain ⟨rfl, rfl⟩ := so2 hf
      exact r_iret rfl rfl (ck DX7_on_1 27 rfl)
    · refine r_if_ne_f 82 (ck DX7_on_0 38 rfl) (by decide) c17 ?_
      refine r_iload_n 83 rfl 2 rfl rfl (ck DX7_on_0 45 rfl) ?_
      refine r_iconst 84 rfl ic_1 (ck DX7_on_0 46 rfl) ?_
      rcases if_so hf with ⟨c22, hf⟩ | ⟨c22, hf⟩
      · refine r_icmp_ne_t 87 rfl 94 (ck DX7_on_0 47 rfl) (by decide) c22 ?_
        refine r_aload_n 88 rfl 0 rfl rfl (ck DX7_on_0 48 rfl) ?_
        obtain ⟨v23, e24, hf⟩ := bo_so hf
        refine r_callVi 91 rfl (A_X7_height X g15 v23 e24) (by omega) cw_X7_371 sh_96 cl_7 rfl rfl (Nat.le_of_ble_eq_true rfl) (ck DX7_on_0 49 rfl) ?_
        refine r_goto 133 (ck DX7_on_1 0 rfl) (by decide) ?_
        refine r_istore_n (lv' := [(3, .int v23), (0, .ref (X.1 96)), (1, .int x1), (2, .int x2)]) 134 rfl (ck DX7_on_1 23 rfl) (by decide) rfl rfl ?_
        refine r_aload_n 135 rfl 1 rfl rfl (ck DX7_on_1 24 rfl) ?_
        obtain ⟨g25, e26, hf⟩ := bo_so hf
        refine r_callVv 138 rfl (A_X7_putBack X g15 g25 e26) (by omega) cw_X7_405 sh_96 cl_7 rfl rfl (Nat.le_of_ble_eq_true rfl) (ck DX7_on_1 25 rfl) ?_
        refine r_iload_n 139 rfl 0 rfl rfl (ck DX7_on_1 26 rfl) ?_
        obtain ⟨rfl, rfl⟩ := so2 hf
        exact r_iret rfl rfl (ck DX7_on_1 27 rfl)
      · refine r_icmp_ne_f 94 (ck DX7_on_0 47 rfl) (by decide) c22 ?_
        refine r_iload_n 95 rfl 2 rfl rfl (ck DX7_on_1 1 rfl) ?_
        refine r_iconst 96 rfl ic_2 (ck DX7_on_1 2 rfl) ?_
        rcases if_so hf with ⟨c27, hf⟩ | ⟨c27, hf⟩
        · refine r_icmp_ne_t 99 rfl 106 (ck DX7_on_1 3 rfl) (by decide) c27 ?_
          refine r_aload_n 100 rfl 0 rfl rfl (ck DX7_on_1 4 rfl) ?_
          refine r_geti 103 rfl sh_96 kd_7_1 fl_X7_13 (ck DX7_on_1 5 rfl) ?_
          refine r_goto 133 (ck DX7_on_1 6 rfl) (by decide) ?_
          obtain ⟨v28, e29, hf⟩ := lt_so hf
          refine r_top e29 ?_
          refine r_istore_n (lv' := [(3, .int v28), (0, .ref (X.1 96)), (1, .int x1), (2, .int x2)]) 134 rfl (ck DX7_on_1 23 rfl) (by decide) rfl rfl ?_
          refine r_aload_n 135 rfl 1 rfl rfl (ck DX7_on_1 24 rfl) ?_
          obtain ⟨g30, e31, hf⟩ := bo_so hf
          refine r_callVv 138 rfl (A_X7_putBack X g15 g30 e31) (by omega) cw_X7_405 sh_96 cl_7 rfl rfl (Nat.le_of_ble_eq_true rfl) (ck DX7_on_1 25 rfl) ?_
          refine r_iload_n 139 rfl 0 rfl rfl (ck DX7_on_1 26 rfl) ?_
          obtain ⟨rfl, rfl⟩ := so2 hf
          exact r_iret rfl rfl (ck DX7_on_1 27 rfl)
        · refine r_icmp_ne_f 106 (ck DX7_on_1 3 rfl) (by decide) c27 ?_
          refine r_iload_n 107 rfl 2 rfl rfl (ck DX7_on_1 7 rfl) ?_
          refine r_bipush 109 rfl bp_20 (ck DX7_on_1 8 rfl) ?_
          rcases if_so hf with ⟨c32, hf⟩ | ⟨c32, hf⟩
          · refine r_icmp_ge_t 124 (ck DX7_on_1 9 rfl) (by decide) c32 ?_
            refine r_aload_n 125 rfl 0 rfl rfl (ck DX7_on_1 17 rfl) ?_
            refine r_getr (q := 100) 128 rfl (lq_7_9) sh_96 kd_7_9 fl_X7_38 (ck DX7_on_1 18 rfl) ?_
            refine r_iload_n 129 rfl 2 rfl rfl (ck DX7_on_1 19 rfl) ?_
            refine r_bipush 131 rfl bp_20 (ck DX7_on_1 20 rfl) ?_
            refine r_isub 132 rfl (ck DX7_on_1 21 rfl) ?_
            obtain ⟨b33, hf⟩ := gd_so hf
            refine r_iald 133 rfl sh_100 (inb_vp b33) (ck DX7_on_1 22 rfl) ?_
            obtain ⟨v34, e35, hf⟩ := lt_so hf
            refine r_top e35 ?_
            refine r_istore_n (lv' := [(3, .int v34), (0, .ref (X.1 96)), (1, .int x1), (2, .int x2)]) 134 rfl (ck DX7_on_1 23 rfl) (by decide) rfl rfl ?_
            refine r_aload_n 135 rfl 1 rfl rfl (ck DX7_on_1 24 rfl) ?_
            obtain ⟨g36, e37, hf⟩ := bo_so hf
            refine r_callVv 138 rfl (A_X7_putBack X g15 g36 e37) (by omega) cw_X7_405 sh_96 cl_7 rfl rfl (Nat.le_of_ble_eq_true rfl) (ck DX7_on_1 25 rfl) ?_
            refine r_iload_n 139 rfl 0 rfl rfl (ck DX7_on_1 26 rfl) ?_
            obtain ⟨rfl, rfl⟩ := so2 hf
            exact r_iret rfl rfl (ck DX7_on_1 27 rfl)
          · refine r_icmp_ge_f 112 rfl 124 (ck DX7_on_1 9 rfl) (by decide) c32 ?_
            refine r_aload_n 113 rfl 0 rfl rfl (ck DX7_on_1 10 rfl) ?_
            refine r_getr (q := 99) 116 rfl (lq_7_8) sh_96 kd_7_8 fl_X7_35 (ck DX7_on_1 11 rfl) ?_
            refine r_iload_n 117 rfl 2 rfl rfl (ck DX7_on_1 12 rfl) ?_
            refine r_bipush 119 rfl bp_10 (ck DX7_on_1 13 rfl) ?_
            refine r_isub 120 rfl (ck DX7_on_1 14 rfl) ?_
            obtain ⟨b38, hf⟩ := gd_so hf
            refine r_iald 121 rfl sh_99 (inb_vp b38) (ck DX7_on_1 15 rfl) ?_
            refine r_goto 133 (ck DX7_on_1 16 rfl) (by decide) ?_
            obtain ⟨v39, e40, hf⟩ := lt_so hf
            refine r_top e40 ?_
            refine r_istore_n (lv' := [(3, .int v39), (0, .ref (X.1 96)), (1, .int x1), (2, .int x2)]) 134 rfl (ck DX7_on_1 23 rfl) (by decide) rfl rfl ?_
            refine r_aload_n 135 rfl 1 rfl rfl (ck DX7_on_1 24 rfl) ?_
            obtain ⟨g41, e42, hf⟩ := bo_so hf
            refine r_callVv 138 rfl (A_X7_putBack X g15 g41 e42) (by omega) cw_X7_405 sh_96 cl_7 rfl rfl (Nat.le_of_ble_eq_true rfl) (ck DX7_on_1 25 rfl) ?_
            refine r_iload_n 139 rfl 0 rfl rfl (ck DX7_on_1 26 rfl) ?_
            obtain ⟨rfl, rfl⟩ := so2 hf
            exact r_iret rfl rfl (ck DX7_on_1 27 rfl)
def f_X7_on (x1 : Int32) (x2 : Int32) (h : HP) : Option (Int32 × HP) := bo (f_X7_in x2 0 2) fun v1 => if v1 = 0 then (bo (f_X7_in x2 10 (9 + (h.1 96 0))) fun v4 => if v4 = 0 then (bo (f_X7_in x2 20 (19 + (h.1 96 0))) fun v7 => if v7 = 0 then (some ((-1), h)) else (f_X7_on_J46 x1 x2 h)) else (f_X7_on_J46 x1 x2 h)) else (f_X7_on_J46 x1 x2 h)
set_option maxHeartbeats 4000000 in
set_option maxRecDepth 100000 in
theorem A_X7_on (X : XE) (x1 : Int32) (x2 : Int32) (h : HP) (r : Int32) (h' : HP) (hf : f_X7_on x1 x2 h = some (r, h')) : CC mX7_on 9 X [.ref (X.1 96), .int x1, .int x2] h (some (.int r)) h' := by
  refine CC_of rfl (Nat.le_of_ble_eq_true rfl) ?_
  show Run mX7_on 9 X 0 [(0, .ref (X.1 96)), (1, .int x1), (2, .int x2)] [] h (some (.int r)) h'
  unfold f_X7_on at hf
  refine r_aload_n 1 rfl 0 rfl rfl (ck DX7_on_0 0 rfl) ?_
  refine r_iload_n 2 rfl 2 rfl rfl (ck DX7_on_0 1 rfl) ?_
  refine r_iconst 3 rfl ic_0 (ck DX7_on_0 2 rfl) ?_
  refine r_iconst 4 rfl ic_2 (ck DX7_on_0 3 rfl) ?_
  obtain ⟨v1, e2, hf⟩ := bo_so hf
  refine r_callVi 7 rfl (A_X7_in X x2 0 2 h v1 e2) (by omega) cw_X7_276 sh_96 cl_7 rfl rfl (Nat.le_of_ble_eq_true rfl) (ck DX7_on_0 4 rfl) ?_
  rcases if_so hf with ⟨c3, hf⟩ | ⟨c3, hf⟩
  · refine r_if_ne_t 10 rfl 46 (ck DX7_on_0 5 rfl) (by decide) c3 ?_
    refine r_aload_n 11 rfl 0 rfl rfl (ck DX7_on_0 6 rfl) ?_
    refine r_iload_n 12 rfl 2 rfl rfl (ck DX7_on_0 7 rfl) ?_
    refine r_bipush 14 rfl bp_10 (ck DX7_on_0 8 rfl) ?_
    refine r_bipush 16 rfl bp_9 (ck DX7_on_0 9 rfl) ?_
    refine r_aload_n 17 rfl 0 rfl rfl (ck DX7_on_0 10 rfl) ?_
    refine r_geti 20 rfl sh_96 kd_7_0 fl_X7_7 (ck DX7_on_0 11 rfl) ?_
    refine r_iadd 21 rfl (ck DX7_on_0 12 rfl) ?_
    obtain ⟨v4, e5, hf⟩ := bo_so hf
    refine r_callVi 24 rfl (A_X7_in X x2 10 (9 + (h.1 96 0)) h v4 e5) (by omega) cw_X7_276 sh_96 cl_7 rfl rfl (Nat.le_of_ble_eq_true rfl) (ck DX7_on_0 13 rfl) ?_
    rcases if_so hf with ⟨c6, hf⟩ | ⟨c6, hf⟩
    · refine r_if_ne_t 27 rfl 46 (ck DX7_on_0 14 rfl) (by decide) c6 ?_
      refine r_aload_n 28 rfl 0 rfl rfl (ck DX7_on_0 15 rfl) ?_
      refine r_iload_n 29 rfl 2 rfl rfl (ck DX7_on_0 16 rfl) ?_
      refine r_bipush 31 rfl bp_20 (ck DX7_on_0 17 rfl) ?_
      refine r_bipush 33 rfl bp_19 (ck DX7_on_0 18 rfl) ?_
      refine r_aload_n 34 rfl 0 rfl rfl (ck DX7_on_0 19 rfl) ?_
      refine r_geti 37 rfl sh_96 kd_7_0 fl_X7_7 (ck DX7_on_0 20 rfl) ?_
      refine r_iadd 38 rfl (ck DX7_on_0 21 rfl) ?_
      obtain ⟨v7, e8, hf⟩ := bo_so hf
      refine r_callVi 41 rfl (A_X7_in X x2 20 (19 + (h.1 96 0)) h v7 e8) (by omega) cw_X7_276 sh_96 cl_7 rfl rfl (Nat.le_of_ble_eq_true rfl) (ck DX7_on_0 22 rfl) ?_
      rcases if_so hf with ⟨c9, hf⟩ | ⟨c9, hf⟩
      · refine r_if_ne_t 44 rfl 46 (ck DX7_on_0 23 rfl) (by decide) c9 ?_
        refine r_iconst 45 rfl ic_m1 (ck DX7_on_0 24 rfl) ?_
        obtain ⟨rfl, rfl⟩ := so2 hf
        exact r_iret rfl rfl (ck DX7_on_0 25 rfl)
      · refine r_if_ne_f 46 (ck DX7_on_0 23 rfl) (by decide) c9 ?_
        refine r_sub (lv' := [(0, .ref (X.1 96)), (1, .int x1), (2, .int x2)]) [0, 1, 2] rfl ?_
        exact A_X7_on_J46 X _ _ x1 x2 h hf
    · refine r_if_ne_f 46 (ck DX7_on_0 14 rfl) (by decide) c6 ?_
      refine r_sub (lv' := [(0, .ref (X.1 96)), (1, .int x1), (2, .int x2)]) [0, 1, 2] rfl ?_
      exact A_X7_on_J46 X _ _ x1 x2 h hf
  · refine r_if_ne_f 46 (ck DX7_on_0 5 rfl) (by decide) c3 ?_
    refine r_sub (lv' := [(0, .ref (X.1 96)), (1, .int x1), (2, .int x2)]) [0, 1, 2] rfl ?_
    exact A_X7_on_J46 X _ _ x1 x2 h hf
-- X7_firstThen
def f_X7_firstThen_L11 : Nat → Int32 → Int32 → Int32 → HP → Option (Int32 × HP)
  | 0, _, _, _, _ => none
  | n + 1, x1, x2, x3, h => if x1 ≤ x3 then (bo (f_X7_putBack h) fun g4 => some (x2, g4)) else (if (0 : Int32) ≤ x2 then (bo (f_X7_putBack h) fun g7 => some (x2, g7)) else (bd (f_X7_goDay h) fun v11 g9 => if (0 : Int32) ≤ v11 then (lt (si g9 96 43 v11) fun g13 => lt (x3 + 1 : Int32) fun v15 => f_X7_firstThen_L11 n x1 x3 v15 g13) else (lt (x3 + 1 : Int32) fun v17 => f_X7_firstThen_L11 n x1 x2 v17 g9)))
set_option maxHeartbeats 4000000 in
set_option maxRecDepth 100000 in
theorem A_X7_firstThen_L11 (X : XE) (r : Int32) (h' : HP) : ∀ (n : Nat) (x1 : Int32) (x2 : Int32) (x3 : Int32) (h : HP), f_X7_firstThen_L11 n x1 x2 x3 h = some (r, h') → Run mX7_firstThen 8 X 11 [(0, .ref (X.1 96)), (1, .int x1), (2, .int x2), (3, .int x3)] [] h (some (.int r)) h' := by
  intro n
  induction n with
  | zero => intro x1 x2 x3 h hf; cases hf
  | succ n ih =>
    intro x1 x2 x3 h hf
    rw [f_X7_firstThen_L11] at hf
    refine r_iload_n 12 rfl 3 rfl rfl (ck DX7_firstThen_0 7 rfl) ?_
    refine r_iload_n 13 rfl 1 rfl rfl (ck DX7_firstThen_0 8 rfl) ?_
    rcases if_so hf with ⟨c3, hf⟩ | ⟨c3, hf⟩
    · refine r_icmp_ge_t 48 (ck DX7_firstThen_0 9 rfl) (by decide) c3 ?_
      refine r_aload_n 49 rfl 0 rfl rfl (ck DX7_firstThen_0 25 rfl) ?_
      obtain ⟨g4, e5, hf⟩ := bo_so hf
      refine r_callVv 52 rfl (A_X7_putBack X h g4 e5) (by omega) cw_X7_405 sh_96 cl_7 rfl rfl (Nat.le_of_ble_eq_true rfl) (ck DX7_firstThen_0 26 rfl) ?_
      refine r_iload_n 53 rfl 2 rfl rfl (ck DX7_firstThen_0 27 rfl) ?_
      obtain ⟨rfl, rfl⟩ := so2 hf
      exact r_iret rfl rfl (ck DX7_firstThen_0 28 rfl)
    · refine r_icmp_ge_f 16 rfl 48 (ck DX7_firstThen_0 9 rfl) (by decide) c3 ?_
      refine r_iload_n 17 rfl 2 rfl rfl (ck DX7_firstThen_0 10 rfl) ?_
      rcases if_so hf with ⟨c6, hf⟩ | ⟨c6, hf⟩
      · refine r_if_ge_t 48 (ck DX7_firstThen_0 11 rfl) (by decide) c6 ?_
        refine r_aload_n 49 rfl 0 rfl rfl (ck DX7_firstThen_0 25 rfl) ?_
        obtain ⟨g7, e8, hf⟩ := bo_so hf
        refine r_callVv 52 rfl (A_X7_putBack X h g7 e8) (by omega) cw_X7_405 sh_96 cl_7 rfl rfl (Nat.le_of_ble_eq_true rfl) (ck DX7_firstThen_0 26 rfl) ?_
        refine r_iload_n 53 rfl 2 rfl rfl (ck DX7_firstThen_0 27 rfl) ?_
        obtain ⟨rfl, rfl⟩ := so2 hf
        exact r_iret rfl rfl (ck DX7_firstThen_0 28 rfl)
      · refine r_if_ge_f 20 rfl 48 (ck DX7_firstThen_0 11 rfl) (by decide) c6 ?_
        refine r_aload_n 21 rfl 0 rfl rfl (ck DX7_firstThen_0 12 rfl) ?_
        obtain ⟨v11, g9, e10, hf⟩ := bd_so hf
        refine r_callVi 24 rfl (A_X7_goDay X h v11 g9 e10) (by omega) cw_X7_392 sh_96 cl_7 rfl rfl (Nat.le_of_ble_eq_true rfl) (ck DX7_firstThen_0 13 rfl) ?_
        refine r_istore (lv' := [(4, .int v11), (0, .ref (X.1 96)), (1, .int x1), (2, .int x2), (3, .int x3)]) 26 rfl (ck DX7_firstThen_0 14 rfl) (by decide) rfl ?_
        refine r_iload 28 rfl 0 rfl (ck DX7_firstThen_0 15 rfl) ?_
        rcases if_so hf with ⟨c12, hf⟩ | ⟨c12, hf⟩
        · refine r_if_ge_t 34 (ck DX7_firstThen_0 16 rfl) (by decide) c12 ?_
          refine r_iload_n 35 rfl 4 rfl rfl (ck DX7_firstThen_0 18 rfl) ?_
          refine r_istore_n (lv' := [(2, .int x3), (4, .int v11), (0, .ref (X.1 96)), (1, .int x1), (3, .int x3)]) 36 rfl (ck DX7_firstThen_0 19 rfl) (by decide) rfl rfl ?_
          refine r_aload_n 37 rfl 2 rfl rfl (ck DX7_firstThen_0 20 rfl) ?_
          refine r_iload 39 rfl 1 rfl (ck DX7_firstThen_0 21 rfl) ?_
          obtain ⟨g13, e14, hf⟩ := lt_so hf
          refine r_puti 42 rfl sh_96 kd_7_43 fw_X7_142 rfl rfl (ck DX7_firstThen_0 22 rfl) ?_
          refine r_heap e14 ?_
          obtain ⟨v15, e16, hf⟩ := lt_so hf
          refine r_iinc (lv' := [(3, .int v15), (2, .int x3), (4, .int v11), (0, .ref (X.1 96)), (1, .int x1)]) 45 rfl 4 (ck DX7_firstThen_0 23 rfl) rfl (by rw [e16, ic_1]) (by decide) rfl ?_
          refine r_goto 11 (ck DX7_firstThen_0 24 rfl) (by decide) ?_
          refine r_sub (lv' := [(0, .ref (X.1 96)), (1, .int x1), (2, .int x3), (3, .int v15)]) [3, 4, 1, 0] rfl ?_
          exact ih x1 x3 v15 g13 hf
        · refine r_if_ge_f 31 rfl 34 (ck DX7_firstThen_0 16 rfl) (by decide) c12 ?_
          refine r_goto 42 (ck DX7_firstThen_0 17 rfl) (by decide) ?_
          obtain ⟨v17, e18, hf⟩ := lt_so hf
          refine r_iinc (lv' := [(3, .int v17), (4, .int v11), (0, .ref (X.1 96)), (1, .int x1), (2, .int x2)]) 45 rfl 4 (ck DX7_firstThen_0 23 rfl) rfl (by rw [e18, ic_1]) (by decide) rfl ?_
          refine r_goto 11 (ck DX7_firstThen_0 24 rfl) (by decide) ?_
          refine r_sub (lv' := [(0, .ref (X.1 96)), (1, .int x1), (2, .int x2), (3, .int v17)]) [2, 3, 4, 0] rfl ?_
          exact ih x1 x2 v17 g9 hf
def f_X7_firstThen (x1 : Int32) (h : HP) : Option (Int32 × HP) := lt (si h 96 43 (-5)) fun g1 => f_X7_firstThen_L11 FZ x1 (-5) 0 g1
set_option maxHeartbeats 4000000 in
set_option maxRecDepth 100000 in
theorem A_X7_firstThen (X : XE) (x1 : Int32) (h : HP) (r : Int32) (h' : HP) (hf : f_X7_firstThen x1 h = some (r, h')) : CC mX7_firstThen 8 X [.ref (X.1 96), .int x1] h (some (.int r)) h' := by
  refine CC_of rfl (Nat.le_of_ble_eq_true rfl) ?_
  show Run mX7_firstThen 8 X 0 [(0, .ref (X.1 96)), (1, .int x1)] [] h (some (.int r)) h'
  unfold f_X7_firstThen at hf
  refine r_bipush 2 rfl bp_m5 (ck DX7_firstThen_0 0 rfl) ?_
  refine r_istore_n (lv' := [(2, .int (-5)), (0, .ref (X.1 96)), (1, .int x1)]) 3 rfl (ck DX7_firstThen_0 1 rfl) (by decide) rfl rfl ?_
  refine r_aload_n 4 rfl 1 rfl rfl (ck DX7_firstThen_0 2 rfl) ?_
  refine r_bipush 6 rfl bp_m5 (ck DX7_firstThen_0 3 rfl) ?_
  obtain ⟨g1, e2, hf⟩ := lt_so hf
  refine r_puti 9 rfl sh_96 kd_7_43 fw_X7_142 rfl rfl (ck DX7_firstThen_0 4 rfl) ?_
  refine r_heap e2 ?_
  refine r_iconst 10 rfl ic_0 (ck DX7_firstThen_0 5 rfl) ?_
  refine r_istore_n (lv' := [(3, .int 0), (2, .int (-5)), (0, .ref (X.1 96)), (1, .int x1)]) 11 rfl (ck DX7_firstThen_0 6 rfl) (by decide) rfl rfl ?_
  refine r_sub (lv' := [(0, .ref (X.1 96)), (1, .int x1), (2, .int (-5)), (3, .int 0)]) [2, 3, 1, 0] rfl ?_
  exact A_X7_firstThen_L11 X _ _ FZ x1 (-5) 0 g1 hf
-- X7_first
def f_X7_first (x1 : Int32) (h : HP) : Option (Int32 × HP) := bo (f_X7_in x1 0 1) fun v1 => if v1 = 0 then (some ((-1), h)) else (bo (f_X7_save h) fun g4 => bd (f_X7_firstThen 61 g4) fun v8 g6 => if x1 = 0 then (some (v8, g6)) else (some ((g6.1 96 43), g6)))
set_option maxHeartbeats 4000000 in
set_option maxRecDepth 100000 in
theorem A_X7_first (X : XE) (x1 : Int32) (h : HP) (r : Int32) (h' : HP) (hf : f_X7_first x1 h = some (r, h')) : CC mX7_first 9 X [.ref (X.1 96), .int x1] h (some (.int r)) h' := by
  refine CC_of rfl (Nat.le_of_ble_eq_true rfl) ?_
  show Run mX7_first 9 X 0 [(0, .ref (X.1 96)), (1, .int x1)] [] h (some (.int r)) h'
  unfold f_X7_first at hf
  refine r_aload_n 1 rfl 0 rfl rfl (ck DX7_first_0 0 rfl) ?_
  refine r_iload_n 2 rfl 1 rfl rfl (ck DX7_first_0 1 rfl) ?_
  refine r_iconst 3 rfl ic_0 (ck DX7_first_0 2 rfl) ?_
  refine r_iconst 4 rfl ic_1 (ck DX7_first_0 3 rfl) ?_
  obtain ⟨v1, e2, hf⟩ := bo_so hf
  refine r_callVi 7 rfl (A_X7_in X x1 0 1 h v1 e2) (by omega) cw_X7_276 sh_96 cl_7 rfl rfl (Nat.le_of_ble_eq_true rfl) (ck DX7_first_0 4 rfl) ?_
  rcases if_so hf with ⟨c3, hf⟩ | ⟨c3, hf⟩
  · refine r_if_ne_t 10 rfl 12 (ck DX7_first_0 5 rfl) (by decide) c3 ?_
    refine r_iconst 11 rfl ic_m1 (ck DX7_first_0 6 rfl) ?_
    obtain ⟨rfl, rfl⟩ := so2 hf
    exact r_iret rfl rfl (ck DX7_first_0 7 rfl)
  · refine r_if_ne_f 12 (ck DX7_first_0 5 rfl) (by decide) c3 ?_
    refine r_aload_n 13 rfl 0 rfl rfl (ck DX7_first_0 8 rfl) ?_
    obtain ⟨g4, e5, hf⟩ := bo_so hf
    refine r_callVv 16 rfl (A_X7_save X h g4 e5) (by omega) cw_X7_402 sh_96 cl_7 rfl rfl (Nat.le_of_ble_eq_true rfl) (ck DX7_first_0 9 rfl) ?_
    refine r_aload_n 17 rfl 0 rfl rfl (ck DX7_first_0 10 rfl) ?_
    refine r_bipush 19 rfl bp_61 (ck DX7_first_0 11 rfl) ?_
    obtain ⟨v8, g6, e7, hf⟩ := bd_so hf
    refine r_callVi 22 rfl (A_X7_firstThen X 61 g4 v8 g6 e7) (by omega) cw_X7_408 sh_96 cl_7 rfl rfl (Nat.le_of_ble_eq_true rfl) (ck DX7_first_0 12 rfl) ?_
    refine r_istore_n (lv' := [(2, .int v8), (0, .ref (X.1 96)), (1, .int x1)]) 23 rfl (ck DX7_first_0 13 rfl) (by decide) rfl rfl ?_
    refine r_iload_n 24 rfl 2 rfl rfl (ck DX7_first_0 14 rfl) ?_
    rcases if_so hf with ⟨c9, hf⟩ | ⟨c9, hf⟩
    · refine r_if_ne_t 27 rfl 31 (ck DX7_first_0 15 rfl) (by decide) c9 ?_
      refine r_iload_n 28 rfl 0 rfl rfl (ck DX7_first_0 16 rfl) ?_
      refine r_goto 35 (ck DX7_first_0 17 rfl) (by decide) ?_
      obtain ⟨rfl, rfl⟩ := so2 hf
      exact r_iret rfl rfl (ck DX7_first_0 20 rfl)
    · refine r_if_ne_f 31 (ck DX7_first_0 15 rfl) (by decide) c9 ?_
      refine r_aload_n 32 rfl 1 rfl rfl (ck DX7_first_0 18 rfl) ?_
      refine r_geti 35 rfl sh_96 kd_7_43 fl_X7_142 (ck DX7_first_0 19 rfl) ?_
      obtain ⟨rfl, rfl⟩ := so2 hf
      exact r_iret rfl rfl (ck DX7_first_0 20 rfl)
-- X7_port
def f_X7_port_L21 : Nat → Int32 → Int32 → HP → Option (Int32 × HP)
  | 0, _, _, _ => none
  | n + 1, x1, x2, h => if (100 : Int32) ≤ x2 then (bo (f_X7_putBack h) fun g7 => if (100 : Int32) ≤ x2 then (some ((-5), g7)) else (some (x2, g7))) else (if x1 ≤ ((h.1 96 4) - (h.1 96 37)) then (bo (f_X7_putBack h) fun g11 => if (100 : Int32) ≤ x2 then (some ((-5), g11)) else (some (x2, g11))) else (bd (f_X7_goDay h) fun v16 g14 => lt (x2 + 1 : Int32) fun v17 => f_X7_port_L21 n x1 v17 g14))
set_option maxHeartbeats 4000000 in
set_option maxRecDepth 100000 in
theorem A_X7_port_L21 (X : XE) (r : Int32) (h' : HP) : ∀ (n : Nat) (x1 : Int32) (x2 : Int32) (h : HP), f_X7_port_L21 n x1 x2 h = some (r, h') → Run mX7_port 8 X 21 [(0, .ref (X.1 96)), (1, .int x1), (2, .int x2)] [] h (some (.int r)) h' := by
  intro n
  induction n with
  | zero => intro x1 x2 h hf; cases hf
  | succ n ih =>
    intro x1 x2 h hf
    rw [f_X7_port_L21] at hf
    refine r_iload_n 22 rfl 2 rfl rfl (ck DX7_port_0 12 rfl) ?_
    refine r_bipush 24 rfl bp_100 (ck DX7_port_0 13 rfl) ?_
    rcases if_so hf with ⟨c6, hf⟩ | ⟨c6, hf⟩
    · refine r_icmp_ge_t 51 (ck DX7_port_0 14 rfl) (by decide) c6 ?_
      refine r_aload_n 52 rfl 0 rfl rfl (ck DX7_port_0 27 rfl) ?_
      obtain ⟨g7, e8, hf⟩ := bo_so hf
      refine r_callVv 55 rfl (A_X7_putBack X h g7 e8) (by omega) cw_X7_405 sh_96 cl_7 rfl rfl (Nat.le_of_ble_eq_true rfl) (ck DX7_port_0 28 rfl) ?_
      refine r_iload_n 56 rfl 2 rfl rfl (ck DX7_port_0 29 rfl) ?_
      refine r_bipush 58 rfl bp_100 (ck DX7_port_0 30 rfl) ?_
      rcases if_so hf with ⟨c9, hf⟩ | ⟨c9, hf⟩
      · refine r_icmp_ge_t 65 (ck DX7_port_0 31 rfl) (by decide) c9 ?_
        refine r_bipush 67 rfl bp_m5 (ck DX7_port_0 34 rfl) ?_
        obtain ⟨rfl, rfl⟩ := so2 hf
        exact r_iret rfl rfl (ck DX7_port_0 35 rfl)
      · refine r_icmp_ge_f 61 rfl 65 (ck DX7_port_0 31 rfl) (by decide) c9 ?_
        refine r_iload_n 62 rfl 2 rfl rfl (ck DX7_port_0 32 rfl) ?_
        refine r_goto 67 (ck DX7_port_0 33 rfl) (by decide) ?_
        obtain ⟨rfl, rfl⟩ := so2 hf
        exact r_iret rfl rfl (ck DX7_port_0 35 rfl)
    · refine r_icmp_ge_f 27 rfl 51 (ck DX7_port_0 14 rfl) (by decide) c6 ?_
      refine r_aload_n 28 rfl 0 rfl rfl (ck DX7_port_0 15 rfl) ?_
      refine r_geti 31 rfl sh_96 kd_7_4 fl_X7_22 (ck DX7_port_0 16 rfl) ?_
      refine r_aload_n 32 rfl 0 rfl rfl (ck DX7_port_0 17 rfl) ?_
      refine r_geti 35 rfl sh_96 kd_7_37 fl_X7_124 (ck DX7_port_0 18 rfl) ?_
      refine r_isub 36 rfl (ck DX7_port_0 19 rfl) ?_
      refine r_iload_n 37 rfl 1 rfl rfl (ck DX7_port_0 20 rfl) ?_
      rcases if_so hf with ⟨c10, hf⟩ | ⟨c10, hf⟩
      · refine r_icmp_ge_t 51 (ck DX7_port_0 21 rfl) (by decide) c10 ?_
        refine r_aload_n 52 rfl 0 rfl rfl (ck DX7_port_0 27 rfl) ?_
        obtain ⟨g11, e12, hf⟩ := bo_so hf
        refine r_callVv 55 rfl (A_X7_putBack X h g11 e12) (by omega) cw_X7_405 sh_96 cl_7 rfl rfl (Nat.le_of_ble_eq_true rfl) (ck DX7_port_0 28 rfl) ?_
        refine r_iload_n 56 rfl 2 rfl rfl (ck DX7_port_0 29 rfl) ?_
        refine r_bipush 58 rfl bp_100 (ck DX7_port_0 30 rfl) ?_
        rcases if_so hf with ⟨c13, hf⟩ | ⟨c13, hf⟩
        · refine r_icmp_ge_t 65 (ck DX7_port_0 31 rfl) (by decide) c13 ?_
          refine r_bipush 67 rfl bp_m5 (ck DX7_port_0 34 rfl) ?_
          obtain ⟨rfl, rfl⟩ := so2 hf
          exact r_iret rfl rfl (ck DX7_port_0 35 rfl)
        · refine r_icmp_ge_f 61 rfl 65 (ck DX7_port_0 31 rfl) (by decide) c13 ?_
          refine r_iload_n 62 rfl 2 rfl rfl (ck DX7_port_0 32 rfl) ?_
          refine r_goto 67 (ck DX7_port_0 33 rfl) (by decide) ?_
          obtain ⟨rfl, rfl⟩ := so2 hf
          exact r_iret rfl rfl (ck DX7_port_0 35 rfl)
      · refine r_icmp_ge_f 40 rfl 51 (ck DX7_port_0 21 rfl) (by decide) c10 ?_
        refine r_aload_n 41 rfl 0 rfl rfl (ck DX7_port_0 22 rfl) ?_
        obtain ⟨v16, g14, e15, hf⟩ := bd_so hf
        refine r_callVi 44 rfl (A_X7_goDay X h v16 g14 e15) (by omega) cw_X7_392 sh_96 cl_7 rfl rfl (Nat.le_of_ble_eq_true rfl) (ck DX7_port_0 23 rfl) ?_
        refine r_pop 45 rfl rfl (ck DX7_port_0 24 rfl) ?_
        obtain ⟨v17, e18, hf⟩ := lt_so hf
        refine r_iinc (lv' := [(2, .int v17), (0, .ref (X.1 96)), (1, .int x1)]) 48 rfl 2 (ck DX7_port_0 25 rfl) rfl (by rw [e18, ic_1]) (by decide) rfl ?_
        refine r_goto 21 (ck DX7_port_0 26 rfl) (by decide) ?_
        refine r_sub (lv' := [(0, .ref (X.1 96)), (1, .int x1), (2, .int v17)]) [1, 2, 0] rfl ?_
        exact ih x1 v17 g14 hf
def f_X7_port (x1 : Int32) (h : HP) : Option (Int32 × HP) := bo (f_X7_in x1 0 9999) fun v1 => if v1 = 0 then (some ((-2), h)) else (bo (f_X7_save h) fun g4 => f_X7_port_L21 FZ x1 0 g4)
set_option maxHeartbeats 4000000 in
set_option maxRecDepth 100000 in
theorem A_X7_port (X : XE) (x1 : Int32) (h : HP) (r : Int32) (h' : HP) (hf : f_X7_port x1 h = some (r, h')) : CC mX7_port 8 X [.ref (X.1 96), .int x1] h (some (.int r)) h' := by
  refine CC_of rfl (Nat.le_of_ble_eq_true rfl) ?_
  show Run mX7_port 8 X 0 [(0, .ref (X.1 96)), (1, .int x1)] [] h (some (.int r)) h'
  unfold f_X7_port at hf
  refine r_aload_n 1 rfl 0 rfl rfl (ck DX7_port_0 0 rfl) ?_
  refine r_iload_n 2 rfl 1 rfl rfl (ck DX7_port_0 1 rfl) ?_
  refine r_iconst 3 rfl ic_0 (ck DX7_port_0 2 rfl) ?_
  refine r_sipush 6 rfl sp_9999 (ck DX7_port_0 3 rfl) ?_
  obtain ⟨v1, e2, hf⟩ := bo_so hf
  refine r_callVi 9 rfl (A_X7_in X x1 0 9999 h v1 e2) (by omega) cw_X7_276 sh_96 cl_7 rfl rfl (Nat.le_of_ble_eq_true rfl) (ck DX7_port_0 4 rfl) ?_
  rcases if_so hf with ⟨c3, hf⟩ | ⟨c3, hf⟩
  · refine r_if_ne_t 12 rfl 15 (ck DX7_port_0 5 rfl) (by decide) c3 ?_
    refine r_bipush 14 rfl bp_m2 (ck DX7_port_0 6 rfl) ?_
    obtain ⟨rfl, rfl⟩ := so2 hf
    exact r_iret rfl rfl (ck DX7_port_0 7 rfl)
  · refine r_if_ne_f 15 (ck DX7_port_0 5 rfl) (by decide) c3 ?_
    refine r_aload_n 16 rfl 0 rfl rfl (ck DX7_port_0 8 rfl) ?_
    obtain ⟨g4, e5, hf⟩ := bo_so hf
    refine r_callVv 19 rfl (A_X7_save X h g4 e5) (by omega) cw_X7_402 sh_96 cl_7 rfl rfl (Nat.le_of_ble_eq_true rfl) (ck DX7_port_0 9 rfl) ?_
    refine r_iconst 20 rfl ic_0 (ck DX7_port_0 10 rfl) ?_
    refine r_istore_n (lv' := [(2, .int 0), (0, .ref (X.1 96)), (1, .int x1)]) 21 rfl (ck DX7_port_0 11 rfl) (by decide) rfl rfl ?_
    refine r_sub (lv' := [(0, .ref (X.1 96)), (1, .int x1), (2, .int 0)]) [1, 2, 0] rfl ?_
    exact A_X7_port_L21 X _ _ FZ x1 0 g4 hf
-- X7_wentThen
def f_X7_wentThen (x1 : Int32) (h : HP) : Option (Int32 × HP) := bo (f_X7_goDays x1 h) fun g1 => lt (((g1.1 96 4) - (g1.1 96 37)) : Int32) fun v3 => bo (f_X7_putBack g1) fun g5 => some (v3, g5)
set_option maxHeartbeats 4000000 in
set_option maxRecDepth 100000 in
theorem A_X7_wentThen (X : XE) (x1 : Int32) (h : HP) (r : Int32) (h' : HP) (hf : f_X7_wentThen x1 h = some (r, h')) : CC mX7_wentThen 9 X [.ref (X.1 96), .int x1] h (some (.int r)) h' := by
  refine CC_of rfl (Nat.le_of_ble_eq_true rfl) ?_
  show Run mX7_wentThen 9 X 0 [(0, .ref (X.1 96)), (1, .int x1)] [] h (some (.int r)) h'
  unfold f_X7_wentThen at hf
  refine r_aload_n 1 rfl 0 rfl rfl (ck DX7_wentThen_0 0 rfl) ?_
  refine r_iload_n 2 rfl 1 rfl rfl (ck DX7_wentThen_0 1 rfl) ?_
  obtain ⟨g1, e2, hf⟩ := bo_so hf
  refine r_callVv 5 rfl (A_X7_goDays X x1 h g1 e2) (by omega) cw_X7_398 sh_96 cl_7 rfl rfl (Nat.le_of_ble_eq_true rfl) (ck DX7_wentThen_0 2 rfl) ?_
  refine r_aload_n 6 rfl 0 rfl rfl (ck DX7_wentThen_0 3 rfl) ?_
  refine r_geti 9 rfl sh_96 kd_7_4 fl_X7_22 (ck DX7_wentThen_0 4 rfl) ?_
  refine r_aload_n 10 rfl 0 rfl rfl (ck DX7_wentThen_0 5 rfl) ?_
  refine r_geti 13 rfl sh_96 kd_7_37 fl_X7_124 (ck DX7_wentThen_0 6 rfl) ?_
  refine r_isub 14 rfl (ck DX7_wentThen_0 7 rfl) ?_
  obtain ⟨v3, e4, hf⟩ := lt_so hf
  refine r_top e4 ?_
  refine r_istore_n (lv' := [(2, .int v3), (0, .ref (X.1 96)), (1, .int x1)]) 15 rfl (ck DX7_wentThen_0 8 rfl) (by decide) rfl rfl ?_
  refine r_aload_n 16 rfl 1 rfl rfl (ck DX7_wentThen_0 9 rfl) ?_
  obtain ⟨g5, e6, hf⟩ := bo_so hf
  refine r_callVv 19 rfl (A_X7_putBack X g1 g5 e6) (by omega) cw_X7_405 sh_96 cl_7 rfl rfl (Nat.le_of_ble_eq_true rfl) (ck DX7_wentThen_0 10 rfl) ?_
  refine r_iload_n 20 rfl 0 rfl rfl (ck DX7_wentThen_0 11 rfl) ?_
  obtain ⟨rfl, rfl⟩ := so2 hf
  exact r_iret rfl rfl (ck DX7_wentThen_0 12 rfl)
-- X7_spread
def f_X7_spread_L6 : Nat → Int32 → Int32 → Int32 → HP → Option (Int32 × HP)
  | 0, _, _, _, _ => none
  | n + 1, x1, x2, x3, h => if (10 : Int32) ≤ x3 then (some (x1, h)) else (bo (f_X7_save h) fun g2 => lt (si g2 96 2 x3) fun g4 => bd (f_X7_wentThen 30 g4) fun v8 g6 => if x2 < v8 then (lt (x3 + 1 : Int32) fun v10 => f_X7_spread_L6 n x3 v8 v10 g6) else (lt (x3 + 1 : Int32) fun v12 => f_X7_spread_L6 n x1 x2 v12 g6))
set_option maxHeartbeats 4000000 in
set_option maxRecDepth 100000 in
theorem A_X7_spread_L6 (X : XE) (r : Int32) (h' : HP) : ∀ (n : Nat) (x1 : Int32) (x2 : Int32) (x3 : Int32) (h : HP), f_X7_spread_L6 n x1 x2 x3 h = some (r, h') → Run mX7_spread 10 X 6 [(0, .ref (X.1 96)), (1, .int x1), (2, .int x2), (3, .int x3)] [] h (some (.int r)) h' := by
  intro n
  induction n with
  | zero => intro x1 x2 x3 h hf; cases hf
  | succ n ih =>
    intro x1 x2 x3 h hf
    rw [f_X7_spread_L6] at hf
    refine r_iload_n 7 rfl 3 rfl rfl (ck DX7_spread_0 6 rfl) ?_
    refine r_bipush 9 rfl bp_10 (ck DX7_spread_0 7 rfl) ?_
    rcases if_so hf with ⟨c1, hf⟩ | ⟨c1, hf⟩
    · refine r_icmp_ge_t 49 (ck DX7_spread_0 8 rfl) (by decide) c1 ?_
      refine r_iload_n 50 rfl 1 rfl rfl (ck DX7_spread_0 28 rfl) ?_
      obtain ⟨rfl, rfl⟩ := so2 hf
      exact r_iret rfl rfl (ck DX7_spread_0 29 rfl)
    · refine r_icmp_ge_f 12 rfl 49 (ck DX7_spread_0 8 rfl) (by decide) c1 ?_
      refine r_aload_n 13 rfl 0 rfl rfl (ck DX7_spread_0 9 rfl) ?_
      obtain ⟨g2, e3, hf⟩ := bo_so hf
      refine r_callVv 16 rfl (A_X7_save X h g2 e3) (by omega) cw_X7_402 sh_96 cl_7 rfl rfl (Nat.le_of_ble_eq_true rfl) (ck DX7_spread_0 10 rfl) ?_
      refine r_aload_n 17 rfl 0 rfl rfl (ck DX7_spread_0 11 rfl) ?_
      refine r_iload_n 18 rfl 3 rfl rfl (ck DX7_spread_0 12 rfl) ?_
      obtain ⟨g4, e5, hf⟩ := lt_so hf
      refine r_puti 21 rfl sh_96 kd_7_2 fw_X7_16 rfl rfl (ck DX7_spread_0 13 rfl) ?_
      refine r_heap e5 ?_
      refine r_aload_n 22 rfl 0 rfl rfl (ck DX7_spread_0 14 rfl) ?_
      refine r_bipush 24 rfl bp_30 (ck DX7_spread_0 15 rfl) ?_
      obtain ⟨v8, g6, e7, hf⟩ := bd_so hf
      refine r_callVi 27 rfl (A_X7_wentThen X 30 g4 v8 g6 e7) (by omega) cw_X7_411 sh_96 cl_7 rfl rfl (Nat.le_of_ble_eq_true rfl) (ck DX7_spread_0 16 rfl) ?_
      refine r_istore (lv' := [(4, .int v8), (0, .ref (X.1 96)), (1, .int x1), (2, .int x2), (3, .int x3)]) 29 rfl (ck DX7_spread_0 17 rfl) (by decide) rfl ?_
      refine r_iload 31 rfl 0 rfl (ck DX7_spread_0 18 rfl) ?_
      refine r_iload_n 32 rfl 3 rfl rfl (ck DX7_spread_0 19 rfl) ?_
      rcases if_so hf with ⟨c9, hf⟩ | ⟨c9, hf⟩
      · refine r_icmp_gt_t 38 (ck DX7_spread_0 20 rfl) (by decide) c9 ?_
        refine r_iload_n 39 rfl 4 rfl rfl (ck DX7_spread_0 22 rfl) ?_
        refine r_istore_n (lv' := [(1, .int x3), (4, .int v8), (0, .ref (X.1 96)), (2, .int x2), (3, .int x3)]) 40 rfl (ck DX7_spread_0 23 rfl) (by decide) rfl rfl ?_
        refine r_iload 42 rfl 1 rfl (ck DX7_spread_0 24 rfl) ?_
        refine r_istore_n (lv' := [(2, .int v8), (1, .int x3), (4, .int v8), (0, .ref (X.1 96)), (3, .int x3)]) 43 rfl (ck DX7_spread_0 25 rfl) (by decide) rfl rfl ?_
        obtain ⟨v10, e11, hf⟩ := lt_so hf
        refine r_iinc (lv' := [(3, .int v10), (2, .int v8), (1, .int x3), (4, .int v8), (0, .ref (X.1 96))]) 46 rfl 4 (ck DX7_spread_0 26 rfl) rfl (by rw [e11, ic_1]) (by decide) rfl ?_
        refine r_goto 6 (ck DX7_spread_0 27 rfl) (by decide) ?_
        refine r_sub (lv' := [(0, .ref (X.1 96)), (1, .int x3), (2, .int v8), (3, .int v10)]) [4, 2, 1, 0] rfl ?_
        exact ih x3 v8 v10 g6 hf
      · refine r_icmp_gt_f 35 rfl 38 (ck DX7_spread_0 20 rfl) (by decide) c9 ?_
        refine r_goto 43 (ck DX7_spread_0 21 rfl) (by decide) ?_
        obtain ⟨v12, e13, hf⟩ := lt_so hf
        refine r_iinc (lv' := [(3, .int v12), (4, .int v8), (0, .ref (X.1 96)), (1, .int x1), (2, .int x2)]) 46 rfl 4 (ck DX7_spread_0 26 rfl) rfl (by rw [e13, ic_1]) (by decide) rfl ?_
        refine r_goto 6 (ck DX7_spread_0 27 rfl) (by decide) ?_
        refine r_sub (lv' := [(0, .ref (X.1 96)), (1, .int x1), (2, .int x2), (3, .int v12)]) [2, 3, 4, 0] rfl ?_
        exact ih x1 x2 v12 g6 hf
def f_X7_spread (h : HP) : Option (Int32 × HP) := f_X7_spread_L6 FZ 0 (-1) 0 h
set_option maxHeartbeats 4000000 in
set_option maxRecDepth 100000 in
theorem A_X7_spread (X : XE) (h : HP) (r : Int32) (h' : HP) (hf : f_X7_spread h = some (r, h')) : CC mX7_spread 10 X [.ref (X.1 96)] h (some (.int r)) h' := by
  refine CC_of rfl (Nat.le_of_ble_eq_true rfl) ?_
  show Run mX7_spread 10 X 0 [(0, .ref (X.1 96))] [] h (some (.int r)) h'
  unfold f_X7_spread at hf
  refine r_iconst 1 rfl ic_0 (ck DX7_spread_0 0 rfl) ?_
  refine r_istore_n (lv' := [(1, .int 0), (0, .ref (X.1 96))]) 2 rfl (ck DX7_spread_0 1 rfl) (by decide) rfl rfl ?_
  refine r_iconst 3 rfl ic_m1 (ck DX7_spread_0 2 rfl) ?_
  refine r_istore_n (lv' := [(2, .int (-1)), (1, .int 0), (0, .ref (X.1 96))]) 4 rfl (ck DX7_spread_0 3 rfl) (by decide) rfl rfl ?_
  refine r_iconst 5 rfl ic_0 (ck DX7_spread_0 4 rfl) ?_
  refine r_istore_n (lv' := [(3, .int 0), (2, .int (-1)), (1, .int 0), (0, .ref (X.1 96))]) 6 rfl (ck DX7_spread_0 5 rfl) (by decide) rfl rfl ?_
  refine r_sub (lv' := [(0, .ref (X.1 96)), (1, .int 0), (2, .int (-1)), (3, .int 0)]) [3, 2, 1, 0] rfl ?_
  exact A_X7_spread_L6 X _ _ FZ 0 (-1) 0 h hf
-- X7_fewest
def f_X7_fewest_L16 : Nat → Int32 → Int32 → HP → Option (Int32 × HP)
  | 0, _, _, _ => none
  | n + 1, x1, x2, h => if (10 : Int32) ≤ x2 then (some ((-5), h)) else (bo (f_X7_save h) fun g5 => lt (si g5 96 3 x2) fun g7 => bd (f_X7_firstThen x1 g7) fun v11 g9 => if (0 : Int32) ≤ v11 then (lt (x2 + 1 : Int32) fun v13 => f_X7_fewest_L16 n x1 v13 g9) else (some (x2, g9)))
set_option maxHeartbeats 4000000 in
set_option maxRecDepth 100000 in
theorem A_X7_fewest_L16 (X : XE) (r : Int32) (h' : HP) : ∀ (n : Nat) (x1 : Int32) (x2 : Int32) (h : HP), f_X7_fewest_L16 n x1 x2 h = some (r, h') → Run mX7_fewest 9 X 16 [(0, .ref (X.1 96)), (1, .int x1), (2, .int x2)] [] h (some (.int r)) h' := by
  intro n
  induction n with
  | zero => intro x1 x2 h hf; cases hf
  | succ n ih =>
    intro x1 x2 h hf
    rw [f_X7_fewest_L16] at hf
    refine r_iload_n 17 rfl 2 rfl rfl (ck DX7_fewest_0 10 rfl) ?_
    refine r_bipush 19 rfl bp_10 (ck DX7_fewest_0 11 rfl) ?_
    rcases if_so hf with ⟨c4, hf⟩ | ⟨c4, hf⟩
    · refine r_icmp_ge_t 47 (ck DX7_fewest_0 12 rfl) (by decide) c4 ?_
      refine r_bipush 49 rfl bp_m5 (ck DX7_fewest_0 26 rfl) ?_
      obtain ⟨rfl, rfl⟩ := so2 hf
      exact r_iret rfl rfl (ck DX7_fewest_0 27 rfl)
    · refine r_icmp_ge_f 22 rfl 47 (ck DX7_fewest_0 12 rfl) (by decide) c4 ?_
      refine r_aload_n 23 rfl 0 rfl rfl (ck DX7_fewest_0 13 rfl) ?_
      obtain ⟨g5, e6, hf⟩ := bo_so hf
      refine r_callVv 26 rfl (A_X7_save X h g5 e6) (by omega) cw_X7_402 sh_96 cl_7 rfl rfl (Nat.le_of_ble_eq_true rfl) (ck DX7_fewest_0 14 rfl) ?_
      refine r_aload_n 27 rfl 0 rfl rfl (ck DX7_fewest_0 15 rfl) ?_
      refine r_iload_n 28 rfl 2 rfl rfl (ck DX7_fewest_0 16 rfl) ?_
      obtain ⟨g7, e8, hf⟩ := lt_so hf
      refine r_puti 31 rfl sh_96 kd_7_3 fw_X7_19 rfl rfl (ck DX7_fewest_0 17 rfl) ?_
      refine r_heap e8 ?_
      refine r_aload_n 32 rfl 0 rfl rfl (ck DX7_fewest_0 18 rfl) ?_
      refine r_iload_n 33 rfl 1 rfl rfl (ck DX7_fewest_0 19 rfl) ?_
      obtain ⟨v11, g9, e10, hf⟩ := bd_so hf
      refine r_callVi 36 rfl (A_X7_firstThen X x1 g7 v11 g9 e10) (by omega) cw_X7_408 sh_96 cl_7 rfl rfl (Nat.le_of_ble_eq_true rfl) (ck DX7_fewest_0 20 rfl) ?_
      rcases if_so hf with ⟨c12, hf⟩ | ⟨c12, hf⟩
      · refine r_if_ge_t 41 (ck DX7_fewest_0 21 rfl) (by decide) c12 ?_
        obtain ⟨v13, e14, hf⟩ := lt_so hf
        refine r_iinc (lv' := [(2, .int v13), (0, .ref (X.1 96)), (1, .int x1)]) 44 rfl 2 (ck DX7_fewest_0 24 rfl) rfl (by rw [e14, ic_1]) (by decide) rfl ?_
        refine r_goto 16 (ck DX7_fewest_0 25 rfl) (by decide) ?_
        refine r_sub (lv' := [(0, .ref (X.1 96)), (1, .int x1), (2, .int v13)]) [1, 2, 0] rfl ?_
        exact ih x1 v13 g9 hf
      · refine r_if_ge_f 39 rfl 41 (ck DX7_fewest_0 21 rfl) (by decide) c12 ?_
        refine r_iload_n 40 rfl 2 rfl rfl (ck DX7_fewest_0 22 rfl) ?_
        obtain ⟨rfl, rfl⟩ := so2 hf
        exact r_iret rfl rfl (ck DX7_fewest_0 23 rfl)
def f_X7_fewest (x1 : Int32) (h : HP) : Option (Int32 × HP) := bo (f_X7_in x1 1 30) fun v1 => if v1 = 0 then (some ((-2), h)) else (f_X7_fewest_L16 FZ x1 0 h)
set_option maxHeartbeats 4000000 in
set_option maxRecDepth 100000 in
theorem A_X7_fewest (X : XE) (x1 : Int32) (h : HP) (r : Int32) (h' : HP) (hf : f_X7_fewest x1 h = some (r, h')) : CC mX7_fewest 9 X [.ref (X.1 96), .int x1] h (some (.int r)) h' := by
  refine CC_of rfl (Nat.le_of_ble_eq_true rfl) ?_
  show Run mX7_fewest 9 X 0 [(0, .ref (X.1 96)), (1, .int x1)] [] h (some (.int r)) h'
  unfold f_X7_fewest at hf
  refine r_aload_n 1 rfl 0 rfl rfl (ck DX7_fewest_0 0 rfl) ?_
  refine r_iload_n 2 rfl 1 rfl rfl (ck DX7_fewest_0 1 rfl) ?_
  refine r_iconst 3 rfl ic_1 (ck DX7_fewest_0 2 rfl) ?_
  refine r_bipush 5 rfl bp_30 (ck DX7_fewest_0 3 rfl) ?_
  obtain ⟨v1, e2, hf⟩ := bo_so hf
  refine r_callVi 8 rfl (A_X7_in X x1 1 30 h v1 e2) (by omega) cw_X7_276 sh_96 cl_7 rfl rfl (Nat.le_of_ble_eq_true rfl) (ck DX7_fewest_0 4 rfl) ?_
  rcases if_so hf with ⟨c3, hf⟩ | ⟨c3, hf⟩
  · refine r_if_ne_t 11 rfl 14 (ck DX7_fewest_0 5 rfl) (by decide) c3 ?_
    refine r_bipush 13 rfl bp_m2 (ck DX7_fewest_0 6 rfl) ?_
    obtain ⟨rfl, rfl⟩ := so2 hf
    exact r_iret rfl rfl (ck DX7_fewest_0 7 rfl)
  · refine r_if_ne_f 14 (ck DX7_fewest_0 5 rfl) (by decide) c3 ?_
    refine r_iconst 15 rfl ic_0 (ck DX7_fewest_0 8 rfl) ?_
    refine r_istore_n (lv' := [(2, .int 0), (0, .ref (X.1 96)), (1, .int x1)]) 16 rfl (ck DX7_fewest_0 9 rfl) (by decide) rfl rfl ?_
    refine r_sub (lv' := [(0, .ref (X.1 96)), (1, .int x1), (2, .int 0)]) [1, 2, 0] rfl ?_
    exact A_X7_fewest_L16 X _ _ FZ x1 0 h hf
-- X7_tries
def f_X7_tries_J100 (x2 : Int32) (x3 : Int32) (x4 : Int32) (x5 : Int32) (x7 : Int32) (h : HP) : Option HP := lt (si h 96 45 x2) fun g24 => lt (si g24 96 46 x7) fun g26 => gd (inb 0 3) (lt (si g26 119 (Int32.toNatClampNeg 0) x3) fun g29 => gd (inb 1 3) (lt (si g29 119 (Int32.toNatClampNeg 1) x4) fun g32 => gd (inb 2 3) (lt (si g32 119 (Int32.toNatClampNeg 2) x5) fun g35 => some g35)))
set_option maxHeartbeats 4000000 in
set_option maxRecDepth 100000 in
theorem A_X7_tries_J100 (X : XE) (h' : HP) (x2 : Int32) (x3 : Int32) (x4 : Int32) (x5 : Int32) (x7 : Int32) (h : HP) (hf : f_X7_tries_J100 x2 x3 x4 x5 x7 h = some h') : Run mX7_tries 10 X 100 [(0, .ref (X.1 96)), (2, .int x2), (3, .int x3), (4, .int x4), (5, .int x5), (7, .int x7)] [] h none h' := by
  unfold f_X7_tries_J100 at hf
  refine r_aload_n 101 rfl 0 rfl rfl (ck DX7_tries_1 3 rfl) ?_
  refine r_iload_n 102 rfl 1 rfl rfl (ck DX7_tries_1 4 rfl) ?_
  obtain ⟨g24, e25, hf⟩ := lt_so hf
  refine r_puti 105 rfl sh_96 kd_7_45 fw_X7_148 rfl rfl (ck DX7_tries_1 5 rfl) ?_
  refine r_heap e25 ?_
  refine r_aload_n 106 rfl 0 rfl rfl (ck DX7_tries_1 6 rfl) ?_
  refine r_iload 108 rfl 5 rfl (ck DX7_tries_1 7 rfl) ?_
  obtain ⟨g26, e27, hf⟩ := lt_so hf
  refine r_puti 111 rfl sh_96 kd_7_46 fw_X7_151 rfl rfl (ck DX7_tries_1 8 rfl) ?_
  refine r_heap e27 ?_
  refine r_aload_n 112 rfl 0 rfl rfl (ck DX7_tries_1 9 rfl) ?_
  refine r_getr (q := 119) 115 rfl (lq_7_44) sh_96 kd_7_44 fl_X7_145 (ck DX7_tries_1 10 rfl) ?_
  refine r_iconst 116 rfl ic_0 (ck DX7_tries_1 11 rfl) ?_
  refine r_iload_n 117 rfl 2 rfl rfl (ck DX7_tries_1 12 rfl) ?_
  obtain ⟨b28, hf⟩ := gd_so hf
  obtain ⟨g29, e30, hf⟩ := lt_so hf
  refine r_iast 118 rfl sh_119 (inb_vp b28) (ck DX7_tries_1 13 rfl) ?_
  refine r_heap e30 ?_
  refine r_aload_n 119 rfl 0 rfl rfl (ck DX7_tries_1 14 rfl) ?_
  refine r_getr (q := 119) 122 rfl (lq_7_44) sh_96 kd_7_44 fl_X7_145 (ck DX7_tries_1 15 rfl) ?_
  refine r_iconst 123 rfl ic_1 (ck DX7_tries_1 16 rfl) ?_
  refine r_iload 125 rfl 3 rfl (ck DX7_tries_1 17 rfl) ?_
  obtain ⟨b31, hf⟩ := gd_so hf
  obtain ⟨g32, e33, hf⟩ := lt_so hf
  refine r_iast 126 rfl sh_119 (inb_vp b31) (ck DX7_tries_1 18 rfl) ?_
  refine r_heap e33 ?_
  refine r_aload_n 127 rfl 0 rfl rfl (ck DX7_tries_1 19 rfl) ?_
  refine r_getr (q := 119) 130 rfl (lq_7_44) sh_96 kd_7_44 fl_X7_145 (ck DX7_tries_1 20 rfl) ?_
  refine r_iconst 131 rfl ic_2 (ck DX7_tries_1 21 rfl) ?_
  refine r_iload 133 rfl 4 rfl (ck DX7_tries_1 22 rfl) ?_
  obtain ⟨b34, hf⟩ := gd_so hf
  obtain ⟨g35, e36, hf⟩ := lt_so hf
  refine r_iast 134 rfl sh_119 (inb_vp b34) (ck DX7_tries_1 23 rfl) ?_
  refine r_heap e36 ?_
  obtain rfl := so1 hf
  exact r_vret rfl (ck DX7_tries_1 24 rfl)
def f_X7_tries_J67 (x1 : Int32) (x2 : Int32) (x3 : Int32) (x4 : Int32) (x5 : Int32) (x6 : Int32) (s0 : Int32) (h : HP) : Option HP := if x1 = 1 then (bo (f_X7_putBack h) fun g20 => if x6 = 0 then (some g20) else (if (g20.1 96 45) ≤ 0 then (f_X7_tries_J100 x2 x3 x4 x5 s0 g20) else (if (g20.1 96 46) < s0 then (f_X7_tries_J100 x2 x3 x4 x5 s0 g20) else (some g20)))) else (if x6 = 0 then (some h) else (if (h.1 96 45) ≤ 0 then (f_X7_tries_J100 x2 x3 x4 x5 s0 h) else (if (h.1 96 46) < s0 then (f_X7_tries_J100 x2 x3 x4 x5 s0 h) else (some h))))
set_option maxHeartbeats 4000000 in
set_option maxRecDepth 100000 in
theorem A_X7_tries_J67 (X : XE) (h' : HP) (x1 : Int32) (x2 : Int32) (x3 : Int32) (x4 : Int32) (x5 : Int32) (x6 : Int32) (s0 : Int32) (h : HP) (hf : f_X7_tries_J67 x1 x2 x3 x4 x5 x6 s0 h = some h') : Run mX7_tries 10 X 67 [(0, .ref (X.1 96)), (1, .int x1), (2, .int x2), (3, .int x3), (4, .int x4), (5, .int x5), (6, .int x6)] [.int s0] h none h' := by
  unfold f_X7_tries_J67 at hf
  refine r_istore (lv' := [(7, .int s0), (0, .ref (X.1 96)), (1, .int x1), (2, .int x2), (3, .int x3), (4, .int x4), (5, .int x5), (6, .int x6)]) 69 rfl (ck DX7_tries_0 37 rfl) (by decide) rfl ?_
  refine r_iload_n 70 rfl 2 rfl rfl (ck DX7_tries_0 38 rfl) ?_
  refine r_iconst 71 rfl ic_1 (ck DX7_tries_0 39 rfl) ?_
  rcases if_so hf with ⟨c19, hf⟩ | ⟨c19, hf⟩
  · refine r_icmp_ne_t 74 rfl 78 (ck DX7_tries_0 40 rfl) (by decide) c19 ?_
    refine r_aload_n 75 rfl 1 rfl rfl (ck DX7_tries_0 41 rfl) ?_
    obtain ⟨g20, e21, hf⟩ := bo_so hf
    refine r_callVv 78 rfl (A_X7_putBack X h g20 e21) (by omega) cw_X7_405 sh_96 cl_7 rfl rfl (Nat.le_of_ble_eq_true rfl) (ck DX7_tries_0 42 rfl) ?_
    refine r_iload 80 rfl 7 rfl (ck DX7_tries_0 43 rfl) ?_
    rcases if_so hf with ⟨c22, hf⟩ | ⟨c22, hf⟩
    · refine r_if_eq_t 99 (ck DX7_tries_0 44 rfl) (by decide) c22 ?_
      obtain rfl := so1 hf
      exact r_vret rfl (ck DX7_tries_1 2 rfl)
    · refine r_if_eq_f 83 rfl 99 (ck DX7_tries_0 44 rfl) (by decide) c22 ?_
      refine r_aload_n 84 rfl 1 rfl rfl (ck DX7_tries_0 45 rfl) ?_
      refine r_geti 87 rfl sh_96 kd_7_45 fl_X7_148 (ck DX7_tries_0 46 rfl) ?_
      rcases if_so hf with ⟨c23, hf⟩ | ⟨c23, hf⟩
      · refine r_if_le_t 100 (ck DX7_tries_0 47 rfl) (by decide) c23 ?_
        refine r_sub (lv' := [(0, .ref (X.1 96)), (2, .int x2), (3, .int x3), (4, .int x4), (5, .int x5), (7, .int s0)]) [1, 3, 4, 5, 6, 0] rfl ?_
        exact A_X7_tries_J100 X _ x2 x3 x4 x5 s0 g20 hf
      · refine r_if_le_f 90 rfl 100 (ck DX7_tries_0 47 rfl) (by decide) c23 ?_
        refine r_iload 92 rfl 0 rfl (ck DX7_tries_0 48 rfl) ?_
        refine r_aload_n 93 rfl 1 rfl rfl (ck DX7_tries_0 49 rfl) ?_
        refine r_geti 96 rfl sh_96 kd_7_46 fl_X7_151 (ck DX7_tries_1 0 rfl) ?_
        rcases if_so hf with ⟨c37, hf⟩ | ⟨c37, hf⟩
        · refine r_icmp_gt_t 100 (ck DX7_tries_1 1 rfl) (by decide) c37 ?_
          refine r_sub (lv' := [(0, .ref (X.1 96)), (2, .int x2), (3, .int x3), (4, .int x4), (5, .int x5), (7, .int s0)]) [1, 3, 4, 5, 6, 0] rfl ?_
          exact A_X7_tries_J100 X _ x2 x3 x4 x5 s0 g20 hf
        · refine r_icmp_gt_f 99 rfl 100 (ck DX7_tries_1 1 rfl) (by decide) c37 ?_
          obtain rfl := so1 hf
          exact r_vret rfl (ck DX7_tries_1 2 rfl)
  · refine r_icmp_ne_f 78 (ck DX7_tries_0 40 rfl) (by decide) c19 ?_
    refine r_iload 80 rfl 7 rfl (ck DX7_tries_0 43 rfl) ?_
    rcases if_so hf with ⟨c38, hf⟩ | ⟨c38, hf⟩
    · refine r_if_eq_t 99 (ck DX7_tries_0 44 rfl) (by decide) c38 ?_
      obtain rfl := so1 hf
      exact r_vret rfl (ck DX7_tries_1 2 rfl)
    · refine r_if_eq_f 83 rfl 99 (ck DX7_tries_0 44 rfl) (by decide) c38 ?_
      refine r_aload_n 84 rfl 1 rfl rfl (ck DX7_tries_0 45 rfl) ?_
      refine r_geti 87 rfl sh_96 kd_7_45 fl_X7_148 (ck DX7_tries_0 46 rfl) ?_
      rcases if_so hf with ⟨c39, hf⟩ | ⟨c39, hf⟩
      · refine r_if_le_t 100 (ck DX7_tries_0 47 rfl) (by decide) c39 ?_
        refine r_sub (lv' := [(0, .ref (X.1 96)), (2, .int x2), (3, .int x3), (4, .int x4), (5, .int x5), (7, .int s0)]) [1, 3, 4, 5, 6, 0] rfl ?_
        exact A_X7_tries_J100 X _ x2 x3 x4 x5 s0 h hf
      · refine r_if_le_f 90 rfl 100 (ck DX7_tries_0 47 rfl) (by decide) c39 ?_
        refine r_iload 92 rfl 0 rfl (ck DX7_tries_0 48 rfl) ?_
        refine r_aload_n 93 rfl 1 rfl rfl (ck DX7_tries_0 49 rfl) ?_
        refine r_geti 96 rfl sh_96 kd_7_46 fl_X7_151 (ck DX7_tries_1 0 rfl) ?_
        rcases if_so hf with ⟨c40, hf⟩ | ⟨c40, hf⟩
        · refine r_icmp_gt_t 100 (ck DX7_tries_1 1 rfl) (by decide) c40 ?_
          refine r_sub (lv' := [(0, .ref (X.1 96)), (2, .int x2), (3, .int x3), (4, .int x4), (5, .int x5), (7, .int s0)]) [1, 3, 4, 5, 6, 0] rfl ?_
          exact A_X7_tries_J100 X _ x2 x3 x4 x5 s0 h hf
        · refine r_icmp_gt_f 99 rfl 100 (ck DX7_tries_1 1 rfl) (by decide) c40 ?_
          obtain rfl := so1 hf
          exact r_vret rfl (ck DX7_tries_1 2 rfl)
def f_X7_tries (x1 : Int32) (x2 : Int32) (x3 : Int32) (x4 : Int32) (x5 : Int32) (h : HP) : Option HP := bo (f_X7_save h) fun g1 => lt (si g1 96 1 x2) fun g3 => gd (inb 0 3) (lt (si g3 103 (Int32.toNatClampNeg 0) x3) fun g6 => gd (inb 1 3) (lt (si g6 103 (Int32.toNatClampNeg 1) x4) fun g9 => gd (inb 2 3) (lt (si g9 103 (Int32.toNatClampNeg 2) x5) fun g12 => if x1 = 0 then (if x1 = 0 then (bd (f_X7_wentThen 10 g12) fun v18 g16 => f_X7_tries_J67 x1 x2 x3 x4 x5 1 v18 g16) else (bo (f_X7_height g12) fun v41 => f_X7_tries_J67 x1 x2 x3 x4 x5 1 v41 g12)) else (bd (f_X7_breaksAt g12) fun v45 g43 => if (0 : Int32) ≤ v45 then (if x1 = 0 then (bd (f_X7_wentThen 10 g43) fun v50 g48 => f_X7_tries_J67 x1 x2 x3 x4 x5 0 v50 g48) else (bo (f_X7_height g43) fun v51 => f_X7_tries_J67 x1 x2 x3 x4 x5 0 v51 g43)) else (if x1 = 0 then (bd (f_X7_wentThen 10 g43) fun v56 g54 => f_X7_tries_J67 x1 x2 x3 x4 x5 1 v56 g54) else (bo (f_X7_height g43) fun v57 => f_X7_tries_J67 x1 x2 x3 x4 x5 1 v57 g43))))))
set_option maxHeartbeats 4000000 in
set_option maxRecDepth 100000 in
theorem A_X7_tries (X : XE) (x1 : Int32) (x2 : Int32) (x3 : Int32) (x4 : Int32) (x5 : Int32) (h : HP) (h' : HP) (hf : f_X7_tries x1 x2 x3 x4 x5 h = some h') : CC mX7_tries 10 X [.ref (X.1 96), .int x1, .int x2, .int x3, .int x4, .int x5] h none h' := by
  refine CC_of rfl (Nat.le_of_ble_eq_true rfl) ?_
  show Run mX7_tries 10 X 0 [(0, .ref (X.1 96)), (1, .int x1), (2, .int x2), (3, .int x3), (4, .int x4), (5, .int x5)] [] h none h'
  unfold f_X7_tries at hf
  refine r_aload_n 1 rfl 0 rfl rfl (ck DX7_tries_0 0 rfl) ?_
  obtain ⟨g1, e2, hf⟩ := bo_so hf
  refine r_callVv 4 rfl (A_X7_save X h g1 e2) (by omega) cw_X7_402 sh_96 cl_7 rfl rfl (Nat.le_of_ble_eq_true rfl) (ck DX7_tries_0 1 rfl) ?_
  refine r_aload_n 5 rfl 0 rfl rfl (ck DX7_tries_0 2 rfl) ?_
  refine r_iload_n 6 rfl 2 rfl rfl (ck DX7_tries_0 3 rfl) ?_
  obtain ⟨g3, e4, hf⟩ := lt_so hf
  refine r_puti 9 rfl sh_96 kd_7_1 fw_X7_13 rfl rfl (ck DX7_tries_0 4 rfl) ?_
  refine r_heap e4 ?_
  refine r_aload_n 10 rfl 0 rfl rfl (ck DX7_tries_0 5 rfl) ?_
  refine r_getr (q := 103) 13 rfl (lq_7_12) sh_96 kd_7_12 fl_X7_47 (ck DX7_tries_0 6 rfl) ?_
  refine r_iconst 14 rfl ic_0 (ck DX7_tries_0 7 rfl) ?_
  refine r_iload_n 15 rfl 3 rfl rfl (ck DX7_tries_0 8 rfl) ?_
  obtain ⟨b5, hf⟩ := gd_so hf
  obtain ⟨g6, e7, hf⟩ := lt_so hf
  refine r_iast 16 rfl sh_103 (inb_vp b5) (ck DX7_tries_0 9 rfl) ?_
  refine r_heap e7 ?_
  refine r_aload_n 17 rfl 0 rfl rfl (ck DX7_tries_0 10 rfl) ?_
  refine r_getr (q := 103) 20 rfl (lq_7_12) sh_96 kd_7_12 fl_X7_47 (ck DX7_tries_0 11 rfl) ?_
  refine r_iconst 21 rfl ic_1 (ck DX7_tries_0 12 rfl) ?_
  refine r_iload 23 rfl 4 rfl (ck DX7_tries_0 13 rfl) ?_
  obtain ⟨b8, hf⟩ := gd_so hf
  obtain ⟨g9, e10, hf⟩ := lt_so hf
  refine r_iast 24 rfl sh_103 (inb_vp b8) (ck DX7_tries_0 14 rfl) ?_
  refine r_heap e10 ?_
  refine r_aload_n 25 rfl 0 rfl rfl (ck DX7_tries_0 15 rfl) ?_
  refine r_getr (q := 103) 28 rfl (lq_7_12) sh_96 kd_7_12 fl_X7_47 (ck DX7_tries_0 16 rfl) ?_
  refine r_iconst 29 rfl ic_2 (ck DX7_tries_0 17 rfl) ?_
  refine r_iload 31 rfl 5 rfl (ck DX7_tries_0 18 rfl) ?_
  obtain ⟨b11, hf⟩ := gd_so hf
  obtain ⟨g12, e13, hf⟩ := lt_so hf
  refine r_iast 32 rfl sh_103 (inb_vp b11) (ck DX7_tries_0 19 rfl) ?_
  refine r_heap e13 ?_
  refine r_iload_n 33 rfl 1 rfl rfl (ck DX7_tries_0 20 rfl) ?_
  rcases if_so hf with ⟨c14, hf⟩ | ⟨c14, hf⟩
  · refine r_if_eq_t 43 (ck DX7_tries_0 21 rfl) (by decide) c14 ?_
    refine r_iconst 44 rfl ic_1 (ck DX7_tries_0 25 rfl) ?_
    refine r_goto 48 (ck DX7_tries_0 26 rfl) (by decide) ?_
    refine r_istore (lv' := [(6, .int 1), (0, .ref (X.1 96)), (1, .int x1), (2, .int x2), (3, .int x3), (4, .int x4), (5, .int x5)]) 50 rfl (ck DX7_tries_0 28 rfl) (by decide) rfl ?_
    refine r_iload_n 51 rfl 2 rfl rfl (ck DX7_tries_0 29 rfl) ?_
    rcases if_so hf with ⟨c15, hf⟩ | ⟨c15, hf⟩
    · refine r_if_ne_t 54 rfl 63 (ck DX7_tries_0 30 rfl) (by decide) c15 ?_
      refine r_aload_n 55 rfl 1 rfl rfl (ck DX7_tries_0 31 rfl) ?_
      refine r_bipush 57 rfl bp_10 (ck DX7_tries_0 32 rfl) ?_
      obtain ⟨v18, g16, e17, hf⟩ := bd_so hf
      refine r_callVi 60 rfl (A_X7_wentThen X 10 g12 v18 g16 e17) (by omega) cw_X7_411 sh_96 cl_7 rfl rfl (Nat.le_of_ble_eq_true rfl) (ck DX7_tries_0 33 rfl) ?_
      refine r_goto 67 (ck DX7_tries_0 34 rfl) (by decide) ?_
      refine r_sub (lv' := [(0, .ref (X.1 96)), (1, .int x1), (2, .int x2), (3, .int x3), (4, .int x4), (5, .int x5), (6, .int 1)]) [1, 2, 3, 4, 5, 6, 0] rfl ?_
      exact A_X7_tries_J67 X _ x1 x2 x3 x4 x5 1 v18 g16 hf
    · refine r_if_ne_f 63 (ck DX7_tries_0 30 rfl) (by decide) c15 ?_
      refine r_aload_n 64 rfl 1 rfl rfl (ck DX7_tries_0 35 rfl) ?_
      obtain ⟨v41, e42, hf⟩ := bo_so hf
      refine r_callVi 67 rfl (A_X7_height X g12 v41 e42) (by omega) cw_X7_371 sh_96 cl_7 rfl rfl (Nat.le_of_ble_eq_true rfl) (ck DX7_tries_0 36 rfl) ?_
      refine r_sub (lv' := [(0, .ref (X.1 96)), (1, .int x1), (2, .int x2), (3, .int x3), (4, .int x4), (5, .int x5), (6, .int 1)]) [1, 2, 3, 4, 5, 6, 0] rfl ?_
      exact A_X7_tries_J67 X _ x1 x2 x3 x4 x5 1 v41 g12 hf
  · refine r_if_eq_f 36 rfl 43 (ck DX7_tries_0 21 rfl) (by decide) c14 ?_
    refine r_aload_n 37 rfl 0 rfl rfl (ck DX7_tries_0 22 rfl) ?_
    obtain ⟨v45, g43, e44, hf⟩ := bd_so hf
    refine r_callVi 40 rfl (A_X7_breaksAt X g12 v45 g43 e44) (by omega) cw_X7_386 sh_96 cl_7 rfl rfl (Nat.le_of_ble_eq_true rfl) (ck DX7_tries_0 23 rfl) ?_
    rcases if_so hf with ⟨c46, hf⟩ | ⟨c46, hf⟩
    · refine r_if_ge_t 47 (ck DX7_tries_0 24 rfl) (by decide) c46 ?_
      refine r_iconst 48 rfl ic_0 (ck DX7_tries_0 27 rfl) ?_
      refine r_istore (lv' := [(6, .int 0), (0, .ref (X.1 96)), (1, .int x1), (2, .int x2), (3, .int x3), (4, .int x4), (5, .int x5)]) 50 rfl (ck DX7_tries_0 28 rfl) (by decide) rfl ?_
      refine r_iload_n 51 rfl 2 rfl rfl (ck DX7_tries_0 29 rfl) ?_
      rcases if_so hf with ⟨c47, hf⟩ | ⟨c47, hf⟩
      · refine r_if_ne_t 54 rfl 63 (ck DX7_tries_0 30 rfl) (by decide) c47 ?_
        refine r_aload_n 55 rfl 1 rfl rfl (ck DX7_tries_0 31 rfl) ?_
        refine r_bipush 57 rfl bp_10 (ck DX7_tries_0 32 rfl) ?_
        obtain ⟨v50, g48, e49, hf⟩ := bd_so hf
        refine r_callVi 60 rfl (A_X7_wentThen X 10 g43 v50 g48 e49) (by omega) cw_X7_411 sh_96 cl_7 rfl rfl (Nat.le_of_ble_eq_true rfl) (ck DX7_tries_0 33 rfl) ?_
        refine r_goto 67 (ck DX7_tries_0 34 rfl) (by decide) ?_
        refine r_sub (lv' := [(0, .ref (X.1 96)), (1, .int x1), (2, .int x2), (3, .int x3), (4, .int x4), (5, .int x5), (6, .int 0)]) [1, 2, 3, 4, 5, 6, 0] rfl ?_
        exact A_X7_tries_J67 X _ x1 x2 x3 x4 x5 0 v50 g48 hf
      · refine r_if_ne_f 63 (ck DX7_tries_0 30 rfl) (by decide) c47 ?_
        refine r_aload_n 64 rfl 1 rfl rfl (ck DX7_tries_0 35 rfl) ?_
        obtain ⟨v51, e52, hf⟩ := bo_so hf
        refine r_callVi 67 rfl (A_X7_height X g43 v51 e52) (by omega) cw_X7_371 sh_96 cl_7 rfl rfl (Nat.le_of_ble_eq_true rfl) (ck DX7_tries_0 36 rfl) ?_
        refine r_sub (lv' := [(0, .ref (X.1 96)), (1, .int x1), (2, .int x2), (3, .int x3), (4, .int x4), (5, .int x5), (6, .int 0)]) [1, 2, 3, 4, 5, 6, 0] rfl ?_
        exact A_X7_tries_J67 X _ x1 x2 x3 x4 x5 0 v51 g43 hf
    · refine r_if_ge_f 43 rfl 47 (ck DX7_tries_0 24 rfl) (by decide) c46 ?_
      refine r_iconst 44 rfl ic_1 (ck DX7_tries_0 25 rfl) ?_
      refine r_goto 48 (ck DX7_tries_0 26 rfl) (by decide) ?_
      refine r_istore (lv' := [(6, .int 1), (0, .ref (X.1 96)), (1, .int x1), (2, .int x2), (3, .int x3), (4, .int x4), (5, .int x5)]) 50 rfl (ck DX7_tries_0 28 rfl) (by decide) rfl ?_
      refine r_iload_n 51 rfl 2 rfl rfl (ck DX7_tries_0 29 rfl) ?_
      rcases if_so hf with ⟨c53, hf⟩ | ⟨c53, hf⟩
      · refine r_if_ne_t 54 rfl 63 (ck DX7_tries_0 30 rfl) (by decide) c53 ?_
        refine r_aload_n 55 rfl 1 rfl rfl (ck DX7_tries_0 31 rfl) ?_
        refine r_bipush 57 rfl bp_10 (ck DX7_tries_0 32 rfl) ?_
        obtain ⟨v56, g54, e55, hf⟩ := bd_so hf
        refine r_callVi 60 rfl (A_X7_wentThen X 10 g43 v56 g54 e55) (by omega) cw_X7_411 sh_96 cl_7 rfl rfl (Nat.le_of_ble_eq_true rfl) (ck DX7_tries_0 33 rfl) ?_
        refine r_goto 67 (ck DX7_tries_0 34 rfl) (by decide) ?_
        refine r_sub (lv' := [(0, .ref (X.1 96)), (1, .int x1), (2, .int x2), (3, .int x3), (4, .int x4), (5, .int x5), (6, .int 1)]) [1, 2, 3, 4, 5, 6, 0] rfl ?_
        exact A_X7_tries_J67 X _ x1 x2 x3 x4 x5 1 v56 g54 hf
      · refine r_if_ne_f 63 (ck DX7_tries_0 30 rfl) (by decide) c53 ?_
        refine r_aload_n 64 rfl 1 rfl rfl (ck DX7_tries_0 35 rfl) ?_
        obtain ⟨v57, e58, hf⟩ := bo_so hf
        refine r_callVi 67 rfl (A_X7_height X g43 v57 e58) (by omega) cw_X7_371 sh_96 cl_7 rfl rfl (Nat.le_of_ble_eq_true rfl) (ck DX7_tries_0 36 rfl) ?_
        refine r_sub (lv' := [(0, .ref (X.1 96)), (1, .int x1), (2, .int x2), (3, .int x3), (4, .int x4), (5, .int x5), (6, .int 1)]) [1, 2, 3, 4, 5, 6, 0] rfl ?_
        exact A_X7_tries_J67 X _ x1 x2 x3 x4 x5 1 v57 g43 hf
-- X7_layBest
def f_X7_layBest_L54 (rc7 : Int32 → Int32 → HP → Option HP) (rc26 : Int32 → Int32 → Int32 → HP → Option HP) : Nat → Int32 → Int32 → Int32 → Int32 → HP → Option HP
  | 0, _, _, _, _, _ => none
  | n + 1, x1, x2, x3, x4, h => if (h.1 96 0) ≤ x4 then (lt (x3 + 1 : Int32) fun v15 => rc26 x1 x2 v15 h) else (if x4 = x2 then (lt (x4 + 1 : Int32) fun v18 => f_X7_layBest_L54 rc7 rc26 n x1 x2 x3 v18 h) else (if x4 = x3 then (lt (x4 + 1 : Int32) fun v21 => f_X7_layBest_L54 rc7 rc26 n x1 x2 x3 v21 h) else (bo (f_X7_tries x1 3 x2 x3 x4 h) fun g23 => lt (x4 + 1 : Int32) fun v25 => f_X7_layBest_L54 rc7 rc26 n x1 x2 x3 v25 g23)))
set_option maxHeartbeats 4000000 in
set_option maxRecDepth 100000 in
theorem A_X7_layBest_L54 (X : XE) (rc7 : Int32 → Int32 → HP → Option HP) (rc26 : Int32 → Int32 → Int32 → HP → Option HP) (h' : HP) (hr7 : ∀ (x1 : Int32) (x2 : Int32) (h : HP), rc7 x1 x2 h = some h' → Run mX7_layBest 11 X 7 [(0, .ref (X.1 96)), (1, .int x1), (2, .int x2)] [] h none h') (hr26 : ∀ (x1 : Int32) (x2 : Int32) (x3 : Int32) (h : HP), rc26 x1 x2 x3 h = some h' → Run mX7_layBest 11 X 26 [(0, .ref (X.1 96)), (1, .int x1), (2, .int x2), (3, .int x3)] [] h none h') : ∀ (n : Nat) (x1 : Int32) (x2 : Int32) (x3 : Int32) (x4 : Int32) (h : HP), f_X7_layBest_L54 rc7 rc26 n x1 x2 x3 x4 h = some h' → Run mX7_layBest 11 X 54 [(0, .ref (X.1 96)), (1, .int x1), (2, .int x2), (3, .int x3), (4, .int x4)] [] h none h' := by
  intro n
  induction n with
  | zero => intro x1 x2 x3 x4 h hf; cases hf
  | succ n ih =>
    intro x1 x2 x3 x4 h hf
    rw [f_X7_layBest_L54] at hf
    refine r_iload 56 rfl 4 rfl (ck DX7_layBest_0 35 rfl) ?_
    refine r_aload_n 57 rfl 0 rfl rfl (ck DX7_layBest_0 36 rfl) ?_
    refine r_geti 60 rfl sh_96 kd_7_0 fl_X7_7 (ck DX7_layBest_0 37 rfl) ?_
    rcases if_so hf with ⟨c14, hf⟩ | ⟨c14, hf⟩
    · refine r_icmp_ge_t 91 (ck DX7_layBest_0 38 rfl) (by decide) c14 ?_
      obtain ⟨v15, e16, hf⟩ := lt_so hf
      refine r_iinc (lv' := [(3, .int v15), (0, .ref (X.1 96)), (1, .int x1), (2, .int x2), (4, .int x4)]) 94 rfl 3 (ck DX7_layBest_1 4 rfl) rfl (by rw [e16, ic_1]) (by decide) rfl ?_
      refine r_goto 26 (ck DX7_layBest_1 5 rfl) (by decide) ?_
      refine r_sub (lv' := [(0, .ref (X.1 96)), (1, .int x1), (2, .int x2), (3, .int v15)]) [1, 2, 3, 0] rfl ?_
      exact hr26 x1 x2 v15 h hf
    · refine r_icmp_ge_f 63 rfl 91 (ck DX7_layBest_0 38 rfl) (by decide) c14 ?_
      refine r_iload 65 rfl 4 rfl (ck DX7_layBest_0 39 rfl) ?_
      refine r_iload_n 66 rfl 2 rfl rfl (ck DX7_layBest_0 40 rfl) ?_
      rcases if_so hf with ⟨c17, hf⟩ | ⟨c17, hf⟩
      · refine r_icmp_eq_t 85 (ck DX7_layBest_0 41 rfl) (by decide) c17 ?_
        obtain ⟨v18, e19, hf⟩ := lt_so hf
        refine r_iinc (lv' := [(4, .int v18), (0, .ref (X.1 96)), (1, .int x1), (2, .int x2), (3, .int x3)]) 88 rfl 4 (ck DX7_layBest_1 2 rfl) rfl (by rw [e19, ic_1]) (by decide) rfl ?_
        refine r_goto 54 (ck DX7_layBest_1 3 rfl) (by decide) ?_
        refine r_sub (lv' := [(0, .ref (X.1 96)), (1, .int x1), (2, .int x2), (3, .int x3), (4, .int v18)]) [1, 2, 3, 4, 0] rfl ?_
        exact ih x1 x2 x3 v18 h hf
      · refine r_icmp_eq_f 69 rfl 85 (ck DX7_layBest_0 41 rfl) (by decide) c17 ?_
        refine r_iload 71 rfl 4 rfl (ck DX7_layBest_0 42 rfl) ?_
        refine r_iload_n 72 rfl 3 rfl rfl (ck DX7_layBest_0 43 rfl) ?_
        rcases if_so hf with ⟨c20, hf⟩ | ⟨c20, hf⟩
        · refine r_icmp_eq_t 85 (ck DX7_layBest_0 44 rfl) (by decide) c20 ?_
          obtain ⟨v21, e22, hf⟩ := lt_so hf
          refine r_iinc (lv' := [(4, .int v21), (0, .ref (X.1 96)), (1, .int x1), (2, .int x2), (3, .int x3)]) 88 rfl 4 (ck DX7_layBest_1 2 rfl) rfl (by rw [e22, ic_1]) (by decide) rfl ?_
          refine r_goto 54 (ck DX7_layBest_1 3 rfl) (by decide) ?_
          refine r_sub (lv' := [(0, .ref (X.1 96)), (1, .int x1), (2, .int x2), (3, .int x3), (4, .int v21)]) [1, 2, 3, 4, 0] rfl ?_
          exact ih x1 x2 x3 v21 h hf
        · refine r_icmp_eq_f 75 rfl 85 (ck DX7_layBest_0 44 rfl) (by decide) c20 ?_
          refine r_aload_n 76 rfl 0 rfl rfl (ck DX7_layBest_0 45 rfl) ?_
          refine r_iload_n 77 rfl 1 rfl rfl (ck DX7_layBest_0 46 rfl) ?_
          refine r_iconst 78 rfl ic_3 (ck DX7_layBest_0 47 rfl) ?_
          refine r_iload_n 79 rfl 2 rfl rfl (ck DX7_layBest_0 48 rfl) ?_
          refine r_iload_n 80 rfl 3 rfl rfl (ck DX7_layBest_0 49 rfl) ?_
          refine r_iload 82 rfl 4 rfl (ck DX7_layBest_1 0 rfl) ?_
          obtain ⟨g23, e24, hf⟩ := bo_so hf
          refine r_callVv 85 rfl (A_X7_tries X x1 3 x2 x3 x4 h g23 e24) (by omega) cw_X7_414 sh_96 cl_7 rfl rfl (Nat.le_of_ble_eq_true rfl) (ck DX7_layBest_1 1 rfl) ?_
          obtain ⟨v25, e26, hf⟩ := lt_so hf
          refine r_iinc (lv' := [(4, .int v25), (0, .ref (X.1 96)), (1, .int x1), (2, .int x2), (3, .int x3)]) 88 rfl 4 (ck DX7_layBest_1 2 rfl) rfl (by rw [e26, ic_1]) (by decide) rfl ?_
          refine r_goto 54 (ck DX7_layBest_1 3 rfl) (by decide) ?_
          refine r_sub (lv' := [(0, .ref (X.1 96)), (1, .int x1), (2, .int x2), (3, .int x3), (4, .int v25)]) [1, 2, 3, 4, 0] rfl ?_
          exact ih x1 x2 x3 v25 g23 hf
def f_X7_layBest_L26 (rc7 : Int32 → Int32 → HP → Option HP) : Nat → Int32 → Int32 → Int32 → HP → Option HP
  | 0, _, _, _, _ => none
  | n + 1, x1, x2, x3, h => if (h.1 96 0) ≤ x3 then (lt (x2 + 1 : Int32) fun v7 => rc7 x1 v7 h) else (if x3 = x2 then (lt (x3 + 1 : Int32) fun v10 => f_X7_layBest_L26 rc7 n x1 x2 v10 h) else (bo (f_X7_tries x1 2 x2 x3 0 h) fun g12 => f_X7_layBest_L54 rc7 (fun z0 z1 z2 z3 => f_X7_layBest_L26 rc7 n z0 z1 z2 z3) FZ x1 x2 x3 0 g12))
set_option maxHeartbeats 4000000 in
set_option maxRecDepth 100000 in
theorem A_X7_layBest_L26 (X : XE) (rc7 : Int32 → Int32 → HP → Option HP) (h' : HP) (hr7 : ∀ (x1 : Int32) (x2 : Int32) (h : HP), rc7 x1 x2 h = some h' → Run mX7_layBest 11 X 7 [(0, .ref (X.1 96)), (1, .int x1), (2, .int x2)] [] h none h') : ∀ (n : Nat) (x1 : Int32) (x2 : Int32) (x3 : Int32) (h : HP), f_X7_layBest_L26 rc7 n x1 x2 x3 h = some h' → Run mX7_layBest 11 X 26 [(0, .ref (X.1 96)), (1, .int x1), (2, .int x2), (3, .int x3)] [] h none h' := by
  intro n
  induction n with
  | zero => intro x1 x2 x3 h hf; cases hf
  | succ n ih =>
    intro x1 x2 x3 h hf
    rw [f_X7_layBest_L26] at hf
    refine r_iload_n 27 rfl 3 rfl rfl (ck DX7_layBest_0 18 rfl) ?_
    refine r_aload_n 28 rfl 0 rfl rfl (ck DX7_layBest_0 19 rfl) ?_
    refine r_geti 31 rfl sh_96 kd_7_0 fl_X7_7 (ck DX7_layBest_0 20 rfl) ?_
    rcases if_so hf with ⟨c6, hf⟩ | ⟨c6, hf⟩
    · refine r_icmp_ge_t 97 (ck DX7_layBest_0 21 rfl) (by decide) c6 ?_
      obtain ⟨v7, e8, hf⟩ := lt_so hf
      refine r_iinc (lv' := [(2, .int v7), (0, .ref (X.1 96)), (1, .int x1), (3, .int x3)]) 100 rfl 2 (ck DX7_layBest_1 6 rfl) rfl (by rw [e8, ic_1]) (by decide) rfl ?_
      refine r_goto 7 (ck DX7_layBest_1 7 rfl) (by decide) ?_
      refine r_sub (lv' := [(0, .ref (X.1 96)), (1, .int x1), (2, .int v7)]) [1, 2, 0] rfl ?_
      exact hr7 x1 v7 h hf
    · refine r_icmp_ge_f 34 rfl 97 (ck DX7_layBest_0 21 rfl) (by decide) c6 ?_
      refine r_iload_n 35 rfl 3 rfl rfl (ck DX7_layBest_0 22 rfl) ?_
      refine r_iload_n 36 rfl 2 rfl rfl (ck DX7_layBest_0 23 rfl) ?_
      rcases if_so hf with ⟨c9, hf⟩ | ⟨c9, hf⟩
      · refine r_icmp_ne_t 39 rfl 42 (ck DX7_layBest_0 24 rfl) (by decide) c9 ?_
        refine r_goto 91 (ck DX7_layBest_0 25 rfl) (by decide) ?_
        obtain ⟨v10, e11, hf⟩ := lt_so hf
        refine r_iinc (lv' := [(3, .int v10), (0, .ref (X.1 96)), (1, .int x1), (2, .int x2)]) 94 rfl 3 (ck DX7_layBest_1 4 rfl) rfl (by rw [e11, ic_1]) (by decide) rfl ?_
        refine r_goto 26 (ck DX7_layBest_1 5 rfl) (by decide) ?_
        refine r_sub (lv' := [(0, .ref (X.1 96)), (1, .int x1), (2, .int x2), (3, .int v10)]) [1, 2, 3, 0] rfl ?_
        exact ih x1 x2 v10 h hf
      · refine r_icmp_ne_f 42 (ck DX7_layBest_0 24 rfl) (by decide) c9 ?_
        refine r_aload_n 43 rfl 0 rfl rfl (ck DX7_layBest_0 26 rfl) ?_
        refine r_iload_n 44 rfl 1 rfl rfl (ck DX7_layBest_0 27 rfl) ?_
        refine r_iconst 45 rfl ic_2 (ck DX7_layBest_0 28 rfl) ?_
        refine r_iload_n 46 rfl 2 rfl rfl (ck DX7_layBest_0 29 rfl) ?_
        refine r_iload_n 47 rfl 3 rfl rfl (ck DX7_layBest_0 30 rfl) ?_
        refine r_iconst 48 rfl ic_0 (ck DX7_layBest_0 31 rfl) ?_
        obtain ⟨g12, e13, hf⟩ := bo_so hf
        refine r_callVv 51 rfl (A_X7_tries X x1 2 x2 x3 0 h g12 e13) (by omega) cw_X7_414 sh_96 cl_7 rfl rfl (Nat.le_of_ble_eq_true rfl) (ck DX7_layBest_0 32 rfl) ?_
        refine r_iconst 52 rfl ic_0 (ck DX7_layBest_0 33 rfl) ?_
        refine r_istore (lv' := [(4, .int 0), (0, .ref (X.1 96)), (1, .int x1), (2, .int x2), (3, .int x3)]) 54 rfl (ck DX7_layBest_0 34 rfl) (by decide) rfl ?_
        refine r_sub (lv' := [(0, .ref (X.1 96)), (1, .int x1), (2, .int x2), (3, .int x3), (4, .int 0)]) [1, 2, 3, 4, 0] rfl ?_
        exact A_X7_layBest_L54 X rc7 (fun z0 z1 z2 z3 => f_X7_layBest_L26 rc7 n z0 z1 z2 z3) _ hr7 ih FZ x1 x2 x3 0 g12 hf
def f_X7_layBest_L7 : Nat → Int32 → Int32 → HP → Option HP
  | 0, _, _, _ => none
  | n + 1, x1, x2, h => if (h.1 96 0) ≤ x2 then (some h) else (bo (f_X7_tries x1 1 x2 0 0 h) fun g4 => f_X7_layBest_L26 (fun z0 z1 z2 => f_X7_layBest_L7 n z0 z1 z2) FZ x1 x2 0 g4)
set_option maxHeartbeats 4000000 in
set_option maxRecDepth 100000 in
theorem A_X7_layBest_L7 (X : XE) (h' : HP) : ∀ (n : Nat) (x1 : Int32) (x2 : Int32) (h : HP), f_X7_layBest_L7 n x1 x2 h = some h' → Run mX7_layBest 11 X 7 [(0, .ref (X.1 96)), (1, .int x1), (2, .int x2)] [] h none h' := by
  intro n
  induction n with
  | zero => intro x1 x2 h hf; cases hf
  | succ n ih =>
    intro x1 x2 h hf
    rw [f_X7_layBest_L7] at hf
    refine r_iload_n 8 rfl 2 rfl rfl (ck DX7_layBest_0 5 rfl) ?_
    refine r_aload_n 9 rfl 0 rfl rfl (ck DX7_layBest_0 6 rfl) ?_
    refine r_geti 12 rfl sh_96 kd_7_0 fl_X7_7 (ck DX7_layBest_0 7 rfl) ?_
    rcases if_so hf with ⟨c3, hf⟩ | ⟨c3, hf⟩
    · refine r_icmp_ge_t 103 (ck DX7_layBest_0 8 rfl) (by decide) c3 ?_
      obtain rfl := so1 hf
      exact r_vret rfl (ck DX7_layBest_1 8 rfl)
    · refine r_icmp_ge_f 15 rfl 103 (ck DX7_layBest_0 8 rfl) (by decide) c3 ?_
      refine r_aload_n 16 rfl 0 rfl rfl (ck DX7_layBest_0 9 rfl) ?_
      refine r_iload_n 17 rfl 1 rfl rfl (ck DX7_layBest_0 10 rfl) ?_
      refine r_iconst 18 rfl ic_1 (ck DX7_layBest_0 11 rfl) ?_
      refine r_iload_n 19 rfl 2 rfl rfl (ck DX7_layBest_0 12 rfl) ?_
      refine r_iconst 20 rfl ic_0 (ck DX7_layBest_0 13 rfl) ?_
      refine r_iconst 21 rfl ic_0 (ck DX7_layBest_0 14 rfl) ?_
      obtain ⟨g4, e5, hf⟩ := bo_so hf
      refine r_callVv 24 rfl (A_X7_tries X x1 1 x2 0 0 h g4 e5) (by omega) cw_X7_414 sh_96 cl_7 rfl rfl (Nat.le_of_ble_eq_true rfl) (ck DX7_layBest_0 15 rfl) ?_
      refine r_iconst 25 rfl ic_0 (ck DX7_layBest_0 16 rfl) ?_
      refine r_istore_n (lv' := [(3, .int 0), (0, .ref (X.1 96)), (1, .int x1), (2, .int x2)]) 26 rfl (ck DX7_layBest_0 17 rfl) (by decide) rfl rfl ?_
      refine r_sub (lv' := [(0, .ref (X.1 96)), (1, .int x1), (2, .int x2), (3, .int 0)]) [1, 2, 3, 0] rfl ?_
      exact A_X7_layBest_L26 X (fun z0 z1 z2 => f_X7_layBest_L7 n z0 z1 z2) _ ih FZ x1 x2 0 g4 hf
def f_X7_layBest (x1 : Int32) (h : HP) : Option HP := lt (si h 96 45 0) fun g1 => f_X7_layBest_L7 FZ x1 0 g1
set_option maxHeartbeats 4000000 in
set_option maxRecDepth 100000 in
theorem A_X7_layBest (X : XE) (x1 : Int32) (h : HP) (h' : HP) (hf : f_X7_layBest x1 h = some h') : CC mX7_layBest 11 X [.ref (X.1 96), .int x1] h none h' := by
  refine CC_of rfl (Nat.le_of_ble_eq_true rfl) ?_
  show Run mX7_layBest 11 X 0 [(0, .ref (X.1 96)), (1, .int x1)] [] h none h'
  unfold f_X7_layBest at hf
  refine r_aload_n 1 rfl 0 rfl rfl (ck DX7_layBest_0 0 rfl) ?_
  refine r_iconst 2 rfl ic_0 (ck DX7_layBest_0 1 rfl) ?_
  obtain ⟨g1, e2, hf⟩ := lt_so hf
  refine r_puti 5 rfl sh_96 kd_7_45 fw_X7_148 rfl rfl (ck DX7_layBest_0 2 rfl) ?_
  refine r_heap e2 ?_
  refine r_iconst 6 rfl ic_0 (ck DX7_layBest_0 3 rfl) ?_
  refine r_istore_n (lv' := [(2, .int 0), (0, .ref (X.1 96)), (1, .int x1)]) 7 rfl (ck DX7_layBest_0 4 rfl) (by decide) rfl rfl ?_
  refine r_sub (lv' := [(0, .ref (X.1 96)), (1, .int x1), (2, .int 0)]) [1, 2, 0] rfl ?_
  exact A_X7_layBest_L7 X _ FZ x1 0 g1 hf
-- X7_best
def f_X7_best (x1 : Int32) (x2 : Int32) (h : HP) : Option (Int32 × HP) := bo (f_X7_in x1 0 1) fun v1 => if v1 = 0 then (some ((-1), h)) else (bo (f_X7_in x2 0 3) fun v4 => if v4 = 0 then (some ((-1), h)) else (bo (f_X7_layBest x1 h) fun g7 => if x2 = 3 then (if (g7.1 96 45) = 0 then (some ((-5), g7)) else (some ((g7.1 96 46), g7))) else (if (g7.1 96 45) ≤ x2 then (some ((-5), g7)) else (gd (inb x2 3) (some ((g7.1 119 (Int32.toNatClampNeg x2)), g7))))))
set_option maxHeartbeats 4000000 in
set_option maxRecDepth 100000 in
theorem A_X7_best (X : XE) (x1 : Int32) (x2 : Int32) (h : HP) (r : Int32) (h' : HP) (hf : f_X7_best x1 x2 h = some (r, h')) : CC mX7_best 12 X [.ref (X.1 96), .int x1, .int x2] h (some (.int r)) h' := by
  refine CC_of rfl (Nat.le_of_ble_eq_true rfl) ?_
  show Run mX7_best 12 X 0 [(0, .ref (X.1 96)), (1, .int x1), (2, .int x2)] [] h (some (.int r)) h'
  unfold f_X7_best at hf
  refine r_aload_n 1 rfl 0 rfl rfl (ck DX7_best_0 0 rfl) ?_
  refine r_iload_n 2 rfl 1 rfl rfl (ck DX7_best_0 1 rfl) ?_
  refine r_iconst 3 rfl ic_0 (ck DX7_best_0 2 rfl) ?_
  refine r_iconst 4 rfl ic_1 (ck DX7_best_0 3 rfl) ?_
  obtain ⟨v1, e2, hf⟩ := bo_so hf
  refine r_callVi 7 rfl (A_X7_in X x1 0 1 h v1 e2) (by omega) cw_X7_276 sh_96 cl_7 rfl rfl (Nat.le_of_ble_eq_true rfl) (ck DX7_best_0 4 rfl) ?_
  rcases if_so hf with ⟨c3, hf⟩ | ⟨c3, hf⟩
  · refine r_if_eq_t 20 (ck DX7_best_0 5 rfl) (by decide) c3 ?_
    refine r_iconst 21 rfl ic_m1 (ck DX7_best_0 12 rfl) ?_
    obtain ⟨rfl, rfl⟩ := so2 hf
    exact r_iret rfl rfl (ck DX7_best_0 13 rfl)
  · refine r_if_eq_f 10 rfl 20 (ck DX7_best_0 5 rfl) (by decide) c3 ?_
    refine r_aload_n 11 rfl 0 rfl rfl (ck DX7_best_0 6 rfl) ?_
    refine r_iload_n 12 rfl 2 rfl rfl (ck DX7_best_0 7 rfl) ?_
    refine r_iconst 13 rfl ic_0 (ck DX7_best_0 8 rfl) ?_
    refine r_iconst 14 rfl ic_3 (ck DX7_best_0 9 rfl) ?_
    obtain ⟨v4, e5, hf⟩ := bo_so hf
    refine r_callVi 17 rfl (A_X7_in X x2 0 3 h v4 e5) (by omega) cw_X7_276 sh_96 cl_7 rfl rfl (Nat.le_of_ble_eq_true rfl) (ck DX7_best_0 10 rfl) ?_
    rcases if_so hf with ⟨c6, hf⟩ | ⟨c6, hf⟩
    · refine r_if_ne_t 20 rfl 22 (ck DX7_best_0 11 rfl) (by decide) c6 ?_
      refine r_iconst 21 rfl ic_m1 (ck DX7_best_0 12 rfl) ?_
      obtain ⟨rfl, rfl⟩ := so2 hf
      exact r_iret rfl rfl (ck DX7_best_0 13 rfl)
    · refine r_if_ne_f 22 (ck DX7_best_0 11 rfl) (by decide) c6 ?_
      refine r_aload_n 23 rfl 0 rfl rfl (ck DX7_best_0 14 rfl) ?_
      refine r_iload_n 24 rfl 1 rfl rfl (ck DX7_best_0 15 rfl) ?_
      obtain ⟨g7, e8, hf⟩ := bo_so hf
      refine r_callVv 27 rfl (A_X7_layBest X x1 h g7 e8) (by omega) cw_X7_418 sh_96 cl_7 rfl rfl (Nat.le_of_ble_eq_true rfl) (ck DX7_best_0 16 rfl) ?_
      refine r_iload_n 28 rfl 2 rfl rfl (ck DX7_best_0 17 rfl) ?_
      refine r_iconst 29 rfl ic_3 (ck DX7_best_0 18 rfl) ?_
      rcases if_so hf with ⟨c9, hf⟩ | ⟨c9, hf⟩
      · refine r_icmp_ne_t 32 rfl 49 (ck DX7_best_0 19 rfl) (by decide) c9 ?_
        refine r_aload_n 33 rfl 0 rfl rfl (ck DX7_best_0 20 rfl) ?_
        refine r_geti 36 rfl sh_96 kd_7_45 fl_X7_148 (ck DX7_best_0 21 rfl) ?_
        rcases if_so hf with ⟨c10, hf⟩ | ⟨c10, hf⟩
        · refine r_if_ne_t 39 rfl 44 (ck DX7_best_0 22 rfl) (by decide) c10 ?_
          refine r_bipush 41 rfl bp_m5 (ck DX7_best_0 23 rfl) ?_
          refine r_goto 48 (ck DX7_best_0 24 rfl) (by decide) ?_
          obtain ⟨rfl, rfl⟩ := so2 hf
          exact r_iret rfl rfl (ck DX7_best_0 27 rfl)
        · refine r_if_ne_f 44 (ck DX7_best_0 22 rfl) (by decide) c10 ?_
          refine r_aload_n 45 rfl 0 rfl rfl (ck DX7_best_0 25 rfl) ?_
          refine r_geti 48 rfl sh_96 kd_7_46 fl_X7_151 (ck DX7_best_0 26 rfl) ?_
          obtain ⟨rfl, rfl⟩ := so2 hf
          exact r_iret rfl rfl (ck DX7_best_0 27 rfl)
      · refine r_icmp_ne_f 49 (ck DX7_best_0 19 rfl) (by decide) c9 ?_
        refine r_iload_n 50 rfl 2 rfl rfl (ck DX7_best_0 28 rfl) ?_
        refine r_aload_n 51 rfl 0 rfl rfl (ck DX7_best_0 29 rfl) ?_
        refine r_geti 54 rfl sh_96 kd_7_45 fl_X7_148 (ck DX7_best_0 30 rfl) ?_
        rcases if_so hf with ⟨c11, hf⟩ | ⟨c11, hf⟩
        · refine r_icmp_ge_t 66 (ck DX7_best_0 31 rfl) (by decide) c11 ?_
          refine r_bipush 68 rfl bp_m5 (ck DX7_best_0 37 rfl) ?_
          obtain ⟨rfl, rfl⟩ := so2 hf
          exact r_iret rfl rfl (ck DX7_best_0 38 rfl)
        · refine r_icmp_ge_f 57 rfl 66 (ck DX7_best_0 31 rfl) (by decide) c11 ?_
          refine r_aload_n 58 rfl 0 rfl rfl (ck DX7_best_0 32 rfl) ?_
          refine r_getr (q := 119) 61 rfl (lq_7_44) sh_96 kd_7_44 fl_X7_145 (ck DX7_best_0 33 rfl) ?_
          refine r_iload_n 62 rfl 2 rfl rfl (ck DX7_best_0 34 rfl) ?_
          obtain ⟨b12, hf⟩ := gd_so hf
          refine r_iald 63 rfl sh_119 (inb_vp b12) (ck DX7_best_0 35 rfl) ?_
          refine r_goto 68 (ck DX7_best_0 36 rfl) (by decide) ?_
          obtain ⟨rfl, rfl⟩ := so2 hf
          exact r_iret rfl rfl (ck DX7_best_0 38 rfl)
-- X7_layOrder
def f_X7_layOrder_L96 (rc36 : Int32 → HP → Option (Int32 × HP)) : Nat → Int32 → Int32 → Int32 → HP → Option (Int32 × HP)
  | 0, _, _, _, _ => none
  | n + 1, x3, x4, x5, h => if x3 ≤ x5 then (if x4 = 0 then (some (0, h)) else (lt (x3 + 1 : Int32) fun v8 => rc36 v8 h)) else (if x4 = 0 then (lt (x5 + 1 : Int32) fun v11 => f_X7_layOrder_L96 rc36 n x3 0 v11 h) else (gd (inb x5 3) (gd (inb x3 3) (if (h.1 103 (Int32.toNatClampNeg x5)) = (h.1 103 (Int32.toNatClampNeg x3)) then (lt (x5 + 1 : Int32) fun v16 => f_X7_layOrder_L96 rc36 n x3 0 v16 h) else (lt (x5 + 1 : Int32) fun v18 => f_X7_layOrder_L96 rc36 n x3 1 v18 h)))))
set_option maxHeartbeats 4000000 in
set_option maxRecDepth 100000 in
theorem A_X7_layOrder_L96 (X : XE) (rc36 : Int32 → HP → Option (Int32 × HP)) (r : Int32) (h' : HP) (hr36 : ∀ (x3 : Int32) (h : HP), rc36 x3 h = some (r, h') → Run mX7_layOrder 1 X 36 [(0, .ref (X.1 96)), (3, .int x3)] [] h (some (.int r)) h') : ∀ (n : Nat) (x3 : Int32) (x4 : Int32) (x5 : Int32) (h : HP), f_X7_layOrder_L96 rc36 n x3 x4 x5 h = some (r, h') → Run mX7_layOrder 1 X 96 [(0, .ref (X.1 96)), (3, .int x3), (4, .int x4), (5, .int x5)] [] h (some (.int r)) h' := by
  intro n
  induction n with
  | zero => intro x3 x4 x5 h hf; cases hf
  | succ n ih =>
    intro x3 x4 x5 h hf
    rw [f_X7_layOrder_L96] at hf
    refine r_iload 98 rfl 3 rfl (ck DX7_layOrder_1 5 rfl) ?_
    refine r_iload_n 99 rfl 1 rfl rfl (ck DX7_layOrder_1 6 rfl) ?_
    rcases if_so hf with ⟨c6, hf⟩ | ⟨c6, hf⟩
    · refine r_icmp_ge_t 136 (ck DX7_layOrder_1 7 rfl) (by decide) c6 ?_
      refine r_iload 138 rfl 2 rfl (ck DX7_layOrder_1 25 rfl) ?_
      rcases if_so hf with ⟨c7, hf⟩ | ⟨c7, hf⟩
      · refine r_if_ne_t 141 rfl 143 (ck DX7_layOrder_1 26 rfl) (by decide) c7 ?_
        refine r_iconst 142 rfl ic_0 (ck DX7_layOrder_1 27 rfl) ?_
        obtain ⟨rfl, rfl⟩ := so2 hf
        exact r_iret rfl rfl (ck DX7_layOrder_1 28 rfl)
      · refine r_if_ne_f 143 (ck DX7_layOrder_1 26 rfl) (by decide) c7 ?_
        obtain ⟨v8, e9, hf⟩ := lt_so hf
        refine r_iinc (lv' := [(3, .int v8), (0, .ref (X.1 96)), (4, .int x4), (5, .int x5)]) 146 rfl 1 (ck DX7_layOrder_1 29 rfl) rfl (by rw [e9, ic_1]) (by decide) rfl ?_
        refine r_goto 36 (ck DX7_layOrder_1 30 rfl) (by decide) ?_
        refine r_sub (lv' := [(0, .ref (X.1 96)), (3, .int v8)]) [1, 0] rfl ?_
        exact hr36 v8 h hf
    · refine r_icmp_ge_f 102 rfl 136 (ck DX7_layOrder_1 7 rfl) (by decide) c6 ?_
      refine r_iload 104 rfl 2 rfl (ck DX7_layOrder_1 8 rfl) ?_
      rcases if_so hf with ⟨c10, hf⟩ | ⟨c10, hf⟩
      · refine r_if_eq_t 127 (ck DX7_layOrder_1 9 rfl) (by decide) c10 ?_
        refine r_iconst 128 rfl ic_0 (ck DX7_layOrder_1 21 rfl) ?_
        refine r_istore (lv' := [(4, .int 0), (0, .ref (X.1 96)), (3, .int x3), (5, .int x5)]) 130 rfl (ck DX7_layOrder_1 22 rfl) (by decide) rfl ?_
        obtain ⟨v11, e12, hf⟩ := lt_so hf
        refine r_iinc (lv' := [(5, .int v11), (4, .int 0), (0, .ref (X.1 96)), (3, .int x3)]) 133 rfl 3 (ck DX7_layOrder_1 23 rfl) rfl (by rw [e12, ic_1]) (by decide) rfl ?_
        refine r_goto 96 (ck DX7_layOrder_1 24 rfl) (by decide) ?_
        refine r_sub (lv' := [(0, .ref (X.1 96)), (3, .int x3), (4, .int 0), (5, .int v11)]) [2, 3, 1, 0] rfl ?_
        exact ih x3 0 v11 h hf
      · refine r_if_eq_f 107 rfl 127 (ck DX7_layOrder_1 9 rfl) (by decide) c10 ?_
        refine r_aload_n 108 rfl 0 rfl rfl (ck DX7_layOrder_1 10 rfl) ?_
        refine r_getr (q := 103) 111 rfl (lq_7_12) sh_96 kd_7_12 fl_X7_47 (ck DX7_layOrder_1 11 rfl) ?_
        refine r_iload 113 rfl 3 rfl (ck DX7_layOrder_1 12 rfl) ?_
        obtain ⟨b13, hf⟩ := gd_so hf
        refine r_iald 114 rfl sh_103 (inb_vp b13) (ck DX7_layOrder_1 13 rfl) ?_
        refine r_aload_n 115 rfl 0 rfl rfl (ck DX7_layOrder_1 14 rfl) ?_
        refine r_getr (q := 103) 118 rfl (lq_7_12) sh_96 kd_7_12 fl_X7_47 (ck DX7_layOrder_1 15 rfl) ?_
        refine r_iload_n 119 rfl 1 rfl rfl (ck DX7_layOrder_1 16 rfl) ?_
        obtain ⟨b14, hf⟩ := gd_so hf
        refine r_iald 120 rfl sh_103 (inb_vp b14) (ck DX7_layOrder_1 17 rfl) ?_
        rcases if_so hf with ⟨c15, hf⟩ | ⟨c15, hf⟩
        · refine r_icmp_eq_t 127 (ck DX7_layOrder_1 18 rfl) (by decide) c15 ?_
          refine r_iconst 128 rfl ic_0 (ck DX7_layOrder_1 21 rfl) ?_
          refine r_istore (lv' := [(4, .int 0), (0, .ref (X.1 96)), (3, .int x3), (5, .int x5)]) 130 rfl (ck DX7_layOrder_1 22 rfl) (by decide) rfl ?_
          obtain ⟨v16, e17, hf⟩ := lt_so hf
          refine r_iinc (lv' := [(5, .int v16), (4, .int 0), (0, .ref (X.1 96)), (3, .int x3)]) 133 rfl 3 (ck DX7_layOrder_1 23 rfl) rfl (by rw [e17, ic_1]) (by decide) rfl ?_
          refine r_goto 96 (ck DX7_layOrder_1 24 rfl) (by decide) ?_
          refine r_sub (lv' := [(0, .ref (X.1 96)), (3, .int x3), (4, .int 0), (5, .int v16)]) [2, 3, 1, 0] rfl ?_
          exact ih x3 0 v16 h hf
        · refine r_icmp_eq_f 123 rfl 127 (ck DX7_layOrder_1 18 rfl) (by decide) c15 ?_
          refine r_iconst 124 rfl ic_1 (ck DX7_layOrder_1 19 rfl) ?_
          refine r_goto 128 (ck DX7_layOrder_1 20 rfl) (by decide) ?_
          refine r_istore (lv' := [(4, .int 1), (0, .ref (X.1 96)), (3, .int x3), (5, .int x5)]) 130 rfl (ck DX7_layOrder_1 22 rfl) (by decide) rfl ?_
          obtain ⟨v18, e19, hf⟩ := lt_so hf
          refine r_iinc (lv' := [(5, .int v18), (4, .int 1), (0, .ref (X.1 96)), (3, .int x3)]) 133 rfl 3 (ck DX7_layOrder_1 23 rfl) rfl (by rw [e19, ic_1]) (by decide) rfl ?_
          refine r_goto 96 (ck DX7_layOrder_1 24 rfl) (by decide) ?_
          refine r_sub (lv' := [(0, .ref (X.1 96)), (3, .int x3), (4, .int 1), (5, .int v18)]) [2, 3, 1, 0] rfl ?_
          exact ih x3 1 v18 h hf
def f_X7_layOrder_L50 (rc36 : Int32 → HP → Option (Int32 × HP)) : Nat → Int32 → Int32 → Int32 → HP → Option (Int32 × HP)
  | 0, _, _, _, _ => none
  | n + 1, x3, x4, x5, h => if (h.1 96 34) ≤ x5 then (f_X7_layOrder_L96 rc36 FZ x3 x4 0 h) else (if x4 = 0 then (gd (inb x5 3) (gd (inb x3 3) (if (h.1 118 (Int32.toNatClampNeg x5)) = (h.1 103 (Int32.toNatClampNeg x3)) then (lt (x5 + 1 : Int32) fun v24 => f_X7_layOrder_L50 rc36 n x3 1 v24 h) else (lt (x5 + 1 : Int32) fun v26 => f_X7_layOrder_L50 rc36 n x3 0 v26 h)))) else (lt (x5 + 1 : Int32) fun v28 => f_X7_layOrder_L50 rc36 n x3 1 v28 h))
set_option maxHeartbeats 4000000 in
set_option maxRecDepth 100000 in
theorem A_X7_layOrder_L50 (X : XE) (rc36 : Int32 → HP → Option (Int32 × HP)) (r : Int32) (h' : HP) (hr36 : ∀ (x3 : Int32) (h : HP), rc36 x3 h = some (r, h') → Run mX7_layOrder 1 X 36 [(0, .ref (X.1 96)), (3, .int x3)] [] h (some (.int r)) h') : ∀ (n : Nat) (x3 : Int32) (x4 : Int32) (x5 : Int32) (h : HP), f_X7_layOrder_L50 rc36 n x3 x4 x5 h = some (r, h') → Run mX7_layOrder 1 X 50 [(0, .ref (X.1 96)), (3, .int x3), (4, .int x4), (5, .int x5)] [] h (some (.int r)) h' := by
  intro n
  induction n with
  | zero => intro x3 x4 x5 h hf; cases hf
  | succ n ih =>
    intro x3 x4 x5 h hf
    rw [f_X7_layOrder_L50] at hf
    refine r_iload 52 rfl 3 rfl (ck DX7_layOrder_0 32 rfl) ?_
    refine r_aload_n 53 rfl 0 rfl rfl (ck DX7_layOrder_0 33 rfl) ?_
    refine r_geti 56 rfl sh_96 kd_7_34 fl_X7_115 (ck DX7_layOrder_0 34 rfl) ?_
    rcases if_so hf with ⟨c5, hf⟩ | ⟨c5, hf⟩
    · refine r_icmp_ge_t 93 (ck DX7_layOrder_0 35 rfl) (by decide) c5 ?_
      refine r_iconst 94 rfl ic_0 (ck DX7_layOrder_1 3 rfl) ?_
      refine r_istore (lv' := [(5, .int 0), (0, .ref (X.1 96)), (3, .int x3), (4, .int x4)]) 96 rfl (ck DX7_layOrder_1 4 rfl) (by decide) rfl ?_
      refine r_sub (lv' := [(0, .ref (X.1 96)), (3, .int x3), (4, .int x4), (5, .int 0)]) [1, 2, 3, 0] rfl ?_
      exact A_X7_layOrder_L96 X rc36 _ _ hr36 FZ x3 x4 0 h hf
    · refine r_icmp_ge_f 59 rfl 93 (ck DX7_layOrder_0 35 rfl) (by decide) c5 ?_
      refine r_iload 61 rfl 2 rfl (ck DX7_layOrder_0 36 rfl) ?_
      rcases if_so hf with ⟨c20, hf⟩ | ⟨c20, hf⟩
      · refine r_if_ne_t 64 rfl 80 (ck DX7_layOrder_0 37 rfl) (by decide) c20 ?_
        refine r_aload_n 65 rfl 0 rfl rfl (ck DX7_layOrder_0 38 rfl) ?_
        refine r_getr (q := 118) 68 rfl (lq_7_42) sh_96 kd_7_42 fl_X7_139 (ck DX7_layOrder_0 39 rfl) ?_
        refine r_iload 70 rfl 3 rfl (ck DX7_layOrder_0 40 rfl) ?_
        obtain ⟨b21, hf⟩ := gd_so hf
        refine r_iald 71 rfl sh_118 (inb_vp b21) (ck DX7_layOrder_0 41 rfl) ?_
        refine r_aload_n 72 rfl 0 rfl rfl (ck DX7_layOrder_0 42 rfl) ?_
        refine r_getr (q := 103) 75 rfl (lq_7_12) sh_96 kd_7_12 fl_X7_47 (ck DX7_layOrder_0 43 rfl) ?_
        refine r_iload_n 76 rfl 1 rfl rfl (ck DX7_layOrder_0 44 rfl) ?_
        obtain ⟨b22, hf⟩ := gd_so hf
        refine r_iald 77 rfl sh_103 (inb_vp b22) (ck DX7_layOrder_0 45 rfl) ?_
        rcases if_so hf with ⟨c23, hf⟩ | ⟨c23, hf⟩
        · refine r_icmp_ne_t 80 rfl 84 (ck DX7_layOrder_0 46 rfl) (by decide) c23 ?_
          refine r_iconst 81 rfl ic_1 (ck DX7_layOrder_0 47 rfl) ?_
          refine r_goto 85 (ck DX7_layOrder_0 48 rfl) (by decide) ?_
          refine r_istore (lv' := [(4, .int 1), (0, .ref (X.1 96)), (3, .int x3), (5, .int x5)]) 87 rfl (ck DX7_layOrder_1 0 rfl) (by decide) rfl ?_
          obtain ⟨v24, e25, hf⟩ := lt_so hf
          refine r_iinc (lv' := [(5, .int v24), (4, .int 1), (0, .ref (X.1 96)), (3, .int x3)]) 90 rfl 3 (ck DX7_layOrder_1 1 rfl) rfl (by rw [e25, ic_1]) (by decide) rfl ?_
          refine r_goto 50 (ck DX7_layOrder_1 2 rfl) (by decide) ?_
          refine r_sub (lv' := [(0, .ref (X.1 96)), (3, .int x3), (4, .int 1), (5, .int v24)]) [2, 3, 1, 0] rfl ?_
          exact ih x3 1 v24 h hf
        · refine r_icmp_ne_f 84 (ck DX7_layOrder_0 46 rfl) (by decide) c23 ?_
          refine r_iconst 85 rfl ic_0 (ck DX7_layOrder_0 49 rfl) ?_
          refine r_istore (lv' := [(4, .int 0), (0, .ref (X.1 96)), (3, .int x3), (5, .int x5)]) 87 rfl (ck DX7_layOrder_1 0 rfl) (by decide) rfl ?_
          obtain ⟨v26, e27, hf⟩ := lt_so hf
          refine r_iinc (lv' := [(5, .int v26), (4, .int 0), (0, .ref (X.1 96)), (3, .int x3)]) 90 rfl 3 (ck DX7_layOrder_1 1 rfl) rfl (by rw [e27, ic_1]) (by decide) rfl ?_
          refine r_goto 50 (ck DX7_layOrder_1 2 rfl) (by decide) ?_
          refine r_sub (lv' := [(0, .ref (X.1 96)), (3, .int x3), (4, .int 0), (5, .int v26)]) [2, 3, 1, 0] rfl ?_
          exact ih x3 0 v26 h hf
      · refine r_if_ne_f 80 (ck DX7_layOrder_0 37 rfl) (by decide) c20 ?_
        refine r_iconst 81 rfl ic_1 (ck DX7_layOrder_0 47 rfl) ?_
        refine r_goto 85 (ck DX7_layOrder_0 48 rfl) (by decide) ?_
        refine r_istore (lv' := [(4, .int 1), (0, .ref (X.1 96)), (3, .int x3), (5, .int x5)]) 87 rfl (ck DX7_layOrder_1 0 rfl) (by decide) rfl ?_
        obtain ⟨v28, e29, hf⟩ := lt_so hf
        refine r_iinc (lv' := [(5, .int v28), (4, .int 1), (0, .ref (X.1 96)), (3, .int x3)]) 90 rfl 3 (ck DX7_layOrder_1 1 rfl) rfl (by rw [e29, ic_1]) (by decide) rfl ?_
        refine r_goto 50 (ck DX7_layOrder_1 2 rfl) (by decide) ?_
        refine r_sub (lv' := [(0, .ref (X.1 96)), (3, .int x3), (4, .int 1), (5, .int v28)]) [2, 3, 1, 0] rfl ?_
        exact ih x3 1 v28 h hf
def f_X7_layOrder_L36 : Nat → Int32 → HP → Option (Int32 × HP)
  | 0, _, _ => none
  | n + 1, x3, h => if (h.1 96 34) ≤ x3 then (some (1, h)) else (f_X7_layOrder_L50 (fun z0 z1 => f_X7_layOrder_L36 n z0 z1) FZ x3 0 0 h)
set_option maxHeartbeats 4000000 in
set_option maxRecDepth 100000 in
theorem A_X7_layOrder_L36 (X : XE) (r : Int32) (h' : HP) : ∀ (n : Nat) (x3 : Int32) (h : HP), f_X7_layOrder_L36 n x3 h = some (r, h') → Run mX7_layOrder 1 X 36 [(0, .ref (X.1 96)), (3, .int x3)] [] h (some (.int r)) h' := by
  intro n
  induction n with
  | zero => intro x3 h hf; cases hf
  | succ n ih =>
    intro x3 h hf
    rw [f_X7_layOrder_L36] at hf
    refine r_iload_n 37 rfl 1 rfl rfl (ck DX7_layOrder_0 24 rfl) ?_
    refine r_aload_n 38 rfl 0 rfl rfl (ck DX7_layOrder_0 25 rfl) ?_
    refine r_geti 41 rfl sh_96 kd_7_34 fl_X7_115 (ck DX7_layOrder_0 26 rfl) ?_
    rcases if_so hf with ⟨c4, hf⟩ | ⟨c4, hf⟩
    · refine r_icmp_ge_t 149 (ck DX7_layOrder_0 27 rfl) (by decide) c4 ?_
      refine r_iconst 150 rfl ic_1 (ck DX7_layOrder_1 31 rfl) ?_
      obtain ⟨rfl, rfl⟩ := so2 hf
      exact r_iret rfl rfl (ck DX7_layOrder_1 32 rfl)
    · refine r_icmp_ge_f 44 rfl 149 (ck DX7_layOrder_0 27 rfl) (by decide) c4 ?_
      refine r_iconst 45 rfl ic_0 (ck DX7_layOrder_0 28 rfl) ?_
      refine r_istore (lv' := [(4, .int 0), (0, .ref (X.1 96)), (3, .int x3)]) 47 rfl (ck DX7_layOrder_0 29 rfl) (by decide) rfl ?_
      refine r_iconst 48 rfl ic_0 (ck DX7_layOrder_0 30 rfl) ?_
      refine r_istore (lv' := [(5, .int 0), (4, .int 0), (0, .ref (X.1 96)), (3, .int x3)]) 50 rfl (ck DX7_layOrder_0 31 rfl) (by decide) rfl ?_
      refine r_sub (lv' := [(0, .ref (X.1 96)), (3, .int x3), (4, .int 0), (5, .int 0)]) [2, 3, 1, 0] rfl ?_
      exact A_X7_layOrder_L50 X (fun z0 z1 => f_X7_layOrder_L36 n z0 z1) _ _ ih FZ x3 0 0 h hf
def f_X7_layOrder_L9 : Nat → Int32 → Int32 → HP → Option (Int32 × HP)
  | 0, _, _, _ => none
  | n + 1, x2, x3, h => if x3 < 0 then (f_X7_layOrder_L36 FZ 0 h) else (gd (inb x3 3) (lt (si h 103 (Int32.toNatClampNeg x3) (x2 - x2 / 6 * 6)) fun g31 => lt ((x2 / 6) : Int32) fun v33 => lt (x3 + (-1) : Int32) fun v35 => f_X7_layOrder_L9 n v33 v35 g31))
set_option maxHeartbeats 4000000 in
set_option maxRecDepth 100000 in
theorem A_X7_layOrder_L9 (X : XE) (r : Int32) (h' : HP) : ∀ (n : Nat) (x2 : Int32) (x3 : Int32) (h : HP), f_X7_layOrder_L9 n x2 x3 h = some (r, h') → Run mX7_layOrder 1 X 9 [(0, .ref (X.1 96)), (2, .int x2), (3, .int x3)] [] h (some (.int r)) h' := by
  intro n
  induction n with
  | zero => intro x2 x3 h hf; cases hf
  | succ n ih =>
    intro x2 x3 h hf
    rw [f_X7_layOrder_L9] at hf
    refine r_iload_n 10 rfl 2 rfl rfl (ck DX7_layOrder_0 7 rfl) ?_
    rcases if_so hf with ⟨c3, hf⟩ | ⟨c3, hf⟩
    · refine r_if_lt_t 34 (ck DX7_layOrder_0 8 rfl) (by decide) c3 ?_
      refine r_iconst 35 rfl ic_0 (ck DX7_layOrder_0 22 rfl) ?_
      refine r_istore_n (lv' := [(3, .int 0), (0, .ref (X.1 96)), (2, .int x2)]) 36 rfl (ck DX7_layOrder_0 23 rfl) (by decide) rfl rfl ?_
      refine r_sub (lv' := [(0, .ref (X.1 96)), (3, .int 0)]) [1, 0] rfl ?_
      exact A_X7_layOrder_L36 X _ _ FZ 0 h hf
    · refine r_if_lt_f 13 rfl 34 (ck DX7_layOrder_0 8 rfl) (by decide) c3 ?_
      refine r_aload_n 14 rfl 0 rfl rfl (ck DX7_layOrder_0 9 rfl) ?_
      refine r_getr (q := 103) 17 rfl (lq_7_12) sh_96 kd_7_12 fl_X7_47 (ck DX7_layOrder_0 10 rfl) ?_
      refine r_iload_n 18 rfl 2 rfl rfl (ck DX7_layOrder_0 11 rfl) ?_
      refine r_iload_n 19 rfl 1 rfl rfl (ck DX7_layOrder_0 12 rfl) ?_
      refine r_bipush 21 rfl bp_6 (ck DX7_layOrder_0 13 rfl) ?_
      refine r_irem 22 rfl (by decide) (ck DX7_layOrder_0 14 rfl) ?_
      obtain ⟨b30, hf⟩ := gd_so hf
      obtain ⟨g31, e32, hf⟩ := lt_so hf
      refine r_iast 23 rfl sh_103 (inb_vp b30) (ck DX7_layOrder_0 15 rfl) ?_
      refine r_heap e32 ?_
      refine r_iload_n 24 rfl 1 rfl rfl (ck DX7_layOrder_0 16 rfl) ?_
      refine r_bipush 26 rfl bp_6 (ck DX7_layOrder_0 17 rfl) ?_
      refine r_idiv 27 rfl (by decide) (ck DX7_layOrder_0 18 rfl) ?_
      obtain ⟨v33, e34, hf⟩ := lt_so hf
      refine r_top e34 ?_
      refine r_istore_n (lv' := [(2, .int v33), (0, .ref (X.1 96)), (3, .int x3)]) 28 rfl (ck DX7_layOrder_0 19 rfl) (by decide) rfl rfl ?_
      obtain ⟨v35, e36, hf⟩ := lt_so hf
      refine r_iinc (lv' := [(3, .int v35), (2, .int v33), (0, .ref (X.1 96))]) 31 rfl 2 (ck DX7_layOrder_0 20 rfl) rfl (by rw [e36, ic_m1]) (by decide) rfl ?_
      refine r_goto 9 (ck DX7_layOrder_0 21 rfl) (by decide) ?_
      refine r_sub (lv' := [(0, .ref (X.1 96)), (2, .int v33), (3, .int v35)]) [2, 1, 0] rfl ?_
      exact ih v33 v35 g31 hf
def f_X7_layOrder (x1 : Int32) (h : HP) : Option (Int32 × HP) := lt (((h.1 96 34) - 1) : Int32) fun v1 => f_X7_layOrder_L9 FZ x1 v1 h
set_option maxHeartbeats 4000000 in
set_option maxRecDepth 100000 in
theorem A_X7_layOrder (X : XE) (x1 : Int32) (h : HP) (r : Int32) (h' : HP) (hf : f_X7_layOrder x1 h = some (r, h')) : CC mX7_layOrder 1 X [.ref (X.1 96), .int x1] h (some (.int r)) h' := by
  refine CC_of rfl (Nat.le_of_ble_eq_true rfl) ?_
  show Run mX7_layOrder 1 X 0 [(0, .ref (X.1 96)), (1, .int x1)] [] h (some (.int r)) h'
  unfold f_X7_layOrder at hf
  refine r_iload_n 1 rfl 1 rfl rfl (ck DX7_layOrder_0 0 rfl) ?_
  refine r_istore_n (lv' := [(2, .int x1), (0, .ref (X.1 96)), (1, .int x1)]) 2 rfl (ck DX7_layOrder_0 1 rfl) (by decide) rfl rfl ?_
  refine r_aload_n 3 rfl 1 rfl rfl (ck DX7_layOrder_0 2 rfl) ?_
  refine r_geti 6 rfl sh_96 kd_7_34 fl_X7_115 (ck DX7_layOrder_0 3 rfl) ?_
  refine r_iconst 7 rfl ic_1 (ck DX7_layOrder_0 4 rfl) ?_
  refine r_isub 8 rfl (ck DX7_layOrder_0 5 rfl) ?_
  obtain ⟨v1, e2, hf⟩ := lt_so hf
  refine r_top e2 ?_
  refine r_istore_n (lv' := [(3, .int v1), (2, .int x1), (0, .ref (X.1 96)), (1, .int x1)]) 9 rfl (ck DX7_layOrder_0 6 rfl) (by decide) rfl rfl ?_
  refine r_sub (lv' := [(0, .ref (X.1 96)), (2, .int x1), (3, .int v1)]) [2, 1, 0] rfl ?_
  exact A_X7_layOrder_L9 X _ _ FZ x1 v1 h hf
-- X7_longest
def f_X7_longest_J127 (rc57 : Int32 → Int32 → Int32 → Int32 → HP → Option (Int32 × HP)) (x1 : Int32) (x2 : Int32) (x3 : Int32) (x4 : Int32) (x5 : Int32) (x6 : Int32) (x7 : Int32) (s0 : Int32) (h : HP) : Option (Int32 × HP) := if x3 < s0 then (gd (inb 0 3) (lt (si h 120 (Int32.toNatClampNeg 0) x5) fun g36 => gd (inb 1 3) (lt (si g36 120 (Int32.toNatClampNeg 1) x6) fun g39 => gd (inb 2 3) (lt (si g39 120 (Int32.toNatClampNeg 2) x7) fun g42 => lt (x4 + 1 : Int32) fun v44 => rc57 x1 x2 s0 v44 g42)))) else (lt (x4 + 1 : Int32) fun v46 => rc57 x1 x2 x3 v46 h)
set_option maxHeartbeats 4000000 in
set_option maxRecDepth 100000 in
theorem A_X7_longest_J127 (X : XE) (rc57 : Int32 → Int32 → Int32 → Int32 → HP → Option (Int32 × HP)) (r : Int32) (h' : HP) (hr57 : ∀ (x1 : Int32) (x2 : Int32) (x3 : Int32) (x4 : Int32) (h : HP), rc57 x1 x2 x3 x4 h = some (r, h') → Run mX7_longest 9 X 57 [(0, .ref (X.1 96)), (1, .int x1), (2, .int x2), (3, .int x3), (4, .int x4)] [] h (some (.int r)) h') (x1 : Int32) (x2 : Int32) (x3 : Int32) (x4 : Int32) (x5 : Int32) (x6 : Int32) (x7 : Int32) (s0 : Int32) (h : HP) (hf : f_X7_longest_J127 rc57 x1 x2 x3 x4 x5 x6 x7 s0 h = some (r, h')) : Run mX7_longest 9 X 127 [(0, .ref (X.1 96)), (1, .int x1), (2, .int x2), (3, .int x3), (4, .int x4), (5, .int x5), (6, .int x6), (7, .int x7)] [.int s0] h (some (.int r)) h' := by
  unfold f_X7_longest_J127 at hf
  refine r_istore (lv' := [(8, .int s0), (0, .ref (X.1 96)), (1, .int x1), (2, .int x2), (3, .int x3), (4, .int x4), (5, .int x5), (6, .int x6), (7, .int x7)]) 129 rfl (ck DX7_longest_1 17 rfl) (by decide) rfl ?_
  refine r_iload 131 rfl 0 rfl (ck DX7_longest_1 18 rfl) ?_
  refine r_iload_n 132 rfl 4 rfl rfl (ck DX7_longest_1 19 rfl) ?_
  rcases if_so hf with ⟨c34, hf⟩ | ⟨c34, hf⟩
  · refine r_icmp_gt_t 138 (ck DX7_longest_1 20 rfl) (by decide) c34 ?_
    refine r_iload 140 rfl 0 rfl (ck DX7_longest_1 22 rfl) ?_
    refine r_istore_n (lv' := [(3, .int s0), (8, .int s0), (0, .ref (X.1 96)), (1, .int x1), (2, .int x2), (4, .int x4), (5, .int x5), (6, .int x6), (7, .int x7)]) 141 rfl (ck DX7_longest_1 23 rfl) (by decide) rfl rfl ?_
    refine r_aload_n 142 rfl 2 rfl rfl (ck DX7_longest_1 24 rfl) ?_
    refine r_getr (q := 120) 145 rfl (lq_7_47) sh_96 kd_7_47 fl_X7_154 (ck DX7_longest_1 25 rfl) ?_
    refine r_iconst 146 rfl ic_0 (ck DX7_longest_1 26 rfl) ?_
    refine r_iload 148 rfl 6 rfl (ck DX7_longest_1 27 rfl) ?_
    obtain ⟨b35, hf⟩ := gd_so hf
    obtain ⟨g36, e37, hf⟩ := lt_so hf
    refine r_iast 149 rfl sh_120 (inb_vp b35) (ck DX7_longest_1 28 rfl) ?_
    refine r_heap e37 ?_
    refine r_aload_n 150 rfl 2 rfl rfl (ck DX7_longest_1 29 rfl) ?_
    refine r_getr (q := 120) 153 rfl (lq_7_47) sh_96 kd_7_47 fl_X7_154 (ck DX7_longest_1 30 rfl) ?_
    refine r_iconst 154 rfl ic_1 (ck DX7_longest_1 31 rfl) ?_
    refine r_iload 156 rfl 7 rfl (ck DX7_longest_1 32 rfl) ?_
    obtain ⟨b38, hf⟩ := gd_so hf
    obtain ⟨g39, e40, hf⟩ := lt_so hf
    refine r_iast 157 rfl sh_120 (inb_vp b38) (ck DX7_longest_1 33 rfl) ?_
    refine r_heap e40 ?_
    refine r_aload_n 158 rfl 2 rfl rfl (ck DX7_longest_1 34 rfl) ?_
    refine r_getr (q := 120) 161 rfl (lq_7_47) sh_96 kd_7_47 fl_X7_154 (ck DX7_longest_1 35 rfl) ?_
    refine r_iconst 162 rfl ic_2 (ck DX7_longest_1 36 rfl) ?_
    refine r_iload 164 rfl 8 rfl (ck DX7_longest_1 37 rfl) ?_
    obtain ⟨b41, hf⟩ := gd_so hf
    obtain ⟨g42, e43, hf⟩ := lt_so hf
    refine r_iast 165 rfl sh_120 (inb_vp b41) (ck DX7_longest_1 38 rfl) ?_
    refine r_heap e43 ?_
    obtain ⟨v44, e45, hf⟩ := lt_so hf
    refine r_iinc (lv' := [(4, .int v44), (3, .int s0), (8, .int s0), (0, .ref (X.1 96)), (1, .int x1), (2, .int x2), (5, .int x5), (6, .int x6), (7, .int x7)]) 168 rfl 5 (ck DX7_longest_1 39 rfl) rfl (by rw [e45, ic_1]) (by decide) rfl ?_
    refine r_goto 57 (ck DX7_longest_1 40 rfl) (by decide) ?_
    refine r_sub (lv' := [(0, .ref (X.1 96)), (1, .int x1), (2, .int x2), (3, .int s0), (4, .int v44)]) [3, 4, 5, 1, 0] rfl ?_
    exact hr57 x1 x2 s0 v44 g42 hf
  · refine r_icmp_gt_f 135 rfl 138 (ck DX7_longest_1 20 rfl) (by decide) c34 ?_
    refine r_goto 165 (ck DX7_longest_1 21 rfl) (by decide) ?_
    obtain ⟨v46, e47, hf⟩ := lt_so hf
    refine r_iinc (lv' := [(4, .int v46), (8, .int s0), (0, .ref (X.1 96)), (1, .int x1), (2, .int x2), (3, .int x3), (5, .int x5), (6, .int x6), (7, .int x7)]) 168 rfl 5 (ck DX7_longest_1 39 rfl) rfl (by rw [e47, ic_1]) (by decide) rfl ?_
    refine r_goto 57 (ck DX7_longest_1 40 rfl) (by decide) ?_
    refine r_sub (lv' := [(0, .ref (X.1 96)), (1, .int x1), (2, .int x2), (3, .int x3), (4, .int v46)]) [2, 3, 4, 5, 0] rfl ?_
    exact hr57 x1 x2 x3 v46 h hf
def f_X7_longest_L57 : Nat → Int32 → Int32 → Int32 → Int32 → HP → Option (Int32 × HP)
  | 0, _, _, _, _, _ => none
  | n + 1, x1, x2, x3, x4, h => if x2 ≤ x4 then (if x1 = 3 then (if x3 = 99 then (some ((-5), h)) else (some (x3, h))) else (if (h.1 96 1) ≤ x1 then (some ((-5), h)) else (gd (inb x1 3) (some ((h.1 120 (Int32.toNatClampNeg x1)), h))))) else (bo (f_X7_save h) fun g11 => bd (f_X7_layOrder x4 g11) fun v15 g13 => if v15 = 0 then (bo (f_X7_putBack g13) fun g17 => lt (x4 + 1 : Int32) fun v19 => f_X7_longest_L57 n x1 x2 x3 v19 g17) else (gd (inb 0 3) (lt ((g13.1 103 (Int32.toNatClampNeg 0)) : Int32) fun v22 => gd (inb 1 3) (lt ((g13.1 103 (Int32.toNatClampNeg 1)) : Int32) fun v25 => gd (inb 2 3) (lt ((g13.1 103 (Int32.toNatClampNeg 2)) : Int32) fun v28 => bd (f_X7_firstThen 61 g13) fun v32 g30 => if (0 : Int32) ≤ v32 then (f_X7_longest_J127 (fun z0 z1 z2 z3 z4 => f_X7_longest_L57 n z0 z1 z2 z3 z4) x1 x2 x3 x4 v22 v25 v28 v32 g30) else (f_X7_longest_J127 (fun z0 z1 z2 z3 z4 => f_X7_longest_L57 n z0 z1 z2 z3 z4) x1 x2 x3 x4 v22 v25 v28 99 g30))))))
set_option maxHeartbeats 4000000 in
set_option maxRecDepth 100000 in
theorem A_X7_longest_L57 (X : XE) (r : Int32) (h' : HP) : ∀ (n : Nat) (x1 : Int32) (x2 : Int32) (x3 : Int32) (x4 : Int32) (h : HP), f_X7_longest_L57 n x1 x2 x3 x4 h = some (r, h') → Run mX7_longest 9 X 57 [(0, .ref (X.1 96)), (1, .int x1), (2, .int x2), (3, .int x3), (4, .int x4)] [] h (some (.int r)) h' := by
  intro n
  induction n with
  | zero => intro x1 x2 x3 x4 h hf; cases hf
  | succ n ih =>
    intro x1 x2 x3 x4 h hf
    rw [f_X7_longest_L57] at hf
    refine r_iload 59 rfl 4 rfl (ck DX7_longest_0 31 rfl) ?_
    refine r_iload_n 60 rfl 2 rfl rfl (ck DX7_longest_0 32 rfl) ?_
    rcases if_so hf with ⟨c6, hf⟩ | ⟨c6, hf⟩
    · refine r_icmp_ge_t 171 (ck DX7_longest_0 33 rfl) (by decide) c6 ?_
      refine r_iload_n 172 rfl 1 rfl rfl (ck DX7_longest_1 41 rfl) ?_
      refine r_iconst 173 rfl ic_3 (ck DX7_longest_1 42 rfl) ?_
      rcases if_so hf with ⟨c7, hf⟩ | ⟨c7, hf⟩
      · refine r_icmp_ne_t 176 rfl 189 (ck DX7_longest_1 43 rfl) (by decide) c7 ?_
        refine r_iload_n 177 rfl 3 rfl rfl (ck DX7_longest_1 44 rfl) ?_
        refine r_bipush 179 rfl bp_99 (ck DX7_longest_1 45 rfl) ?_
        rcases if_so hf with ⟨c8, hf⟩ | ⟨c8, hf⟩
        · refine r_icmp_ne_t 182 rfl 187 (ck DX7_longest_1 46 rfl) (by decide) c8 ?_
          refine r_bipush 184 rfl bp_m5 (ck DX7_longest_1 47 rfl) ?_
          refine r_goto 188 (ck DX7_longest_1 48 rfl) (by decide) ?_
          obtain ⟨rfl, rfl⟩ := so2 hf
          exact r_iret rfl rfl (ck DX7_longest_2 0 rfl)
        · refine r_icmp_ne_f 187 (ck DX7_longest_1 46 rfl) (by decide) c8 ?_
          refine r_iload_n 188 rfl 3 rfl rfl (ck DX7_longest_1 49 rfl) ?_
          obtain ⟨rfl, rfl⟩ := so2 hf
          exact r_iret rfl rfl (ck DX7_longest_2 0 rfl)
      · refine r_icmp_ne_f 189 (ck DX7_longest_1 43 rfl) (by decide) c7 ?_
        refine r_iload_n 190 rfl 1 rfl rfl (ck DX7_longest_2 1 rfl) ?_
        refine r_aload_n 191 rfl 0 rfl rfl (ck DX7_longest_2 2 rfl) ?_
        refine r_geti 194 rfl sh_96 kd_7_1 fl_X7_13 (ck DX7_longest_2 3 rfl) ?_
        rcases if_so hf with ⟨c9, hf⟩ | ⟨c9, hf⟩
        · refine r_icmp_ge_t 206 (ck DX7_longest_2 4 rfl) (by decide) c9 ?_
          refine r_bipush 208 rfl bp_m5 (ck DX7_longest_2 10 rfl) ?_
          obtain ⟨rfl, rfl⟩ := so2 hf
          exact r_iret rfl rfl (ck DX7_longest_2 11 rfl)
        · refine r_icmp_ge_f 197 rfl 206 (ck DX7_longest_2 4 rfl) (by decide) c9 ?_
          refine r_aload_n 198 rfl 0 rfl rfl (ck DX7_longest_2 5 rfl) ?_
          refine r_getr (q := 120) 201 rfl (lq_7_47) sh_96 kd_7_47 fl_X7_154 (ck DX7_longest_2 6 rfl) ?_
          refine r_iload_n 202 rfl 1 rfl rfl (ck DX7_longest_2 7 rfl) ?_
          obtain ⟨b10, hf⟩ := gd_so hf
          refine r_iald 203 rfl sh_120 (inb_vp b10) (ck DX7_longest_2 8 rfl) ?_
          refine r_goto 208 (ck DX7_longest_2 9 rfl) (by decide) ?_
          obtain ⟨rfl, rfl⟩ := so2 hf
          exact r_iret rfl rfl (ck DX7_longest_2 11 rfl)
    · refine r_icmp_ge_f 63 rfl 171 (ck DX7_longest_0 33 rfl) (by decide) c6 ?_
      refine r_aload_n 64 rfl 0 rfl rfl (ck DX7_longest_0 34 rfl) ?_
      obtain ⟨g11, e12, hf⟩ := bo_so hf
      refine r_callVv 67 rfl (A_X7_save X h g11 e12) (by omega) cw_X7_402 sh_96 cl_7 rfl rfl (Nat.le_of_ble_eq_true rfl) (ck DX7_longest_0 35 rfl) ?_
      refine r_aload_n 68 rfl 0 rfl rfl (ck DX7_longest_0 36 rfl) ?_
      refine r_iload 70 rfl 4 rfl (ck DX7_longest_0 37 rfl) ?_
      obtain ⟨v15, g13, e14, hf⟩ := bd_so hf
      refine r_callVi 73 rfl (A_X7_layOrder X x4 g11 v15 g13 e14) (by omega) cw_X7_421 sh_96 cl_7 rfl rfl (Nat.le_of_ble_eq_true rfl) (ck DX7_longest_0 38 rfl) ?_
      rcases if_so hf with ⟨c16, hf⟩ | ⟨c16, hf⟩
      · refine r_if_ne_t 76 rfl 83 (ck DX7_longest_0 39 rfl) (by decide) c16 ?_
        refine r_aload_n 77 rfl 0 rfl rfl (ck DX7_longest_0 40 rfl) ?_
        obtain ⟨g17, e18, hf⟩ := bo_so hf
        refine r_callVv 80 rfl (A_X7_putBack X g13 g17 e18) (by omega) cw_X7_405 sh_96 cl_7 rfl rfl (Nat.le_of_ble_eq_true rfl) (ck DX7_longest_0 41 rfl) ?_
        refine r_goto 165 (ck DX7_longest_0 42 rfl) (by decide) ?_
        obtain ⟨v19, e20, hf⟩ := lt_so hf
        refine r_iinc (lv' := [(4, .int v19), (0, .ref (X.1 96)), (1, .int x1), (2, .int x2), (3, .int x3)]) 168 rfl 4 (ck DX7_longest_1 39 rfl) rfl (by rw [e20, ic_1]) (by decide) rfl ?_
        refine r_goto 57 (ck DX7_longest_1 40 rfl) (by decide) ?_
        refine r_sub (lv' := [(0, .ref (X.1 96)), (1, .int x1), (2, .int x2), (3, .int x3), (4, .int v19)]) [1, 2, 3, 4, 0] rfl ?_
        exact ih x1 x2 x3 v19 g17 hf
      · refine r_if_ne_f 83 (ck DX7_longest_0 39 rfl) (by decide) c16 ?_
        refine r_aload_n 84 rfl 0 rfl rfl (ck DX7_longest_0 43 rfl) ?_
        refine r_getr (q := 103) 87 rfl (lq_7_12) sh_96 kd_7_12 fl_X7_47 (ck DX7_longest_0 44 rfl) ?_
        refine r_iconst 88 rfl ic_0 (ck DX7_longest_0 45 rfl) ?_
        obtain ⟨b21, hf⟩ := gd_so hf
        refine r_iald 89 rfl sh_103 (inb_vp b21) (ck DX7_longest_0 46 rfl) ?_
        obtain ⟨v22, e23, hf⟩ := lt_so hf
        refine r_top e23 ?_
        refine r_istore (lv' := [(5, .int v22), (0, .ref (X.1 96)), (1, .int x1), (2, .int x2), (3, .int x3), (4, .int x4)]) 91 rfl (ck DX7_longest_0 47 rfl) (by decide) rfl ?_
        refine r_aload_n 92 rfl 1 rfl rfl (ck DX7_longest_0 48 rfl) ?_
        refine r_getr (q := 103) 95 rfl (lq_7_12) sh_96 kd_7_12 fl_X7_47 (ck DX7_longest_0 49 rfl) ?_
        refine r_iconst 96 rfl ic_1 (ck DX7_longest_1 0 rfl) ?_
        obtain ⟨b24, hf⟩ := gd_so hf
        refine r_iald 97 rfl sh_103 (inb_vp b24) (ck DX7_longest_1 1 rfl) ?_
        obtain ⟨v25, e26, hf⟩ := lt_so hf
        refine r_top e26 ?_
        refine r_istore (lv' := [(6, .int v25), (5, .int v22), (0, .ref (X.1 96)), (1, .int x1), (2, .int x2), (3, .int x3), (4, .int x4)]) 99 rfl (ck DX7_longest_1 2 rfl) (by decide) rfl ?_
        refine r_aload_n 100 rfl 2 rfl rfl (ck DX7_longest_1 3 rfl) ?_
        refine r_getr (q := 103) 103 rfl (lq_7_12) sh_96 kd_7_12 fl_X7_47 (ck DX7_longest_1 4 rfl) ?_
        refine r_iconst 104 rfl ic_2 (ck DX7_longest_1 5 rfl) ?_
        obtain ⟨b27, hf⟩ := gd_so hf
        refine r_iald 105 rfl sh_103 (inb_vp b27) (ck DX7_longest_1 6 rfl) ?_
        obtain ⟨v28, e29, hf⟩ := lt_so hf
        refine r_top e29 ?_
        refine r_istore (lv' := [(7, .int v28), (6, .int v25), (5, .int v22), (0, .ref (X.1 96)), (1, .int x1), (2, .int x2), (3, .int x3), (4, .int x4)]) 107 rfl (ck DX7_longest_1 7 rfl) (by decide) rfl ?_
        refine r_aload_n 108 rfl 3 rfl rfl (ck DX7_longest_1 8 rfl) ?_
        refine r_bipush 110 rfl bp_61 (ck DX7_longest_1 9 rfl) ?_
        obtain ⟨v32, g30, e31, hf⟩ := bd_so hf
        refine r_callVi 113 rfl (A_X7_firstThen X 61 g13 v32 g30 e31) (by omega) cw_X7_408 sh_96 cl_7 rfl rfl (Nat.le_of_ble_eq_true rfl) (ck DX7_longest_1 10 rfl) ?_
        refine r_istore (lv' := [(8, .int v32), (7, .int v28), (6, .int v25), (5, .int v22), (0, .ref (X.1 96)), (1, .int x1), (2, .int x2), (3, .int x3), (4, .int x4)]) 115 rfl (ck DX7_longest_1 11 rfl) (by decide) rfl ?_
        refine r_iload 117 rfl 0 rfl (ck DX7_longest_1 12 rfl) ?_
        rcases if_so hf with ⟨c33, hf⟩ | ⟨c33, hf⟩
        · refine r_if_ge_t 125 (ck DX7_longest_1 13 rfl) (by decide) c33 ?_
          refine r_iload 127 rfl 0 rfl (ck DX7_longest_1 16 rfl) ?_
          refine r_sub (lv' := [(0, .ref (X.1 96)), (1, .int x1), (2, .int x2), (3, .int x3), (4, .int x4), (5, .int v22), (6, .int v25), (7, .int v28)]) [4, 5, 6, 7, 8, 3, 2, 1] rfl ?_
          exact A_X7_longest_J127 X (fun z0 z1 z2 z3 z4 => f_X7_longest_L57 n z0 z1 z2 z3 z4) _ _ ih x1 x2 x3 x4 v22 v25 v28 v32 g30 hf
        · refine r_if_ge_f 120 rfl 125 (ck DX7_longest_1 13 rfl) (by decide) c33 ?_
          refine r_bipush 122 rfl bp_99 (ck DX7_longest_1 14 rfl) ?_
          refine r_goto 127 (ck DX7_longest_1 15 rfl) (by decide) ?_
          refine r_sub (lv' := [(0, .ref (X.1 96)), (1, .int x1), (2, .int x2), (3, .int x3), (4, .int x4), (5, .int v22), (6, .int v25), (7, .int v28)]) [4, 5, 6, 7, 8, 3, 2, 1] rfl ?_
          exact A_X7_longest_J127 X (fun z0 z1 z2 z3 z4 => f_X7_longest_L57 n z0 z1 z2 z3 z4) _ _ ih x1 x2 x3 x4 v22 v25 v28 99 g30 hf
def f_X7_longest (x1 : Int32) (h : HP) : Option (Int32 × HP) := bo (f_X7_in x1 0 3) fun v1 => if v1 = 0 then (some ((-1), h)) else (if (h.1 96 1) = 0 then (some ((-5), h)) else (if (h.1 96 1) = 1 then (f_X7_longest_L57 FZ x1 6 (-1) 0 h) else (if (h.1 96 1) = 2 then (f_X7_longest_L57 FZ x1 36 (-1) 0 h) else (f_X7_longest_L57 FZ x1 216 (-1) 0 h))))
set_option maxHeartbeats 4000000 in
set_option maxRecDepth 100000 in
theorem A_X7_longest (X : XE) (x1 : Int32) (h : HP) (r : Int32) (h' : HP) (hf : f_X7_longest x1 h = some (r, h')) : CC mX7_longest 9 X [.ref (X.1 96), .int x1] h (some (.int r)) h' := by
  refine CC_of rfl (Nat.le_of_ble_eq_true rfl) ?_
  show Run mX7_longest 9 X 0 [(0, .ref (X.1 96)), (1, .int x1)] [] h (some (.int r)) h'
  unfold f_X7_longest at hf
  refine r_aload_n 1 rfl 0 rfl rfl (ck DX7_longest_0 0 rfl) ?_
  refine r_iload_n 2 rfl 1 rfl rfl (ck DX7_longest_0 1 rfl) ?_
  refine r_iconst 3 rfl ic_0 (ck DX7_longest_0 2 rfl) ?_
  refine r_iconst 4 rfl ic_3 (ck DX7_longest_0 3 rfl) ?_
  obtain ⟨v1, e2, hf⟩ := bo_so hf
  refine r_callVi 7 rfl (A_X7_in X x1 0 3 h v1 e2) (by omega) cw_X7_276 sh_96 cl_7 rfl rfl (Nat.le_of_ble_eq_true rfl) (ck DX7_longest_0 4 rfl) ?_
  rcases if_so hf with ⟨c3, hf⟩ | ⟨c3, hf⟩
  · refine r_if_ne_t 10 rfl 12 (ck DX7_longest_0 5 rfl) (by decide) c3 ?_
    refine r_iconst 11 rfl ic_m1 (ck DX7_longest_0 6 rfl) ?_
    obtain ⟨rfl, rfl⟩ := so2 hf
    exact r_iret rfl rfl (ck DX7_longest_0 7 rfl)
  · refine r_if_ne_f 12 (ck DX7_longest_0 5 rfl) (by decide) c3 ?_
    refine r_aload_n 13 rfl 0 rfl rfl (ck DX7_longest_0 8 rfl) ?_
    refine r_geti 16 rfl sh_96 kd_7_1 fl_X7_13 (ck DX7_longest_0 9 rfl) ?_
    rcases if_so hf with ⟨c4, hf⟩ | ⟨c4, hf⟩
    · refine r_if_ne_t 19 rfl 22 (ck DX7_longest_0 10 rfl) (by decide) c4 ?_
      refine r_bipush 21 rfl bp_m5 (ck DX7_longest_0 11 rfl) ?_
      obtain ⟨rfl, rfl⟩ := so2 hf
      exact r_iret rfl rfl (ck DX7_longest_0 12 rfl)
    · refine r_if_ne_f 22 (ck DX7_longest_0 10 rfl) (by decide) c4 ?_
      refine r_aload_n 23 rfl 0 rfl rfl (ck DX7_longest_0 13 rfl) ?_
      refine r_geti 26 rfl sh_96 kd_7_1 fl_X7_13 (ck DX7_longest_0 14 rfl) ?_
      refine r_iconst 27 rfl ic_1 (ck DX7_longest_0 15 rfl) ?_
      rcases if_so hf with ⟨c5, hf⟩ | ⟨c5, hf⟩
      · refine r_icmp_ne_t 30 rfl 35 (ck DX7_longest_0 16 rfl) (by decide) c5 ?_
        refine r_bipush 32 rfl bp_6 (ck DX7_longest_0 17 rfl) ?_
        refine r_goto 51 (ck DX7_longest_0 18 rfl) (by decide) ?_
        refine r_istore_n (lv' := [(2, .int 6), (0, .ref (X.1 96)), (1, .int x1)]) 52 rfl (ck DX7_longest_0 26 rfl) (by decide) rfl rfl ?_
        refine r_iconst 53 rfl ic_m1 (ck DX7_longest_0 27 rfl) ?_
        refine r_istore_n (lv' := [(3, .int (-1)), (2, .int 6), (0, .ref (X.1 96)), (1, .int x1)]) 54 rfl (ck DX7_longest_0 28 rfl) (by decide) rfl rfl ?_
        refine r_iconst 55 rfl ic_0 (ck DX7_longest_0 29 rfl) ?_
        refine r_istore (lv' := [(4, .int 0), (3, .int (-1)), (2, .int 6), (0, .ref (X.1 96)), (1, .int x1)]) 57 rfl (ck DX7_longest_0 30 rfl) (by decide) rfl ?_
        refine r_sub (lv' := [(0, .ref (X.1 96)), (1, .int x1), (2, .int 6), (3, .int (-1)), (4, .int 0)]) [3, 4, 2, 1, 0] rfl ?_
        exact A_X7_longest_L57 X _ _ FZ x1 6 (-1) 0 h hf
      · refine r_icmp_ne_f 35 (ck DX7_longest_0 16 rfl) (by decide) c5 ?_
        refine r_aload_n 36 rfl 0 rfl rfl (ck DX7_longest_0 19 rfl) ?_
        refine r_geti 39 rfl sh_96 kd_7_1 fl_X7_13 (ck DX7_longest_0 20 rfl) ?_
        refine r_iconst 40 rfl ic_2 (ck DX7_longest_0 21 rfl) ?_
        rcases if_so hf with ⟨c48, hf⟩ | ⟨c48, hf⟩
        · refine r_icmp_ne_t 43 rfl 48 (ck DX7_longest_0 22 rfl) (by decide) c48 ?_
          refine r_bipush 45 rfl bp_36 (ck DX7_longest_0 23 rfl) ?_
          refine r_goto 51 (ck DX7_longest_0 24 rfl) (by decide) ?_
          refine r_istore_n (lv' := [(2, .int 36), (0, .ref (X.1 96)), (1, .int x1)]) 52 rfl (ck DX7_longest_0 26 rfl) (by decide) rfl rfl ?_
          refine r_iconst 53 rfl ic_m1 (ck DX7_longest_0 27 rfl) ?_
          refine r_istore_n (lv' := [(3, .int (-1)), (2, .int 36), (0, .ref (X.1 96)), (1, .int x1)]) 54 rfl (ck DX7_longest_0 28 rfl) (by decide) rfl rfl ?_
          refine r_iconst 55 rfl ic_0 (ck DX7_longest_0 29 rfl) ?_
          refine r_istore (lv' := [(4, .int 0), (3, .int (-1)), (2, .int 36), (0, .ref (X.1 96)), (1, .int x1)]) 57 rfl (ck DX7_longest_0 30 rfl) (by decide) rfl ?_
          refine r_sub (lv' := [(0, .ref (X.1 96)), (1, .int x1), (2, .int 36), (3, .int (-1)), (4, .int 0)]) [3, 4, 2, 1, 0] rfl ?_
          exact A_X7_longest_L57 X _ _ FZ x1 36 (-1) 0 h hf
        · refine r_icmp_ne_f 48 (ck DX7_longest_0 22 rfl) (by decide) c48 ?_
          refine r_sipush 51 rfl sp_216 (ck DX7_longest_0 25 rfl) ?_
          refine r_istore_n (lv' := [(2, .int 216), (0, .ref (X.1 96)), (1, .int x1)]) 52 rfl (ck DX7_longest_0 26 rfl) (by decide) rfl rfl ?_
          refine r_iconst 53 rfl ic_m1 (ck DX7_longest_0 27 rfl) ?_
          refine r_istore_n (lv' := [(3, .int (-1)), (2, .int 216), (0, .ref (X.1 96)), (1, .int x1)]) 54 rfl (ck DX7_longest_0 28 rfl) (by decide) rfl rfl ?_
          refine r_iconst 55 rfl ic_0 (ck DX7_longest_0 29 rfl) ?_
          refine r_istore (lv' := [(4, .int 0), (3, .int (-1)), (2, .int 216), (0, .ref (X.1 96)), (1, .int x1)]) 57 rfl (ck DX7_longest_0 30 rfl) (by decide) rfl ?_
          refine r_sub (lv' := [(0, .ref (X.1 96)), (1, .int x1), (2, .int 216), (3, .int (-1)), (4, .int 0)]) [3, 4, 2, 1, 0] rfl ?_
          exact A_X7_longest_L57 X _ _ FZ x1 216 (-1) 0 h hf
-- X7_see
def f_X7_see (x1 : Int32) (x2 : Int32) (h : HP) : Option (Int32 × HP) := if x1 = (-1) then (lt (si h 96 48 0) fun g2 => some (0, g2)) else (bo (f_X7_in x1 0 3) fun v4 => if v4 = 0 then (some ((-2), h)) else (bo (f_X7_in x2 0 20) fun v7 => if v7 = 0 then (some ((-2), h)) else (if (h.1 96 48) = 5 then (some ((-4), h)) else (gd (inb (h.1 96 48) 5) (lt (si h 121 (Int32.toNatClampNeg (h.1 96 48)) x1) fun g12 => gd (inb (g12.1 96 48) 5) (lt (si g12 122 (Int32.toNatClampNeg (g12.1 96 48)) x2) fun g15 => lt (si g15 96 48 ((g15.1 96 48) + 1)) fun g17 => some ((g17.1 96 48), g17)))))))
set_option maxHeartbeats 4000000 in
set_option maxRecDepth 100000 in
theorem A_X7_see (X : XE) (x1 : Int32) (x2 : Int32) (h : HP) (r : Int32) (h' : HP) (hf : f_X7_see x1 x2 h = some (r, h')) : CC mX7_see 2 X [.ref (X.1 96), .int x1, .int x2] h (some (.int r)) h' := by
  refine CC_of rfl (Nat.le_of_ble_eq_true rfl) ?_
  show Run mX7_see 2 X 0 [(0, .ref (X.1 96)), (1, .int x1), (2, .int x2)] [] h (some (.int r)) h'
  unfold f_X7_see at hf
  refine r_iload_n 1 rfl 1 rfl rfl (ck DX7_see_0 0 rfl) ?_
  refine r_iconst 2 rfl ic_m1 (ck DX7_see_0 1 rfl) ?_
  rcases if_so hf with ⟨c1, hf⟩ | ⟨c1, hf⟩
  · refine r_icmp_ne_t 5 rfl 12 (ck DX7_see_0 2 rfl) (by decide) c1 ?_
    refine r_aload_n 6 rfl 0 rfl rfl (ck DX7_see_0 3 rfl) ?_
    refine r_iconst 7 rfl ic_0 (ck DX7_see_0 4 rfl) ?_
    obtain ⟨g2, e3, hf⟩ := lt_so hf
    refine r_puti 10 rfl sh_96 kd_7_48 fw_X7_157 rfl rfl (ck DX7_see_0 5 rfl) ?_
    refine r_heap e3 ?_
    refine r_iconst 11 rfl ic_0 (ck DX7_see_0 6 rfl) ?_
    obtain ⟨rfl, rfl⟩ := so2 hf
    exact r_iret rfl rfl (ck DX7_see_0 7 rfl)
  · refine r_icmp_ne_f 12 (ck DX7_see_0 2 rfl) (by decide) c1 ?_
    refine r_aload_n 13 rfl 0 rfl rfl (ck DX7_see_0 8 rfl) ?_
    refine r_iload_n 14 rfl 1 rfl rfl (ck DX7_see_0 9 rfl) ?_
    refine r_iconst 15 rfl ic_0 (ck DX7_see_0 10 rfl) ?_
    refine r_iconst 16 rfl ic_3 (ck DX7_see_0 11 rfl) ?_
    obtain ⟨v4, e5, hf⟩ := bo_so hf
    refine r_callVi 19 rfl (A_X7_in X x1 0 3 h v4 e5) (by omega) cw_X7_276 sh_96 cl_7 rfl rfl (Nat.le_of_ble_eq_true rfl) (ck DX7_see_0 12 rfl) ?_
    rcases if_so hf with ⟨c6, hf⟩ | ⟨c6, hf⟩
    · refine r_if_eq_t 33 (ck DX7_see_0 13 rfl) (by decide) c6 ?_
      refine r_bipush 35 rfl bp_m2 (ck DX7_see_0 20 rfl) ?_
      obtain ⟨rfl, rfl⟩ := so2 hf
      exact r_iret rfl rfl (ck DX7_see_0 21 rfl)
    · refine r_if_eq_f 22 rfl 33 (ck DX7_see_0 13 rfl) (by decide) c6 ?_
      refine r_aload_n 23 rfl 0 rfl rfl (ck DX7_see_0 14 rfl) ?_
      refine r_iload_n 24 rfl 2 rfl rfl (ck DX7_see_0 15 rfl) ?_
      refine r_iconst 25 rfl ic_0 (ck DX7_see_0 16 rfl) ?_
      refine r_bipush 27 rfl bp_20 (ck DX7_see_0 17 rfl) ?_
      obtain ⟨v7, e8, hf⟩ := bo_so hf
      refine r_callVi 30 rfl (A_X7_in X x2 0 20 h v7 e8) (by omega) cw_X7_276 sh_96 cl_7 rfl rfl (Nat.le_of_ble_eq_true rfl) (ck DX7_see_0 18 rfl) ?_
      rcases if_so hf with ⟨c9, hf⟩ | ⟨c9, hf⟩
      · refine r_if_ne_t 33 rfl 36 (ck DX7_see_0 19 rfl) (by decide) c9 ?_
        refine r_bipush 35 rfl bp_m2 (ck DX7_see_0 20 rfl) ?_
        obtain ⟨rfl, rfl⟩ := so2 hf
        exact r_iret rfl rfl (ck DX7_see_0 21 rfl)
      · refine r_if_ne_f 36 (ck DX7_see_0 19 rfl) (by decide) c9 ?_
        refine r_aload_n 37 rfl 0 rfl rfl (ck DX7_see_0 22 rfl) ?_
        refine r_geti 40 rfl sh_96 kd_7_48 fl_X7_157 (ck DX7_see_0 23 rfl) ?_
        refine r_iconst 41 rfl ic_5 (ck DX7_see_0 24 rfl) ?_
        rcases if_so hf with ⟨c10, hf⟩ | ⟨c10, hf⟩
        · refine r_icmp_ne_t 44 rfl 47 (ck DX7_see_0 25 rfl) (by decide) c10 ?_
          refine r_bipush 46 rfl bp_m4 (ck DX7_see_0 26 rfl) ?_
          obtain ⟨rfl, rfl⟩ := so2 hf
          exact r_iret rfl rfl (ck DX7_see_0 27 rfl)
        · refine r_icmp_ne_f 47 (ck DX7_see_0 25 rfl) (by decide) c10 ?_
          refine r_aload_n 48 rfl 0 rfl rfl (ck DX7_see_0 28 rfl) ?_
          refine r_getr (q := 121) 51 rfl (lq_7_49) sh_96 kd_7_49 fl_X7_160 (ck DX7_see_0 29 rfl) ?_
          refine r_aload_n 52 rfl 0 rfl rfl (ck DX7_see_0 30 rfl) ?_
          refine r_geti 55 rfl sh_96 kd_7_48 fl_X7_157 (ck DX7_see_0 31 rfl) ?_
          refine r_iload_n 56 rfl 1 rfl rfl (ck DX7_see_0 32 rfl) ?_
          obtain ⟨b11, hf⟩ := gd_so hf
          obtain ⟨g12, e13, hf⟩ := lt_so hf
          refine r_iast 57 rfl sh_121 (inb_vp b11) (ck DX7_see_0 33 rfl) ?_
          refine r_heap e13 ?_
          refine r_aload_n 58 rfl 0 rfl rfl (ck DX7_see_0 34 rfl) ?_
          refine r_getr (q := 122) 61 rfl (lq_7_50) sh_96 kd_7_50 fl_X7_163 (ck DX7_see_0 35 rfl) ?_
          refine r_aload_n 62 rfl 0 rfl rfl (ck DX7_see_0 36 rfl) ?_
          refine r_geti 65 rfl sh_96 kd_7_48 fl_X7_157 (ck DX7_see_0 37 rfl) ?_
          refine r_iload_n 66 rfl 2 rfl rfl (ck DX7_see_0 38 rfl) ?_
          obtain ⟨b14, hf⟩ := gd_so hf
          obtain ⟨g15, e16, hf⟩ := lt_so hf
          refine r_iast 67 rfl sh_122 (inb_vp b14) (ck DX7_see_0 39 rfl) ?_
          refine r_heap e16 ?_
          refine r_aload_n 68 rfl 0 rfl rfl (ck DX7_see_0 40 rfl) ?_
          refine r_dup 69 rfl rfl (ck DX7_see_0 41 rfl) ?_
          refine r_geti 72 rfl sh_96 kd_7_48 fl_X7_157 (ck DX7_see_0 42 rfl) ?_
          refine r_iconst 73 rfl ic_1 (ck DX7_see_0 43 rfl) ?_
          refine r_iadd 74 rfl (ck DX7_see_0 44 rfl) ?_
          obtain ⟨g17, e18, hf⟩ := lt_so hf
          refine r_puti 77 rfl sh_96 kd_7_48 fw_X7_157 rfl rfl (ck DX7_see_0 45 rfl) ?_
          refine r_heap e18 ?_
          refine r_aload_n 78 rfl 0 rfl rfl (ck DX7_see_0 46 rfl) ?_
          refine r_geti 81 rfl sh_96 kd_7_48 fl_X7_157 (ck DX7_see_0 47 rfl) ?_
          obtain ⟨rfl, rfl⟩ := so2 hf
          exact r_iret rfl rfl (ck DX7_see_0 48 rfl)
-- X7_isSeen
def f_X7_isSeen_L4 : Nat → Int32 → Int32 → HP → Option (Int32 × HP)
  | 0, _, _, _ => none
  | n + 1, x1, x2, h => if (h.1 96 48) ≤ x2 then (gd (zok x1) (some (x1, h))) else (if x1 = 0 then (gd (zok x1) (some (x1, h))) else (bo (f_X7_save h) fun g5 => gd (inb x2 5) (bo (f_X7_goDays (g5.1 122 (Int32.toNatClampNeg x2)) g5) fun g8 => gd (inb x2 5) (if (g8.1 96 1) = (g8.1 121 (Int32.toNatClampNeg x2)) then (bo (f_X7_putBack g8) fun g12 => lt (x2 + 1 : Int32) fun v14 => f_X7_isSeen_L4 n 1 v14 g12) else (bo (f_X7_putBack g8) fun g16 => lt (x2 + 1 : Int32) fun v18 => f_X7_isSeen_L4 n 0 v18 g16)))))
set_option maxHeartbeats 4000000 in
set_option maxRecDepth 100000 in
theorem A_X7_isSeen_L4 (X : XE) (r : Int32) (h' : HP) : ∀ (n : Nat) (x1 : Int32) (x2 : Int32) (h : HP), f_X7_isSeen_L4 n x1 x2 h = some (r, h') → Run mX7_isSeen 9 X 4 [(0, .ref (X.1 96)), (1, .int x1), (2, .int x2)] [] h (some (.int r)) h' := by
  intro n
  induction n with
  | zero => intro x1 x2 h hf; cases hf
  | succ n ih =>
    intro x1 x2 h hf
    rw [f_X7_isSeen_L4] at hf
    refine r_iload_n 5 rfl 2 rfl rfl (ck DX7_isSeen_0 4 rfl) ?_
    refine r_aload_n 6 rfl 0 rfl rfl (ck DX7_isSeen_0 5 rfl) ?_
    refine r_geti 9 rfl sh_96 kd_7_48 fl_X7_157 (ck DX7_isSeen_0 6 rfl) ?_
    rcases if_so hf with ⟨c1, hf⟩ | ⟨c1, hf⟩
    · refine r_icmp_ge_t 59 (ck DX7_isSeen_0 7 rfl) (by decide) c1 ?_
      refine r_iload_n 60 rfl 1 rfl rfl (ck DX7_isSeen_0 33 rfl) ?_
      obtain ⟨b2, hf⟩ := gd_so hf
      obtain ⟨rfl, rfl⟩ := so2 hf
      exact r_iret rfl (zok_nar b2) (ck DX7_isSeen_0 34 rfl)
    · refine r_icmp_ge_f 12 rfl 59 (ck DX7_isSeen_0 7 rfl) (by decide) c1 ?_
      refine r_iload_n 13 rfl 1 rfl rfl (ck DX7_isSeen_0 8 rfl) ?_
      rcases if_so hf with ⟨c3, hf⟩ | ⟨c3, hf⟩
      · refine r_if_eq_t 59 (ck DX7_isSeen_0 9 rfl) (by decide) c3 ?_
        refine r_iload_n 60 rfl 1 rfl rfl (ck DX7_isSeen_0 33 rfl) ?_
        obtain ⟨b4, hf⟩ := gd_so hf
        obtain ⟨rfl, rfl⟩ := so2 hf
        exact r_iret rfl (zok_nar b4) (ck DX7_isSeen_0 34 rfl)
      · refine r_if_eq_f 16 rfl 59 (ck DX7_isSeen_0 9 rfl) (by decide) c3 ?_
        refine r_aload_n 17 rfl 0 rfl rfl (ck DX7_isSeen_0 10 rfl) ?_
        obtain ⟨g5, e6, hf⟩ := bo_so hf
        refine r_callVv 20 rfl (A_X7_save X h g5 e6) (by omega) cw_X7_402 sh_96 cl_7 rfl rfl (Nat.le_of_ble_eq_true rfl) (ck DX7_isSeen_0 11 rfl) ?_
        refine r_aload_n 21 rfl 0 rfl rfl (ck DX7_isSeen_0 12 rfl) ?_
        refine r_aload_n 22 rfl 0 rfl rfl (ck DX7_isSeen_0 13 rfl) ?_
        refine r_getr (q := 122) 25 rfl (lq_7_50) sh_96 kd_7_50 fl_X7_163 (ck DX7_isSeen_0 14 rfl) ?_
        refine r_iload_n 26 rfl 2 rfl rfl (ck DX7_isSeen_0 15 rfl) ?_
        obtain ⟨b7, hf⟩ := gd_so hf
        refine r_iald 27 rfl sh_122 (inb_vp b7) (ck DX7_isSeen_0 16 rfl) ?_
        obtain ⟨g8, e9, hf⟩ := bo_so hf
        refine r_callVv 30 rfl (A_X7_goDays X (g5.1 122 (Int32.toNatClampNeg x2)) g5 g8 e9) (by omega) cw_X7_398 sh_96 cl_7 rfl rfl (Nat.le_of_ble_eq_true rfl) (ck DX7_isSeen_0 17 rfl) ?_
        refine r_aload_n 31 rfl 0 rfl rfl (ck DX7_isSeen_0 18 rfl) ?_
        refine r_geti 34 rfl sh_96 kd_7_1 fl_X7_13 (ck DX7_isSeen_0 19 rfl) ?_
        refine r_aload_n 35 rfl 0 rfl rfl (ck DX7_isSeen_0 20 rfl) ?_
        refine r_getr (q := 121) 38 rfl (lq_7_49) sh_96 kd_7_49 fl_X7_160 (ck DX7_isSeen_0 21 rfl) ?_
        refine r_iload_n 39 rfl 2 rfl rfl (ck DX7_isSeen_0 22 rfl) ?_
        obtain ⟨b10, hf⟩ := gd_so hf
        refine r_iald 40 rfl sh_121 (inb_vp b10) (ck DX7_isSeen_0 23 rfl) ?_
        rcases if_so hf with ⟨c11, hf⟩ | ⟨c11, hf⟩
        · refine r_icmp_ne_t 43 rfl 47 (ck DX7_isSeen_0 24 rfl) (by decide) c11 ?_
          refine r_iconst 44 rfl ic_1 (ck DX7_isSeen_0 25 rfl) ?_
          refine r_goto 48 (ck DX7_isSeen_0 26 rfl) (by decide) ?_
          refine r_istore_n (lv' := [(1, .int 1), (0, .ref (X.1 96)), (2, .int x2)]) 49 rfl (ck DX7_isSeen_0 28 rfl) (by decide) rfl rfl ?_
          refine r_aload_n 50 rfl 1 rfl rfl (ck DX7_isSeen_0 29 rfl) ?_
          obtain ⟨g12, e13, hf⟩ := bo_so hf
          refine r_callVv 53 rfl (A_X7_putBack X g8 g12 e13) (by omega) cw_X7_405 sh_96 cl_7 rfl rfl (Nat.le_of_ble_eq_true rfl) (ck DX7_isSeen_0 30 rfl) ?_
          obtain ⟨v14, e15, hf⟩ := lt_so hf
          refine r_iinc (lv' := [(2, .int v14), (1, .int 1), (0, .ref (X.1 96))]) 56 rfl 2 (ck DX7_isSeen_0 31 rfl) rfl (by rw [e15, ic_1]) (by decide) rfl ?_
          refine r_goto 4 (ck DX7_isSeen_0 32 rfl) (by decide) ?_
          refine r_sub (lv' := [(0, .ref (X.1 96)), (1, .int 1), (2, .int v14)]) [2, 1, 0] rfl ?_
          exact ih 1 v14 g12 hf
        · refine r_icmp_ne_f 47 (ck DX7_isSeen_0 24 rfl) (by decide) c11 ?_
          refine r_iconst 48 rfl ic_0 (ck DX7_isSeen_0 27 rfl) ?_
          refine r_istore_n (lv' := [(1, .int 0), (0, .ref (X.1 96)), (2, .int x2)]) 49 rfl (ck DX7_isSeen_0 28 rfl) (by decide) rfl rfl ?_
          refine r_aload_n 50 rfl 1 rfl rfl (ck DX7_isSeen_0 29 rfl) ?_
          obtain ⟨g16, e17, hf⟩ := bo_so hf
          refine r_callVv 53 rfl (A_X7_putBack X g8 g16 e17) (by omega) cw_X7_405 sh_96 cl_7 rfl rfl (Nat.le_of_ble_eq_true rfl) (ck DX7_isSeen_0 30 rfl) ?_
          obtain ⟨v18, e19, hf⟩ := lt_so hf
          refine r_iinc (lv' := [(2, .int v18), (1, .int 0), (0, .ref (X.1 96))]) 56 rfl 2 (ck DX7_isSeen_0 31 rfl) rfl (by rw [e19, ic_1]) (by decide) rfl ?_
          refine r_goto 4 (ck DX7_isSeen_0 32 rfl) (by decide) ?_
          refine r_sub (lv' := [(0, .ref (X.1 96)), (1, .int 0), (2, .int v18)]) [2, 1, 0] rfl ?_
          exact ih 0 v18 g16 hf
def f_X7_isSeen (h : HP) : Option (Int32 × HP) := f_X7_isSeen_L4 FZ 1 0 h
set_option maxHeartbeats 4000000 in
set_option maxRecDepth 100000 in
theorem A_X7_isSeen (X : XE) (h : HP) (r : Int32) (h' : HP) (hf : f_X7_isSeen h = some (r, h')) : CC mX7_isSeen 9 X [.ref (X.1 96)] h (some (.int r)) h' := by
  refine CC_of rfl (Nat.le_of_ble_eq_true rfl) ?_
  show Run mX7_isSeen 9 X 0 [(0, .ref (X.1 96))] [] h (some (.int r)) h'
  unfold f_X7_isSeen at hf
  refine r_iconst 1 rfl ic_1 (ck DX7_isSeen_0 0 rfl) ?_
  refine r_istore_n (lv' := [(1, .int 1), (0, .ref (X.1 96))]) 2 rfl (ck DX7_isSeen_0 1 rfl) (by decide) rfl rfl ?_
  refine r_iconst 3 rfl ic_0 (ck DX7_isSeen_0 2 rfl) ?_
  refine r_istore_n (lv' := [(2, .int 0), (1, .int 1), (0, .ref (X.1 96))]) 4 rfl (ck DX7_isSeen_0 3 rfl) (by decide) rfl rfl ?_
  refine r_sub (lv' := [(0, .ref (X.1 96)), (1, .int 1), (2, .int 0)]) [2, 1, 0] rfl ?_
  exact A_X7_isSeen_L4 X _ _ FZ 1 0 h hf
-- X7_worn
def f_X7_worn_L38 : Nat → Int32 → Int32 → Int32 → Int32 → Int32 → Int32 → HP → Option (Int32 × HP)
  | 0, _, _, _, _, _, _, _ => none
  | n + 1, x1, x2, x3, x4, x5, x6, h => if x6 < 0 then (gd (inb x1 6) (lt (si h 100 (Int32.toNatClampNeg x1) x3) fun g12 => if x2 = 0 then (some (x4, g12)) else (some (x5, g12)))) else (gd (inb x1 6) (lt (si h 100 (Int32.toNatClampNeg x1) x6) fun g16 => bd (f_X7_isSeen g16) fun v20 g18 => if v20 = 0 then (lt (x6 + (-1) : Int32) fun v22 => f_X7_worn_L38 n x1 x2 x3 x4 x5 v22 g18) else (lt (x4 + 1 : Int32) fun v24 => lt (x6 + (-1) : Int32) fun v26 => f_X7_worn_L38 n x1 x2 x3 v24 x6 v26 g18)))
set_option maxHeartbeats 4000000 in
set_option maxRecDepth 100000 in
theorem A_X7_worn_L38 (X : XE) (r : Int32) (h' : HP) : ∀ (n : Nat) (x1 : Int32) (x2 : Int32) (x3 : Int32) (x4 : Int32) (x5 : Int32) (x6 : Int32) (h : HP), f_X7_worn_L38 n x1 x2 x3 x4 x5 x6 h = some (r, h') → Run mX7_worn 10 X 38 [(0, .ref (X.1 96)), (1, .int x1), (2, .int x2), (3, .int x3), (4, .int x4), (5, .int x5), (6, .int x6)] [] h (some (.int r)) h' := by
  intro n
  induction n with
  | zero => intro x1 x2 x3 x4 x5 x6 h hf; cases hf
  | succ n ih =>
    intro x1 x2 x3 x4 x5 x6 h hf
    rw [f_X7_worn_L38] at hf
    refine r_iload 40 rfl 6 rfl (ck DX7_worn_0 23 rfl) ?_
    rcases if_so hf with ⟨c10, hf⟩ | ⟨c10, hf⟩
    · refine r_if_lt_t 74 (ck DX7_worn_0 24 rfl) (by decide) c10 ?_
      refine r_aload_n 75 rfl 0 rfl rfl (ck DX7_worn_0 39 rfl) ?_
      refine r_getr (q := 100) 78 rfl (lq_7_9) sh_96 kd_7_9 fl_X7_38 (ck DX7_worn_0 40 rfl) ?_
      refine r_iload_n 79 rfl 1 rfl rfl (ck DX7_worn_0 41 rfl) ?_
      refine r_iload_n 80 rfl 3 rfl rfl (ck DX7_worn_0 42 rfl) ?_
      obtain ⟨b11, hf⟩ := gd_so hf
      obtain ⟨g12, e13, hf⟩ := lt_so hf
      refine r_iast 81 rfl sh_100 (inb_vp b11) (ck DX7_worn_0 43 rfl) ?_
      refine r_heap e13 ?_
      refine r_iload_n 82 rfl 2 rfl rfl (ck DX7_worn_0 44 rfl) ?_
      rcases if_so hf with ⟨c14, hf⟩ | ⟨c14, hf⟩
      · refine r_if_ne_t 85 rfl 90 (ck DX7_worn_0 45 rfl) (by decide) c14 ?_
        refine r_iload 87 rfl 4 rfl (ck DX7_worn_0 46 rfl) ?_
        refine r_goto 92 (ck DX7_worn_0 47 rfl) (by decide) ?_
        obtain ⟨rfl, rfl⟩ := so2 hf
        exact r_iret rfl rfl (ck DX7_worn_0 49 rfl)
      · refine r_if_ne_f 90 (ck DX7_worn_0 45 rfl) (by decide) c14 ?_
        refine r_iload 92 rfl 5 rfl (ck DX7_worn_0 48 rfl) ?_
        obtain ⟨rfl, rfl⟩ := so2 hf
        exact r_iret rfl rfl (ck DX7_worn_0 49 rfl)
    · refine r_if_lt_f 43 rfl 74 (ck DX7_worn_0 24 rfl) (by decide) c10 ?_
      refine r_aload_n 44 rfl 0 rfl rfl (ck DX7_worn_0 25 rfl) ?_
      refine r_getr (q := 100) 47 rfl (lq_7_9) sh_96 kd_7_9 fl_X7_38 (ck DX7_worn_0 26 rfl) ?_
      refine r_iload_n 48 rfl 1 rfl rfl (ck DX7_worn_0 27 rfl) ?_
      refine r_iload 50 rfl 6 rfl (ck DX7_worn_0 28 rfl) ?_
      obtain ⟨b15, hf⟩ := gd_so hf
      obtain ⟨g16, e17, hf⟩ := lt_so hf
      refine r_iast 51 rfl sh_100 (inb_vp b15) (ck DX7_worn_0 29 rfl) ?_
      refine r_heap e17 ?_
      refine r_aload_n 52 rfl 0 rfl rfl (ck DX7_worn_0 30 rfl) ?_
      obtain ⟨v20, g18, e19, hf⟩ := bd_so hf
      refine r_callVi 55 rfl (A_X7_isSeen X g16 v20 g18 e19) (by omega) cw_X7_424 sh_96 cl_7 rfl rfl (Nat.le_of_ble_eq_true rfl) (ck DX7_worn_0 31 rfl) ?_
      rcases if_so hf with ⟨c21, hf⟩ | ⟨c21, hf⟩
      · refine r_if_ne_t 58 rfl 61 (ck DX7_worn_0 32 rfl) (by decide) c21 ?_
        refine r_goto 68 (ck DX7_worn_0 33 rfl) (by decide) ?_
        obtain ⟨v22, e23, hf⟩ := lt_so hf
        refine r_iinc (lv' := [(6, .int v22), (0, .ref (X.1 96)), (1, .int x1), (2, .int x2), (3, .int x3), (4, .int x4), (5, .int x5)]) 71 rfl 6 (ck DX7_worn_0 37 rfl) rfl (by rw [e23, ic_m1]) (by decide) rfl ?_
        refine r_goto 38 (ck DX7_worn_0 38 rfl) (by decide) ?_
        refine r_sub (lv' := [(0, .ref (X.1 96)), (1, .int x1), (2, .int x2), (3, .int x3), (4, .int x4), (5, .int x5), (6, .int v22)]) [1, 2, 3, 4, 5, 6, 0] rfl ?_
        exact ih x1 x2 x3 x4 x5 v22 g18 hf
      · refine r_if_ne_f 61 (ck DX7_worn_0 32 rfl) (by decide) c21 ?_
        obtain ⟨v24, e25, hf⟩ := lt_so hf
        refine r_iinc (lv' := [(4, .int v24), (0, .ref (X.1 96)), (1, .int x1), (2, .int x2), (3, .int x3), (5, .int x5), (6, .int x6)]) 64 rfl 4 (ck DX7_worn_0 34 rfl) rfl (by rw [e25, ic_1]) (by decide) rfl ?_
        refine r_iload 66 rfl 6 rfl (ck DX7_worn_0 35 rfl) ?_
        refine r_istore (lv' := [(5, .int x6), (4, .int v24), (0, .ref (X.1 96)), (1, .int x1), (2, .int x2), (3, .int x3), (6, .int x6)]) 68 rfl (ck DX7_worn_0 36 rfl) (by decide) rfl ?_
        obtain ⟨v26, e27, hf⟩ := lt_so hf
        refine r_iinc (lv' := [(6, .int v26), (5, .int x6), (4, .int v24), (0, .ref (X.1 96)), (1, .int x1), (2, .int x2), (3, .int x3)]) 71 rfl 6 (ck DX7_worn_0 37 rfl) rfl (by rw [e27, ic_m1]) (by decide) rfl ?_
        refine r_goto 38 (ck DX7_worn_0 38 rfl) (by decide) ?_
        refine r_sub (lv' := [(0, .ref (X.1 96)), (1, .int x1), (2, .int x2), (3, .int x3), (4, .int v24), (5, .int x6), (6, .int v26)]) [3, 4, 5, 6, 2, 1, 0] rfl ?_
        exact ih x1 x2 x3 v24 x6 v26 g18 hf
def f_X7_worn (x1 : Int32) (x2 : Int32) (h : HP) : Option (Int32 × HP) := bo (f_X7_isPiece x1 h) fun v1 => if v1 = 0 then (some ((-1), h)) else (bo (f_X7_in x2 0 1) fun v4 => if v4 = 0 then (some ((-1), h)) else (gd (inb x1 6) (lt ((h.1 100 (Int32.toNatClampNeg x1)) : Int32) fun v8 => f_X7_worn_L38 FZ x1 x2 v8 0 (-5) 60 h)))
set_option maxHeartbeats 4000000 in
set_option maxRecDepth 100000 in
theorem A_X7_worn (X : XE) (x1 : Int32) (x2 : Int32) (h : HP) (r : Int32) (h' : HP) (hf : f_X7_worn x1 x2 h = some (r, h')) : CC mX7_worn 10 X [.ref (X.1 96), .int x1, .int x2] h (some (.int r)) h' := by
  refine CC_of rfl (Nat.le_of_ble_eq_true rfl) ?_
  show Run mX7_worn 10 X 0 [(0, .ref (X.1 96)), (1, .int x1), (2, .int x2)] [] h (some (.int r)) h'
  unfold f_X7_worn at hf
  refine r_aload_n 1 rfl 0 rfl rfl (ck DX7_worn_0 0 rfl) ?_
  refine r_iload_n 2 rfl 1 rfl rfl (ck DX7_worn_0 1 rfl) ?_
  obtain ⟨v1, e2, hf⟩ := bo_so hf
  refine r_callVi 5 rfl (A_X7_isPiece X x1 h v1 e2) (by omega) cw_X7_280 sh_96 cl_7 rfl rfl (Nat.le_of_ble_eq_true rfl) (ck DX7_worn_0 2 rfl) ?_
  rcases if_so hf with ⟨c3, hf⟩ | ⟨c3, hf⟩
  · refine r_if_eq_t 18 (ck DX7_worn_0 3 rfl) (by decide) c3 ?_
    refine r_iconst 19 rfl ic_m1 (ck DX7_worn_0 10 rfl) ?_
    obtain ⟨rfl, rfl⟩ := so2 hf
    exact r_iret rfl rfl (ck DX7_worn_0 11 rfl)
  · refine r_if_eq_f 8 rfl 18 (ck DX7_worn_0 3 rfl) (by decide) c3 ?_
    refine r_aload_n 9 rfl 0 rfl rfl (ck DX7_worn_0 4 rfl) ?_
    refine r_iload_n 10 rfl 2 rfl rfl (ck DX7_worn_0 5 rfl) ?_
    refine r_iconst 11 rfl ic_0 (ck DX7_worn_0 6 rfl) ?_
    refine r_iconst 12 rfl ic_1 (ck DX7_worn_0 7 rfl) ?_
    obtain ⟨v4, e5, hf⟩ := bo_so hf
    refine r_callVi 15 rfl (A_X7_in X x2 0 1 h v4 e5) (by omega) cw_X7_276 sh_96 cl_7 rfl rfl (Nat.le_of_ble_eq_true rfl) (ck DX7_worn_0 8 rfl) ?_
    rcases if_so hf with ⟨c6, hf⟩ | ⟨c6, hf⟩
    · refine r_if_ne_t 18 rfl 20 (ck DX7_worn_0 9 rfl) (by decide) c6 ?_
      refine r_iconst 19 rfl ic_m1 (ck DX7_worn_0 10 rfl) ?_
      obtain ⟨rfl, rfl⟩ := so2 hf
      exact r_iret rfl rfl (ck DX7_worn_0 11 rfl)
    · refine r_if_ne_f 20 (ck DX7_worn_0 9 rfl) (by decide) c6 ?_
      refine r_aload_n 21 rfl 0 rfl rfl (ck DX7_worn_0 12 rfl) ?_
      refine r_getr (q := 100) 24 rfl (lq_7_9) sh_96 kd_7_9 fl_X7_38 (ck DX7_worn_0 13 rfl) ?_
      refine r_iload_n 25 rfl 1 rfl rfl (ck DX7_worn_0 14 rfl) ?_
      obtain ⟨b7, hf⟩ := gd_so hf
      refine r_iald 26 rfl sh_100 (inb_vp b7) (ck DX7_worn_0 15 rfl) ?_
      obtain ⟨v8, e9, hf⟩ := lt_so hf
      refine r_top e9 ?_
      refine r_istore_n (lv' := [(3, .int v8), (0, .ref (X.1 96)), (1, .int x1), (2, .int x2)]) 27 rfl (ck DX7_worn_0 16 rfl) (by decide) rfl rfl ?_
      refine r_iconst 28 rfl ic_0 (ck DX7_worn_0 17 rfl) ?_
      refine r_istore (lv' := [(4, .int 0), (3, .int v8), (0, .ref (X.1 96)), (1, .int x1), (2, .int x2)]) 30 rfl (ck DX7_worn_0 18 rfl) (by decide) rfl ?_
      refine r_bipush 32 rfl bp_m5 (ck DX7_worn_0 19 rfl) ?_
      refine r_istore (lv' := [(5, .int (-5)), (4, .int 0), (3, .int v8), (0, .ref (X.1 96)), (1, .int x1), (2, .int x2)]) 34 rfl (ck DX7_worn_0 20 rfl) (by decide) rfl ?_
      refine r_bipush 36 rfl bp_60 (ck DX7_worn_0 21 rfl) ?_
      refine r_istore (lv' := [(6, .int 60), (5, .int (-5)), (4, .int 0), (3, .int v8), (0, .ref (X.1 96)), (1, .int x1), (2, .int x2)]) 38 rfl (ck DX7_worn_0 22 rfl) (by decide) rfl ?_
      refine r_sub (lv' := [(0, .ref (X.1 96)), (1, .int x1), (2, .int x2), (3, .int v8), (4, .int 0), (5, .int (-5)), (6, .int 60)]) [4, 5, 6, 3, 2, 1, 0] rfl ?_
      exact A_X7_worn_L38 X _ _ FZ x1 x2 v8 0 (-5) 60 h hf
-- X7_can
def f_X7_can_L38 : Nat → Int32 → Int32 → Int32 → Int32 → Int32 → Int32 → HP → Option (Int32 × HP)
  | 0, _, _, _, _, _, _, _ => none
  | n + 1, x1, x2, x3, x4, x5, x6, h => if x6 < 0 then (gd (inb x1 6) (lt (si h 98 (Int32.toNatClampNeg x1) x3) fun g12 => if x2 = 0 then (some (x4, g12)) else (some (x5, g12)))) else (gd (inb x1 6) (lt (si h 98 (Int32.toNatClampNeg x1) x6) fun g16 => bd (f_X7_isSeen g16) fun v20 g18 => if v20 = 0 then (lt (x6 + (-1) : Int32) fun v22 => f_X7_can_L38 n x1 x2 x3 x4 x5 v22 g18) else (lt (x4 + 1 : Int32) fun v24 => lt (x6 + (-1) : Int32) fun v26 => f_X7_can_L38 n x1 x2 x3 v24 x6 v26 g18)))
set_option maxHeartbeats 4000000 in
set_option maxRecDepth 100000 in
theorem A_X7_can_L38 (X : XE) (r : Int32) (h' : HP) : ∀ (n : Nat) (x1 : Int32) (x2 : Int32) (x3 : Int32) (x4 : Int32) (x5 : Int32) (x6 : Int32) (h : HP), f_X7_can_L38 n x1 x2 x3 x4 x5 x6 h = some (r, h') → Run mX7_can 10 X 38 [(0, .ref (X.1 96)), (1, .int x1), (2, .int x2), (3, .int x3), (4, .int x4), (5, .int x5), (6, .int x6)] [] h (some (.int r)) h' := by
  intro n
  induction n with
  | zero => intro x1 x2 x3 x4 x5 x6 h hf; cases hf
  | succ n ih =>
    intro x1 x2 x3 x4 x5 x6 h hf
    rw [f_X7_can_L38] at hf
    refine r_iload 40 rfl 6 rfl (ck DX7_can_0 23 rfl) ?_
    rcases if_so hf with ⟨c10, hf⟩ | ⟨c10, hf⟩
    · refine r_if_lt_t 74 (ck DX7_can_0 24 rfl) (by decide) c10 ?_
      refine r_aload_n 75 rfl 0 rfl rfl (ck DX7_can_0 39 rfl) ?_
      refine r_getr (q := 98) 78 rfl (lq_7_7) sh_96 kd_7_7 fl_X7_32 (ck DX7_can_0 40 rfl) ?_
      refine r_iload_n 79 rfl 1 rfl rfl (ck DX7_can_0 41 rfl) ?_
      refine r_iload_n 80 rfl 3 rfl rfl (ck DX7_can_0 42 rfl) ?_
      obtain ⟨b11, hf⟩ := gd_so hf
      obtain ⟨g12, e13, hf⟩ := lt_so hf
      refine r_iast 81 rfl sh_98 (inb_vp b11) (ck DX7_can_0 43 rfl) ?_
      refine r_heap e13 ?_
      refine r_iload_n 82 rfl 2 rfl rfl (ck DX7_can_0 44 rfl) ?_
      rcases if_so hf with ⟨c14, hf⟩ | ⟨c14, hf⟩
      · refine r_if_ne_t 85 rfl 90 (ck DX7_can_0 45 rfl) (by decide) c14 ?_
        refine r_iload 87 rfl 4 rfl (ck DX7_can_0 46 rfl) ?_
        refine r_goto 92 (ck DX7_can_0 47 rfl) (by decide) ?_
        obtain ⟨rfl, rfl⟩ := so2 hf
        exact r_iret rfl rfl (ck DX7_can_0 49 rfl)
      · refine r_if_ne_f 90 (ck DX7_can_0 45 rfl) (by decide) c14 ?_
        refine r_iload 92 rfl 5 rfl (ck DX7_can_0 48 rfl) ?_
        obtain ⟨rfl, rfl⟩ := so2 hf
        exact r_iret rfl rfl (ck DX7_can_0 49 rfl)
    · refine r_if_lt_f 43 rfl 74 (ck DX7_can_0 24 rfl) (by decide) c10 ?_
      refine r_aload_n 44 rfl 0 rfl rfl (ck DX7_can_0 25 rfl) ?_
      refine r_getr (q := 98) 47 rfl (lq_7_7) sh_96 kd_7_7 fl_X7_32 (ck DX7_can_0 26 rfl) ?_
      refine r_iload_n 48 rfl 1 rfl rfl (ck DX7_can_0 27 rfl) ?_
      refine r_iload 50 rfl 6 rfl (ck DX7_can_0 28 rfl) ?_
      obtain ⟨b15, hf⟩ := gd_so hf
      obtain ⟨g16, e17, hf⟩ := lt_so hf
      refine r_iast 51 rfl sh_98 (inb_vp b15) (ck DX7_can_0 29 rfl) ?_
      refine r_heap e17 ?_
      refine r_aload_n 52 rfl 0 rfl rfl (ck DX7_can_0 30 rfl) ?_
      obtain ⟨v20, g18, e19, hf⟩ := bd_so hf
      refine r_callVi 55 rfl (A_X7_isSeen X g16 v20 g18 e19) (by omega) cw_X7_424 sh_96 cl_7 rfl rfl (Nat.le_of_ble_eq_true rfl) (ck DX7_can_0 31 rfl) ?_
      rcases if_so hf with ⟨c21, hf⟩ | ⟨c21, hf⟩
      · refine r_if_ne_t 58 rfl 61 (ck DX7_can_0 32 rfl) (by decide) c21 ?_
        refine r_goto 68 (ck DX7_can_0 33 rfl) (by decide) ?_
        obtain ⟨v22, e23, hf⟩ := lt_so hf
        refine r_iinc (lv' := [(6, .int v22), (0, .ref (X.1 96)), (1, .int x1), (2, .int x2), (3, .int x3), (4, .int x4), (5, .int x5)]) 71 rfl 6 (ck DX7_can_0 37 rfl) rfl (by rw [e23, ic_m1]) (by decide) rfl ?_
        refine r_goto 38 (ck DX7_can_0 38 rfl) (by decide) ?_
        refine r_sub (lv' := [(0, .ref (X.1 96)), (1, .int x1), (2, .int x2), (3, .int x3), (4, .int x4), (5, .int x5), (6, .int v22)]) [1, 2, 3, 4, 5, 6, 0] rfl ?_
        exact ih x1 x2 x3 x4 x5 v22 g18 hf
      · refine r_if_ne_f 61 (ck DX7_can_0 32 rfl) (by decide) c21 ?_
        obtain ⟨v24, e25, hf⟩ := lt_so hf
        refine r_iinc (lv' := [(4, .int v24), (0, .ref (X.1 96)), (1, .int x1), (2, .int x2), (3, .int x3), (5, .int x5), (6, .int x6)]) 64 rfl 4 (ck DX7_can_0 34 rfl) rfl (by rw [e25, ic_1]) (by decide) rfl ?_
        refine r_iload 66 rfl 6 rfl (ck DX7_can_0 35 rfl) ?_
        refine r_istore (lv' := [(5, .int x6), (4, .int v24), (0, .ref (X.1 96)), (1, .int x1), (2, .int x2), (3, .int x3), (6, .int x6)]) 68 rfl (ck DX7_can_0 36 rfl) (by decide) rfl ?_
        obtain ⟨v26, e27, hf⟩ := lt_so hf
        refine r_iinc (lv' := [(6, .int v26), (5, .int x6), (4, .int v24), (0, .ref (X.1 96)), (1, .int x1), (2, .int x2), (3, .int x3)]) 71 rfl 6 (ck DX7_can_0 37 rfl) rfl (by rw [e27, ic_m1]) (by decide) rfl ?_
        refine r_goto 38 (ck DX7_can_0 38 rfl) (by decide) ?_
        refine r_sub (lv' := [(0, .ref (X.1 96)), (1, .int x1), (2, .int x2), (3, .int x3), (4, .int v24), (5, .int x6), (6, .int v26)]) [3, 4, 5, 6, 2, 1, 0] rfl ?_
        exact ih x1 x2 x3 v24 x6 v26 g18 hf
def f_X7_can (x1 : Int32) (x2 : Int32) (h : HP) : Option (Int32 × HP) := bo (f_X7_isPiece x1 h) fun v1 => if v1 = 0 then (some ((-1), h)) else (bo (f_X7_in x2 0 1) fun v4 => if v4 = 0 then (some ((-1), h)) else (gd (inb x1 6) (lt ((h.1 98 (Int32.toNatClampNeg x1)) : Int32) fun v8 => f_X7_can_L38 FZ x1 x2 v8 0 (-5) 9 h)))
set_option maxHeartbeats 4000000 in
set_option maxRecDepth 100000 in
theorem A_X7_can (X : XE) (x1 : Int32) (x2 : Int32) (h : HP) (r : Int32) (h' : HP) (hf : f_X7_can x1 x2 h = some (r, h')) : CC mX7_can 10 X [.ref (X.1 96), .int x1, .int x2] h (some (.int r)) h' := by
  refine CC_of rfl (Nat.le_of_ble_eq_true rfl) ?_
  show Run mX7_can 10 X 0 [(0, .ref (X.1 96)), (1, .int x1), (2, .int x2)] [] h (some (.int r)) h'
  unfold f_X7_can at hf
  refine r_aload_n 1 rfl 0 rfl rfl (ck DX7_can_0 0 rfl) ?_
  refine r_iload_n 2 rfl 1 rfl rfl (ck DX7_can_0 1 rfl) ?_
  obtain ⟨v1, e2, hf⟩ := bo_so hf
  refine r_callVi 5 rfl (A_X7_isPiece X x1 h v1 e2) (by omega) cw_X7_280 sh_96 cl_7 rfl rfl (Nat.le_of_ble_eq_true rfl) (ck DX7_can_0 2 rfl) ?_
  rcases if_so hf with ⟨c3, hf⟩ | ⟨c3, hf⟩
  · refine r_if_eq_t 18 (ck DX7_can_0 3 rfl) (by decide) c3 ?_
    refine r_iconst 19 rfl ic_m1 (ck DX7_can_0 10 rfl) ?_
    obtain ⟨rfl, rfl⟩ := so2 hf
    exact r_iret rfl rfl (ck DX7_can_0 11 rfl)
  · refine r_if_eq_f 8 rfl 18 (ck DX7_can_0 3 rfl) (by decide) c3 ?_
    refine r_aload_n 9 rfl 0 rfl rfl (ck DX7_can_0 4 rfl) ?_
    refine r_iload_n 10 rfl 2 rfl rfl (ck DX7_can_0 5 rfl) ?_
    refine r_iconst 11 rfl ic_0 (ck DX7_can_0 6 rfl) ?_
    refine r_iconst 12 rfl ic_1 (ck DX7_can_0 7 rfl) ?_
    obtain ⟨v4, e5, hf⟩ := bo_so hf
    refine r_callVi 15 rfl (A_X7_in X x2 0 1 h v4 e5) (by omega) cw_X7_276 sh_96 cl_7 rfl rfl (Nat.le_of_ble_eq_true rfl) (ck DX7_can_0 8 rfl) ?_
    rcases if_so hf with ⟨c6, hf⟩ | ⟨c6, hf⟩
    · refine r_if_ne_t 18 rfl 20 (ck DX7_can_0 9 rfl) (by decide) c6 ?_
      refine r_iconst 19 rfl ic_m1 (ck DX7_can_0 10 rfl) ?_
      obtain ⟨rfl, rfl⟩ := so2 hf
      exact r_iret rfl rfl (ck DX7_can_0 11 rfl)
    · refine r_if_ne_f 20 (ck DX7_can_0 9 rfl) (by decide) c6 ?_
      refine r_aload_n 21 rfl 0 rfl rfl (ck DX7_can_0 12 rfl) ?_
      refine r_getr (q := 98) 24 rfl (lq_7_7) sh_96 kd_7_7 fl_X7_32 (ck DX7_can_0 13 rfl) ?_
      refine r_iload_n 25 rfl 1 rfl rfl (ck DX7_can_0 14 rfl) ?_
      obtain ⟨b7, hf⟩ := gd_so hf
      refine r_iald 26 rfl sh_98 (inb_vp b7) (ck DX7_can_0 15 rfl) ?_
      obtain ⟨v8, e9, hf⟩ := lt_so hf
      refine r_top e9 ?_
      refine r_istore_n (lv' := [(3, .int v8), (0, .ref (X.1 96)), (1, .int x1), (2, .int x2)]) 27 rfl (ck DX7_can_0 16 rfl) (by decide) rfl rfl ?_
      refine r_iconst 28 rfl ic_0 (ck DX7_can_0 17 rfl) ?_
      refine r_istore (lv' := [(4, .int 0), (3, .int v8), (0, .ref (X.1 96)), (1, .int x1), (2, .int x2)]) 30 rfl (ck DX7_can_0 18 rfl) (by decide) rfl ?_
      refine r_bipush 32 rfl bp_m5 (ck DX7_can_0 19 rfl) ?_
      refine r_istore (lv' := [(5, .int (-5)), (4, .int 0), (3, .int v8), (0, .ref (X.1 96)), (1, .int x1), (2, .int x2)]) 34 rfl (ck DX7_can_0 20 rfl) (by decide) rfl ?_
      refine r_bipush 36 rfl bp_9 (ck DX7_can_0 21 rfl) ?_
      refine r_istore (lv' := [(6, .int 9), (5, .int (-5)), (4, .int 0), (3, .int v8), (0, .ref (X.1 96)), (1, .int x1), (2, .int x2)]) 38 rfl (ck DX7_can_0 22 rfl) (by decide) rfl ?_
      refine r_sub (lv' := [(0, .ref (X.1 96)), (1, .int x1), (2, .int x2), (3, .int v8), (4, .int 0), (5, .int (-5)), (6, .int 9)]) [4, 5, 6, 3, 2, 1, 0] rfl ?_
      exact A_X7_can_L38 X _ _ FZ x1 x2 v8 0 (-5) 9 h hf
-- X7_divisor
def f_X7_divisor_L5 : Nat → Int32 → Int32 → Option Int32
  | 0, _, _ => none
  | n + 1, x3, x4 => if x4 = 0 then (some x3) else (gd (nz x4) (lt ((x3 - x3 / x4 * x4) : Int32) fun v3 => f_X7_divisor_L5 n x4 v3))
set_option maxHeartbeats 4000000 in
set_option maxRecDepth 100000 in
theorem A_X7_divisor_L5 (X : XE) (h : HP) (r : Int32) : ∀ (n : Nat) (x3 : Int32) (x4 : Int32), f_X7_divisor_L5 n x3 x4 = some r → Run mX7_divisor 1 X 5 [(3, .int x3), (4, .int x4)] [] h (some (.int r)) h := by
  intro n
  induction n with
  | zero => intro x3 x4 hf; cases hf
  | succ n ih =>
    intro x3 x4 hf
    rw [f_X7_divisor_L5] at hf
    refine r_iload 7 rfl 1 rfl (ck DX7_divisor_0 4 rfl) ?_
    rcases if_so hf with ⟨c1, hf⟩ | ⟨c1, hf⟩
    · refine r_if_eq_t 26 (ck DX7_divisor_0 5 rfl) (by decide) c1 ?_
      refine r_iload_n 27 rfl 0 rfl rfl (ck DX7_divisor_0 15 rfl) ?_
      obtain rfl := so1 hf
      exact r_iret rfl rfl (ck DX7_divisor_0 16 rfl)
    · refine r_if_eq_f 10 rfl 26 (ck DX7_divisor_0 5 rfl) (by decide) c1 ?_
      refine r_iload_n 11 rfl 0 rfl rfl (ck DX7_divisor_0 6 rfl) ?_
      refine r_iload 13 rfl 1 rfl (ck DX7_divisor_0 7 rfl) ?_
      obtain ⟨b2, hf⟩ := gd_so hf
      refine r_irem 14 rfl (nz_of b2) (ck DX7_divisor_0 8 rfl) ?_
      obtain ⟨v3, e4, hf⟩ := lt_so hf
      refine r_top e4 ?_
      refine r_istore (lv' := [(5, .int v3), (3, .int x3), (4, .int x4)]) 16 rfl (ck DX7_divisor_0 9 rfl) (by decide) rfl ?_
      refine r_iload 18 rfl 2 rfl (ck DX7_divisor_0 10 rfl) ?_
      refine r_istore_n (lv' := [(3, .int x4), (5, .int v3), (4, .int x4)]) 19 rfl (ck DX7_divisor_0 11 rfl) (by decide) rfl rfl ?_
      refine r_iload 21 rfl 1 rfl (ck DX7_divisor_0 12 rfl) ?_
      refine r_istore (lv' := [(4, .int v3), (3, .int x4), (5, .int v3)]) 23 rfl (ck DX7_divisor_0 13 rfl) (by decide) rfl ?_
      refine r_goto 5 (ck DX7_divisor_0 14 rfl) (by decide) ?_
      refine r_sub (lv' := [(3, .int x4), (4, .int v3)]) [1, 0] rfl ?_
      exact ih x4 v3 hf
def f_X7_divisor (x1 : Int32) (x2 : Int32) : Option Int32 := f_X7_divisor_L5 FZ x1 x2
set_option maxHeartbeats 4000000 in
set_option maxRecDepth 100000 in
theorem A_X7_divisor (X : XE) (x1 : Int32) (x2 : Int32) (h : HP) (r : Int32) (hf : f_X7_divisor x1 x2 = some r) : CC mX7_divisor 1 X [.ref (X.1 96), .int x1, .int x2] h (some (.int r)) h := by
  refine CC_of rfl (Nat.le_of_ble_eq_true rfl) ?_
  show Run mX7_divisor 1 X 0 [(0, .ref (X.1 96)), (1, .int x1), (2, .int x2)] [] h (some (.int r)) h
  unfold f_X7_divisor at hf
  refine r_iload_n 1 rfl 1 rfl rfl (ck DX7_divisor_0 0 rfl) ?_
  refine r_istore_n (lv' := [(3, .int x1), (0, .ref (X.1 96)), (1, .int x1), (2, .int x2)]) 2 rfl (ck DX7_divisor_0 1 rfl) (by decide) rfl rfl ?_
  refine r_iload_n 3 rfl 3 rfl rfl (ck DX7_divisor_0 2 rfl) ?_
  refine r_istore (lv' := [(4, .int x2), (3, .int x1), (0, .ref (X.1 96)), (1, .int x1), (2, .int x2)]) 5 rfl (ck DX7_divisor_0 3 rfl) (by decide) rfl ?_
  refine r_sub (lv' := [(3, .int x1), (4, .int x2)]) [1, 0] rfl ?_
  exact A_X7_divisor_L5 X h _ FZ x1 x2 hf
-- X7_lowest
def f_X7_lowest (x1 : Int32) (x2 : Int32) (x3 : Int32) : Option Int64 := bo (f_X7_divisor x1 x2) fun v1 => if x3 = 0 then (gd (nz v1) (some (Int32.toInt64 (x1 / v1)))) else (gd (nz v1) (some (Int32.toInt64 (x2 / v1))))
set_option maxHeartbeats 4000000 in
set_option maxRecDepth 100000 in
theorem A_X7_lowest (X : XE) (x1 : Int32) (x2 : Int32) (x3 : Int32) (h : HP) (r : Int64) (hf : f_X7_lowest x1 x2 x3 = some r) : CC mX7_lowest 2 X [.ref (X.1 96), .int x1, .int x2, .int x3] h (some (.long r)) h := by
  refine CC_of rfl (Nat.le_of_ble_eq_true rfl) ?_
  show Run mX7_lowest 2 X 0 [(0, .ref (X.1 96)), (1, .int x1), (2, .int x2), (3, .int x3)] [] h (some (.long r)) h
  unfold f_X7_lowest at hf
  refine r_aload_n 1 rfl 0 rfl rfl (ck DX7_lowest_0 0 rfl) ?_
  refine r_iload_n 2 rfl 1 rfl rfl (ck DX7_lowest_0 1 rfl) ?_
  refine r_iload_n 3 rfl 2 rfl rfl (ck DX7_lowest_0 2 rfl) ?_
  obtain ⟨v1, e2, hf⟩ := bo_so hf
  refine r_callVi 6 rfl (A_X7_divisor X x1 x2 h v1 e2) (by omega) cw_X7_427 sh_96 cl_7 rfl rfl (Nat.le_of_ble_eq_true rfl) (ck DX7_lowest_0 3 rfl) ?_
  refine r_istore (lv' := [(4, .int v1), (0, .ref (X.1 96)), (1, .int x1), (2, .int x2), (3, .int x3)]) 8 rfl (ck DX7_lowest_0 4 rfl) (by decide) rfl ?_
  refine r_iload_n 9 rfl 4 rfl rfl (ck DX7_lowest_0 5 rfl) ?_
  rcases if_so hf with ⟨c3, hf⟩ | ⟨c3, hf⟩
  · refine r_if_ne_t 12 rfl 20 (ck DX7_lowest_0 6 rfl) (by decide) c3 ?_
    refine r_iload_n 13 rfl 2 rfl rfl (ck DX7_lowest_0 7 rfl) ?_
    refine r_iload 15 rfl 0 rfl (ck DX7_lowest_0 8 rfl) ?_
    obtain ⟨b4, hf⟩ := gd_so hf
    refine r_idiv 16 rfl (nz_of b4) (ck DX7_lowest_0 9 rfl) ?_
    refine r_i2l 17 rfl (ck DX7_lowest_0 10 rfl) ?_
    refine r_goto 25 (ck DX7_lowest_0 11 rfl) (by decide) ?_
    obtain rfl := so1 hf
    exact r_lret rfl (ck DX7_lowest_0 16 rfl)
  · refine r_if_ne_f 20 (ck DX7_lowest_0 6 rfl) (by decide) c3 ?_
    refine r_iload_n 21 rfl 3 rfl rfl (ck DX7_lowest_0 12 rfl) ?_
    refine r_iload 23 rfl 0 rfl (ck DX7_lowest_0 13 rfl) ?_
    obtain ⟨b5, hf⟩ := gd_so hf
    refine r_idiv 24 rfl (nz_of b5) (ck DX7_lowest_0 14 rfl) ?_
    refine r_i2l 25 rfl (ck DX7_lowest_0 15 rfl) ?_
    obtain rfl := so1 hf
    exact r_lret rfl (ck DX7_lowest_0 16 rfl)
-- X7_odds
def f_X7_odds_L40 : Nat → Int32 → Int32 → Int32 → Int32 → Int32 → HP → Option (Int64 × HP)
  | 0, _, _, _, _, _, _ => none
  | n + 1, x1, x2, x3, x4, x5, h => if x4 ≤ x5 then (bo (f_X7_lowest x3 x4 x2) fun v11 => some (v11, h)) else (bo (f_X7_save h) fun g13 => lt (si g13 96 1 x5) fun g15 => bd (f_X7_firstThen x1 g15) fun v19 g17 => if (0 : Int32) ≤ v19 then (lt ((x3 + 0) : Int32) fun v21 => lt (x5 + 1 : Int32) fun v23 => f_X7_odds_L40 n x1 x2 v21 x4 v23 g17) else (lt ((x3 + 1) : Int32) fun v25 => lt (x5 + 1 : Int32) fun v27 => f_X7_odds_L40 n x1 x2 v25 x4 v27 g17))
set_option maxHeartbeats 4000000 in
set_option maxRecDepth 100000 in
theorem A_X7_odds_L40 (X : XE) (r : Int64) (h' : HP) : ∀ (n : Nat) (x1 : Int32) (x2 : Int32) (x3 : Int32) (x4 : Int32) (x5 : Int32) (h : HP), f_X7_odds_L40 n x1 x2 x3 x4 x5 h = some (r, h') → Run mX7_odds 9 X 40 [(0, .ref (X.1 96)), (1, .int x1), (2, .int x2), (3, .int x3), (4, .int x4), (5, .int x5)] [] h (some (.long r)) h' := by
  intro n
  induction n with
  | zero => intro x1 x2 x3 x4 x5 h hf; cases hf
  | succ n ih =>
    intro x1 x2 x3 x4 x5 h hf
    rw [f_X7_odds_L40] at hf
    refine r_iload 42 rfl 5 rfl (ck DX7_odds_0 22 rfl) ?_
    refine r_iload 44 rfl 4 rfl (ck DX7_odds_0 23 rfl) ?_
    rcases if_so hf with ⟨c10, hf⟩ | ⟨c10, hf⟩
    · refine r_icmp_ge_t 79 (ck DX7_odds_0 24 rfl) (by decide) c10 ?_
      refine r_aload_n 80 rfl 0 rfl rfl (ck DX7_odds_0 42 rfl) ?_
      refine r_iload_n 81 rfl 3 rfl rfl (ck DX7_odds_0 43 rfl) ?_
      refine r_iload 83 rfl 4 rfl (ck DX7_odds_0 44 rfl) ?_
      refine r_iload_n 84 rfl 2 rfl rfl (ck DX7_odds_0 45 rfl) ?_
      obtain ⟨v11, e12, hf⟩ := bo_so hf
      refine r_callVl 87 rfl (A_X7_lowest X x3 x4 x2 h v11 e12) (by omega) cw_X7_432 sh_96 cl_7 rfl rfl (Nat.le_of_ble_eq_true rfl) (ck DX7_odds_0 46 rfl) ?_
      obtain ⟨rfl, rfl⟩ := so2 hf
      exact r_lret rfl (ck DX7_odds_0 47 rfl)
    · refine r_icmp_ge_f 47 rfl 79 (ck DX7_odds_0 24 rfl) (by decide) c10 ?_
      refine r_aload_n 48 rfl 0 rfl rfl (ck DX7_odds_0 25 rfl) ?_
      obtain ⟨g13, e14, hf⟩ := bo_so hf
      refine r_callVv 51 rfl (A_X7_save X h g13 e14) (by omega) cw_X7_402 sh_96 cl_7 rfl rfl (Nat.le_of_ble_eq_true rfl) (ck DX7_odds_0 26 rfl) ?_
      refine r_aload_n 52 rfl 0 rfl rfl (ck DX7_odds_0 27 rfl) ?_
      refine r_iload 54 rfl 5 rfl (ck DX7_odds_0 28 rfl) ?_
      obtain ⟨g15, e16, hf⟩ := lt_so hf
      refine r_puti 57 rfl sh_96 kd_7_1 fw_X7_13 rfl rfl (ck DX7_odds_0 29 rfl) ?_
      refine r_heap e16 ?_
      refine r_iload_n 58 rfl 3 rfl rfl (ck DX7_odds_0 30 rfl) ?_
      refine r_aload_n 59 rfl 0 rfl rfl (ck DX7_odds_0 31 rfl) ?_
      refine r_iload_n 60 rfl 1 rfl rfl (ck DX7_odds_0 32 rfl) ?_
      obtain ⟨v19, g17, e18, hf⟩ := bd_so hf
      refine r_callVi 63 rfl (A_X7_firstThen X x1 g15 v19 g17 e18) (by omega) cw_X7_408 sh_96 cl_7 rfl rfl (Nat.le_of_ble_eq_true rfl) (ck DX7_odds_0 33 rfl) ?_
      rcases if_so hf with ⟨c20, hf⟩ | ⟨c20, hf⟩
      · refine r_if_ge_t 70 (ck DX7_odds_0 34 rfl) (by decide) c20 ?_
        refine r_iconst 71 rfl ic_0 (ck DX7_odds_0 37 rfl) ?_
        refine r_iadd 72 rfl (ck DX7_odds_0 38 rfl) ?_
        obtain ⟨v21, e22, hf⟩ := lt_so hf
        refine r_top e22 ?_
        refine r_istore_n (lv' := [(3, .int v21), (0, .ref (X.1 96)), (1, .int x1), (2, .int x2), (4, .int x4), (5, .int x5)]) 73 rfl (ck DX7_odds_0 39 rfl) (by decide) rfl rfl ?_
        obtain ⟨v23, e24, hf⟩ := lt_so hf
        refine r_iinc (lv' := [(5, .int v23), (3, .int v21), (0, .ref (X.1 96)), (1, .int x1), (2, .int x2), (4, .int x4)]) 76 rfl 5 (ck DX7_odds_0 40 rfl) rfl (by rw [e24, ic_1]) (by decide) rfl ?_
        refine r_goto 40 (ck DX7_odds_0 41 rfl) (by decide) ?_
        refine r_sub (lv' := [(0, .ref (X.1 96)), (1, .int x1), (2, .int x2), (3, .int v21), (4, .int x4), (5, .int v23)]) [2, 3, 4, 1, 5, 0] rfl ?_
        exact ih x1 x2 v21 x4 v23 g17 hf
      · refine r_if_ge_f 66 rfl 70 (ck DX7_odds_0 34 rfl) (by decide) c20 ?_
        refine r_iconst 67 rfl ic_1 (ck DX7_odds_0 35 rfl) ?_
        refine r_goto 71 (ck DX7_odds_0 36 rfl) (by decide) ?_
        refine r_iadd 72 rfl (ck DX7_odds_0 38 rfl) ?_
        obtain ⟨v25, e26, hf⟩ := lt_so hf
        refine r_top e26 ?_
        refine r_istore_n (lv' := [(3, .int v25), (0, .ref (X.1 96)), (1, .int x1), (2, .int x2), (4, .int x4), (5, .int x5)]) 73 rfl (ck DX7_odds_0 39 rfl) (by decide) rfl rfl ?_
        obtain ⟨v27, e28, hf⟩ := lt_so hf
        refine r_iinc (lv' := [(5, .int v27), (3, .int v25), (0, .ref (X.1 96)), (1, .int x1), (2, .int x2), (4, .int x4)]) 76 rfl 5 (ck DX7_odds_0 40 rfl) rfl (by rw [e28, ic_1]) (by decide) rfl ?_
        refine r_goto 40 (ck DX7_odds_0 41 rfl) (by decide) ?_
        refine r_sub (lv' := [(0, .ref (X.1 96)), (1, .int x1), (2, .int x2), (3, .int v25), (4, .int x4), (5, .int v27)]) [2, 3, 4, 1, 5, 0] rfl ?_
        exact ih x1 x2 v25 x4 v27 g17 hf
def f_X7_odds (x1 : Int32) (x2 : Int32) (h : HP) : Option (Int64 × HP) := bo (f_X7_isDays x1) fun v1 => if v1 = 0 then (some ((-9223372036854775808), h)) else (bo (f_X7_in x2 0 1) fun v4 => if v4 = 0 then (some ((-9223372036854775808), h)) else (if (h.1 96 1) = 0 then (some ((-9223372036854775808), h)) else (lt ((h.1 96 1) : Int32) fun v8 => f_X7_odds_L40 FZ x1 x2 0 v8 0 h)))
set_option maxHeartbeats 4000000 in
set_option maxRecDepth 100000 in
theorem A_X7_odds (X : XE) (x1 : Int32) (x2 : Int32) (h : HP) (r : Int64) (h' : HP) (hf : f_X7_odds x1 x2 h = some (r, h')) : CC mX7_odds 9 X [.ref (X.1 96), .int x1, .int x2] h (some (.long r)) h' := by
  refine CC_of rfl (Nat.le_of_ble_eq_true rfl) ?_
  show Run mX7_odds 9 X 0 [(0, .ref (X.1 96)), (1, .int x1), (2, .int x2)] [] h (some (.long r)) h'
  unfold f_X7_odds at hf
  refine r_aload_n 1 rfl 0 rfl rfl (ck DX7_odds_0 0 rfl) ?_
  refine r_iload_n 2 rfl 1 rfl rfl (ck DX7_odds_0 1 rfl) ?_
  obtain ⟨v1, e2, hf⟩ := bo_so hf
  refine r_callVi 5 rfl (A_X7_isDays X x1 h v1 e2) (by omega) cw_X7_395 sh_96 cl_7 rfl rfl (Nat.le_of_ble_eq_true rfl) (ck DX7_odds_0 2 rfl) ?_
  rcases if_so hf with ⟨c3, hf⟩ | ⟨c3, hf⟩
  · refine r_if_eq_t 25 (ck DX7_odds_0 3 rfl) (by decide) c3 ?_
    refine r_ldc2 28 rfl cn_X7_430 (ck DX7_odds_0 13 rfl) ?_
    obtain ⟨rfl, rfl⟩ := so2 hf
    exact r_lret rfl (ck DX7_odds_0 14 rfl)
  · refine r_if_eq_f 8 rfl 25 (ck DX7_odds_0 3 rfl) (by decide) c3 ?_
    refine r_aload_n 9 rfl 0 rfl rfl (ck DX7_odds_0 4 rfl) ?_
    refine r_iload_n 10 rfl 2 rfl rfl (ck DX7_odds_0 5 rfl) ?_
    refine r_iconst 11 rfl ic_0 (ck DX7_odds_0 6 rfl) ?_
    refine r_iconst 12 rfl ic_1 (ck DX7_odds_0 7 rfl) ?_
    obtain ⟨v4, e5, hf⟩ := bo_so hf
    refine r_callVi 15 rfl (A_X7_in X x2 0 1 h v4 e5) (by omega) cw_X7_276 sh_96 cl_7 rfl rfl (Nat.le_of_ble_eq_true rfl) (ck DX7_odds_0 8 rfl) ?_
    rcases if_so hf with ⟨c6, hf⟩ | ⟨c6, hf⟩
    · refine r_if_eq_t 25 (ck DX7_odds_0 9 rfl) (by decide) c6 ?_
      refine r_ldc2 28 rfl cn_X7_430 (ck DX7_odds_0 13 rfl) ?_
      obtain ⟨rfl, rfl⟩ := so2 hf
      exact r_lret rfl (ck DX7_odds_0 14 rfl)
    · refine r_if_eq_f 18 rfl 25 (ck DX7_odds_0 9 rfl) (by decide) c6 ?_
      refine r_aload_n 19 rfl 0 rfl rfl (ck DX7_odds_0 10 rfl) ?_
      refine r_geti 22 rfl sh_96 kd_7_1 fl_X7_13 (ck DX7_odds_0 11 rfl) ?_
      rcases if_so hf with ⟨c7, hf⟩ | ⟨c7, hf⟩
      · refine r_if_ne_t 25 rfl 29 (ck DX7_odds_0 12 rfl) (by decide) c7 ?_
        refine r_ldc2 28 rfl cn_X7_430 (ck DX7_odds_0 13 rfl) ?_
        obtain ⟨rfl, rfl⟩ := so2 hf
        exact r_lret rfl (ck DX7_odds_0 14 rfl)
      · refine r_if_ne_f 29 (ck DX7_odds_0 12 rfl) (by decide) c7 ?_
        refine r_iconst 30 rfl ic_0 (ck DX7_odds_0 15 rfl) ?_
        refine r_istore_n (lv' := [(3, .int 0), (0, .ref (X.1 96)), (1, .int x1), (2, .int x2)]) 31 rfl (ck DX7_odds_0 16 rfl) (by decide) rfl rfl ?_
        refine r_aload_n 32 rfl 1 rfl rfl (ck DX7_odds_0 17 rfl) ?_
        refine r_geti 35 rfl sh_96 kd_7_1 fl_X7_13 (ck DX7_odds_0 18 rfl) ?_
        obtain ⟨v8, e9, hf⟩ := lt_so hf
        refine r_top e9 ?_
        refine r_istore (lv' := [(4, .int v8), (3, .int 0), (0, .ref (X.1 96)), (1, .int x1), (2, .int x2)]) 37 rfl (ck DX7_odds_0 19 rfl) (by decide) rfl ?_
        refine r_iconst 38 rfl ic_0 (ck DX7_odds_0 20 rfl) ?_
        refine r_istore (lv' := [(5, .int 0), (4, .int v8), (3, .int 0), (0, .ref (X.1 96)), (1, .int x1), (2, .int x2)]) 40 rfl (ck DX7_odds_0 21 rfl) (by decide) rfl ?_
        refine r_sub (lv' := [(0, .ref (X.1 96)), (1, .int x1), (2, .int x2), (3, .int 0), (4, .int v8), (5, .int 0)]) [3, 4, 5, 2, 1, 0] rfl ?_
        exact A_X7_odds_L40 X _ _ FZ x1 x2 0 v8 0 h hf
-- X7_mean
def f_X7_mean_L25 (h : HP) : Nat → Int32 → Int32 → Int32 → Option Int64
  | 0, _, _, _ => none
  | n + 1, x1, x2, x3 => if (h.1 96 1) ≤ x3 then (bo (f_X7_lowest x2 (h.1 96 1) x1) fun v6 => some v6) else (bo (f_X7_load x3 h) fun v8 => lt ((x2 + v8) : Int32) fun v10 => lt (x3 + 1 : Int32) fun v12 => f_X7_mean_L25 h n x1 v10 v12)
set_option maxHeartbeats 4000000 in
set_option maxRecDepth 100000 in
theorem A_X7_mean_L25 (X : XE) (h : HP) (r : Int64) : ∀ (n : Nat) (x1 : Int32) (x2 : Int32) (x3 : Int32), f_X7_mean_L25 h n x1 x2 x3 = some r → Run mX7_mean 5 X 25 [(0, .ref (X.1 96)), (1, .int x1), (2, .int x2), (3, .int x3)] [] h (some (.long r)) h := by
  intro n
  induction n with
  | zero => intro x1 x2 x3 hf; cases hf
  | succ n ih =>
    intro x1 x2 x3 hf
    rw [f_X7_mean_L25] at hf
    refine r_iload_n 26 rfl 3 rfl rfl (ck DX7_mean_0 15 rfl) ?_
    refine r_aload_n 27 rfl 0 rfl rfl (ck DX7_mean_0 16 rfl) ?_
    refine r_geti 30 rfl sh_96 kd_7_1 fl_X7_13 (ck DX7_mean_0 17 rfl) ?_
    rcases if_so hf with ⟨c5, hf⟩ | ⟨c5, hf⟩
    · refine r_icmp_ge_t 47 (ck DX7_mean_0 18 rfl) (by decide) c5 ?_
      refine r_aload_n 48 rfl 0 rfl rfl (ck DX7_mean_0 27 rfl) ?_
      refine r_iload_n 49 rfl 2 rfl rfl (ck DX7_mean_0 28 rfl) ?_
      refine r_aload_n 50 rfl 0 rfl rfl (ck DX7_mean_0 29 rfl) ?_
      refine r_geti 53 rfl sh_96 kd_7_1 fl_X7_13 (ck DX7_mean_0 30 rfl) ?_
      refine r_iload_n 54 rfl 1 rfl rfl (ck DX7_mean_0 31 rfl) ?_
      obtain ⟨v6, e7, hf⟩ := bo_so hf
      refine r_callVl 57 rfl (A_X7_lowest X x2 (h.1 96 1) x1 h v6 e7) (by omega) cw_X7_432 sh_96 cl_7 rfl rfl (Nat.le_of_ble_eq_true rfl) (ck DX7_mean_0 32 rfl) ?_
      obtain rfl := so1 hf
      exact r_lret rfl (ck DX7_mean_0 33 rfl)
    · refine r_icmp_ge_f 33 rfl 47 (ck DX7_mean_0 18 rfl) (by decide) c5 ?_
      refine r_iload_n 34 rfl 2 rfl rfl (ck DX7_mean_0 19 rfl) ?_
      refine r_aload_n 35 rfl 0 rfl rfl (ck DX7_mean_0 20 rfl) ?_
      refine r_iload_n 36 rfl 3 rfl rfl (ck DX7_mean_0 21 rfl) ?_
      obtain ⟨v8, e9, hf⟩ := bo_so hf
      refine r_callVi 39 rfl (A_X7_load X x3 h v8 e9) (by omega) cw_X7_377 sh_96 cl_7 rfl rfl (Nat.le_of_ble_eq_true rfl) (ck DX7_mean_0 22 rfl) ?_
      refine r_iadd 40 rfl (ck DX7_mean_0 23 rfl) ?_
      obtain ⟨v10, e11, hf⟩ := lt_so hf
      refine r_top e11 ?_
      refine r_istore_n (lv' := [(2, .int v10), (0, .ref (X.1 96)), (1, .int x1), (3, .int x3)]) 41 rfl (ck DX7_mean_0 24 rfl) (by decide) rfl rfl ?_
      obtain ⟨v12, e13, hf⟩ := lt_so hf
      refine r_iinc (lv' := [(3, .int v12), (2, .int v10), (0, .ref (X.1 96)), (1, .int x1)]) 44 rfl 3 (ck DX7_mean_0 25 rfl) rfl (by rw [e13, ic_1]) (by decide) rfl ?_
      refine r_goto 25 (ck DX7_mean_0 26 rfl) (by decide) ?_
      refine r_sub (lv' := [(0, .ref (X.1 96)), (1, .int x1), (2, .int v10), (3, .int v12)]) [2, 3, 1, 0] rfl ?_
      exact ih x1 v10 v12 hf
def f_X7_mean (x1 : Int32) (h : HP) : Option Int64 := bo (f_X7_in x1 0 1) fun v1 => if v1 = 0 then (some (-9223372036854775808)) else (if (h.1 96 1) = 0 then (some (-9223372036854775808)) else (f_X7_mean_L25 h FZ x1 0 0))
set_option maxHeartbeats 4000000 in
set_option maxRecDepth 100000 in
theorem A_X7_mean (X : XE) (x1 : Int32) (h : HP) (r : Int64) (hf : f_X7_mean x1 h = some r) : CC mX7_mean 5 X [.ref (X.1 96), .int x1] h (some (.long r)) h := by
  refine CC_of rfl (Nat.le_of_ble_eq_true rfl) ?_
  show Run mX7_mean 5 X 0 [(0, .ref (X.1 96)), (1, .int x1)] [] h (some (.long r)) h
  unfold f_X7_mean at hf
  refine r_aload_n 1 rfl 0 rfl rfl (ck DX7_mean_0 0 rfl) ?_
  refine r_iload_n 2 rfl 1 rfl rfl (ck DX7_mean_0 1 rfl) ?_
  refine r_iconst 3 rfl ic_0 (ck DX7_mean_0 2 rfl) ?_
  refine r_iconst 4 rfl ic_1 (ck DX7_mean_0 3 rfl) ?_
  obtain ⟨v1, e2, hf⟩ := bo_so hf
  refine r_callVi 7 rfl (A_X7_in X x1 0 1 h v1 e2) (by omega) cw_X7_276 sh_96 cl_7 rfl rfl (Nat.le_of_ble_eq_true rfl) (ck DX7_mean_0 4 rfl) ?_
  rcases if_so hf with ⟨c3, hf⟩ | ⟨c3, hf⟩
  · refine r_if_eq_t 17 (ck DX7_mean_0 5 rfl) (by decide) c3 ?_
    refine r_ldc2 20 rfl cn_X7_430 (ck DX7_mean_0 9 rfl) ?_
    obtain rfl := so1 hf
    exact r_lret rfl (ck DX7_mean_0 10 rfl)
  · refine r_if_eq_f 10 rfl 17 (ck DX7_mean_0 5 rfl) (by decide) c3 ?_
    refine r_aload_n 11 rfl 0 rfl rfl (ck DX7_mean_0 6 rfl) ?_
    refine r_geti 14 rfl sh_96 kd_7_1 fl_X7_13 (ck DX7_mean_0 7 rfl) ?_
    rcases if_so hf with ⟨c4, hf⟩ | ⟨c4, hf⟩
    · refine r_if_ne_t 17 rfl 21 (ck DX7_mean_0 8 rfl) (by decide) c4 ?_
      refine r_ldc2 20 rfl cn_X7_430 (ck DX7_mean_0 9 rfl) ?_
      obtain rfl := so1 hf
      exact r_lret rfl (ck DX7_mean_0 10 rfl)
    · refine r_if_ne_f 21 (ck DX7_mean_0 8 rfl) (by decide) c4 ?_
      refine r_iconst 22 rfl ic_0 (ck DX7_mean_0 11 rfl) ?_
      refine r_istore_n (lv' := [(2, .int 0), (0, .ref (X.1 96)), (1, .int x1)]) 23 rfl (ck DX7_mean_0 12 rfl) (by decide) rfl rfl ?_
      refine r_iconst 24 rfl ic_0 (ck DX7_mean_0 13 rfl) ?_
      refine r_istore_n (lv' := [(3, .int 0), (2, .int 0), (0, .ref (X.1 96)), (1, .int x1)]) 25 rfl (ck DX7_mean_0 14 rfl) (by decide) rfl rfl ?_
      refine r_sub (lv' := [(0, .ref (X.1 96)), (1, .int x1), (2, .int 0), (3, .int 0)]) [2, 3, 1, 0] rfl ?_
      exact A_X7_mean_L25 X h _ FZ x1 0 0 hf
-- X7_plan
def f_X7_plan_J58 (x1 : Int32) (x2 : Int32) (h : HP) : Option (Int32 × HP) := if (h.1 96 51) = 10 then (some ((-4), h)) else (gd (inb (h.1 96 51) 10) (lt (si h 123 (Int32.toNatClampNeg (h.1 96 51)) x1) fun g16 => gd (inb (g16.1 96 51) 10) (lt (si g16 124 (Int32.toNatClampNeg (g16.1 96 51)) x2) fun g19 => lt (si g19 96 51 ((g19.1 96 51) + 1)) fun g21 => some ((g21.1 96 51), g21))))
set_option maxHeartbeats 4000000 in
set_option maxRecDepth 100000 in
theorem A_X7_plan_J58 (X : XE) (r : Int32) (h' : HP) (x1 : Int32) (x2 : Int32) (h : HP) (hf : f_X7_plan_J58 x1 x2 h = some (r, h')) : Run mX7_plan 3 X 58 [(0, .ref (X.1 96)), (1, .int x1), (2, .int x2)] [] h (some (.int r)) h' := by
  unfold f_X7_plan_J58 at hf
  refine r_aload_n 59 rfl 0 rfl rfl (ck DX7_plan_0 35 rfl) ?_
  refine r_geti 62 rfl sh_96 kd_7_51 fl_X7_166 (ck DX7_plan_0 36 rfl) ?_
  refine r_bipush 64 rfl bp_10 (ck DX7_plan_0 37 rfl) ?_
  rcases if_so hf with ⟨c14, hf⟩ | ⟨c14, hf⟩
  · refine r_icmp_ne_t 67 rfl 70 (ck DX7_plan_0 38 rfl) (by decide) c14 ?_
    refine r_bipush 69 rfl bp_m4 (ck DX7_plan_0 39 rfl) ?_
    obtain ⟨rfl, rfl⟩ := so2 hf
    exact r_iret rfl rfl (ck DX7_plan_0 40 rfl)
  · refine r_icmp_ne_f 70 (ck DX7_plan_0 38 rfl) (by decide) c14 ?_
    refine r_aload_n 71 rfl 0 rfl rfl (ck DX7_plan_0 41 rfl) ?_
    refine r_getr (q := 123) 74 rfl (lq_7_53) sh_96 kd_7_53 fl_X7_172 (ck DX7_plan_0 42 rfl) ?_
    refine r_aload_n 75 rfl 0 rfl rfl (ck DX7_plan_0 43 rfl) ?_
    refine r_geti 78 rfl sh_96 kd_7_51 fl_X7_166 (ck DX7_plan_0 44 rfl) ?_
    refine r_iload_n 79 rfl 1 rfl rfl (ck DX7_plan_0 45 rfl) ?_
    obtain ⟨b15, hf⟩ := gd_so hf
    obtain ⟨g16, e17, hf⟩ := lt_so hf
    refine r_iast 80 rfl sh_123 (inb_vp b15) (ck DX7_plan_0 46 rfl) ?_
    refine r_heap e17 ?_
    refine r_aload_n 81 rfl 0 rfl rfl (ck DX7_plan_0 47 rfl) ?_
    refine r_getr (q := 124) 84 rfl (lq_7_54) sh_96 kd_7_54 fl_X7_175 (ck DX7_plan_0 48 rfl) ?_
    refine r_aload_n 85 rfl 0 rfl rfl (ck DX7_plan_0 49 rfl) ?_
    refine r_geti 88 rfl sh_96 kd_7_51 fl_X7_166 (ck DX7_plan_1 0 rfl) ?_
    refine r_iload_n 89 rfl 2 rfl rfl (ck DX7_plan_1 1 rfl) ?_
    obtain ⟨b18, hf⟩ := gd_so hf
    obtain ⟨g19, e20, hf⟩ := lt_so hf
    refine r_iast 90 rfl sh_124 (inb_vp b18) (ck DX7_plan_1 2 rfl) ?_
    refine r_heap e20 ?_
    refine r_aload_n 91 rfl 0 rfl rfl (ck DX7_plan_1 3 rfl) ?_
    refine r_dup 92 rfl rfl (ck DX7_plan_1 4 rfl) ?_
    refine r_geti 95 rfl sh_96 kd_7_51 fl_X7_166 (ck DX7_plan_1 5 rfl) ?_
    refine r_iconst 96 rfl ic_1 (ck DX7_plan_1 6 rfl) ?_
    refine r_iadd 97 rfl (ck DX7_plan_1 7 rfl) ?_
    obtain ⟨g21, e22, hf⟩ := lt_so hf
    refine r_puti 100 rfl sh_96 kd_7_51 fw_X7_166 rfl rfl (ck DX7_plan_1 8 rfl) ?_
    refine r_heap e22 ?_
    refine r_aload_n 101 rfl 0 rfl rfl (ck DX7_plan_1 9 rfl) ?_
    refine r_geti 104 rfl sh_96 kd_7_51 fl_X7_166 (ck DX7_plan_1 10 rfl) ?_
    obtain ⟨rfl, rfl⟩ := so2 hf
    exact r_iret rfl rfl (ck DX7_plan_1 11 rfl)
def f_X7_plan (x1 : Int32) (x2 : Int32) (h : HP) : Option (Int32 × HP) := if x1 = (-1) then (lt (si h 96 51 0) fun g2 => some (0, g2)) else (bo (f_X7_in x1 0 4) fun v4 => if v4 = 0 then (some ((-1), h)) else (if x1 = 3 then (bo (f_X7_isPiece x2 h) fun v8 => if v8 = 0 then (some ((-1), h)) else (bo (f_X7_in x1 1 2) fun v11 => if v11 = 0 then (f_X7_plan_J58 x1 x2 h) else (bo (f_X7_isTrim x2) fun v23 => if v23 = 0 then (some ((-2), h)) else (f_X7_plan_J58 x1 x2 h)))) else (bo (f_X7_in x1 1 2) fun v26 => if v26 = 0 then (f_X7_plan_J58 x1 x2 h) else (bo (f_X7_isTrim x2) fun v29 => if v29 = 0 then (some ((-2), h)) else (f_X7_plan_J58 x1 x2 h)))))
set_option maxHeartbeats 4000000 in
set_option maxRecDepth 100000 in
theorem A_X7_plan (X : XE) (x1 : Int32) (x2 : Int32) (h : HP) (r : Int32) (h' : HP) (hf : f_X7_plan x1 x2 h = some (r, h')) : CC mX7_plan 3 X [.ref (X.1 96), .int x1, .int x2] h (some (.int r)) h' := by
  refine CC_of rfl (Nat.le_of_ble_eq_true rfl) ?_
  show Run mX7_plan 3 X 0 [(0, .ref (X.1 96)), (1, .int x1), (2, .int x2)] [] h (some (.int r)) h'
  unfold f_X7_plan at hf
  refine r_iload_n 1 rfl 1 rfl rfl (ck DX7_plan_0 0 rfl) ?_
  refine r_iconst 2 rfl ic_m1 (ck DX7_plan_0 1 rfl) ?_
  rcases if_so hf with ⟨c1, hf⟩ | ⟨c1, hf⟩
  · refine r_icmp_ne_t 5 rfl 12 (ck DX7_plan_0 2 rfl) (by decide) c1 ?_
    refine r_aload_n 6 rfl 0 rfl rfl (ck DX7_plan_0 3 rfl) ?_
    refine r_iconst 7 rfl ic_0 (ck DX7_plan_0 4 rfl) ?_
    obtain ⟨g2, e3, hf⟩ := lt_so hf
    refine r_puti 10 rfl sh_96 kd_7_51 fw_X7_166 rfl rfl (ck DX7_plan_0 5 rfl) ?_
    refine r_heap e3 ?_
    refine r_iconst 11 rfl ic_0 (ck DX7_plan_0 6 rfl) ?_
    obtain ⟨rfl, rfl⟩ := so2 hf
    exact r_iret rfl rfl (ck DX7_plan_0 7 rfl)
  · refine r_icmp_ne_f 12 (ck DX7_plan_0 2 rfl) (by decide) c1 ?_
    refine r_aload_n 13 rfl 0 rfl rfl (ck DX7_plan_0 8 rfl) ?_
    refine r_iload_n 14 rfl 1 rfl rfl (ck DX7_plan_0 9 rfl) ?_
    refine r_iconst 15 rfl ic_0 (ck DX7_plan_0 10 rfl) ?_
    refine r_iconst 16 rfl ic_4 (ck DX7_plan_0 11 rfl) ?_
    obtain ⟨v4, e5, hf⟩ := bo_so hf
    refine r_callVi 19 rfl (A_X7_in X x1 0 4 h v4 e5) (by omega) cw_X7_276 sh_96 cl_7 rfl rfl (Nat.le_of_ble_eq_true rfl) (ck DX7_plan_0 12 rfl) ?_
    rcases if_so hf with ⟨c6, hf⟩ | ⟨c6, hf⟩
    · refine r_if_eq_t 35 (ck DX7_plan_0 13 rfl) (by decide) c6 ?_
      refine r_iconst 36 rfl ic_m1 (ck DX7_plan_0 21 rfl) ?_
      obtain ⟨rfl, rfl⟩ := so2 hf
      exact r_iret rfl rfl (ck DX7_plan_0 22 rfl)
    · refine r_if_eq_f 22 rfl 35 (ck DX7_plan_0 13 rfl) (by decide) c6 ?_
      refine r_iload_n 23 rfl 1 rfl rfl (ck DX7_plan_0 14 rfl) ?_
      refine r_iconst 24 rfl ic_3 (ck DX7_plan_0 15 rfl) ?_
      rcases if_so hf with ⟨c7, hf⟩ | ⟨c7, hf⟩
      · refine r_icmp_ne_t 27 rfl 37 (ck DX7_plan_0 16 rfl) (by decide) c7 ?_
        refine r_aload_n 28 rfl 0 rfl rfl (ck DX7_plan_0 17 rfl) ?_
        refine r_iload_n 29 rfl 2 rfl rfl (ck DX7_plan_0 18 rfl) ?_
        obtain ⟨v8, e9, hf⟩ := bo_so hf
        refine r_callVi 32 rfl (A_X7_isPiece X x2 h v8 e9) (by omega) cw_X7_280 sh_96 cl_7 rfl rfl (Nat.le_of_ble_eq_true rfl) (ck DX7_plan_0 19 rfl) ?_
        rcases if_so hf with ⟨c10, hf⟩ | ⟨c10, hf⟩
        · refine r_if_ne_t 35 rfl 37 (ck DX7_plan_0 20 rfl) (by decide) c10 ?_
          refine r_iconst 36 rfl ic_m1 (ck DX7_plan_0 21 rfl) ?_
          obtain ⟨rfl, rfl⟩ := so2 hf
          exact r_iret rfl rfl (ck DX7_plan_0 22 rfl)
        · refine r_if_ne_f 37 (ck DX7_plan_0 20 rfl) (by decide) c10 ?_
          refine r_aload_n 38 rfl 0 rfl rfl (ck DX7_plan_0 23 rfl) ?_
          refine r_iload_n 39 rfl 1 rfl rfl (ck DX7_plan_0 24 rfl) ?_
          refine r_iconst 40 rfl ic_1 (ck DX7_plan_0 25 rfl) ?_
          refine r_iconst 41 rfl ic_2 (ck DX7_plan_0 26 rfl) ?_
          obtain ⟨v11, e12, hf⟩ := bo_so hf
          refine r_callVi 44 rfl (A_X7_in X x1 1 2 h v11 e12) (by omega) cw_X7_276 sh_96 cl_7 rfl rfl (Nat.le_of_ble_eq_true rfl) (ck DX7_plan_0 27 rfl) ?_
          rcases if_so hf with ⟨c13, hf⟩ | ⟨c13, hf⟩
          · refine r_if_eq_t 58 (ck DX7_plan_0 28 rfl) (by decide) c13 ?_
            refine r_sub (lv' := [(0, .ref (X.1 96)), (1, .int x1), (2, .int x2)]) [0, 1, 2] rfl ?_
            exact A_X7_plan_J58 X _ _ x1 x2 h hf
          · refine r_if_eq_f 47 rfl 58 (ck DX7_plan_0 28 rfl) (by decide) c13 ?_
            refine r_aload_n 48 rfl 0 rfl rfl (ck DX7_plan_0 29 rfl) ?_
            refine r_iload_n 49 rfl 2 rfl rfl (ck DX7_plan_0 30 rfl) ?_
            obtain ⟨v23, e24, hf⟩ := bo_so hf
            refine r_callVi 52 rfl (A_X7_isTrim X x2 h v23 e24) (by omega) cw_X7_295 sh_96 cl_7 rfl rfl (Nat.le_of_ble_eq_true rfl) (ck DX7_plan_0 31 rfl) ?_
            rcases if_so hf with ⟨c25, hf⟩ | ⟨c25, hf⟩
            · refine r_if_ne_t 55 rfl 58 (ck DX7_plan_0 32 rfl) (by decide) c25 ?_
              refine r_bipush 57 rfl bp_m2 (ck DX7_plan_0 33 rfl) ?_
              obtain ⟨rfl, rfl⟩ := so2 hf
              exact r_iret rfl rfl (ck DX7_plan_0 34 rfl)
            · refine r_if_ne_f 58 (ck DX7_plan_0 32 rfl) (by decide) c25 ?_
              refine r_sub (lv' := [(0, .ref (X.1 96)), (1, .int x1), (2, .int x2)]) [0, 1, 2] rfl ?_
              exact A_X7_plan_J58 X _ _ x1 x2 h hf
      · refine r_icmp_ne_f 37 (ck DX7_plan_0 16 rfl) (by decide) c7 ?_
        refine r_aload_n 38 rfl 0 rfl rfl (ck DX7_plan_0 23 rfl) ?_
        refine r_iload_n 39 rfl 1 rfl rfl (ck DX7_plan_0 24 rfl) ?_
        refine r_iconst 40 rfl ic_1 (ck DX7_plan_0 25 rfl) ?_
        refine r_iconst 41 rfl ic_2 (ck DX7_plan_0 26 rfl) ?_
        obtain ⟨v26, e27, hf⟩ := bo_so hf
        refine r_callVi 44 rfl (A_X7_in X x1 1 2 h v26 e27) (by omega) cw_X7_276 sh_96 cl_7 rfl rfl (Nat.le_of_ble_eq_true rfl) (ck DX7_plan_0 27 rfl) ?_
        rcases if_so hf with ⟨c28, hf⟩ | ⟨c28, hf⟩
        · refine r_if_eq_t 58 (ck DX7_plan_0 28 rfl) (by decide) c28 ?_
          refine r_sub (lv' := [(0, .ref (X.1 96)), (1, .int x1), (2, .int x2)]) [0, 1, 2] rfl ?_
          exact A_X7_plan_J58 X _ _ x1 x2 h hf
        · refine r_if_eq_f 47 rfl 58 (ck DX7_plan_0 28 rfl) (by decide) c28 ?_
          refine r_aload_n 48 rfl 0 rfl rfl (ck DX7_plan_0 29 rfl) ?_
          refine r_iload_n 49 rfl 2 rfl rfl (ck DX7_plan_0 30 rfl) ?_
          obtain ⟨v29, e30, hf⟩ := bo_so hf
          refine r_callVi 52 rfl (A_X7_isTrim X x2 h v29 e30) (by omega) cw_X7_295 sh_96 cl_7 rfl rfl (Nat.le_of_ble_eq_true rfl) (ck DX7_plan_0 31 rfl) ?_
          rcases if_so hf with ⟨c31, hf⟩ | ⟨c31, hf⟩
          · refine r_if_ne_t 55 rfl 58 (ck DX7_plan_0 32 rfl) (by decide) c31 ?_
            refine r_bipush 57 rfl bp_m2 (ck DX7_plan_0 33 rfl) ?_
            obtain ⟨rfl, rfl⟩ := so2 hf
            exact r_iret rfl rfl (ck DX7_plan_0 34 rfl)
          · refine r_if_ne_f 58 (ck DX7_plan_0 32 rfl) (by decide) c31 ?_
            refine r_sub (lv' := [(0, .ref (X.1 96)), (1, .int x1), (2, .int x2)]) [0, 1, 2] rfl ?_
            exact A_X7_plan_J58 X _ _ x1 x2 h hf
-- X7_goPlan
def f_X7_goPlan_J29 (x1 : Int32) (x2 : Int32) (h : HP) : Option HP := if x1 = 3 then (bo (f_X7_placeOf x2 h) fun v12 => if (0 : Int32) ≤ v12 then (if x1 = 4 then (lt (si h 96 1 0) fun g16 => some g16) else (some h)) else (if (3 : Int32) ≤ (h.1 96 1) then (if x1 = 4 then (lt (si h 96 1 0) fun g20 => some g20) else (some h)) else (bo (f_X7_hoists x2 h) fun g22 => if x1 = 4 then (lt (si g22 96 1 0) fun g25 => some g25) else (some g22)))) else (if x1 = 4 then (lt (si h 96 1 0) fun g28 => some g28) else (some h))
set_option maxHeartbeats 4000000 in
set_option maxRecDepth 100000 in
theorem A_X7_goPlan_J29 (X : XE) (h' : HP) (x1 : Int32) (x2 : Int32) (h : HP) (hf : f_X7_goPlan_J29 x1 x2 h = some h') : Run mX7_goPlan 8 X 29 [(0, .ref (X.1 96)), (1, .int x1), (2, .int x2)] [] h none h' := by
  unfold f_X7_goPlan_J29 at hf
  refine r_iload_n 30 rfl 1 rfl rfl (ck DX7_goPlan_0 17 rfl) ?_
  refine r_iconst 31 rfl ic_3 (ck DX7_goPlan_0 18 rfl) ?_
  rcases if_so hf with ⟨c11, hf⟩ | ⟨c11, hf⟩
  · refine r_icmp_ne_t 34 rfl 55 (ck DX7_goPlan_0 19 rfl) (by decide) c11 ?_
    refine r_aload_n 35 rfl 0 rfl rfl (ck DX7_goPlan_0 20 rfl) ?_
    refine r_iload_n 36 rfl 2 rfl rfl (ck DX7_goPlan_0 21 rfl) ?_
    obtain ⟨v12, e13, hf⟩ := bo_so hf
    refine r_callVi 39 rfl (A_X7_placeOf X x2 h v12 e13) (by omega) cw_X7_287 sh_96 cl_7 rfl rfl (Nat.le_of_ble_eq_true rfl) (ck DX7_goPlan_0 22 rfl) ?_
    rcases if_so hf with ⟨c14, hf⟩ | ⟨c14, hf⟩
    · refine r_if_ge_t 55 (ck DX7_goPlan_0 23 rfl) (by decide) c14 ?_
      refine r_iload_n 56 rfl 1 rfl rfl (ck DX7_goPlan_0 31 rfl) ?_
      refine r_iconst 57 rfl ic_4 (ck DX7_goPlan_0 32 rfl) ?_
      rcases if_so hf with ⟨c15, hf⟩ | ⟨c15, hf⟩
      · refine r_icmp_ne_t 60 rfl 65 (ck DX7_goPlan_0 33 rfl) (by decide) c15 ?_
        refine r_aload_n 61 rfl 0 rfl rfl (ck DX7_goPlan_0 34 rfl) ?_
        refine r_iconst 62 rfl ic_0 (ck DX7_goPlan_0 35 rfl) ?_
        obtain ⟨g16, e17, hf⟩ := lt_so hf
        refine r_puti 65 rfl sh_96 kd_7_1 fw_X7_13 rfl rfl (ck DX7_goPlan_0 36 rfl) ?_
        refine r_heap e17 ?_
        obtain rfl := so1 hf
        exact r_vret rfl (ck DX7_goPlan_0 37 rfl)
      · refine r_icmp_ne_f 65 (ck DX7_goPlan_0 33 rfl) (by decide) c15 ?_
        obtain rfl := so1 hf
        exact r_vret rfl (ck DX7_goPlan_0 37 rfl)
    · refine r_if_ge_f 42 rfl 55 (ck DX7_goPlan_0 23 rfl) (by decide) c14 ?_
      refine r_aload_n 43 rfl 0 rfl rfl (ck DX7_goPlan_0 24 rfl) ?_
      refine r_geti 46 rfl sh_96 kd_7_1 fl_X7_13 (ck DX7_goPlan_0 25 rfl) ?_
      refine r_iconst 47 rfl ic_3 (ck DX7_goPlan_0 26 rfl) ?_
      rcases if_so hf with ⟨c18, hf⟩ | ⟨c18, hf⟩
      · refine r_icmp_ge_t 55 (ck DX7_goPlan_0 27 rfl) (by decide) c18 ?_
        refine r_iload_n 56 rfl 1 rfl rfl (ck DX7_goPlan_0 31 rfl) ?_
        refine r_iconst 57 rfl ic_4 (ck DX7_goPlan_0 32 rfl) ?_
        rcases if_so hf with ⟨c19, hf⟩ | ⟨c19, hf⟩
        · refine r_icmp_ne_t 60 rfl 65 (ck DX7_goPlan_0 33 rfl) (by decide) c19 ?_
          refine r_aload_n 61 rfl 0 rfl rfl (ck DX7_goPlan_0 34 rfl) ?_
          refine r_iconst 62 rfl ic_0 (ck DX7_goPlan_0 35 rfl) ?_
          obtain ⟨g20, e21, hf⟩ := lt_so hf
          refine r_puti 65 rfl sh_96 kd_7_1 fw_X7_13 rfl rfl (ck DX7_goPlan_0 36 rfl) ?_
          refine r_heap e21 ?_
          obtain rfl := so1 hf
          exact r_vret rfl (ck DX7_goPlan_0 37 rfl)
        · refine r_icmp_ne_f 65 (ck DX7_goPlan_0 33 rfl) (by decide) c19 ?_
          obtain rfl := so1 hf
          exact r_vret rfl (ck DX7_goPlan_0 37 rfl)
      · refine r_icmp_ge_f 50 rfl 55 (ck DX7_goPlan_0 27 rfl) (by decide) c18 ?_
        refine r_aload_n 51 rfl 0 rfl rfl (ck DX7_goPlan_0 28 rfl) ?_
        refine r_iload_n 52 rfl 2 rfl rfl (ck DX7_goPlan_0 29 rfl) ?_
        obtain ⟨g22, e23, hf⟩ := bo_so hf
        refine r_callVv 55 rfl (A_X7_hoists X x2 h g22 e23) (by omega) cw_X7_291 sh_96 cl_7 rfl rfl (Nat.le_of_ble_eq_true rfl) (ck DX7_goPlan_0 30 rfl) ?_
        refine r_iload_n 56 rfl 1 rfl rfl (ck DX7_goPlan_0 31 rfl) ?_
        refine r_iconst 57 rfl ic_4 (ck DX7_goPlan_0 32 rfl) ?_
        rcases if_so hf with ⟨c24, hf⟩ | ⟨c24, hf⟩
        · refine r_icmp_ne_t 60 rfl 65 (ck DX7_goPlan_0 33 rfl) (by decide) c24 ?_
          refine r_aload_n 61 rfl 0 rfl rfl (ck DX7_goPlan_0 34 rfl) ?_
          refine r_iconst 62 rfl ic_0 (ck DX7_goPlan_0 35 rfl) ?_
          obtain ⟨g25, e26, hf⟩ := lt_so hf
          refine r_puti 65 rfl sh_96 kd_7_1 fw_X7_13 rfl rfl (ck DX7_goPlan_0 36 rfl) ?_
          refine r_heap e26 ?_
          obtain rfl := so1 hf
          exact r_vret rfl (ck DX7_goPlan_0 37 rfl)
        · refine r_icmp_ne_f 65 (ck DX7_goPlan_0 33 rfl) (by decide) c24 ?_
          obtain rfl := so1 hf
          exact r_vret rfl (ck DX7_goPlan_0 37 rfl)
  · refine r_icmp_ne_f 55 (ck DX7_goPlan_0 19 rfl) (by decide) c11 ?_
    refine r_iload_n 56 rfl 1 rfl rfl (ck DX7_goPlan_0 31 rfl) ?_
    refine r_iconst 57 rfl ic_4 (ck DX7_goPlan_0 32 rfl) ?_
    rcases if_so hf with ⟨c27, hf⟩ | ⟨c27, hf⟩
    · refine r_icmp_ne_t 60 rfl 65 (ck DX7_goPlan_0 33 rfl) (by decide) c27 ?_
      refine r_aload_n 61 rfl 0 rfl rfl (ck DX7_goPlan_0 34 rfl) ?_
      refine r_iconst 62 rfl ic_0 (ck DX7_goPlan_0 35 rfl) ?_
      obtain ⟨g28, e29, hf⟩ := lt_so hf
      refine r_puti 65 rfl sh_96 kd_7_1 fw_X7_13 rfl rfl (ck DX7_goPlan_0 36 rfl) ?_
      refine r_heap e29 ?_
      obtain rfl := so1 hf
      exact r_vret rfl (ck DX7_goPlan_0 37 rfl)
    · refine r_icmp_ne_f 65 (ck DX7_goPlan_0 33 rfl) (by decide) c27 ?_
      obtain rfl := so1 hf
      exact r_vret rfl (ck DX7_goPlan_0 37 rfl)
def f_X7_goPlan_J9 (x1 : Int32) (x2 : Int32) (h : HP) : Option HP := if x1 = 1 then (lt (si h 96 2 x2) fun g6 => if x1 = 2 then (lt (si g6 96 3 x2) fun g9 => f_X7_goPlan_J29 x1 x2 g9) else (f_X7_goPlan_J29 x1 x2 g6)) else (if x1 = 2 then (lt (si h 96 3 x2) fun g31 => f_X7_goPlan_J29 x1 x2 g31) else (f_X7_goPlan_J29 x1 x2 h))
set_option maxHeartbeats 4000000 in
set_option maxRecDepth 100000 in
theorem A_X7_goPlan_J9 (X : XE) (h' : HP) (x1 : Int32) (x2 : Int32) (h : HP) (hf : f_X7_goPlan_J9 x1 x2 h = some h') : Run mX7_goPlan 8 X 9 [(0, .ref (X.1 96)), (1, .int x1), (2, .int x2)] [] h none h' := by
  unfold f_X7_goPlan_J9 at hf
  refine r_iload_n 10 rfl 1 rfl rfl (ck DX7_goPlan_0 5 rfl) ?_
  refine r_iconst 11 rfl ic_1 (ck DX7_goPlan_0 6 rfl) ?_
  rcases if_so hf with ⟨c5, hf⟩ | ⟨c5, hf⟩
  · refine r_icmp_ne_t 14 rfl 19 (ck DX7_goPlan_0 7 rfl) (by decide) c5 ?_
    refine r_aload_n 15 rfl 0 rfl rfl (ck DX7_goPlan_0 8 rfl) ?_
    refine r_iload_n 16 rfl 2 rfl rfl (ck DX7_goPlan_0 9 rfl) ?_
    obtain ⟨g6, e7, hf⟩ := lt_so hf
    refine r_puti 19 rfl sh_96 kd_7_2 fw_X7_16 rfl rfl (ck DX7_goPlan_0 10 rfl) ?_
    refine r_heap e7 ?_
    refine r_iload_n 20 rfl 1 rfl rfl (ck DX7_goPlan_0 11 rfl) ?_
    refine r_iconst 21 rfl ic_2 (ck DX7_goPlan_0 12 rfl) ?_
    rcases if_so hf with ⟨c8, hf⟩ | ⟨c8, hf⟩
    · refine r_icmp_ne_t 24 rfl 29 (ck DX7_goPlan_0 13 rfl) (by decide) c8 ?_
      refine r_aload_n 25 rfl 0 rfl rfl (ck DX7_goPlan_0 14 rfl) ?_
      refine r_iload_n 26 rfl 2 rfl rfl (ck DX7_goPlan_0 15 rfl) ?_
      obtain ⟨g9, e10, hf⟩ := lt_so hf
      refine r_puti 29 rfl sh_96 kd_7_3 fw_X7_19 rfl rfl (ck DX7_goPlan_0 16 rfl) ?_
      refine r_heap e10 ?_
      refine r_sub (lv' := [(0, .ref (X.1 96)), (1, .int x1), (2, .int x2)]) [0, 1, 2] rfl ?_
      exact A_X7_goPlan_J29 X _ x1 x2 g9 hf
    · refine r_icmp_ne_f 29 (ck DX7_goPlan_0 13 rfl) (by decide) c8 ?_
      refine r_sub (lv' := [(0, .ref (X.1 96)), (1, .int x1), (2, .int x2)]) [0, 1, 2] rfl ?_
      exact A_X7_goPlan_J29 X _ x1 x2 g6 hf
  · refine r_icmp_ne_f 19 (ck DX7_goPlan_0 7 rfl) (by decide) c5 ?_
    refine r_iload_n 20 rfl 1 rfl rfl (ck DX7_goPlan_0 11 rfl) ?_
    refine r_iconst 21 rfl ic_2 (ck DX7_goPlan_0 12 rfl) ?_
    rcases if_so hf with ⟨c30, hf⟩ | ⟨c30, hf⟩
    · refine r_icmp_ne_t 24 rfl 29 (ck DX7_goPlan_0 13 rfl) (by decide) c30 ?_
      refine r_aload_n 25 rfl 0 rfl rfl (ck DX7_goPlan_0 14 rfl) ?_
      refine r_iload_n 26 rfl 2 rfl rfl (ck DX7_goPlan_0 15 rfl) ?_
      obtain ⟨g31, e32, hf⟩ := lt_so hf
      refine r_puti 29 rfl sh_96 kd_7_3 fw_X7_19 rfl rfl (ck DX7_goPlan_0 16 rfl) ?_
      refine r_heap e32 ?_
      refine r_sub (lv' := [(0, .ref (X.1 96)), (1, .int x1), (2, .int x2)]) [0, 1, 2] rfl ?_
      exact A_X7_goPlan_J29 X _ x1 x2 g31 hf
    · refine r_icmp_ne_f 29 (ck DX7_goPlan_0 13 rfl) (by decide) c30 ?_
      refine r_sub (lv' := [(0, .ref (X.1 96)), (1, .int x1), (2, .int x2)]) [0, 1, 2] rfl ?_
      exact A_X7_goPlan_J29 X _ x1 x2 h hf
def f_X7_goPlan (x1 : Int32) (x2 : Int32) (h : HP) : Option HP := if x1 = 0 then (bd (f_X7_goDay h) fun v4 g2 => f_X7_goPlan_J9 x1 x2 g2) else (f_X7_goPlan_J9 x1 x2 h)
set_option maxHeartbeats 4000000 in
set_option maxRecDepth 100000 in
theorem A_X7_goPlan (X : XE) (x1 : Int32) (x2 : Int32) (h : HP) (h' : HP) (hf : f_X7_goPlan x1 x2 h = some h') : CC mX7_goPlan 8 X [.ref (X.1 96), .int x1, .int x2] h none h' := by
  refine CC_of rfl (Nat.le_of_ble_eq_true rfl) ?_
  show Run mX7_goPlan 8 X 0 [(0, .ref (X.1 96)), (1, .int x1), (2, .int x2)] [] h none h'
  unfold f_X7_goPlan at hf
  refine r_iload_n 1 rfl 1 rfl rfl (ck DX7_goPlan_0 0 rfl) ?_
  rcases if_so hf with ⟨c1, hf⟩ | ⟨c1, hf⟩
  · refine r_if_ne_t 4 rfl 9 (ck DX7_goPlan_0 1 rfl) (by decide) c1 ?_
    refine r_aload_n 5 rfl 0 rfl rfl (ck DX7_goPlan_0 2 rfl) ?_
    obtain ⟨v4, g2, e3, hf⟩ := bd_so hf
    refine r_callVi 8 rfl (A_X7_goDay X h v4 g2 e3) (by omega) cw_X7_392 sh_96 cl_7 rfl rfl (Nat.le_of_ble_eq_true rfl) (ck DX7_goPlan_0 3 rfl) ?_
    refine r_pop 9 rfl rfl (ck DX7_goPlan_0 4 rfl) ?_
    refine r_sub (lv' := [(0, .ref (X.1 96)), (1, .int x1), (2, .int x2)]) [0, 1, 2] rfl ?_
    exact A_X7_goPlan_J9 X _ x1 x2 g2 hf
  · refine r_if_ne_f 9 (ck DX7_goPlan_0 1 rfl) (by decide) c1 ?_
    refine r_sub (lv' := [(0, .ref (X.1 96)), (1, .int x1), (2, .int x2)]) [0, 1, 2] rfl ?_
    exact A_X7_goPlan_J9 X _ x1 x2 h hf
-- X7_ends
def f_X7_ends_L18 : Nat → Int32 → Int32 → HP → Option (Int32 × HP)
  | 0, _, _, _ => none
  | n + 1, x1, x2, h => if (h.1 96 51) ≤ x2 then (if x1 = 0 then (lt (((h.1 96 4) - (h.1 96 37)) : Int32) fun v8 => bo (f_X7_putBack h) fun g10 => some (v8, g10)) else (bo (f_X7_height h) fun v12 => bo (f_X7_putBack h) fun g14 => some (v12, g14))) else (gd (inb x2 10) (gd (inb x2 10) (bo (f_X7_goPlan (h.1 123 (Int32.toNatClampNeg x2)) (h.1 124 (Int32.toNatClampNeg x2)) h) fun g18 => lt (x2 + 1 : Int32) fun v20 => f_X7_ends_L18 n x1 v20 g18)))
set_option maxHeartbeats 4000000 in
set_option maxRecDepth 100000 in
theorem A_X7_ends_L18 (X : XE) (r : Int32) (h' : HP) : ∀ (n : Nat) (x1 : Int32) (x2 : Int32) (h : HP), f_X7_ends_L18 n x1 x2 h = some (r, h') → Run mX7_ends 9 X 18 [(0, .ref (X.1 96)), (1, .int x1), (2, .int x2)] [] h (some (.int r)) h' := by
  intro n
  induction n with
  | zero => intro x1 x2 h hf; cases hf
  | succ n ih =>
    intro x1 x2 h hf
    rw [f_X7_ends_L18] at hf
    refine r_iload_n 19 rfl 2 rfl rfl (ck DX7_ends_0 12 rfl) ?_
    refine r_aload_n 20 rfl 0 rfl rfl (ck DX7_ends_0 13 rfl) ?_
    refine r_geti 23 rfl sh_96 kd_7_51 fl_X7_166 (ck DX7_ends_0 14 rfl) ?_
    rcases if_so hf with ⟨c6, hf⟩ | ⟨c6, hf⟩
    · refine r_icmp_ge_t 48 (ck DX7_ends_0 15 rfl) (by decide) c6 ?_
      refine r_iload_n 49 rfl 1 rfl rfl (ck DX7_ends_0 28 rfl) ?_
      rcases if_so hf with ⟨c7, hf⟩ | ⟨c7, hf⟩
      · refine r_if_ne_t 52 rfl 64 (ck DX7_ends_0 29 rfl) (by decide) c7 ?_
        refine r_aload_n 53 rfl 0 rfl rfl (ck DX7_ends_0 30 rfl) ?_
        refine r_geti 56 rfl sh_96 kd_7_4 fl_X7_22 (ck DX7_ends_0 31 rfl) ?_
        refine r_aload_n 57 rfl 0 rfl rfl (ck DX7_ends_0 32 rfl) ?_
        refine r_geti 60 rfl sh_96 kd_7_37 fl_X7_124 (ck DX7_ends_0 33 rfl) ?_
        refine r_isub 61 rfl (ck DX7_ends_0 34 rfl) ?_
        refine r_goto 68 (ck DX7_ends_0 35 rfl) (by decide) ?_
        obtain ⟨v8, e9, hf⟩ := lt_so hf
        refine r_top e9 ?_
        refine r_istore_n (lv' := [(2, .int v8), (0, .ref (X.1 96)), (1, .int x1)]) 69 rfl (ck DX7_ends_0 38 rfl) (by decide) rfl rfl ?_
        refine r_aload_n 70 rfl 1 rfl rfl (ck DX7_ends_0 39 rfl) ?_
        obtain ⟨g10, e11, hf⟩ := bo_so hf
        refine r_callVv 73 rfl (A_X7_putBack X h g10 e11) (by omega) cw_X7_405 sh_96 cl_7 rfl rfl (Nat.le_of_ble_eq_true rfl) (ck DX7_ends_0 40 rfl) ?_
        refine r_iload_n 74 rfl 0 rfl rfl (ck DX7_ends_0 41 rfl) ?_
        obtain ⟨rfl, rfl⟩ := so2 hf
        exact r_iret rfl rfl (ck DX7_ends_0 42 rfl)
      · refine r_if_ne_f 64 (ck DX7_ends_0 29 rfl) (by decide) c7 ?_
        refine r_aload_n 65 rfl 0 rfl rfl (ck DX7_ends_0 36 rfl) ?_
        obtain ⟨v12, e13, hf⟩ := bo_so hf
        refine r_callVi 68 rfl (A_X7_height X h v12 e13) (by omega) cw_X7_371 sh_96 cl_7 rfl rfl (Nat.le_of_ble_eq_true rfl) (ck DX7_ends_0 37 rfl) ?_
        refine r_istore_n (lv' := [(2, .int v12), (0, .ref (X.1 96)), (1, .int x1)]) 69 rfl (ck DX7_ends_0 38 rfl) (by decide) rfl rfl ?_
        refine r_aload_n 70 rfl 1 rfl rfl (ck DX7_ends_0 39 rfl) ?_
        obtain ⟨g14, e15, hf⟩ := bo_so hf
        refine r_callVv 73 rfl (A_X7_putBack X h g14 e15) (by omega) cw_X7_405 sh_96 cl_7 rfl rfl (Nat.le_of_ble_eq_true rfl) (ck DX7_ends_0 40 rfl) ?_
        refine r_iload_n 74 rfl 0 rfl rfl (ck DX7_ends_0 41 rfl) ?_
        obtain ⟨rfl, rfl⟩ := so2 hf
        exact r_iret rfl rfl (ck DX7_ends_0 42 rfl)
    · refine r_icmp_ge_f 26 rfl 48 (ck DX7_ends_0 15 rfl) (by decide) c6 ?_
      refine r_aload_n 27 rfl 0 rfl rfl (ck DX7_ends_0 16 rfl) ?_
      refine r_aload_n 28 rfl 0 rfl rfl (ck DX7_ends_0 17 rfl) ?_
      refine r_getr (q := 123) 31 rfl (lq_7_53) sh_96 kd_7_53 fl_X7_172 (ck DX7_ends_0 18 rfl) ?_
      refine r_iload_n 32 rfl 2 rfl rfl (ck DX7_ends_0 19 rfl) ?_
      obtain ⟨b16, hf⟩ := gd_so hf
      refine r_iald 33 rfl sh_123 (inb_vp b16) (ck DX7_ends_0 20 rfl) ?_
      refine r_aload_n 34 rfl 0 rfl rfl (ck DX7_ends_0 21 rfl) ?_
      refine r_getr (q := 124) 37 rfl (lq_7_54) sh_96 kd_7_54 fl_X7_175 (ck DX7_ends_0 22 rfl) ?_
      refine r_iload_n 38 rfl 2 rfl rfl (ck DX7_ends_0 23 rfl) ?_
      obtain ⟨b17, hf⟩ := gd_so hf
      refine r_iald 39 rfl sh_124 (inb_vp b17) (ck DX7_ends_0 24 rfl) ?_
      obtain ⟨g18, e19, hf⟩ := bo_so hf
      refine r_callVv 42 rfl (A_X7_goPlan X (h.1 123 (Int32.toNatClampNeg x2)) (h.1 124 (Int32.toNatClampNeg x2)) h g18 e19) (by omega) cw_X7_436 sh_96 cl_7 rfl rfl (Nat.le_of_ble_eq_true rfl) (ck DX7_ends_0 25 rfl) ?_
      obtain ⟨v20, e21, hf⟩ := lt_so hf
      refine r_iinc (lv' := [(2, .int v20), (0, .ref (X.1 96)), (1, .int x1)]) 45 rfl 2 (ck DX7_ends_0 26 rfl) rfl (by rw [e21, ic_1]) (by decide) rfl ?_
      refine r_goto 18 (ck DX7_ends_0 27 rfl) (by decide) ?_
      refine r_sub (lv' := [(0, .ref (X.1 96)), (1, .int x1), (2, .int v20)]) [1, 2, 0] rfl ?_
      exact ih x1 v20 g18 hf
def f_X7_ends (x1 : Int32) (h : HP) : Option (Int32 × HP) := bo (f_X7_in x1 0 1) fun v1 => if v1 = 0 then (some ((-1), h)) else (bo (f_X7_save h) fun g4 => f_X7_ends_L18 FZ x1 0 g4)
set_option maxHeartbeats 4000000 in
set_option maxRecDepth 100000 in
theorem A_X7_ends (X : XE) (x1 : Int32) (h : HP) (r : Int32) (h' : HP) (hf : f_X7_ends x1 h = some (r, h')) : CC mX7_ends 9 X [.ref (X.1 96), .int x1] h (some (.int r)) h' := by
  refine CC_of rfl (Nat.le_of_ble_eq_true rfl) ?_
  show Run mX7_ends 9 X 0 [(0, .ref (X.1 96)), (1, .int x1)] [] h (some (.int r)) h'
  unfold f_X7_ends at hf
  refine r_aload_n 1 rfl 0 rfl rfl (ck DX7_ends_0 0 rfl) ?_
  refine r_iload_n 2 rfl 1 rfl rfl (ck DX7_ends_0 1 rfl) ?_
  refine r_iconst 3 rfl ic_0 (ck DX7_ends_0 2 rfl) ?_
  refine r_iconst 4 rfl ic_1 (ck DX7_ends_0 3 rfl) ?_
  obtain ⟨v1, e2, hf⟩ := bo_so hf
  refine r_callVi 7 rfl (A_X7_in X x1 0 1 h v1 e2) (by omega) cw_X7_276 sh_96 cl_7 rfl rfl (Nat.le_of_ble_eq_true rfl) (ck DX7_ends_0 4 rfl) ?_
  rcases if_so hf with ⟨c3, hf⟩ | ⟨c3, hf⟩
  · refine r_if_ne_t 10 rfl 12 (ck DX7_ends_0 5 rfl) (by decide) c3 ?_
    refine r_iconst 11 rfl ic_m1 (ck DX7_ends_0 6 rfl) ?_
    obtain ⟨rfl, rfl⟩ := so2 hf
    exact r_iret rfl rfl (ck DX7_ends_0 7 rfl)
  · refine r_if_ne_f 12 (ck DX7_ends_0 5 rfl) (by decide) c3 ?_
    refine r_aload_n 13 rfl 0 rfl rfl (ck DX7_ends_0 8 rfl) ?_
    obtain ⟨g4, e5, hf⟩ := bo_so hf
    refine r_callVv 16 rfl (A_X7_save X h g4 e5) (by omega) cw_X7_402 sh_96 cl_7 rfl rfl (Nat.le_of_ble_eq_true rfl) (ck DX7_ends_0 9 rfl) ?_
    refine r_iconst 17 rfl ic_0 (ck DX7_ends_0 10 rfl) ?_
    refine r_istore_n (lv' := [(2, .int 0), (0, .ref (X.1 96)), (1, .int x1)]) 18 rfl (ck DX7_ends_0 11 rfl) (by decide) rfl rfl ?_
    refine r_sub (lv' := [(0, .ref (X.1 96)), (1, .int x1), (2, .int 0)]) [1, 2, 0] rfl ?_
    exact A_X7_ends_L18 X _ _ FZ x1 0 g4 hf
-- X7_book
def f_X7_book (x1 : Int32) (x2 : Int32) (h : HP) : Option (Int32 × HP) := if x1 = (-1) then (lt (si h 96 52 0) fun g2 => some (0, g2)) else (bo (f_X7_isPiece x1 h) fun v4 => if v4 = 0 then (some ((-1), h)) else (bo (f_X7_isFeet x2) fun v7 => if v7 = 0 then (some ((-2), h)) else (if (h.1 96 52) = 8 then (some ((-4), h)) else (gd (inb (h.1 96 52) 8) (lt (si h 125 (Int32.toNatClampNeg (h.1 96 52)) x1) fun g12 => gd (inb (g12.1 96 52) 8) (lt (si g12 126 (Int32.toNatClampNeg (g12.1 96 52)) x2) fun g15 => lt (si g15 96 52 ((g15.1 96 52) + 1)) fun g17 => some ((g17.1 96 52), g17)))))))
set_option maxHeartbeats 4000000 in
set_option maxRecDepth 100000 in
theorem A_X7_book (X : XE) (x1 : Int32) (x2 : Int32) (h : HP) (r : Int32) (h' : HP) (hf : f_X7_book x1 x2 h = some (r, h')) : CC mX7_book 3 X [.ref (X.1 96), .int x1, .int x2] h (some (.int r)) h' := by
  refine CC_of rfl (Nat.le_of_ble_eq_true rfl) ?_
  show Run mX7_book 3 X 0 [(0, .ref (X.1 96)), (1, .int x1), (2, .int x2)] [] h (some (.int r)) h'
  unfold f_X7_book at hf
  refine r_iload_n 1 rfl 1 rfl rfl (ck DX7_book_0 0 rfl) ?_
  refine r_iconst 2 rfl ic_m1 (ck DX7_book_0 1 rfl) ?_
  rcases if_so hf with ⟨c1, hf⟩ | ⟨c1, hf⟩
  · refine r_icmp_ne_t 5 rfl 12 (ck DX7_book_0 2 rfl) (by decide) c1 ?_
    refine r_aload_n 6 rfl 0 rfl rfl (ck DX7_book_0 3 rfl) ?_
    refine r_iconst 7 rfl ic_0 (ck DX7_book_0 4 rfl) ?_
    obtain ⟨g2, e3, hf⟩ := lt_so hf
    refine r_puti 10 rfl sh_96 kd_7_52 fw_X7_169 rfl rfl (ck DX7_book_0 5 rfl) ?_
    refine r_heap e3 ?_
    refine r_iconst 11 rfl ic_0 (ck DX7_book_0 6 rfl) ?_
    obtain ⟨rfl, rfl⟩ := so2 hf
    exact r_iret rfl rfl (ck DX7_book_0 7 rfl)
  · refine r_icmp_ne_f 12 (ck DX7_book_0 2 rfl) (by decide) c1 ?_
    refine r_aload_n 13 rfl 0 rfl rfl (ck DX7_book_0 8 rfl) ?_
    refine r_iload_n 14 rfl 1 rfl rfl (ck DX7_book_0 9 rfl) ?_
    obtain ⟨v4, e5, hf⟩ := bo_so hf
    refine r_callVi 17 rfl (A_X7_isPiece X x1 h v4 e5) (by omega) cw_X7_280 sh_96 cl_7 rfl rfl (Nat.le_of_ble_eq_true rfl) (ck DX7_book_0 10 rfl) ?_
    rcases if_so hf with ⟨c6, hf⟩ | ⟨c6, hf⟩
    · refine r_if_ne_t 20 rfl 22 (ck DX7_book_0 11 rfl) (by decide) c6 ?_
      refine r_iconst 21 rfl ic_m1 (ck DX7_book_0 12 rfl) ?_
      obtain ⟨rfl, rfl⟩ := so2 hf
      exact r_iret rfl rfl (ck DX7_book_0 13 rfl)
    · refine r_if_ne_f 22 (ck DX7_book_0 11 rfl) (by decide) c6 ?_
      refine r_aload_n 23 rfl 0 rfl rfl (ck DX7_book_0 14 rfl) ?_
      refine r_iload_n 24 rfl 2 rfl rfl (ck DX7_book_0 15 rfl) ?_
      obtain ⟨v7, e8, hf⟩ := bo_so hf
      refine r_callVi 27 rfl (A_X7_isFeet X x2 h v7 e8) (by omega) cw_X7_284 sh_96 cl_7 rfl rfl (Nat.le_of_ble_eq_true rfl) (ck DX7_book_0 16 rfl) ?_
      rcases if_so hf with ⟨c9, hf⟩ | ⟨c9, hf⟩
      · refine r_if_ne_t 30 rfl 33 (ck DX7_book_0 17 rfl) (by decide) c9 ?_
        refine r_bipush 32 rfl bp_m2 (ck DX7_book_0 18 rfl) ?_
        obtain ⟨rfl, rfl⟩ := so2 hf
        exact r_iret rfl rfl (ck DX7_book_0 19 rfl)
      · refine r_if_ne_f 33 (ck DX7_book_0 17 rfl) (by decide) c9 ?_
        refine r_aload_n 34 rfl 0 rfl rfl (ck DX7_book_0 20 rfl) ?_
        refine r_geti 37 rfl sh_96 kd_7_52 fl_X7_169 (ck DX7_book_0 21 rfl) ?_
        refine r_bipush 39 rfl bp_8 (ck DX7_book_0 22 rfl) ?_
        rcases if_so hf with ⟨c10, hf⟩ | ⟨c10, hf⟩
        · refine r_icmp_ne_t 42 rfl 45 (ck DX7_book_0 23 rfl) (by decide) c10 ?_
          refine r_bipush 44 rfl bp_m4 (ck DX7_book_0 24 rfl) ?_
          obtain ⟨rfl, rfl⟩ := so2 hf
          exact r_iret rfl rfl (ck DX7_book_0 25 rfl)
        · refine r_icmp_ne_f 45 (ck DX7_book_0 23 rfl) (by decide) c10 ?_
          refine r_aload_n 46 rfl 0 rfl rfl (ck DX7_book_0 26 rfl) ?_
          refine r_getr (q := 125) 49 rfl (lq_7_55) sh_96 kd_7_55 fl_X7_178 (ck DX7_book_0 27 rfl) ?_
          refine r_aload_n 50 rfl 0 rfl rfl (ck DX7_book_0 28 rfl) ?_
          refine r_geti 53 rfl sh_96 kd_7_52 fl_X7_169 (ck DX7_book_0 29 rfl) ?_
          refine r_iload_n 54 rfl 1 rfl rfl (ck DX7_book_0 30 rfl) ?_
          obtain ⟨b11, hf⟩ := gd_so hf
          obtain ⟨g12, e13, hf⟩ := lt_so hf
          refine r_iast 55 rfl sh_125 (inb_vp b11) (ck DX7_book_0 31 rfl) ?_
          refine r_heap e13 ?_
          refine r_aload_n 56 rfl 0 rfl rfl (ck DX7_book_0 32 rfl) ?_
          refine r_getr (q := 126) 59 rfl (lq_7_56) sh_96 kd_7_56 fl_X7_181 (ck DX7_book_0 33 rfl) ?_
          refine r_aload_n 60 rfl 0 rfl rfl (ck DX7_book_0 34 rfl) ?_
          refine r_geti 63 rfl sh_96 kd_7_52 fl_X7_169 (ck DX7_book_0 35 rfl) ?_
          refine r_iload_n 64 rfl 2 rfl rfl (ck DX7_book_0 36 rfl) ?_
          obtain ⟨b14, hf⟩ := gd_so hf
          obtain ⟨g15, e16, hf⟩ := lt_so hf
          refine r_iast 65 rfl sh_126 (inb_vp b14) (ck DX7_book_0 37 rfl) ?_
          refine r_heap e16 ?_
          refine r_aload_n 66 rfl 0 rfl rfl (ck DX7_book_0 38 rfl) ?_
          refine r_dup 67 rfl rfl (ck DX7_book_0 39 rfl) ?_
          refine r_geti 70 rfl sh_96 kd_7_52 fl_X7_169 (ck DX7_book_0 40 rfl) ?_
          refine r_iconst 71 rfl ic_1 (ck DX7_book_0 41 rfl) ?_
          refine r_iadd 72 rfl (ck DX7_book_0 42 rfl) ?_
          obtain ⟨g17, e18, hf⟩ := lt_so hf
          refine r_puti 75 rfl sh_96 kd_7_52 fw_X7_169 rfl rfl (ck DX7_book_0 43 rfl) ?_
          refine r_heap e18 ?_
          refine r_aload_n 76 rfl 0 rfl rfl (ck DX7_book_0 44 rfl) ?_
          refine r_geti 79 rfl sh_96 kd_7_52 fl_X7_169 (ck DX7_book_0 45 rfl) ?_
          obtain ⟨rfl, rfl⟩ := so2 hf
          exact r_iret rfl rfl (ck DX7_book_0 46 rfl)
-- X7_looked
def f_X7_looked_L2 (h : HP) : Nat → Int32 → Option Int32
  | 0, _ => none
  | n + 1, x1 => if (h.1 96 52) ≤ x1 then (some (-5)) else (gd (inb x1 8) (gd (inb (h.1 125 (Int32.toNatClampNeg x1)) 6) (gd (inb x1 8) (if (h.1 99 (Int32.toNatClampNeg (h.1 125 (Int32.toNatClampNeg x1)))) = (h.1 126 (Int32.toNatClampNeg x1)) then (lt (x1 + 1 : Int32) fun v6 => f_X7_looked_L2 h n v6) else (some x1)))))
set_option maxHeartbeats 4000000 in
set_option maxRecDepth 100000 in
theorem A_X7_looked_L2 (X : XE) (h : HP) (r : Int32) : ∀ (n : Nat) (x1 : Int32), f_X7_looked_L2 h n x1 = some r → Run mX7_looked 1 X 2 [(0, .ref (X.1 96)), (1, .int x1)] [] h (some (.int r)) h := by
  intro n
  induction n with
  | zero => intro x1 hf; cases hf
  | succ n ih =>
    intro x1 hf
    rw [f_X7_looked_L2] at hf
    refine r_iload_n 3 rfl 1 rfl rfl (ck DX7_looked_0 2 rfl) ?_
    refine r_aload_n 4 rfl 0 rfl rfl (ck DX7_looked_0 3 rfl) ?_
    refine r_geti 7 rfl sh_96 kd_7_52 fl_X7_169 (ck DX7_looked_0 4 rfl) ?_
    rcases if_so hf with ⟨c1, hf⟩ | ⟨c1, hf⟩
    · refine r_icmp_ge_t 38 (ck DX7_looked_0 5 rfl) (by decide) c1 ?_
      refine r_bipush 40 rfl bp_m5 (ck DX7_looked_0 22 rfl) ?_
      obtain rfl := so1 hf
      exact r_iret rfl rfl (ck DX7_looked_0 23 rfl)
    · refine r_icmp_ge_f 10 rfl 38 (ck DX7_looked_0 5 rfl) (by decide) c1 ?_
      refine r_aload_n 11 rfl 0 rfl rfl (ck DX7_looked_0 6 rfl) ?_
      refine r_getr (q := 99) 14 rfl (lq_7_8) sh_96 kd_7_8 fl_X7_35 (ck DX7_looked_0 7 rfl) ?_
      refine r_aload_n 15 rfl 0 rfl rfl (ck DX7_looked_0 8 rfl) ?_
      refine r_getr (q := 125) 18 rfl (lq_7_55) sh_96 kd_7_55 fl_X7_178 (ck DX7_looked_0 9 rfl) ?_
      refine r_iload_n 19 rfl 1 rfl rfl (ck DX7_looked_0 10 rfl) ?_
      obtain ⟨b2, hf⟩ := gd_so hf
      refine r_iald 20 rfl sh_125 (inb_vp b2) (ck DX7_looked_0 11 rfl) ?_
      obtain ⟨b3, hf⟩ := gd_so hf
      refine r_iald 21 rfl sh_99 (inb_vp b3) (ck DX7_looked_0 12 rfl) ?_
      refine r_aload_n 22 rfl 0 rfl rfl (ck DX7_looked_0 13 rfl) ?_
      refine r_getr (q := 126) 25 rfl (lq_7_56) sh_96 kd_7_56 fl_X7_181 (ck DX7_looked_0 14 rfl) ?_
      refine r_iload_n 26 rfl 1 rfl rfl (ck DX7_looked_0 15 rfl) ?_
      obtain ⟨b4, hf⟩ := gd_so hf
      refine r_iald 27 rfl sh_126 (inb_vp b4) (ck DX7_looked_0 16 rfl) ?_
      rcases if_so hf with ⟨c5, hf⟩ | ⟨c5, hf⟩
      · refine r_icmp_eq_t 32 (ck DX7_looked_0 17 rfl) (by decide) c5 ?_
        obtain ⟨v6, e7, hf⟩ := lt_so hf
        refine r_iinc (lv' := [(1, .int v6), (0, .ref (X.1 96))]) 35 rfl 1 (ck DX7_looked_0 20 rfl) rfl (by rw [e7, ic_1]) (by decide) rfl ?_
        refine r_goto 2 (ck DX7_looked_0 21 rfl) (by decide) ?_
        refine r_sub (lv' := [(0, .ref (X.1 96)), (1, .int v6)]) [1, 0] rfl ?_
        exact ih v6 hf
      · refine r_icmp_eq_f 30 rfl 32 (ck DX7_looked_0 17 rfl) (by decide) c5 ?_
        refine r_iload_n 31 rfl 1 rfl rfl (ck DX7_looked_0 18 rfl) ?_
        obtain rfl := so1 hf
        exact r_iret rfl rfl (ck DX7_looked_0 19 rfl)
def f_X7_looked (h : HP) : Option Int32 := f_X7_looked_L2 h FZ 0
set_option maxHeartbeats 4000000 in
set_option maxRecDepth 100000 in
theorem A_X7_looked (X : XE) (h : HP) (r : Int32) (hf : f_X7_looked h = some r) : CC mX7_looked 1 X [.ref (X.1 96)] h (some (.int r)) h := by
  refine CC_of rfl (Nat.le_of_ble_eq_true rfl) ?_
  show Run mX7_looked 1 X 0 [(0, .ref (X.1 96))] [] h (some (.int r)) h
  unfold f_X7_looked at hf
  refine r_iconst 1 rfl ic_0 (ck DX7_looked_0 0 rfl) ?_
  refine r_istore_n (lv' := [(1, .int 0), (0, .ref (X.1 96))]) 2 rfl (ck DX7_looked_0 1 rfl) (by decide) rfl rfl ?_
  refine r_sub (lv' := [(0, .ref (X.1 96)), (1, .int 0)]) [1, 0] rfl ?_
  exact A_X7_looked_L2 X h _ FZ 0 hf
-- X7_isTape
def f_X7_isTape (x1 : Int32) : Option Int32 := bo (f_X7_in x1 0 5) fun v1 => gd (zok v1) (some v1)
set_option maxHeartbeats 4000000 in
set_option maxRecDepth 100000 in
theorem A_X7_isTape (X : XE) (x1 : Int32) (h : HP) (r : Int32) (hf : f_X7_isTape x1 = some r) : CC mX7_isTape 2 X [.ref (X.1 96), .int x1] h (some (.int r)) h := by
  refine CC_of rfl (Nat.le_of_ble_eq_true rfl) ?_
  show Run mX7_isTape 2 X 0 [(0, .ref (X.1 96)), (1, .int x1)] [] h (some (.int r)) h
  unfold f_X7_isTape at hf
  refine r_aload_n 1 rfl 0 rfl rfl (ck DX7_isTape_0 0 rfl) ?_
  refine r_iload_n 2 rfl 1 rfl rfl (ck DX7_isTape_0 1 rfl) ?_
  refine r_iconst 3 rfl ic_0 (ck DX7_isTape_0 2 rfl) ?_
  refine r_iconst 4 rfl ic_5 (ck DX7_isTape_0 3 rfl) ?_
  obtain ⟨v1, e2, hf⟩ := bo_so hf
  refine r_callVi 7 rfl (A_X7_in X x1 0 5 h v1 e2) (by omega) cw_X7_276 sh_96 cl_7 rfl rfl (Nat.le_of_ble_eq_true rfl) (ck DX7_isTape_0 4 rfl) ?_
  obtain ⟨b3, hf⟩ := gd_so hf
  obtain rfl := so1 hf
  exact r_iret rfl (zok_nar b3) (ck DX7_isTape_0 5 rfl)
-- X7_judge
def f_X7_judge_L24 (h : HP) : Nat → Int32 → Int32 → Int32 → Option Int32
  | 0, _, _, _ => none
  | n + 1, x1, x2, x3 => if (h.1 96 0) ≤ x3 then (some (-5)) else (gd (inb x1 6) (if (h.1 141 (Int32.toNatClampNeg x1)) < 0 then (some (100 + x3)) else (if x2 < 0 then (some (100 + x3)) else (gd (inb x1 6) (if x2 ≤ (((h.1 142 (Int32.toNatClampNeg x1)) - x3) - 1) then (gd (inb (((60 * x1) + x2) + x3) 360) (gd (inb x3 6) (if (lg_cmp (h.2.1 143 (Int32.toNatClampNeg (((60 * x1) + x2) + x3))) (Int32.toInt64 (h.1 99 (Int32.toNatClampNeg x3)))) = 0 then (lt (x3 + 1 : Int32) fun v15 => f_X7_judge_L24 h n x1 x2 v15) else (some x3)))) else (some (100 + x3)))))))
set_option maxHeartbeats 4000000 in
set_option maxRecDepth 100000 in
theorem A_X7_judge_L24 (X : XE) (h : HP) (r : Int32) : ∀ (n : Nat) (x1 : Int32) (x2 : Int32) (x3 : Int32), f_X7_judge_L24 h n x1 x2 x3 = some r → Run mX7_judge 3 X 24 [(0, .ref (X.1 96)), (1, .int x1), (2, .int x2), (3, .int x3)] [] h (some (.int r)) h := by
  intro n
  induction n with
  | zero => intro x1 x2 x3 hf; cases hf
  | succ n ih =>
    intro x1 x2 x3 hf
    rw [f_X7_judge_L24] at hf
    refine r_iload_n 25 rfl 3 rfl rfl (ck DX7_judge_0 15 rfl) ?_
    refine r_aload_n 26 rfl 0 rfl rfl (ck DX7_judge_0 16 rfl) ?_
    refine r_geti 29 rfl sh_96 kd_7_0 fl_X7_7 (ck DX7_judge_0 17 rfl) ?_
    rcases if_so hf with ⟨c6, hf⟩ | ⟨c6, hf⟩
    · refine r_icmp_ge_t 96 (ck DX7_judge_0 18 rfl) (by decide) c6 ?_
      refine r_bipush 98 rfl bp_m5 (ck DX7_judge_1 11 rfl) ?_
      obtain rfl := so1 hf
      exact r_iret rfl rfl (ck DX7_judge_1 12 rfl)
    · refine r_icmp_ge_f 32 rfl 96 (ck DX7_judge_0 18 rfl) (by decide) c6 ?_
      refine r_aload_n 33 rfl 0 rfl rfl (ck DX7_judge_0 19 rfl) ?_
      refine r_getr (q := 141) 36 rfl (lq_7_83) sh_96 kd_7_83 fl_X7_263 (ck DX7_judge_0 20 rfl) ?_
      refine r_iload_n 37 rfl 1 rfl rfl (ck DX7_judge_0 21 rfl) ?_
      obtain ⟨b7, hf⟩ := gd_so hf
      refine r_iald 38 rfl sh_141 (inb_vp b7) (ck DX7_judge_0 22 rfl) ?_
      rcases if_so hf with ⟨c8, hf⟩ | ⟨c8, hf⟩
      · refine r_if_lt_t 59 (ck DX7_judge_0 23 rfl) (by decide) c8 ?_
        refine r_bipush 61 rfl bp_100 (ck DX7_judge_0 36 rfl) ?_
        refine r_iload_n 62 rfl 3 rfl rfl (ck DX7_judge_0 37 rfl) ?_
        refine r_iadd 63 rfl (ck DX7_judge_0 38 rfl) ?_
        obtain rfl := so1 hf
        exact r_iret rfl rfl (ck DX7_judge_0 39 rfl)
      · refine r_if_lt_f 41 rfl 59 (ck DX7_judge_0 23 rfl) (by decide) c8 ?_
        refine r_iload_n 42 rfl 2 rfl rfl (ck DX7_judge_0 24 rfl) ?_
        rcases if_so hf with ⟨c9, hf⟩ | ⟨c9, hf⟩
        · refine r_if_lt_t 59 (ck DX7_judge_0 25 rfl) (by decide) c9 ?_
          refine r_bipush 61 rfl bp_100 (ck DX7_judge_0 36 rfl) ?_
          refine r_iload_n 62 rfl 3 rfl rfl (ck DX7_judge_0 37 rfl) ?_
          refine r_iadd 63 rfl (ck DX7_judge_0 38 rfl) ?_
          obtain rfl := so1 hf
          exact r_iret rfl rfl (ck DX7_judge_0 39 rfl)
        · refine r_if_lt_f 45 rfl 59 (ck DX7_judge_0 25 rfl) (by decide) c9 ?_
          refine r_iload_n 46 rfl 2 rfl rfl (ck DX7_judge_0 26 rfl) ?_
          refine r_aload_n 47 rfl 0 rfl rfl (ck DX7_judge_0 27 rfl) ?_
          refine r_getr (q := 142) 50 rfl (lq_7_84) sh_96 kd_7_84 fl_X7_266 (ck DX7_judge_0 28 rfl) ?_
          refine r_iload_n 51 rfl 1 rfl rfl (ck DX7_judge_0 29 rfl) ?_
          obtain ⟨b10, hf⟩ := gd_so hf
          refine r_iald 52 rfl sh_142 (inb_vp b10) (ck DX7_judge_0 30 rfl) ?_
          refine r_iload_n 53 rfl 3 rfl rfl (ck DX7_judge_0 31 rfl) ?_
          refine r_isub 54 rfl (ck DX7_judge_0 32 rfl) ?_
          refine r_iconst 55 rfl ic_1 (ck DX7_judge_0 33 rfl) ?_
          refine r_isub 56 rfl (ck DX7_judge_0 34 rfl) ?_
          rcases if_so hf with ⟨c11, hf⟩ | ⟨c11, hf⟩
          · refine r_icmp_le_t 64 (ck DX7_judge_0 35 rfl) (by decide) c11 ?_
            refine r_aload_n 65 rfl 0 rfl rfl (ck DX7_judge_0 40 rfl) ?_
            refine r_getr (q := 143) 68 rfl (lq_7_85) sh_96 kd_7_85 fl_X7_269 (ck DX7_judge_0 41 rfl) ?_
            refine r_bipush 70 rfl bp_60 (ck DX7_judge_0 42 rfl) ?_
            refine r_iload_n 71 rfl 1 rfl rfl (ck DX7_judge_0 43 rfl) ?_
            refine r_imul 72 rfl (ck DX7_judge_0 44 rfl) ?_
            refine r_iload_n 73 rfl 2 rfl rfl (ck DX7_judge_0 45 rfl) ?_
            refine r_iadd 74 rfl (ck DX7_judge_0 46 rfl) ?_
            refine r_iload_n 75 rfl 3 rfl rfl (ck DX7_judge_0 47 rfl) ?_
            refine r_iadd 76 rfl (ck DX7_judge_0 48 rfl) ?_
            obtain ⟨b12, hf⟩ := gd_so hf
            refine r_lald 77 rfl sh_143 (inb_vp b12) (ck DX7_judge_0 49 rfl) ?_
            refine r_aload_n 78 rfl 0 rfl rfl (ck DX7_judge_1 0 rfl) ?_
            refine r_getr (q := 99) 81 rfl (lq_7_8) sh_96 kd_7_8 fl_X7_35 (ck DX7_judge_1 1 rfl) ?_
            refine r_iload_n 82 rfl 3 rfl rfl (ck DX7_judge_1 2 rfl) ?_
            obtain ⟨b13, hf⟩ := gd_so hf
            refine r_iald 83 rfl sh_99 (inb_vp b13) (ck DX7_judge_1 3 rfl) ?_
            refine r_i2l 84 rfl (ck DX7_judge_1 4 rfl) ?_
            refine r_lcmp 85 rfl (ck DX7_judge_1 5 rfl) ?_
            rcases if_so hf with ⟨c14, hf⟩ | ⟨c14, hf⟩
            · refine r_if_eq_t 90 (ck DX7_judge_1 6 rfl) (by decide) c14 ?_
              obtain ⟨v15, e16, hf⟩ := lt_so hf
              refine r_iinc (lv' := [(3, .int v15), (0, .ref (X.1 96)), (1, .int x1), (2, .int x2)]) 93 rfl 3 (ck DX7_judge_1 9 rfl) rfl (by rw [e16, ic_1]) (by decide) rfl ?_
              refine r_goto 24 (ck DX7_judge_1 10 rfl) (by decide) ?_
              refine r_sub (lv' := [(0, .ref (X.1 96)), (1, .int x1), (2, .int x2), (3, .int v15)]) [1, 2, 3, 0] rfl ?_
              exact ih x1 x2 v15 hf
            · refine r_if_eq_f 88 rfl 90 (ck DX7_judge_1 6 rfl) (by decide) c14 ?_
              refine r_iload_n 89 rfl 3 rfl rfl (ck DX7_judge_1 7 rfl) ?_
              obtain rfl := so1 hf
              exact r_iret rfl rfl (ck DX7_judge_1 8 rfl)
          · refine r_icmp_le_f 59 rfl 64 (ck DX7_judge_0 35 rfl) (by decide) c11 ?_
            refine r_bipush 61 rfl bp_100 (ck DX7_judge_0 36 rfl) ?_
            refine r_iload_n 62 rfl 3 rfl rfl (ck DX7_judge_0 37 rfl) ?_
            refine r_iadd 63 rfl (ck DX7_judge_0 38 rfl) ?_
            obtain rfl := so1 hf
            exact r_iret rfl rfl (ck DX7_judge_0 39 rfl)
def f_X7_judge (x1 : Int32) (x2 : Int32) (h : HP) : Option Int32 := bo (f_X7_isTape x1) fun v1 => if v1 = 0 then (some (-1)) else (gd (inb x1 6) (if (h.1 141 (Int32.toNatClampNeg x1)) ≤ 0 then (f_X7_judge_L24 h FZ x1 x2 0) else (some (-12))))
set_option maxHeartbeats 4000000 in
set_option maxRecDepth 100000 in
theorem A_X7_judge (X : XE) (x1 : Int32) (x2 : Int32) (h : HP) (r : Int32) (hf : f_X7_judge x1 x2 h = some r) : CC mX7_judge 3 X [.ref (X.1 96), .int x1, .int x2] h (some (.int r)) h := by
  refine CC_of rfl (Nat.le_of_ble_eq_true rfl) ?_
  show Run mX7_judge 3 X 0 [(0, .ref (X.1 96)), (1, .int x1), (2, .int x2)] [] h (some (.int r)) h
  unfold f_X7_judge at hf
  refine r_aload_n 1 rfl 0 rfl rfl (ck DX7_judge_0 0 rfl) ?_
  refine r_iload_n 2 rfl 1 rfl rfl (ck DX7_judge_0 1 rfl) ?_
  obtain ⟨v1, e2, hf⟩ := bo_so hf
  refine r_callVi 5 rfl (A_X7_isTape X x1 h v1 e2) (by omega) cw_X7_440 sh_96 cl_7 rfl rfl (Nat.le_of_ble_eq_true rfl) (ck DX7_judge_0 2 rfl) ?_
  rcases if_so hf with ⟨c3, hf⟩ | ⟨c3, hf⟩
  · refine r_if_ne_t 8 rfl 10 (ck DX7_judge_0 3 rfl) (by decide) c3 ?_
    refine r_iconst 9 rfl ic_m1 (ck DX7_judge_0 4 rfl) ?_
    obtain rfl := so1 hf
    exact r_iret rfl rfl (ck DX7_judge_0 5 rfl)
  · refine r_if_ne_f 10 (ck DX7_judge_0 3 rfl) (by decide) c3 ?_
    refine r_aload_n 11 rfl 0 rfl rfl (ck DX7_judge_0 6 rfl) ?_
    refine r_getr (q := 141) 14 rfl (lq_7_83) sh_96 kd_7_83 fl_X7_263 (ck DX7_judge_0 7 rfl) ?_
    refine r_iload_n 15 rfl 1 rfl rfl (ck DX7_judge_0 8 rfl) ?_
    obtain ⟨b4, hf⟩ := gd_so hf
    refine r_iald 16 rfl sh_141 (inb_vp b4) (ck DX7_judge_0 9 rfl) ?_
    rcases if_so hf with ⟨c5, hf⟩ | ⟨c5, hf⟩
    · refine r_if_le_t 22 (ck DX7_judge_0 10 rfl) (by decide) c5 ?_
      refine r_iconst 23 rfl ic_0 (ck DX7_judge_0 13 rfl) ?_
      refine r_istore_n (lv' := [(3, .int 0), (0, .ref (X.1 96)), (1, .int x1), (2, .int x2)]) 24 rfl (ck DX7_judge_0 14 rfl) (by decide) rfl rfl ?_
      refine r_sub (lv' := [(0, .ref (X.1 96)), (1, .int x1), (2, .int x2), (3, .int 0)]) [1, 2, 3, 0] rfl ?_
      exact A_X7_judge_L24 X h _ FZ x1 x2 0 hf
    · refine r_if_le_f 19 rfl 22 (ck DX7_judge_0 10 rfl) (by decide) c5 ?_
      refine r_bipush 21 rfl bp_m12 (ck DX7_judge_0 11 rfl) ?_
      obtain rfl := so1 hf
      exact r_iret rfl rfl (ck DX7_judge_0 12 rfl)
-- X7_image
def f_X7_image_L287 : Nat → Int32 → HP → Option (Int32 × HP)
  | 0, _, _ => none
  | n + 1, x1, h => if (8 : Int32) ≤ x1 then (some ((h.1 96 0), h)) else (gd (inb x1 8) (gd (inb x1 8) (lt (si h 138 (Int32.toNatClampNeg x1) (h.1 125 (Int32.toNatClampNeg x1))) fun g31 => gd (inb x1 8) (gd (inb x1 8) (lt (si g31 139 (Int32.toNatClampNeg x1) (g31.1 126 (Int32.toNatClampNeg x1))) fun g35 => lt (x1 + 1 : Int32) fun v37 => f_X7_image_L287 n v37 g35)))))
set_option maxHeartbeats 4000000 in
set_option maxRecDepth 100000 in
theorem A_X7_image_L287 (X : XE) (r : Int32) (h' : HP) : ∀ (n : Nat) (x1 : Int32) (h : HP), f_X7_image_L287 n x1 h = some (r, h') → Run mX7_image 1 X 287 [(0, .ref (X.1 96)), (1, .int x1)] [] h (some (.int r)) h' := by
  intro n
  induction n with
  | zero => intro x1 h hf; cases hf
  | succ n ih =>
    intro x1 h hf
    rw [f_X7_image_L287] at hf
    refine r_iload_n 288 rfl 1 rfl rfl (ck DX7_image_3 18 rfl) ?_
    refine r_bipush 290 rfl bp_8 (ck DX7_image_3 19 rfl) ?_
    rcases if_so hf with ⟨c28, hf⟩ | ⟨c28, hf⟩
    · refine r_icmp_ge_t 323 (ck DX7_image_3 20 rfl) (by decide) c28 ?_
      refine r_aload_n 324 rfl 0 rfl rfl (ck DX7_image_3 39 rfl) ?_
      refine r_geti 327 rfl sh_96 kd_7_0 fl_X7_7 (ck DX7_image_3 40 rfl) ?_
      obtain ⟨rfl, rfl⟩ := so2 hf
      exact r_iret rfl rfl (ck DX7_image_3 41 rfl)
    · refine r_icmp_ge_f 293 rfl 323 (ck DX7_image_3 20 rfl) (by decide) c28 ?_
      refine r_aload_n 294 rfl 0 rfl rfl (ck DX7_image_3 21 rfl) ?_
      refine r_getr (q := 138) 297 rfl (lq_7_79) sh_96 kd_7_79 fl_X7_251 (ck DX7_image_3 22 rfl) ?_
      refine r_iload_n 298 rfl 1 rfl rfl (ck DX7_image_3 23 rfl) ?_
      refine r_aload_n 299 rfl 0 rfl rfl (ck DX7_image_3 24 rfl) ?_
      refine r_getr (q := 125) 302 rfl (lq_7_55) sh_96 kd_7_55 fl_X7_178 (ck DX7_image_3 25 rfl) ?_
      refine r_iload_n 303 rfl 1 rfl rfl (ck DX7_image_3 26 rfl) ?_
      obtain ⟨b29, hf⟩ := gd_so hf
      refine r_iald 304 rfl sh_125 (inb_vp b29) (ck DX7_image_3 27 rfl) ?_
      obtain ⟨b30, hf⟩ := gd_so hf
      obtain ⟨g31, e32, hf⟩ := lt_so hf
      refine r_iast 305 rfl sh_138 (inb_vp b30) (ck DX7_image_3 28 rfl) ?_
      refine r_heap e32 ?_
      refine r_aload_n 306 rfl 0 rfl rfl (ck DX7_image_3 29 rfl) ?_
      refine r_getr (q := 139) 309 rfl (lq_7_80) sh_96 kd_7_80 fl_X7_254 (ck DX7_image_3 30 rfl) ?_
      refine r_iload_n 310 rfl 1 rfl rfl (ck DX7_image_3 31 rfl) ?_
      refine r_aload_n 311 rfl 0 rfl rfl (ck DX7_image_3 32 rfl) ?_
      refine r_getr (q := 126) 314 rfl (lq_7_56) sh_96 kd_7_56 fl_X7_181 (ck DX7_image_3 33 rfl) ?_
      refine r_iload_n 315 rfl 1 rfl rfl (ck DX7_image_3 34 rfl) ?_
      obtain ⟨b33, hf⟩ := gd_so hf
      refine r_iald 316 rfl sh_126 (inb_vp b33) (ck DX7_image_3 35 rfl) ?_
      obtain ⟨b34, hf⟩ := gd_so hf
      obtain ⟨g35, e36, hf⟩ := lt_so hf
      refine r_iast 317 rfl sh_139 (inb_vp b34) (ck DX7_image_3 36 rfl) ?_
      refine r_heap e36 ?_
      obtain ⟨v37, e38, hf⟩ := lt_so hf
      refine r_iinc (lv' := [(1, .int v37), (0, .ref (X.1 96))]) 320 rfl 1 (ck DX7_image_3 37 rfl) rfl (by rw [e38, ic_1]) (by decide) rfl ?_
      refine r_goto 287 (ck DX7_image_3 38 rfl) (by decide) ?_
      refine r_sub (lv' := [(0, .ref (X.1 96)), (1, .int v37)]) [1, 0] rfl ?_
      exact ih v37 g35 hf
def f_X7_image_L249 : Nat → Int32 → HP → Option (Int32 × HP)
  | 0, _, _ => none
  | n + 1, x1, h => if (10 : Int32) ≤ x1 then (f_X7_image_L287 FZ 0 h) else (gd (inb x1 10) (gd (inb x1 10) (lt (si h 136 (Int32.toNatClampNeg x1) (h.1 123 (Int32.toNatClampNeg x1))) fun g41 => gd (inb x1 10) (gd (inb x1 10) (lt (si g41 137 (Int32.toNatClampNeg x1) (g41.1 124 (Int32.toNatClampNeg x1))) fun g45 => lt (x1 + 1 : Int32) fun v47 => f_X7_image_L249 n v47 g45)))))
set_option maxHeartbeats 4000000 in
set_option maxRecDepth 100000 in
theorem A_X7_image_L249 (X : XE) (r : Int32) (h' : HP) : ∀ (n : Nat) (x1 : Int32) (h : HP), f_X7_image_L249 n x1 h = some (r, h') → Run mX7_image 1 X 249 [(0, .ref (X.1 96)), (1, .int x1)] [] h (some (.int r)) h' := by
  intro n
  induction n with
  | zero => intro x1 h hf; cases hf
  | succ n ih =>
    intro x1 h hf
    rw [f_X7_image_L249] at hf
    refine r_iload_n 250 rfl 1 rfl rfl (ck DX7_image_2 45 rfl) ?_
    refine r_bipush 252 rfl bp_10 (ck DX7_image_2 46 rfl) ?_
    rcases if_so hf with ⟨c27, hf⟩ | ⟨c27, hf⟩
    · refine r_icmp_ge_t 285 (ck DX7_image_2 47 rfl) (by decide) c27 ?_
      refine r_iconst 286 rfl ic_0 (ck DX7_image_3 16 rfl) ?_
      refine r_istore_n (lv' := [(1, .int 0), (0, .ref (X.1 96))]) 287 rfl (ck DX7_image_3 17 rfl) (by decide) rfl rfl ?_
      refine r_sub (lv' := [(0, .ref (X.1 96)), (1, .int 0)]) [1, 0] rfl ?_
      exact A_X7_image_L287 X _ _ FZ 0 h hf
    · refine r_icmp_ge_f 255 rfl 285 (ck DX7_image_2 47 rfl) (by decide) c27 ?_
      refine r_aload_n 256 rfl 0 rfl rfl (ck DX7_image_2 48 rfl) ?_
      refine r_getr (q := 136) 259 rfl (lq_7_77) sh_96 kd_7_77 fl_X7_245 (ck DX7_image_2 49 rfl) ?_
      refine r_iload_n 260 rfl 1 rfl rfl (ck DX7_image_3 0 rfl) ?_
      refine r_aload_n 261 rfl 0 rfl rfl (ck DX7_image_3 1 rfl) ?_
      refine r_getr (q := 123) 264 rfl (lq_7_53) sh_96 kd_7_53 fl_X7_172 (ck DX7_image_3 2 rfl) ?_
      refine r_iload_n 265 rfl 1 rfl rfl (ck DX7_image_3 3 rfl) ?_
      obtain ⟨b39, hf⟩ := gd_so hf
      refine r_iald 266 rfl sh_123 (inb_vp b39) (ck DX7_image_3 4 rfl) ?_
      obtain ⟨b40, hf⟩ := gd_so hf
      obtain ⟨g41, e42, hf⟩ := lt_so hf
      refine r_iast 267 rfl sh_136 (inb_vp b40) (ck DX7_image_3 5 rfl) ?_
      refine r_heap e42 ?_
      refine r_aload_n 268 rfl 0 rfl rfl (ck DX7_image_3 6 rfl) ?_
      refine r_getr (q := 137) 271 rfl (lq_7_78) sh_96 kd_7_78 fl_X7_248 (ck DX7_image_3 7 rfl) ?_
      refine r_iload_n 272 rfl 1 rfl rfl (ck DX7_image_3 8 rfl) ?_
      refine r_aload_n 273 rfl 0 rfl rfl (ck DX7_image_3 9 rfl) ?_
      refine r_getr (q := 124) 276 rfl (lq_7_54) sh_96 kd_7_54 fl_X7_175 (ck DX7_image_3 10 rfl) ?_
      refine r_iload_n 277 rfl 1 rfl rfl (ck DX7_image_3 11 rfl) ?_
      obtain ⟨b43, hf⟩ := gd_so hf
      refine r_iald 278 rfl sh_124 (inb_vp b43) (ck DX7_image_3 12 rfl) ?_
      obtain ⟨b44, hf⟩ := gd_so hf
      obtain ⟨g45, e46, hf⟩ := lt_so hf
      refine r_iast 279 rfl sh_137 (inb_vp b44) (ck DX7_image_3 13 rfl) ?_
      refine r_heap e46 ?_
      obtain ⟨v47, e48, hf⟩ := lt_so hf
      refine r_iinc (lv' := [(1, .int v47), (0, .ref (X.1 96))]) 282 rfl 1 (ck DX7_image_3 14 rfl) rfl (by rw [e48, ic_1]) (by decide) rfl ?_
      refine r_goto 249 (ck DX7_image_3 15 rfl) (by decide) ?_
      refine r_sub (lv' := [(0, .ref (X.1 96)), (1, .int v47)]) [1, 0] rfl ?_
      exact ih v47 g45 hf
def f_X7_image_L212 : Nat → Int32 → HP → Option (Int32 × HP)
  | 0, _, _ => none
  | n + 1, x1, h => if (5 : Int32) ≤ x1 then (f_X7_image_L249 FZ 0 h) else (gd (inb x1 5) (gd (inb x1 5) (lt (si h 134 (Int32.toNatClampNeg x1) (h.1 121 (Int32.toNatClampNeg x1))) fun g51 => gd (inb x1 5) (gd (inb x1 5) (lt (si g51 135 (Int32.toNatClampNeg x1) (g51.1 122 (Int32.toNatClampNeg x1))) fun g55 => lt (x1 + 1 : Int32) fun v57 => f_X7_image_L212 n v57 g55)))))
set_option maxHeartbeats 4000000 in
set_option maxRecDepth 100000 in
theorem A_X7_image_L212 (X : XE) (r : Int32) (h' : HP) : ∀ (n : Nat) (x1 : Int32) (h : HP), f_X7_image_L212 n x1 h = some (r, h') → Run mX7_image 1 X 212 [(0, .ref (X.1 96)), (1, .int x1)] [] h (some (.int r)) h' := by
  intro n
  induction n with
  | zero => intro x1 h hf; cases hf
  | succ n ih =>
    intro x1 h hf
    rw [f_X7_image_L212] at hf
    refine r_iload_n 213 rfl 1 rfl rfl (ck DX7_image_2 22 rfl) ?_
    refine r_iconst 214 rfl ic_5 (ck DX7_image_2 23 rfl) ?_
    rcases if_so hf with ⟨c26, hf⟩ | ⟨c26, hf⟩
    · refine r_icmp_ge_t 247 (ck DX7_image_2 24 rfl) (by decide) c26 ?_
      refine r_iconst 248 rfl ic_0 (ck DX7_image_2 43 rfl) ?_
      refine r_istore_n (lv' := [(1, .int 0), (0, .ref (X.1 96))]) 249 rfl (ck DX7_image_2 44 rfl) (by decide) rfl rfl ?_
      refine r_sub (lv' := [(0, .ref (X.1 96)), (1, .int 0)]) [1, 0] rfl ?_
      exact A_X7_image_L249 X _ _ FZ 0 h hf
    · refine r_icmp_ge_f 217 rfl 247 (ck DX7_image_2 24 rfl) (by decide) c26 ?_
      refine r_aload_n 218 rfl 0 rfl rfl (ck DX7_image_2 25 rfl) ?_
      refine r_getr (q := 134) 221 rfl (lq_7_75) sh_96 kd_7_75 fl_X7_239 (ck DX7_image_2 26 rfl) ?_
      refine r_iload_n 222 rfl 1 rfl rfl (ck DX7_image_2 27 rfl) ?_
      refine r_aload_n 223 rfl 0 rfl rfl (ck DX7_image_2 28 rfl) ?_
      refine r_getr (q := 121) 226 rfl (lq_7_49) sh_96 kd_7_49 fl_X7_160 (ck DX7_image_2 29 rfl) ?_
      refine r_iload_n 227 rfl 1 rfl rfl (ck DX7_image_2 30 rfl) ?_
      obtain ⟨b49, hf⟩ := gd_so hf
      refine r_iald 228 rfl sh_121 (inb_vp b49) (ck DX7_image_2 31 rfl) ?_
      obtain ⟨b50, hf⟩ := gd_so hf
      obtain ⟨g51, e52, hf⟩ := lt_so hf
      refine r_iast 229 rfl sh_134 (inb_vp b50) (ck DX7_image_2 32 rfl) ?_
      refine r_heap e52 ?_
      refine r_aload_n 230 rfl 0 rfl rfl (ck DX7_image_2 33 rfl) ?_
      refine r_getr (q := 135) 233 rfl (lq_7_76) sh_96 kd_7_76 fl_X7_242 (ck DX7_image_2 34 rfl) ?_
      refine r_iload_n 234 rfl 1 rfl rfl (ck DX7_image_2 35 rfl) ?_
      refine r_aload_n 235 rfl 0 rfl rfl (ck DX7_image_2 36 rfl) ?_
      refine r_getr (q := 122) 238 rfl (lq_7_50) sh_96 kd_7_50 fl_X7_163 (ck DX7_image_2 37 rfl) ?_
      refine r_iload_n 239 rfl 1 rfl rfl (ck DX7_image_2 38 rfl) ?_
      obtain ⟨b53, hf⟩ := gd_so hf
      refine r_iald 240 rfl sh_122 (inb_vp b53) (ck DX7_image_2 39 rfl) ?_
      obtain ⟨b54, hf⟩ := gd_so hf
      obtain ⟨g55, e56, hf⟩ := lt_so hf
      refine r_iast 241 rfl sh_135 (inb_vp b54) (ck DX7_image_2 40 rfl) ?_
      refine r_heap e56 ?_
      obtain ⟨v57, e58, hf⟩ := lt_so hf
      refine r_iinc (lv' := [(1, .int v57), (0, .ref (X.1 96))]) 244 rfl 1 (ck DX7_image_2 41 rfl) rfl (by rw [e58, ic_1]) (by decide) rfl ?_
      refine r_goto 212 (ck DX7_image_2 42 rfl) (by decide) ?_
      refine r_sub (lv' := [(0, .ref (X.1 96)), (1, .int v57)]) [1, 0] rfl ?_
      exact ih v57 g55 hf
def f_X7_image_L187 : Nat → Int32 → HP → Option (Int32 × HP)
  | 0, _, _ => none
  | n + 1, x1, h => if (3 : Int32) ≤ x1 then (f_X7_image_L212 FZ 0 h) else (gd (inb x1 3) (gd (inb x1 3) (lt (si h 133 (Int32.toNatClampNeg x1) (h.1 103 (Int32.toNatClampNeg x1))) fun g61 => lt (x1 + 1 : Int32) fun v63 => f_X7_image_L187 n v63 g61)))
set_option maxHeartbeats 4000000 in
set_option maxRecDepth 100000 in
theorem A_X7_image_L187 (X : XE) (r : Int32) (h' : HP) : ∀ (n : Nat) (x1 : Int32) (h : HP), f_X7_image_L187 n x1 h = some (r, h') → Run mX7_image 1 X 187 [(0, .ref (X.1 96)), (1, .int x1)] [] h (some (.int r)) h' := by
  intro n
  induction n with
  | zero => intro x1 h hf; cases hf
  | succ n ih =>
    intro x1 h hf
    rw [f_X7_image_L187] at hf
    refine r_iload_n 188 rfl 1 rfl rfl (ck DX7_image_2 7 rfl) ?_
    refine r_iconst 189 rfl ic_3 (ck DX7_image_2 8 rfl) ?_
    rcases if_so hf with ⟨c25, hf⟩ | ⟨c25, hf⟩
    · refine r_icmp_ge_t 210 (ck DX7_image_2 9 rfl) (by decide) c25 ?_
      refine r_iconst 211 rfl ic_0 (ck DX7_image_2 20 rfl) ?_
      refine r_istore_n (lv' := [(1, .int 0), (0, .ref (X.1 96))]) 212 rfl (ck DX7_image_2 21 rfl) (by decide) rfl rfl ?_
      refine r_sub (lv' := [(0, .ref (X.1 96)), (1, .int 0)]) [1, 0] rfl ?_
      exact A_X7_image_L212 X _ _ FZ 0 h hf
    · refine r_icmp_ge_f 192 rfl 210 (ck DX7_image_2 9 rfl) (by decide) c25 ?_
      refine r_aload_n 193 rfl 0 rfl rfl (ck DX7_image_2 10 rfl) ?_
      refine r_getr (q := 133) 196 rfl (lq_7_74) sh_96 kd_7_74 fl_X7_236 (ck DX7_image_2 11 rfl) ?_
      refine r_iload_n 197 rfl 1 rfl rfl (ck DX7_image_2 12 rfl) ?_
      refine r_aload_n 198 rfl 0 rfl rfl (ck DX7_image_2 13 rfl) ?_
      refine r_getr (q := 103) 201 rfl (lq_7_12) sh_96 kd_7_12 fl_X7_47 (ck DX7_image_2 14 rfl) ?_
      refine r_iload_n 202 rfl 1 rfl rfl (ck DX7_image_2 15 rfl) ?_
      obtain ⟨b59, hf⟩ := gd_so hf
      refine r_iald 203 rfl sh_103 (inb_vp b59) (ck DX7_image_2 16 rfl) ?_
      obtain ⟨b60, hf⟩ := gd_so hf
      obtain ⟨g61, e62, hf⟩ := lt_so hf
      refine r_iast 204 rfl sh_133 (inb_vp b60) (ck DX7_image_2 17 rfl) ?_
      refine r_heap e62 ?_
      obtain ⟨v63, e64, hf⟩ := lt_so hf
      refine r_iinc (lv' := [(1, .int v63), (0, .ref (X.1 96))]) 207 rfl 1 (ck DX7_image_2 18 rfl) rfl (by rw [e64, ic_1]) (by decide) rfl ?_
      refine r_goto 187 (ck DX7_image_2 19 rfl) (by decide) ?_
      refine r_sub (lv' := [(0, .ref (X.1 96)), (1, .int v63)]) [1, 0] rfl ?_
      exact ih v63 g61 hf
def f_X7_image_L161 : Nat → Int32 → HP → Option (Int32 × HP)
  | 0, _, _ => none
  | n + 1, x1, h => if (24 : Int32) ≤ x1 then (f_X7_image_L187 FZ 0 h) else (gd (inb x1 24) (gd (inb x1 24) (lt (si h 132 (Int32.toNatClampNeg x1) (h.1 102 (Int32.toNatClampNeg x1))) fun g67 => lt (x1 + 1 : Int32) fun v69 => f_X7_image_L161 n v69 g67)))
set_option maxHeartbeats 4000000 in
set_option maxRecDepth 100000 in
theorem A_X7_image_L161 (X : XE) (r : Int32) (h' : HP) : ∀ (n : Nat) (x1 : Int32) (h : HP), f_X7_image_L161 n x1 h = some (r, h') → Run mX7_image 1 X 161 [(0, .ref (X.1 96)), (1, .int x1)] [] h (some (.int r)) h' := by
  intro n
  induction n with
  | zero => intro x1 h hf; cases hf
  | succ n ih =>
    intro x1 h hf
    rw [f_X7_image_L161] at hf
    refine r_iload_n 162 rfl 1 rfl rfl (ck DX7_image_1 42 rfl) ?_
    refine r_bipush 164 rfl bp_24 (ck DX7_image_1 43 rfl) ?_
    rcases if_so hf with ⟨c24, hf⟩ | ⟨c24, hf⟩
    · refine r_icmp_ge_t 185 (ck DX7_image_1 44 rfl) (by decide) c24 ?_
      refine r_iconst 186 rfl ic_0 (ck DX7_image_2 5 rfl) ?_
      refine r_istore_n (lv' := [(1, .int 0), (0, .ref (X.1 96))]) 187 rfl (ck DX7_image_2 6 rfl) (by decide) rfl rfl ?_
      refine r_sub (lv' := [(0, .ref (X.1 96)), (1, .int 0)]) [1, 0] rfl ?_
      exact A_X7_image_L187 X _ _ FZ 0 h hf
    · refine r_icmp_ge_f 167 rfl 185 (ck DX7_image_1 44 rfl) (by decide) c24 ?_
      refine r_aload_n 168 rfl 0 rfl rfl (ck DX7_image_1 45 rfl) ?_
      refine r_getr (q := 132) 171 rfl (lq_7_73) sh_96 kd_7_73 fl_X7_233 (ck DX7_image_1 46 rfl) ?_
      refine r_iload_n 172 rfl 1 rfl rfl (ck DX7_image_1 47 rfl) ?_
      refine r_aload_n 173 rfl 0 rfl rfl (ck DX7_image_1 48 rfl) ?_
      refine r_getr (q := 102) 176 rfl (lq_7_11) sh_96 kd_7_11 fl_X7_44 (ck DX7_image_1 49 rfl) ?_
      refine r_iload_n 177 rfl 1 rfl rfl (ck DX7_image_2 0 rfl) ?_
      obtain ⟨b65, hf⟩ := gd_so hf
      refine r_iald 178 rfl sh_102 (inb_vp b65) (ck DX7_image_2 1 rfl) ?_
      obtain ⟨b66, hf⟩ := gd_so hf
      obtain ⟨g67, e68, hf⟩ := lt_so hf
      refine r_iast 179 rfl sh_132 (inb_vp b66) (ck DX7_image_2 2 rfl) ?_
      refine r_heap e68 ?_
      obtain ⟨v69, e70, hf⟩ := lt_so hf
      refine r_iinc (lv' := [(1, .int v69), (0, .ref (X.1 96))]) 182 rfl 1 (ck DX7_image_2 3 rfl) rfl (by rw [e70, ic_1]) (by decide) rfl ?_
      refine r_goto 161 (ck DX7_image_2 4 rfl) (by decide) ?_
      refine r_sub (lv' := [(0, .ref (X.1 96)), (1, .int v69)]) [1, 0] rfl ?_
      exact ih v69 g67 hf
def f_X7_image_L87 : Nat → Int32 → HP → Option (Int32 × HP)
  | 0, _, _ => none
  | n + 1, x1, h => if (6 : Int32) ≤ x1 then (f_X7_image_L161 FZ 0 h) else (gd (inb x1 6) (gd (inb x1 6) (lt (si h 127 (Int32.toNatClampNeg x1) (h.1 97 (Int32.toNatClampNeg x1))) fun g73 => gd (inb x1 6) (gd (inb x1 6) (lt (si g73 128 (Int32.toNatClampNeg x1) (g73.1 98 (Int32.toNatClampNeg x1))) fun g77 => gd (inb x1 6) (gd (inb x1 6) (lt (si g77 129 (Int32.toNatClampNeg x1) (g77.1 99 (Int32.toNatClampNeg x1))) fun g81 => gd (inb x1 6) (gd (inb x1 6) (lt (si g81 130 (Int32.toNatClampNeg x1) (g81.1 100 (Int32.toNatClampNeg x1))) fun g85 => gd (inb x1 6) (gd (inb x1 6) (lt (si g85 131 (Int32.toNatClampNeg x1) (g85.1 101 (Int32.toNatClampNeg x1))) fun g89 => lt (x1 + 1 : Int32) fun v91 => f_X7_image_L87 n v91 g89)))))))))))
set_option maxHeartbeats 4000000 in
set_option maxRecDepth 100000 in
theorem A_X7_image_L87 (X : XE) (r : Int32) (h' : HP) : ∀ (n : Nat) (x1 : Int32) (h : HP), f_X7_image_L87 n x1 h = some (r, h') → Run mX7_image 1 X 87 [(0, .ref (X.1 96)), (1, .int x1)] [] h (some (.int r)) h' := by
  intro n
  induction n with
  | zero => intro x1 h hf; cases hf
  | succ n ih =>
    intro x1 h hf
    rw [f_X7_image_L87] at hf
    refine r_iload_n 88 rfl 1 rfl rfl (ck DX7_image_0 45 rfl) ?_
    refine r_bipush 90 rfl bp_6 (ck DX7_image_0 46 rfl) ?_
    rcases if_so hf with ⟨c23, hf⟩ | ⟨c23, hf⟩
    · refine r_icmp_ge_t 159 (ck DX7_image_0 47 rfl) (by decide) c23 ?_
      refine r_iconst 160 rfl ic_0 (ck DX7_image_1 40 rfl) ?_
      refine r_istore_n (lv' := [(1, .int 0), (0, .ref (X.1 96))]) 161 rfl (ck DX7_image_1 41 rfl) (by decide) rfl rfl ?_
      refine r_sub (lv' := [(0, .ref (X.1 96)), (1, .int 0)]) [1, 0] rfl ?_
      exact A_X7_image_L161 X _ _ FZ 0 h hf
    · refine r_icmp_ge_f 93 rfl 159 (ck DX7_image_0 47 rfl) (by decide) c23 ?_
      refine r_aload_n 94 rfl 0 rfl rfl (ck DX7_image_0 48 rfl) ?_
      refine r_getr (q := 127) 97 rfl (lq_7_68) sh_96 kd_7_68 fl_X7_218 (ck DX7_image_0 49 rfl) ?_
      refine r_iload_n 98 rfl 1 rfl rfl (ck DX7_image_1 0 rfl) ?_
      refine r_aload_n 99 rfl 0 rfl rfl (ck DX7_image_1 1 rfl) ?_
      refine r_getr (q := 97) 102 rfl (lq_7_6) sh_96 kd_7_6 fl_X7_28 (ck DX7_image_1 2 rfl) ?_
      refine r_iload_n 103 rfl 1 rfl rfl (ck DX7_image_1 3 rfl) ?_
      obtain ⟨b71, hf⟩ := gd_so hf
      refine r_iald 104 rfl sh_97 (inb_vp b71) (ck DX7_image_1 4 rfl) ?_
      obtain ⟨b72, hf⟩ := gd_so hf
      obtain ⟨g73, e74, hf⟩ := lt_so hf
      refine r_iast 105 rfl sh_127 (inb_vp b72) (ck DX7_image_1 5 rfl) ?_
      refine r_heap e74 ?_
      refine r_aload_n 106 rfl 0 rfl rfl (ck DX7_image_1 6 rfl) ?_
      refine r_getr (q := 128) 109 rfl (lq_7_69) sh_96 kd_7_69 fl_X7_221 (ck DX7_image_1 7 rfl) ?_
      refine r_iload_n 110 rfl 1 rfl rfl (ck DX7_image_1 8 rfl) ?_
      refine r_aload_n 111 rfl 0 rfl rfl (ck DX7_image_1 9 rfl) ?_
      refine r_getr (q := 98) 114 rfl (lq_7_7) sh_96 kd_7_7 fl_X7_32 (ck DX7_image_1 10 rfl) ?_
      refine r_iload_n 115 rfl 1 rfl rfl (ck DX7_image_1 11 rfl) ?_
      obtain ⟨b75, hf⟩ := gd_so hf
      refine r_iald 116 rfl sh_98 (inb_vp b75) (ck DX7_image_1 12 rfl) ?_
      obtain ⟨b76, hf⟩ := gd_so hf
      obtain ⟨g77, e78, hf⟩ := lt_so hf
      refine r_iast 117 rfl sh_128 (inb_vp b76) (ck DX7_image_1 13 rfl) ?_
      refine r_heap e78 ?_
      refine r_aload_n 118 rfl 0 rfl rfl (ck DX7_image_1 14 rfl) ?_
      refine r_getr (q := 129) 121 rfl (lq_7_70) sh_96 kd_7_70 fl_X7_224 (ck DX7_image_1 15 rfl) ?_
      refine r_iload_n 122 rfl 1 rfl rfl (ck DX7_image_1 16 rfl) ?_
      refine r_aload_n 123 rfl 0 rfl rfl (ck DX7_image_1 17 rfl) ?_
      refine r_getr (q := 99) 126 rfl (lq_7_8) sh_96 kd_7_8 fl_X7_35 (ck DX7_image_1 18 rfl) ?_
      refine r_iload_n 127 rfl 1 rfl rfl (ck DX7_image_1 19 rfl) ?_
      obtain ⟨b79, hf⟩ := gd_so hf
      refine r_iald 128 rfl sh_99 (inb_vp b79) (ck DX7_image_1 20 rfl) ?_
      obtain ⟨b80, hf⟩ := gd_so hf
      obtain ⟨g81, e82, hf⟩ := lt_so hf
      refine r_iast 129 rfl sh_129 (inb_vp b80) (ck DX7_image_1 21 rfl) ?_
      refine r_heap e82 ?_
      refine r_aload_n 130 rfl 0 rfl rfl (ck DX7_image_1 22 rfl) ?_
      refine r_getr (q := 130) 133 rfl (lq_7_71) sh_96 kd_7_71 fl_X7_227 (ck DX7_image_1 23 rfl) ?_
      refine r_iload_n 134 rfl 1 rfl rfl (ck DX7_image_1 24 rfl) ?_
      refine r_aload_n 135 rfl 0 rfl rfl (ck DX7_image_1 25 rfl) ?_
      refine r_getr (q := 100) 138 rfl (lq_7_9) sh_96 kd_7_9 fl_X7_38 (ck DX7_image_1 26 rfl) ?_
      refine r_iload_n 139 rfl 1 rfl rfl (ck DX7_image_1 27 rfl) ?_
      obtain ⟨b83, hf⟩ := gd_so hf
      refine r_iald 140 rfl sh_100 (inb_vp b83) (ck DX7_image_1 28 rfl) ?_
      obtain ⟨b84, hf⟩ := gd_so hf
      obtain ⟨g85, e86, hf⟩ := lt_so hf
      refine r_iast 141 rfl sh_130 (inb_vp b84) (ck DX7_image_1 29 rfl) ?_
      refine r_heap e86 ?_
      refine r_aload_n 142 rfl 0 rfl rfl (ck DX7_image_1 30 rfl) ?_
      refine r_getr (q := 131) 145 rfl (lq_7_72) sh_96 kd_7_72 fl_X7_230 (ck DX7_image_1 31 rfl) ?_
      refine r_iload_n 146 rfl 1 rfl rfl (ck DX7_image_1 32 rfl) ?_
      refine r_aload_n 147 rfl 0 rfl rfl (ck DX7_image_1 33 rfl) ?_
      refine r_getr (q := 101) 150 rfl (lq_7_10) sh_96 kd_7_10 fl_X7_41 (ck DX7_image_1 34 rfl) ?_
      refine r_iload_n 151 rfl 1 rfl rfl (ck DX7_image_1 35 rfl) ?_
      obtain ⟨b87, hf⟩ := gd_so hf
      refine r_iald 152 rfl sh_101 (inb_vp b87) (ck DX7_image_1 36 rfl) ?_
      obtain ⟨b88, hf⟩ := gd_so hf
      obtain ⟨g89, e90, hf⟩ := lt_so hf
      refine r_iast 153 rfl sh_131 (inb_vp b88) (ck DX7_image_1 37 rfl) ?_
      refine r_heap e90 ?_
      obtain ⟨v91, e92, hf⟩ := lt_so hf
      refine r_iinc (lv' := [(1, .int v91), (0, .ref (X.1 96))]) 156 rfl 1 (ck DX7_image_1 38 rfl) rfl (by rw [e92, ic_1]) (by decide) rfl ?_
      refine r_goto 87 (ck DX7_image_1 39 rfl) (by decide) ?_
      refine r_sub (lv' := [(0, .ref (X.1 96)), (1, .int v91)]) [1, 0] rfl ?_
      exact ih v91 g89 hf
def f_X7_image (h : HP) : Option (Int32 × HP) := lt (si h 96 57 1) fun g1 => lt (si g1 96 58 (g1.1 96 14)) fun g3 => lt (si g3 96 59 (g3.1 96 0)) fun g5 => lt (si g5 96 60 (g5.1 96 1)) fun g7 => lt (si g7 96 61 (g7.1 96 2)) fun g9 => lt (si g9 96 62 (g9.1 96 3)) fun g11 => lt (si g11 96 63 (g11.1 96 4)) fun g13 => lt (si g13 96 64 (g13.1 96 5)) fun g15 => lt (si g15 96 65 (g15.1 96 48)) fun g17 => lt (si g17 96 66 (g17.1 96 51)) fun g19 => lt (si g19 96 67 (g19.1 96 52)) fun g21 => f_X7_image_L87 FZ 0 g21
set_option maxHeartbeats 4000000 in
set_option maxRecDepth 100000 in
theorem A_X7_image (X : XE) (h : HP) (r : Int32) (h' : HP) (hf : f_X7_image h = some (r, h')) : CC mX7_image 1 X [.ref (X.1 96)] h (some (.int r)) h' := by
  refine CC_of rfl (Nat.le_of_ble_eq_true rfl) ?_
  show Run mX7_image 1 X 0 [(0, .ref (X.1 96))] [] h (some (.int r)) h'
  unfold f_X7_image at hf
  refine r_aload_n 1 rfl 0 rfl rfl (ck DX7_image_0 0 rfl) ?_
  refine r_iconst 2 rfl ic_1 (ck DX7_image_0 1 rfl) ?_
  obtain ⟨g1, e2, hf⟩ := lt_so hf
  refine r_puti 5 rfl sh_96 kd_7_57 fw_X7_184 rfl rfl (ck DX7_image_0 2 rfl) ?_
  refine r_heap e2 ?_
  refine r_aload_n 6 rfl 0 rfl rfl (ck DX7_image_0 3 rfl) ?_
  refine r_aload_n 7 rfl 0 rfl rfl (ck DX7_image_0 4 rfl) ?_
  refine r_geti 10 rfl sh_96 kd_7_14 fl_X7_53 (ck DX7_image_0 5 rfl) ?_
  obtain ⟨g3, e4, hf⟩ := lt_so hf
  refine r_puti 13 rfl sh_96 kd_7_58 fw_X7_188 rfl rfl (ck DX7_image_0 6 rfl) ?_
  refine r_heap e4 ?_
  refine r_aload_n 14 rfl 0 rfl rfl (ck DX7_image_0 7 rfl) ?_
  refine r_aload_n 15 rfl 0 rfl rfl (ck DX7_image_0 8 rfl) ?_
  refine r_geti 18 rfl sh_96 kd_7_0 fl_X7_7 (ck DX7_image_0 9 rfl) ?_
  obtain ⟨g5, e6, hf⟩ := lt_so hf
  refine r_puti 21 rfl sh_96 kd_7_59 fw_X7_191 rfl rfl (ck DX7_image_0 10 rfl) ?_
  refine r_heap e6 ?_
  refine r_aload_n 22 rfl 0 rfl rfl (ck DX7_image_0 11 rfl) ?_
  refine r_aload_n 23 rfl 0 rfl rfl (ck DX7_image_0 12 rfl) ?_
  refine r_geti 26 rfl sh_96 kd_7_1 fl_X7_13 (ck DX7_image_0 13 rfl) ?_
  obtain ⟨g7, e8, hf⟩ := lt_so hf
  refine r_puti 29 rfl sh_96 kd_7_60 fw_X7_194 rfl rfl (ck DX7_image_0 14 rfl) ?_
  refine r_heap e8 ?_
  refine r_aload_n 30 rfl 0 rfl rfl (ck DX7_image_0 15 rfl) ?_
  refine r_aload_n 31 rfl 0 rfl rfl (ck DX7_image_0 16 rfl) ?_
  refine r_geti 34 rfl sh_96 kd_7_2 fl_X7_16 (ck DX7_image_0 17 rfl) ?_
  obtain ⟨g9, e10, hf⟩ := lt_so hf
  refine r_puti 37 rfl sh_96 kd_7_61 fw_X7_197 rfl rfl (ck DX7_image_0 18 rfl) ?_
  refine r_heap e10 ?_
  refine r_aload_n 38 rfl 0 rfl rfl (ck DX7_image_0 19 rfl) ?_
  refine r_aload_n 39 rfl 0 rfl rfl (ck DX7_image_0 20 rfl) ?_
  refine r_geti 42 rfl sh_96 kd_7_3 fl_X7_19 (ck DX7_image_0 21 rfl) ?_
  obtain ⟨g11, e12, hf⟩ := lt_so hf
  refine r_puti 45 rfl sh_96 kd_7_62 fw_X7_200 rfl rfl (ck DX7_image_0 22 rfl) ?_
  refine r_heap e12 ?_
  refine r_aload_n 46 rfl 0 rfl rfl (ck DX7_image_0 23 rfl) ?_
  refine r_aload_n 47 rfl 0 rfl rfl (ck DX7_image_0 24 rfl) ?_
  refine r_geti 50 rfl sh_96 kd_7_4 fl_X7_22 (ck DX7_image_0 25 rfl) ?_
  obtain ⟨g13, e14, hf⟩ := lt_so hf
  refine r_puti 53 rfl sh_96 kd_7_63 fw_X7_203 rfl rfl (ck DX7_image_0 26 rfl) ?_
  refine r_heap e14 ?_
  refine r_aload_n 54 rfl 0 rfl rfl (ck DX7_image_0 27 rfl) ?_
  refine r_aload_n 55 rfl 0 rfl rfl (ck DX7_image_0 28 rfl) ?_
  refine r_geti 58 rfl sh_96 kd_7_5 fl_X7_25 (ck DX7_image_0 29 rfl) ?_
  obtain ⟨g15, e16, hf⟩ := lt_so hf
  refine r_puti 61 rfl sh_96 kd_7_64 fw_X7_206 rfl rfl (ck DX7_image_0 30 rfl) ?_
  refine r_heap e16 ?_
  refine r_aload_n 62 rfl 0 rfl rfl (ck DX7_image_0 31 rfl) ?_
  refine r_aload_n 63 rfl 0 rfl rfl (ck DX7_image_0 32 rfl) ?_
  refine r_geti 66 rfl sh_96 kd_7_48 fl_X7_157 (ck DX7_image_0 33 rfl) ?_
  obtain ⟨g17, e18, hf⟩ := lt_so hf
  refine r_puti 69 rfl sh_96 kd_7_65 fw_X7_209 rfl rfl (ck DX7_image_0 34 rfl) ?_
  refine r_heap e18 ?_
  refine r_aload_n 70 rfl 0 rfl rfl (ck DX7_image_0 35 rfl) ?_
  refine r_aload_n 71 rfl 0 rfl rfl (ck DX7_image_0 36 rfl) ?_
  refine r_geti 74 rfl sh_96 kd_7_51 fl_X7_166 (ck DX7_image_0 37 rfl) ?_
  obtain ⟨g19, e20, hf⟩ := lt_so hf
  refine r_puti 77 rfl sh_96 kd_7_66 fw_X7_212 rfl rfl (ck DX7_image_0 38 rfl) ?_
  refine r_heap e20 ?_
  refine r_aload_n 78 rfl 0 rfl rfl (ck DX7_image_0 39 rfl) ?_
  refine r_aload_n 79 rfl 0 rfl rfl (ck DX7_image_0 40 rfl) ?_
  refine r_geti 82 rfl sh_96 kd_7_52 fl_X7_169 (ck DX7_image_0 41 rfl) ?_
  obtain ⟨g21, e22, hf⟩ := lt_so hf
  refine r_puti 85 rfl sh_96 kd_7_67 fw_X7_215 rfl rfl (ck DX7_image_0 42 rfl) ?_
  refine r_heap e22 ?_
  refine r_iconst 86 rfl ic_0 (ck DX7_image_0 43 rfl) ?_
  refine r_istore_n (lv' := [(1, .int 0), (0, .ref (X.1 96))]) 87 rfl (ck DX7_image_0 44 rfl) (by decide) rfl rfl ?_
  refine r_sub (lv' := [(0, .ref (X.1 96)), (1, .int 0)]) [1, 0] rfl ?_
  exact A_X7_image_L87 X _ _ FZ 0 g21 hf
-- X7_undo
def f_X7_undo_L292 : Nat → Int32 → HP → Option (Int32 × HP)
  | 0, _, _ => none
  | n + 1, x1, h => if (8 : Int32) ≤ x1 then (some ((h.1 96 0), h)) else (gd (inb x1 8) (gd (inb x1 8) (lt (si h 125 (Int32.toNatClampNeg x1) (h.1 138 (Int32.toNatClampNeg x1))) fun g30 => gd (inb x1 8) (gd (inb x1 8) (lt (si g30 126 (Int32.toNatClampNeg x1) (g30.1 139 (Int32.toNatClampNeg x1))) fun g34 => lt (x1 + 1 : Int32) fun v36 => f_X7_undo_L292 n v36 g34)))))
set_option maxHeartbeats 4000000 in
set_option maxRecDepth 100000 in
theorem A_X7_undo_L292 (X : XE) (r : Int32) (h' : HP) : ∀ (n : Nat) (x1 : Int32) (h : HP), f_X7_undo_L292 n x1 h = some (r, h') → Run mX7_undo 1 X 292 [(0, .ref (X.1 96)), (1, .int x1)] [] h (some (.int r)) h' := by
  intro n
  induction n with
  | zero => intro x1 h hf; cases hf
  | succ n ih =>
    intro x1 h hf
    rw [f_X7_undo_L292] at hf
    refine r_iload_n 293 rfl 1 rfl rfl (ck DX7_undo_3 20 rfl) ?_
    refine r_bipush 295 rfl bp_8 (ck DX7_undo_3 21 rfl) ?_
    rcases if_so hf with ⟨c27, hf⟩ | ⟨c27, hf⟩
    · refine r_icmp_ge_t 328 (ck DX7_undo_3 22 rfl) (by decide) c27 ?_
      refine r_aload_n 329 rfl 0 rfl rfl (ck DX7_undo_3 41 rfl) ?_
      refine r_geti 332 rfl sh_96 kd_7_0 fl_X7_7 (ck DX7_undo_3 42 rfl) ?_
      obtain ⟨rfl, rfl⟩ := so2 hf
      exact r_iret rfl rfl (ck DX7_undo_3 43 rfl)
    · refine r_icmp_ge_f 298 rfl 328 (ck DX7_undo_3 22 rfl) (by decide) c27 ?_
      refine r_aload_n 299 rfl 0 rfl rfl (ck DX7_undo_3 23 rfl) ?_
      refine r_getr (q := 125) 302 rfl (lq_7_55) sh_96 kd_7_55 fl_X7_178 (ck DX7_undo_3 24 rfl) ?_
      refine r_iload_n 303 rfl 1 rfl rfl (ck DX7_undo_3 25 rfl) ?_
      refine r_aload_n 304 rfl 0 rfl rfl (ck DX7_undo_3 26 rfl) ?_
      refine r_getr (q := 138) 307 rfl (lq_7_79) sh_96 kd_7_79 fl_X7_251 (ck DX7_undo_3 27 rfl) ?_
      refine r_iload_n 308 rfl 1 rfl rfl (ck DX7_undo_3 28 rfl) ?_
      obtain ⟨b28, hf⟩ := gd_so hf
      refine r_iald 309 rfl sh_138 (inb_vp b28) (ck DX7_undo_3 29 rfl) ?_
      obtain ⟨b29, hf⟩ := gd_so hf
      obtain ⟨g30, e31, hf⟩ := lt_so hf
      refine r_iast 310 rfl sh_125 (inb_vp b29) (ck DX7_undo_3 30 rfl) ?_
      refine r_heap e31 ?_
      refine r_aload_n 311 rfl 0 rfl rfl (ck DX7_undo_3 31 rfl) ?_
      refine r_getr (q := 126) 314 rfl (lq_7_56) sh_96 kd_7_56 fl_X7_181 (ck DX7_undo_3 32 rfl) ?_
      refine r_iload_n 315 rfl 1 rfl rfl (ck DX7_undo_3 33 rfl) ?_
      refine r_aload_n 316 rfl 0 rfl rfl (ck DX7_undo_3 34 rfl) ?_
      refine r_getr (q := 139) 319 rfl (lq_7_80) sh_96 kd_7_80 fl_X7_254 (ck DX7_undo_3 35 rfl) ?_
      refine r_iload_n 320 rfl 1 rfl rfl (ck DX7_undo_3 36 rfl) ?_
      obtain ⟨b32, hf⟩ := gd_so hf
      refine r_iald 321 rfl sh_139 (inb_vp b32) (ck DX7_undo_3 37 rfl) ?_
      obtain ⟨b33, hf⟩ := gd_so hf
      obtain ⟨g34, e35, hf⟩ := lt_so hf
      refine r_iast 322 rfl sh_126 (inb_vp b33) (ck DX7_undo_3 38 rfl) ?_
      refine r_heap e35 ?_
      obtain ⟨v36, e37, hf⟩ := lt_so hf
      refine r_iinc (lv' := [(1, .int v36), (0, .ref (X.1 96))]) 325 rfl 1 (ck DX7_undo_3 39 rfl) rfl (by rw [e37, ic_1]) (by decide) rfl ?_
      refine r_goto 292 (ck DX7_undo_3 40 rfl) (by decide) ?_
      refine r_sub (lv' := [(0, .ref (X.1 96)), (1, .int v36)]) [1, 0] rfl ?_
      exact ih v36 g34 hf
def f_X7_undo_L254 : Nat → Int32 → HP → Option (Int32 × HP)
  | 0, _, _ => none
  | n + 1, x1, h => if (10 : Int32) ≤ x1 then (f_X7_undo_L292 FZ 0 h) else (gd (inb x1 10) (gd (inb x1 10) (lt (si h 123 (Int32.toNatClampNeg x1) (h.1 136 (Int32.toNatClampNeg x1))) fun g40 => gd (inb x1 10) (gd (inb x1 10) (lt (si g40 124 (Int32.toNatClampNeg x1) (g40.1 137 (Int32.toNatClampNeg x1))) fun g44 => lt (x1 + 1 : Int32) fun v46 => f_X7_undo_L254 n v46 g44)))))
set_option maxHeartbeats 4000000 in
set_option maxRecDepth 100000 in
theorem A_X7_undo_L254 (X : XE) (r : Int32) (h' : HP) : ∀ (n : Nat) (x1 : Int32) (h : HP), f_X7_undo_L254 n x1 h = some (r, h') → Run mX7_undo 1 X 254 [(0, .ref (X.1 96)), (1, .int x1)] [] h (some (.int r)) h' := by
  intro n
  induction n with
  | zero => intro x1 h hf; cases hf
  | succ n ih =>
    intro x1 h hf
    rw [f_X7_undo_L254] at hf
    refine r_iload_n 255 rfl 1 rfl rfl (ck DX7_undo_2 47 rfl) ?_
    refine r_bipush 257 rfl bp_10 (ck DX7_undo_2 48 rfl) ?_
    rcases if_so hf with ⟨c26, hf⟩ | ⟨c26, hf⟩
    · refine r_icmp_ge_t 290 (ck DX7_undo_2 49 rfl) (by decide) c26 ?_
      refine r_iconst 291 rfl ic_0 (ck DX7_undo_3 18 rfl) ?_
      refine r_istore_n (lv' := [(1, .int 0), (0, .ref (X.1 96))]) 292 rfl (ck DX7_undo_3 19 rfl) (by decide) rfl rfl ?_
      refine r_sub (lv' := [(0, .ref (X.1 96)), (1, .int 0)]) [1, 0] rfl ?_
      exact A_X7_undo_L292 X _ _ FZ 0 h hf
    · refine r_icmp_ge_f 260 rfl 290 (ck DX7_undo_2 49 rfl) (by decide) c26 ?_
      refine r_aload_n 261 rfl 0 rfl rfl (ck DX7_undo_3 0 rfl) ?_
      refine r_getr (q := 123) 264 rfl (lq_7_53) sh_96 kd_7_53 fl_X7_172 (ck DX7_undo_3 1 rfl) ?_
      refine r_iload_n 265 rfl 1 rfl rfl (ck DX7_undo_3 2 rfl) ?_
      refine r_aload_n 266 rfl 0 rfl rfl (ck DX7_undo_3 3 rfl) ?_
      refine r_getr (q := 136) 269 rfl (lq_7_77) sh_96 kd_7_77 fl_X7_245 (ck DX7_undo_3 4 rfl) ?_
      refine r_iload_n 270 rfl 1 rfl rfl (ck DX7_undo_3 5 rfl) ?_
      obtain ⟨b38, hf⟩ := gd_so hf
      refine r_iald 271 rfl sh_136 (inb_vp b38) (ck DX7_undo_3 6 rfl) ?_
      obtain ⟨b39, hf⟩ := gd_so hf
      obtain ⟨g40, e41, hf⟩ := lt_so hf
      refine r_iast 272 rfl sh_123 (inb_vp b39) (ck DX7_undo_3 7 rfl) ?_
      refine r_heap e41 ?_
      refine r_aload_n 273 rfl 0 rfl rfl (ck DX7_undo_3 8 rfl) ?_
      refine r_getr (q := 124) 276 rfl (lq_7_54) sh_96 kd_7_54 fl_X7_175 (ck DX7_undo_3 9 rfl) ?_
      refine r_iload_n 277 rfl 1 rfl rfl (ck DX7_undo_3 10 rfl) ?_
      refine r_aload_n 278 rfl 0 rfl rfl (ck DX7_undo_3 11 rfl) ?_
      refine r_getr (q := 137) 281 rfl (lq_7_78) sh_96 kd_7_78 fl_X7_248 (ck DX7_undo_3 12 rfl) ?_
      refine r_iload_n 282 rfl 1 rfl rfl (ck DX7_undo_3 13 rfl) ?_
      obtain ⟨b42, hf⟩ := gd_so hf
      refine r_iald 283 rfl sh_137 (inb_vp b42) (ck DX7_undo_3 14 rfl) ?_
      obtain ⟨b43, hf⟩ := gd_so hf
      obtain ⟨g44, e45, hf⟩ := lt_so hf
      refine r_iast 284 rfl sh_124 (inb_vp b43) (ck DX7_undo_3 15 rfl) ?_
      refine r_heap e45 ?_
      obtain ⟨v46, e47, hf⟩ := lt_so hf
      refine r_iinc (lv' := [(1, .int v46), (0, .ref (X.1 96))]) 287 rfl 1 (ck DX7_undo_3 16 rfl) rfl (by rw [e47, ic_1]) (by decide) rfl ?_
      refine r_goto 254 (ck DX7_undo_3 17 rfl) (by decide) ?_
      refine r_sub (lv' := [(0, .ref (X.1 96)), (1, .int v46)]) [1, 0] rfl ?_
      exact ih v46 g44 hf
def f_X7_undo_L217 : Nat → Int32 → HP → Option (Int32 × HP)
  | 0, _, _ => none
  | n + 1, x1, h => if (5 : Int32) ≤ x1 then (f_X7_undo_L254 FZ 0 h) else (gd (inb x1 5) (gd (inb x1 5) (lt (si h 121 (Int32.toNatClampNeg x1) (h.1 134 (Int32.toNatClampNeg x1))) fun g50 => gd (inb x1 5) (gd (inb x1 5) (lt (si g50 122 (Int32.toNatClampNeg x1) (g50.1 135 (Int32.toNatClampNeg x1))) fun g54 => lt (x1 + 1 : Int32) fun v56 => f_X7_undo_L217 n v56 g54)))))
set_option maxHeartbeats 4000000 in
set_option maxRecDepth 100000 in
theorem A_X7_undo_L217 (X : XE) (r : Int32) (h' : HP) : ∀ (n : Nat) (x1 : Int32) (h : HP), f_X7_undo_L217 n x1 h = some (r, h') → Run mX7_undo 1 X 217 [(0, .ref (X.1 96)), (1, .int x1)] [] h (some (.int r)) h' := by
  intro n
  induction n with
  | zero => intro x1 h hf; cases hf
  | succ n ih =>
    intro x1 h hf
    rw [f_X7_undo_L217] at hf
    refine r_iload_n 218 rfl 1 rfl rfl (ck DX7_undo_2 24 rfl) ?_
    refine r_iconst 219 rfl ic_5 (ck DX7_undo_2 25 rfl) ?_
    rcases if_so hf with ⟨c25, hf⟩ | ⟨c25, hf⟩
    · refine r_icmp_ge_t 252 (ck DX7_undo_2 26 rfl) (by decide) c25 ?_
      refine r_iconst 253 rfl ic_0 (ck DX7_undo_2 45 rfl) ?_
      refine r_istore_n (lv' := [(1, .int 0), (0, .ref (X.1 96))]) 254 rfl (ck DX7_undo_2 46 rfl) (by decide) rfl rfl ?_
      refine r_sub (lv' := [(0, .ref (X.1 96)), (1, .int 0)]) [1, 0] rfl ?_
      exact A_X7_undo_L254 X _ _ FZ 0 h hf
    · refine r_icmp_ge_f 222 rfl 252 (ck DX7_undo_2 26 rfl) (by decide) c25 ?_
      refine r_aload_n 223 rfl 0 rfl rfl (ck DX7_undo_2 27 rfl) ?_
      refine r_getr (q := 121) 226 rfl (lq_7_49) sh_96 kd_7_49 fl_X7_160 (ck DX7_undo_2 28 rfl) ?_
      refine r_iload_n 227 rfl 1 rfl rfl (ck DX7_undo_2 29 rfl) ?_
      refine r_aload_n 228 rfl 0 rfl rfl (ck DX7_undo_2 30 rfl) ?_
      refine r_getr (q := 134) 231 rfl (lq_7_75) sh_96 kd_7_75 fl_X7_239 (ck DX7_undo_2 31 rfl) ?_
      refine r_iload_n 232 rfl 1 rfl rfl (ck DX7_undo_2 32 rfl) ?_
      obtain ⟨b48, hf⟩ := gd_so hf
      refine r_iald 233 rfl sh_134 (inb_vp b48) (ck DX7_undo_2 33 rfl) ?_
      obtain ⟨b49, hf⟩ := gd_so hf
      obtain ⟨g50, e51, hf⟩ := lt_so hf
      refine r_iast 234 rfl sh_121 (inb_vp b49) (ck DX7_undo_2 34 rfl) ?_
      refine r_heap e51 ?_
      refine r_aload_n 235 rfl 0 rfl rfl (ck DX7_undo_2 35 rfl) ?_
      refine r_getr (q := 122) 238 rfl (lq_7_50) sh_96 kd_7_50 fl_X7_163 (ck DX7_undo_2 36 rfl) ?_
      refine r_iload_n 239 rfl 1 rfl rfl (ck DX7_undo_2 37 rfl) ?_
      refine r_aload_n 240 rfl 0 rfl rfl (ck DX7_undo_2 38 rfl) ?_
      refine r_getr (q := 135) 243 rfl (lq_7_76) sh_96 kd_7_76 fl_X7_242 (ck DX7_undo_2 39 rfl) ?_
      refine r_iload_n 244 rfl 1 rfl rfl (ck DX7_undo_2 40 rfl) ?_
      obtain ⟨b52, hf⟩ := gd_so hf
      refine r_iald 245 rfl sh_135 (inb_vp b52) (ck DX7_undo_2 41 rfl) ?_
      obtain ⟨b53, hf⟩ := gd_so hf
      obtain ⟨g54, e55, hf⟩ := lt_so hf
      refine r_iast 246 rfl sh_122 (inb_vp b53) (ck DX7_undo_2 42 rfl) ?_
      refine r_heap e55 ?_
      obtain ⟨v56, e57, hf⟩ := lt_so hf
      refine r_iinc (lv' := [(1, .int v56), (0, .ref (X.1 96))]) 249 rfl 1 (ck DX7_undo_2 43 rfl) rfl (by rw [e57, ic_1]) (by decide) rfl ?_
      refine r_goto 217 (ck DX7_undo_2 44 rfl) (by decide) ?_
      refine r_sub (lv' := [(0, .ref (X.1 96)), (1, .int v56)]) [1, 0] rfl ?_
      exact ih v56 g54 hf
def f_X7_undo_L192 : Nat → Int32 → HP → Option (Int32 × HP)
  | 0, _, _ => none
  | n + 1, x1, h => if (3 : Int32) ≤ x1 then (f_X7_undo_L217 FZ 0 h) else (gd (inb x1 3) (gd (inb x1 3) (lt (si h 103 (Int32.toNatClampNeg x1) (h.1 133 (Int32.toNatClampNeg x1))) fun g60 => lt (x1 + 1 : Int32) fun v62 => f_X7_undo_L192 n v62 g60)))
set_option maxHeartbeats 4000000 in
set_option maxRecDepth 100000 in
theorem A_X7_undo_L192 (X : XE) (r : Int32) (h' : HP) : ∀ (n : Nat) (x1 : Int32) (h : HP), f_X7_undo_L192 n x1 h = some (r, h') → Run mX7_undo 1 X 192 [(0, .ref (X.1 96)), (1, .int x1)] [] h (some (.int r)) h' := by
  intro n
  induction n with
  | zero => intro x1 h hf; cases hf
  | succ n ih =>
    intro x1 h hf
    rw [f_X7_undo_L192] at hf
    refine r_iload_n 193 rfl 1 rfl rfl (ck DX7_undo_2 9 rfl) ?_
    refine r_iconst 194 rfl ic_3 (ck DX7_undo_2 10 rfl) ?_
    rcases if_so hf with ⟨c24, hf⟩ | ⟨c24, hf⟩
    · refine r_icmp_ge_t 215 (ck DX7_undo_2 11 rfl) (by decide) c24 ?_
      refine r_iconst 216 rfl ic_0 (ck DX7_undo_2 22 rfl) ?_
      refine r_istore_n (lv' := [(1, .int 0), (0, .ref (X.1 96))]) 217 rfl (ck DX7_undo_2 23 rfl) (by decide) rfl rfl ?_
      refine r_sub (lv' := [(0, .ref (X.1 96)), (1, .int 0)]) [1, 0] rfl ?_
      exact A_X7_undo_L217 X _ _ FZ 0 h hf
    · refine r_icmp_ge_f 197 rfl 215 (ck DX7_undo_2 11 rfl) (by decide) c24 ?_
      refine r_aload_n 198 rfl 0 rfl rfl (ck DX7_undo_2 12 rfl) ?_
      refine r_getr (q := 103) 201 rfl (lq_7_12) sh_96 kd_7_12 fl_X7_47 (ck DX7_undo_2 13 rfl) ?_
      refine r_iload_n 202 rfl 1 rfl rfl (ck DX7_undo_2 14 rfl) ?_
      refine r_aload_n 203 rfl 0 rfl rfl (ck DX7_undo_2 15 rfl) ?_
      refine r_getr (q := 133) 206 rfl (lq_7_74) sh_96 kd_7_74 fl_X7_236 (ck DX7_undo_2 16 rfl) ?_
      refine r_iload_n 207 rfl 1 rfl rfl (ck DX7_undo_2 17 rfl) ?_
      obtain ⟨b58, hf⟩ := gd_so hf
      refine r_iald 208 rfl sh_133 (inb_vp b58) (ck DX7_undo_2 18 rfl) ?_
      obtain ⟨b59, hf⟩ := gd_so hf
      obtain ⟨g60, e61, hf⟩ := lt_so hf
      refine r_iast 209 rfl sh_103 (inb_vp b59) (ck DX7_undo_2 19 rfl) ?_
      refine r_heap e61 ?_
      obtain ⟨v62, e63, hf⟩ := lt_so hf
      refine r_iinc (lv' := [(1, .int v62), (0, .ref (X.1 96))]) 212 rfl 1 (ck DX7_undo_2 20 rfl) rfl (by rw [e63, ic_1]) (by decide) rfl ?_
      refine r_goto 192 (ck DX7_undo_2 21 rfl) (by decide) ?_
      refine r_sub (lv' := [(0, .ref (X.1 96)), (1, .int v62)]) [1, 0] rfl ?_
      exact ih v62 g60 hf
def f_X7_undo_L166 : Nat → Int32 → HP → Option (Int32 × HP)
  | 0, _, _ => none
  | n + 1, x1, h => if (24 : Int32) ≤ x1 then (f_X7_undo_L192 FZ 0 h) else (gd (inb x1 24) (gd (inb x1 24) (lt (si h 102 (Int32.toNatClampNeg x1) (h.1 132 (Int32.toNatClampNeg x1))) fun g66 => lt (x1 + 1 : Int32) fun v68 => f_X7_undo_L166 n v68 g66)))
set_option maxHeartbeats 4000000 in
set_option maxRecDepth 100000 in
theorem A_X7_undo_L166 (X : XE) (r : Int32) (h' : HP) : ∀ (n : Nat) (x1 : Int32) (h : HP), f_X7_undo_L166 n x1 h = some (r, h') → Run mX7_undo 1 X 166 [(0, .ref (X.1 96)), (1, .int x1)] [] h (some (.int r)) h' := by
  intro n
  induction n with
  | zero => intro x1 h hf; cases hf
  | succ n ih =>
    intro x1 h hf
    rw [f_X7_undo_L166] at hf
    refine r_iload_n 167 rfl 1 rfl rfl (ck DX7_undo_1 44 rfl) ?_
    refine r_bipush 169 rfl bp_24 (ck DX7_undo_1 45 rfl) ?_
    rcases if_so hf with ⟨c23, hf⟩ | ⟨c23, hf⟩
    · refine r_icmp_ge_t 190 (ck DX7_undo_1 46 rfl) (by decide) c23 ?_
      refine r_iconst 191 rfl ic_0 (ck DX7_undo_2 7 rfl) ?_
      refine r_istore_n (lv' := [(1, .int 0), (0, .ref (X.1 96))]) 192 rfl (ck DX7_undo_2 8 rfl) (by decide) rfl rfl ?_
      refine r_sub (lv' := [(0, .ref (X.1 96)), (1, .int 0)]) [1, 0] rfl ?_
      exact A_X7_undo_L192 X _ _ FZ 0 h hf
    · refine r_icmp_ge_f 172 rfl 190 (ck DX7_undo_1 46 rfl) (by decide) c23 ?_
      refine r_aload_n 173 rfl 0 rfl rfl (ck DX7_undo_1 47 rfl) ?_
      refine r_getr (q := 102) 176 rfl (lq_7_11) sh_96 kd_7_11 fl_X7_44 (ck DX7_undo_1 48 rfl) ?_
      refine r_iload_n 177 rfl 1 rfl rfl (ck DX7_undo_1 49 rfl) ?_
      refine r_aload_n 178 rfl 0 rfl rfl (ck DX7_undo_2 0 rfl) ?_
      refine r_getr (q := 132) 181 rfl (lq_7_73) sh_96 kd_7_73 fl_X7_233 (ck DX7_undo_2 1 rfl) ?_
      refine r_iload_n 182 rfl 1 rfl rfl (ck DX7_undo_2 2 rfl) ?_
      obtain ⟨b64, hf⟩ := gd_so hf
      refine r_iald 183 rfl sh_132 (inb_vp b64) (ck DX7_undo_2 3 rfl) ?_
      obtain ⟨b65, hf⟩ := gd_so hf
      obtain ⟨g66, e67, hf⟩ := lt_so hf
      refine r_iast 184 rfl sh_102 (inb_vp b65) (ck DX7_undo_2 4 rfl) ?_
      refine r_heap e67 ?_
      obtain ⟨v68, e69, hf⟩ := lt_so hf
      refine r_iinc (lv' := [(1, .int v68), (0, .ref (X.1 96))]) 187 rfl 1 (ck DX7_undo_2 5 rfl) rfl (by rw [e69, ic_1]) (by decide) rfl ?_
      refine r_goto 166 (ck DX7_undo_2 6 rfl) (by decide) ?_
      refine r_sub (lv' := [(0, .ref (X.1 96)), (1, .int v68)]) [1, 0] rfl ?_
      exact ih v68 g66 hf
def f_X7_undo_L92 : Nat → Int32 → HP → Option (Int32 × HP)
  | 0, _, _ => none
  | n + 1, x1, h => if (6 : Int32) ≤ x1 then (f_X7_undo_L166 FZ 0 h) else (gd (inb x1 6) (gd (inb x1 6) (lt (si h 97 (Int32.toNatClampNeg x1) (h.1 127 (Int32.toNatClampNeg x1))) fun g72 => gd (inb x1 6) (gd (inb x1 6) (lt (si g72 98 (Int32.toNatClampNeg x1) (g72.1 128 (Int32.toNatClampNeg x1))) fun g76 => gd (inb x1 6) (gd (inb x1 6) (lt (si g76 99 (Int32.toNatClampNeg x1) (g76.1 129 (Int32.toNatClampNeg x1))) fun g80 => gd (inb x1 6) (gd (inb x1 6) (lt (si g80 100 (Int32.toNatClampNeg x1) (g80.1 130 (Int32.toNatClampNeg x1))) fun g84 => gd (inb x1 6) (gd (inb x1 6) (lt (si g84 101 (Int32.toNatClampNeg x1) (g84.1 131 (Int32.toNatClampNeg x1))) fun g88 => lt (x1 + 1 : Int32) fun v90 => f_X7_undo_L92 n v90 g88)))))))))))
set_option maxHeartbeats 4000000 in
set_option maxRecDepth 100000 in
theorem A_X7_undo_L92 (X : XE) (r : Int32) (h' : HP) : ∀ (n : Nat) (x1 : Int32) (h : HP), f_X7_undo_L92 n x1 h = some (r, h') → Run mX7_undo 1 X 92 [(0, .ref (X.1 96)), (1, .int x1)] [] h (some (.int r)) h' := by
  intro n
  induction n with
  | zero => intro x1 h hf; cases hf
  | succ n ih =>
    intro x1 h hf
    rw [f_X7_undo_L92] at hf
    refine r_iload_n 93 rfl 1 rfl rfl (ck DX7_undo_0 47 rfl) ?_
    refine r_bipush 95 rfl bp_6 (ck DX7_undo_0 48 rfl) ?_
    rcases if_so hf with ⟨c22, hf⟩ | ⟨c22, hf⟩
    · refine r_icmp_ge_t 164 (ck DX7_undo_0 49 rfl) (by decide) c22 ?_
      refine r_iconst 165 rfl ic_0 (ck DX7_undo_1 42 rfl) ?_
      refine r_istore_n (lv' := [(1, .int 0), (0, .ref (X.1 96))]) 166 rfl (ck DX7_undo_1 43 rfl) (by decide) rfl rfl ?_
      refine r_sub (lv' := [(0, .ref (X.1 96)), (1, .int 0)]) [1, 0] rfl ?_
      exact A_X7_undo_L166 X _ _ FZ 0 h hf
    · refine r_icmp_ge_f 98 rfl 164 (ck DX7_undo_0 49 rfl) (by decide) c22 ?_
      refine r_aload_n 99 rfl 0 rfl rfl (ck DX7_undo_1 0 rfl) ?_
      refine r_getr (q := 97) 102 rfl (lq_7_6) sh_96 kd_7_6 fl_X7_28 (ck DX7_undo_1 1 rfl) ?_
      refine r_iload_n 103 rfl 1 rfl rfl (ck DX7_undo_1 2 rfl) ?_
      refine r_aload_n 104 rfl 0 rfl rfl (ck DX7_undo_1 3 rfl) ?_
      refine r_getr (q := 127) 107 rfl (lq_7_68) sh_96 kd_7_68 fl_X7_218 (ck DX7_undo_1 4 rfl) ?_
      refine r_iload_n 108 rfl 1 rfl rfl (ck DX7_undo_1 5 rfl) ?_
      obtain ⟨b70, hf⟩ := gd_so hf
      refine r_iald 109 rfl sh_127 (inb_vp b70) (ck DX7_undo_1 6 rfl) ?_
      obtain ⟨b71, hf⟩ := gd_so hf
      obtain ⟨g72, e73, hf⟩ := lt_so hf
      refine r_iast 110 rfl sh_97 (inb_vp b71) (ck DX7_undo_1 7 rfl) ?_
      refine r_heap e73 ?_
      refine r_aload_n 111 rfl 0 rfl rfl (ck DX7_undo_1 8 rfl) ?_
      refine r_getr (q := 98) 114 rfl (lq_7_7) sh_96 kd_7_7 fl_X7_32 (ck DX7_undo_1 9 rfl) ?_
      refine r_iload_n 115 rfl 1 rfl rfl (ck DX7_undo_1 10 rfl) ?_
      refine r_aload_n 116 rfl 0 rfl rfl (ck DX7_undo_1 11 rfl) ?_
      refine r_getr (q := 128) 119 rfl (lq_7_69) sh_96 kd_7_69 fl_X7_221 (ck DX7_undo_1 12 rfl) ?_
      refine r_iload_n 120 rfl 1 rfl rfl (ck DX7_undo_1 13 rfl) ?_
      obtain ⟨b74, hf⟩ := gd_so hf
      refine r_iald 121 rfl sh_128 (inb_vp b74) (ck DX7_undo_1 14 rfl) ?_
      obtain ⟨b75, hf⟩ := gd_so hf
      obtain ⟨g76, e77, hf⟩ := lt_so hf
      refine r_iast 122 rfl sh_98 (inb_vp b75) (ck DX7_undo_1 15 rfl) ?_
      refine r_heap e77 ?_
      refine r_aload_n 123 rfl 0 rfl rfl (ck DX7_undo_1 16 rfl) ?_
      refine r_getr (q := 99) 126 rfl (lq_7_8) sh_96 kd_7_8 fl_X7_35 (ck DX7_undo_1 17 rfl) ?_
      refine r_iload_n 127 rfl 1 rfl rfl (ck DX7_undo_1 18 rfl) ?_
      refine r_aload_n 128 rfl 0 rfl rfl (ck DX7_undo_1 19 rfl) ?_
      refine r_getr (q := 129) 131 rfl (lq_7_70) sh_96 kd_7_70 fl_X7_224 (ck DX7_undo_1 20 rfl) ?_
      refine r_iload_n 132 rfl 1 rfl rfl (ck DX7_undo_1 21 rfl) ?_
      obtain ⟨b78, hf⟩ := gd_so hf
      refine r_iald 133 rfl sh_129 (inb_vp b78) (ck DX7_undo_1 22 rfl) ?_
      obtain ⟨b79, hf⟩ := gd_so hf
      obtain ⟨g80, e81, hf⟩ := lt_so hf
      refine r_iast 134 rfl sh_99 (inb_vp b79) (ck DX7_undo_1 23 rfl) ?_
      refine r_heap e81 ?_
      refine r_aload_n 135 rfl 0 rfl rfl (ck DX7_undo_1 24 rfl) ?_
      refine r_getr (q := 100) 138 rfl (lq_7_9) sh_96 kd_7_9 fl_X7_38 (ck DX7_undo_1 25 rfl) ?_
      refine r_iload_n 139 rfl 1 rfl rfl (ck DX7_undo_1 26 rfl) ?_
      refine r_aload_n 140 rfl 0 rfl rfl (ck DX7_undo_1 27 rfl) ?_
      refine r_getr (q := 130) 143 rfl (lq_7_71) sh_96 kd_7_71 fl_X7_227 (ck DX7_undo_1 28 rfl) ?_
      refine r_iload_n 144 rfl 1 rfl rfl (ck DX7_undo_1 29 rfl) ?_
      obtain ⟨b82, hf⟩ := gd_so hf
      refine r_iald 145 rfl sh_130 (inb_vp b82) (ck DX7_undo_1 30 rfl) ?_
      obtain ⟨b83, hf⟩ := gd_so hf
      obtain ⟨g84, e85, hf⟩ := lt_so hf
      refine r_iast 146 rfl sh_100 (inb_vp b83) (ck DX7_undo_1 31 rfl) ?_
      refine r_heap e85 ?_
      refine r_aload_n 147 rfl 0 rfl rfl (ck DX7_undo_1 32 rfl) ?_
      refine r_getr (q := 101) 150 rfl (lq_7_10) sh_96 kd_7_10 fl_X7_41 (ck DX7_undo_1 33 rfl) ?_
      refine r_iload_n 151 rfl 1 rfl rfl (ck DX7_undo_1 34 rfl) ?_
      refine r_aload_n 152 rfl 0 rfl rfl (ck DX7_undo_1 35 rfl) ?_
      refine r_getr (q := 131) 155 rfl (lq_7_72) sh_96 kd_7_72 fl_X7_230 (ck DX7_undo_1 36 rfl) ?_
      refine r_iload_n 156 rfl 1 rfl rfl (ck DX7_undo_1 37 rfl) ?_
      obtain ⟨b86, hf⟩ := gd_so hf
      refine r_iald 157 rfl sh_131 (inb_vp b86) (ck DX7_undo_1 38 rfl) ?_
      obtain ⟨b87, hf⟩ := gd_so hf
      obtain ⟨g88, e89, hf⟩ := lt_so hf
      refine r_iast 158 rfl sh_101 (inb_vp b87) (ck DX7_undo_1 39 rfl) ?_
      refine r_heap e89 ?_
      obtain ⟨v90, e91, hf⟩ := lt_so hf
      refine r_iinc (lv' := [(1, .int v90), (0, .ref (X.1 96))]) 161 rfl 1 (ck DX7_undo_1 40 rfl) rfl (by rw [e91, ic_1]) (by decide) rfl ?_
      refine r_goto 92 (ck DX7_undo_1 41 rfl) (by decide) ?_
      refine r_sub (lv' := [(0, .ref (X.1 96)), (1, .int v90)]) [1, 0] rfl ?_
      exact ih v90 g88 hf
def f_X7_undo (h : HP) : Option (Int32 × HP) := if (h.1 96 57) = 0 then (some ((-3), h)) else (lt (si h 96 14 (h.1 96 58)) fun g2 => lt (si g2 96 0 (g2.1 96 59)) fun g4 => lt (si g4 96 1 (g4.1 96 60)) fun g6 => lt (si g6 96 2 (g6.1 96 61)) fun g8 => lt (si g8 96 3 (g8.1 96 62)) fun g10 => lt (si g10 96 4 (g10.1 96 63)) fun g12 => lt (si g12 96 5 (g12.1 96 64)) fun g14 => lt (si g14 96 48 (g14.1 96 65)) fun g16 => lt (si g16 96 51 (g16.1 96 66)) fun g18 => lt (si g18 96 52 (g18.1 96 67)) fun g20 => f_X7_undo_L92 FZ 0 g20)
set_option maxHeartbeats 4000000 in
set_option maxRecDepth 100000 in
theorem A_X7_undo (X : XE) (h : HP) (r : Int32) (h' : HP) (hf : f_X7_undo h = some (r, h')) : CC mX7_undo 1 X [.ref (X.1 96)] h (some (.int r)) h' := by
  refine CC_of rfl (Nat.le_of_ble_eq_true rfl) ?_
  show Run mX7_undo 1 X 0 [(0, .ref (X.1 96))] [] h (some (.int r)) h'
  unfold f_X7_undo at hf
  refine r_aload_n 1 rfl 0 rfl rfl (ck DX7_undo_0 0 rfl) ?_
  refine r_geti 4 rfl sh_96 kd_7_57 fl_X7_184 (ck DX7_undo_0 1 rfl) ?_
  rcases if_so hf with ⟨c1, hf⟩ | ⟨c1, hf⟩
  · refine r_if_ne_t 7 rfl 10 (ck DX7_undo_0 2 rfl) (by decide) c1 ?_
    refine r_bipush 9 rfl bp_m3 (ck DX7_undo_0 3 rfl) ?_
    obtain ⟨rfl, rfl⟩ := so2 hf
    exact r_iret rfl rfl (ck DX7_undo_0 4 rfl)
  · refine r_if_ne_f 10 (ck DX7_undo_0 2 rfl) (by decide) c1 ?_
    refine r_aload_n 11 rfl 0 rfl rfl (ck DX7_undo_0 5 rfl) ?_
    refine r_aload_n 12 rfl 0 rfl rfl (ck DX7_undo_0 6 rfl) ?_
    refine r_geti 15 rfl sh_96 kd_7_58 fl_X7_188 (ck DX7_undo_0 7 rfl) ?_
    obtain ⟨g2, e3, hf⟩ := lt_so hf
    refine r_puti 18 rfl sh_96 kd_7_14 fw_X7_53 rfl rfl (ck DX7_undo_0 8 rfl) ?_
    refine r_heap e3 ?_
    refine r_aload_n 19 rfl 0 rfl rfl (ck DX7_undo_0 9 rfl) ?_
    refine r_aload_n 20 rfl 0 rfl rfl (ck DX7_undo_0 10 rfl) ?_
    refine r_geti 23 rfl sh_96 kd_7_59 fl_X7_191 (ck DX7_undo_0 11 rfl) ?_
    obtain ⟨g4, e5, hf⟩ := lt_so hf
    refine r_puti 26 rfl sh_96 kd_7_0 fw_X7_7 rfl rfl (ck DX7_undo_0 12 rfl) ?_
    refine r_heap e5 ?_
    refine r_aload_n 27 rfl 0 rfl rfl (ck DX7_undo_0 13 rfl) ?_
    refine r_aload_n 28 rfl 0 rfl rfl (ck DX7_undo_0 14 rfl) ?_
    refine r_geti 31 rfl sh_96 kd_7_60 fl_X7_194 (ck DX7_undo_0 15 rfl) ?_
    obtain ⟨g6, e7, hf⟩ := lt_so hf
    refine r_puti 34 rfl sh_96 kd_7_1 fw_X7_13 rfl rfl (ck DX7_undo_0 16 rfl) ?_
    refine r_heap e7 ?_
    refine r_aload_n 35 rfl 0 rfl rfl (ck DX7_undo_0 17 rfl) ?_
    refine r_aload_n 36 rfl 0 rfl rfl (ck DX7_undo_0 18 rfl) ?_
    refine r_geti 39 rfl sh_96 kd_7_61 fl_X7_197 (ck DX7_undo_0 19 rfl) ?_
    obtain ⟨g8, e9, hf⟩ := lt_so hf
    refine r_puti 42 rfl sh_96 kd_7_2 fw_X7_16 rfl rfl (ck DX7_undo_0 20 rfl) ?_
    refine r_heap e9 ?_
    refine r_aload_n 43 rfl 0 rfl rfl (ck DX7_undo_0 21 rfl) ?_
    refine r_aload_n 44 rfl 0 rfl rfl (ck DX7_undo_0 22 rfl) ?_
    refine r_geti 47 rfl sh_96 kd_7_62 fl_X7_200 (ck DX7_undo_0 23 rfl) ?_
    obtain ⟨g10, e11, hf⟩ := lt_so hf
    refine r_puti 50 rfl sh_96 kd_7_3 fw_X7_19 rfl rfl (ck DX7_undo_0 24 rfl) ?_
    refine r_heap e11 ?_
    refine r_aload_n 51 rfl 0 rfl rfl (ck DX7_undo_0 25 rfl) ?_
    refine r_aload_n 52 rfl 0 rfl rfl (ck DX7_undo_0 26 rfl) ?_
    refine r_geti 55 rfl sh_96 kd_7_63 fl_X7_203 (ck DX7_undo_0 27 rfl) ?_
    obtain ⟨g12, e13, hf⟩ := lt_so hf
    refine r_puti 58 rfl sh_96 kd_7_4 fw_X7_22 rfl rfl (ck DX7_undo_0 28 rfl) ?_
    refine r_heap e13 ?_
    refine r_aload_n 59 rfl 0 rfl rfl (ck DX7_undo_0 29 rfl) ?_
    refine r_aload_n 60 rfl 0 rfl rfl (ck DX7_undo_0 30 rfl) ?_
    refine r_geti 63 rfl sh_96 kd_7_64 fl_X7_206 (ck DX7_undo_0 31 rfl) ?_
    obtain ⟨g14, e15, hf⟩ := lt_so hf
    refine r_puti 66 rfl sh_96 kd_7_5 fw_X7_25 rfl rfl (ck DX7_undo_0 32 rfl) ?_
    refine r_heap e15 ?_
    refine r_aload_n 67 rfl 0 rfl rfl (ck DX7_undo_0 33 rfl) ?_
    refine r_aload_n 68 rfl 0 rfl rfl (ck DX7_undo_0 34 rfl) ?_
    refine r_geti 71 rfl sh_96 kd_7_65 fl_X7_209 (ck DX7_undo_0 35 rfl) ?_
    obtain ⟨g16, e17, hf⟩ := lt_so hf
    refine r_puti 74 rfl sh_96 kd_7_48 fw_X7_157 rfl rfl (ck DX7_undo_0 36 rfl) ?_
    refine r_heap e17 ?_
    refine r_aload_n 75 rfl 0 rfl rfl (ck DX7_undo_0 37 rfl) ?_
    refine r_aload_n 76 rfl 0 rfl rfl (ck DX7_undo_0 38 rfl) ?_
    refine r_geti 79 rfl sh_96 kd_7_66 fl_X7_212 (ck DX7_undo_0 39 rfl) ?_
    obtain ⟨g18, e19, hf⟩ := lt_so hf
    refine r_puti 82 rfl sh_96 kd_7_51 fw_X7_166 rfl rfl (ck DX7_undo_0 40 rfl) ?_
    refine r_heap e19 ?_
    refine r_aload_n 83 rfl 0 rfl rfl (ck DX7_undo_0 41 rfl) ?_
    refine r_aload_n 84 rfl 0 rfl rfl (ck DX7_undo_0 42 rfl) ?_
    refine r_geti 87 rfl sh_96 kd_7_67 fl_X7_215 (ck DX7_undo_0 43 rfl) ?_
    obtain ⟨g20, e21, hf⟩ := lt_so hf
    refine r_puti 90 rfl sh_96 kd_7_52 fw_X7_169 rfl rfl (ck DX7_undo_0 44 rfl) ?_
    refine r_heap e21 ?_
    refine r_iconst 91 rfl ic_0 (ck DX7_undo_0 45 rfl) ?_
    refine r_istore_n (lv' := [(1, .int 0), (0, .ref (X.1 96))]) 92 rfl (ck DX7_undo_0 46 rfl) (by decide) rfl rfl ?_
    refine r_sub (lv' := [(0, .ref (X.1 96)), (1, .int 0)]) [1, 0] rfl ?_
    exact A_X7_undo_L92 X _ _ FZ 0 g20 hf
-- X7_body
def f_X7_body (x1 : Int32) (h : HP) : Option HP := if (20 : Int32) ≤ (h.1 96 81) then (lt (si h 96 81 ((h.1 96 81) + 1)) fun g2 => some g2) else (gd (inb (h.1 96 81) 20) (lt (si h 140 (Int32.toNatClampNeg (h.1 96 81)) x1) fun g5 => lt (si g5 96 81 ((g5.1 96 81) + 1)) fun g7 => some g7))
set_option maxHeartbeats 4000000 in
set_option maxRecDepth 100000 in
theorem A_X7_body (X : XE) (x1 : Int32) (h : HP) (h' : HP) (hf : f_X7_body x1 h = some h') : CC mX7_body 1 X [.ref (X.1 96), .int x1] h none h' := by
  refine CC_of rfl (Nat.le_of_ble_eq_true rfl) ?_
  show Run mX7_body 1 X 0 [(0, .ref (X.1 96)), (1, .int x1)] [] h none h'
  unfold f_X7_body at hf
  refine r_aload_n 1 rfl 0 rfl rfl (ck DX7_body_0 0 rfl) ?_
  refine r_geti 4 rfl sh_96 kd_7_81 fl_X7_257 (ck DX7_body_0 1 rfl) ?_
  refine r_bipush 6 rfl bp_20 (ck DX7_body_0 2 rfl) ?_
  rcases if_so hf with ⟨c1, hf⟩ | ⟨c1, hf⟩
  · refine r_icmp_ge_t 19 (ck DX7_body_0 3 rfl) (by decide) c1 ?_
    refine r_aload_n 20 rfl 0 rfl rfl (ck DX7_body_0 10 rfl) ?_
    refine r_dup 21 rfl rfl (ck DX7_body_0 11 rfl) ?_
    refine r_geti 24 rfl sh_96 kd_7_81 fl_X7_257 (ck DX7_body_0 12 rfl) ?_
    refine r_iconst 25 rfl ic_1 (ck DX7_body_0 13 rfl) ?_
    refine r_iadd 26 rfl (ck DX7_body_0 14 rfl) ?_
    obtain ⟨g2, e3, hf⟩ := lt_so hf
    refine r_puti 29 rfl sh_96 kd_7_81 fw_X7_257 rfl rfl (ck DX7_body_0 15 rfl) ?_
    refine r_heap e3 ?_
    obtain rfl := so1 hf
    exact r_vret rfl (ck DX7_body_0 16 rfl)
  · refine r_icmp_ge_f 9 rfl 19 (ck DX7_body_0 3 rfl) (by decide) c1 ?_
    refine r_aload_n 10 rfl 0 rfl rfl (ck DX7_body_0 4 rfl) ?_
    refine r_getr (q := 140) 13 rfl (lq_7_82) sh_96 kd_7_82 fl_X7_260 (ck DX7_body_0 5 rfl) ?_
    refine r_aload_n 14 rfl 0 rfl rfl (ck DX7_body_0 6 rfl) ?_
    refine r_geti 17 rfl sh_96 kd_7_81 fl_X7_257 (ck DX7_body_0 7 rfl) ?_
    refine r_iload_n 18 rfl 1 rfl rfl (ck DX7_body_0 8 rfl) ?_
    obtain ⟨b4, hf⟩ := gd_so hf
    obtain ⟨g5, e6, hf⟩ := lt_so hf
    refine r_iast 19 rfl sh_140 (inb_vp b4) (ck DX7_body_0 9 rfl) ?_
    refine r_heap e6 ?_
    refine r_aload_n 20 rfl 0 rfl rfl (ck DX7_body_0 10 rfl) ?_
    refine r_dup 21 rfl rfl (ck DX7_body_0 11 rfl) ?_
    refine r_geti 24 rfl sh_96 kd_7_81 fl_X7_257 (ck DX7_body_0 12 rfl) ?_
    refine r_iconst 25 rfl ic_1 (ck DX7_body_0 13 rfl) ?_
    refine r_iadd 26 rfl (ck DX7_body_0 14 rfl) ?_
    obtain ⟨g7, e8, hf⟩ := lt_so hf
    refine r_puti 29 rfl sh_96 kd_7_81 fw_X7_257 rfl rfl (ck DX7_body_0 15 rfl) ?_
    refine r_heap e8 ?_
    obtain rfl := so1 hf
    exact r_vret rfl (ck DX7_body_0 16 rfl)
-- X7_pieceBends
def f_X7_pieceBends (x1 : Int32) (x2 : Int32) (h : HP) : Option (Int32 × HP) := bo (f_X7_body 10 h) fun g1 => some ((x2 + x1), g1)
set_option maxHeartbeats 4000000 in
set_option maxRecDepth 100000 in
theorem A_X7_pieceBends (X : XE) (x1 : Int32) (x2 : Int32) (h : HP) (r : Int32) (h' : HP) (hf : f_X7_pieceBends x1 x2 h = some (r, h')) : CC mX7_pieceBends 2 X [.ref (X.1 96), .int x1, .int x2] h (some (.int r)) h' := by
  refine CC_of rfl (Nat.le_of_ble_eq_true rfl) ?_
  show Run mX7_pieceBends 2 X 0 [(0, .ref (X.1 96)), (1, .int x1), (2, .int x2)] [] h (some (.int r)) h'
  unfold f_X7_pieceBends at hf
  refine r_aload_n 1 rfl 0 rfl rfl (ck DX7_pieceBends_0 0 rfl) ?_
  refine r_bipush 3 rfl bp_10 (ck DX7_pieceBends_0 1 rfl) ?_
  obtain ⟨g1, e2, hf⟩ := bo_so hf
  refine r_callVv 6 rfl (A_X7_body X 10 h g1 e2) (by omega) cw_X7_443 sh_96 cl_7 rfl rfl (Nat.le_of_ble_eq_true rfl) (ck DX7_pieceBends_0 2 rfl) ?_
  refine r_iload_n 7 rfl 2 rfl rfl (ck DX7_pieceBends_0 3 rfl) ?_
  refine r_iload_n 8 rfl 1 rfl rfl (ck DX7_pieceBends_0 4 rfl) ?_
  refine r_iadd 9 rfl (ck DX7_pieceBends_0 5 rfl) ?_
  obtain ⟨rfl, rfl⟩ := so2 hf
  exact r_iret rfl rfl (ck DX7_pieceBends_0 6 rfl)
-- X7_bendsAct
def f_X7_bendsAct (x1 : Int32) (x2 : Int32) (h : HP) : Option (Int32 × HP) := gd (inb x1 6) (lt ((h.1 97 (Int32.toNatClampNeg x1)) : Int32) fun v2 => if v2 = 2 then (bo (f_X7_body 30 h) fun g5 => bd (f_X7_pieceBends x1 (x2 * 3) g5) fun v9 g7 => some (v9, g7)) else (if v2 = 3 then (bd (f_X7_pieceBends x1 x2 h) fun v13 g11 => some (v13, g11)) else (if v2 = 4 then (bo (f_X7_body 50 h) fun g15 => bd (f_X7_pieceBends x1 x2 g15) fun v19 g17 => some ((-v19), g17)) else (if v2 = 5 then (bo (f_X7_body 30 h) fun g21 => bd (f_X7_pieceBends x1 (x2 * 3) g21) fun v25 g23 => some (v25, g23)) else (if v2 = 6 then (bo (f_X7_body 71 h) fun g27 => bd (f_X7_pieceBends x1 x2 g27) fun v31 g29 => gd (inb x1 6) (some ((v31 ^^^ (g29.1 98 (Int32.toNatClampNeg x1))), g29))) else ((bd (f_X7_pieceBends x1 x2 h) fun v35 g33 => some (v35, g33))))))))
set_option maxHeartbeats 4000000 in
set_option maxRecDepth 100000 in
theorem A_X7_bendsAct (X : XE) (x1 : Int32) (x2 : Int32) (h : HP) (r : Int32) (h' : HP) (hf : f_X7_bendsAct x1 x2 h = some (r, h')) : CC mX7_bendsAct 3 X [.ref (X.1 96), .int x1, .int x2] h (some (.int r)) h' := by
  refine CC_of rfl (Nat.le_of_ble_eq_true rfl) ?_
  show Run mX7_bendsAct 3 X 0 [(0, .ref (X.1 96)), (1, .int x1), (2, .int x2)] [] h (some (.int r)) h'
  unfold f_X7_bendsAct at hf
  refine r_aload_n 1 rfl 0 rfl rfl (ck DX7_bendsAct_0 0 rfl) ?_
  refine r_getr (q := 97) 4 rfl (lq_7_6) sh_96 kd_7_6 fl_X7_28 (ck DX7_bendsAct_0 1 rfl) ?_
  refine r_iload_n 5 rfl 1 rfl rfl (ck DX7_bendsAct_0 2 rfl) ?_
  obtain ⟨b1, hf⟩ := gd_so hf
  refine r_iald 6 rfl sh_97 (inb_vp b1) (ck DX7_bendsAct_0 3 rfl) ?_
  obtain ⟨v2, e3, hf⟩ := lt_so hf
  refine r_top e3 ?_
  rcases if_so hf with ⟨c4, hf⟩ | ⟨c4, hf⟩
  · refine r_tsw_in (v := 2) 40 (ck DX7_bendsAct_0 4 rfl) c4 (by decide) (by decide) rfl (by decide) ?_
    refine r_aload_n 41 rfl 0 rfl rfl (ck DX7_bendsAct_0 5 rfl) ?_
    refine r_bipush 43 rfl bp_30 (ck DX7_bendsAct_0 6 rfl) ?_
    obtain ⟨g5, e6, hf⟩ := bo_so hf
    refine r_callVv 46 rfl (A_X7_body X 30 h g5 e6) (by omega) cw_X7_443 sh_96 cl_7 rfl rfl (Nat.le_of_ble_eq_true rfl) (ck DX7_bendsAct_0 7 rfl) ?_
    refine r_aload_n 47 rfl 0 rfl rfl (ck DX7_bendsAct_0 8 rfl) ?_
    refine r_iload_n 48 rfl 1 rfl rfl (ck DX7_bendsAct_0 9 rfl) ?_
    refine r_iload_n 49 rfl 2 rfl rfl (ck DX7_bendsAct_0 10 rfl) ?_
    refine r_iconst 50 rfl ic_3 (ck DX7_bendsAct_0 11 rfl) ?_
    refine r_imul 51 rfl (ck DX7_bendsAct_0 12 rfl) ?_
    obtain ⟨v9, g7, e8, hf⟩ := bd_so hf
    refine r_callVi 54 rfl (A_X7_pieceBends X x1 (x2 * 3) g5 v9 g7 e8) (by omega) cw_X7_446 sh_96 cl_7 rfl rfl (Nat.le_of_ble_eq_true rfl) (ck DX7_bendsAct_0 13 rfl) ?_
    obtain ⟨rfl, rfl⟩ := so2 hf
    exact r_iret rfl rfl (ck DX7_bendsAct_0 14 rfl)
  · skip
    rcases if_so hf with ⟨c10, hf⟩ | ⟨c10, hf⟩
    · refine r_tsw_in (v := 3) 89 (ck DX7_bendsAct_0 4 rfl) c10 (by decide) (by decide) rfl (by decide) ?_
      refine r_aload_n 90 rfl 0 rfl rfl (ck DX7_bendsAct_0 37 rfl) ?_
      refine r_iload_n 91 rfl 1 rfl rfl (ck DX7_bendsAct_0 38 rfl) ?_
      refine r_iload_n 92 rfl 2 rfl rfl (ck DX7_bendsAct_0 39 rfl) ?_
      obtain ⟨v13, g11, e12, hf⟩ := bd_so hf
      refine r_callVi 95 rfl (A_X7_pieceBends X x1 x2 h v13 g11 e12) (by omega) cw_X7_446 sh_96 cl_7 rfl rfl (Nat.le_of_ble_eq_true rfl) (ck DX7_bendsAct_0 40 rfl) ?_
      obtain ⟨rfl, rfl⟩ := so2 hf
      exact r_iret rfl rfl (ck DX7_bendsAct_0 41 rfl)
    · skip
      rcases if_so hf with ⟨c14, hf⟩ | ⟨c14, hf⟩
      · refine r_tsw_in (v := 4) 55 (ck DX7_bendsAct_0 4 rfl) c14 (by decide) (by decide) rfl (by decide) ?_
        refine r_aload_n 56 rfl 0 rfl rfl (ck DX7_bendsAct_0 15 rfl) ?_
        refine r_bipush 58 rfl bp_50 (ck DX7_bendsAct_0 16 rfl) ?_
        obtain ⟨g15, e16, hf⟩ := bo_so hf
        refine r_callVv 61 rfl (A_X7_body X 50 h g15 e16) (by omega) cw_X7_443 sh_96 cl_7 rfl rfl (Nat.le_of_ble_eq_true rfl) (ck DX7_bendsAct_0 17 rfl) ?_
        refine r_aload_n 62 rfl 0 rfl rfl (ck DX7_bendsAct_0 18 rfl) ?_
        refine r_iload_n 63 rfl 1 rfl rfl (ck DX7_bendsAct_0 19 rfl) ?_
        refine r_iload_n 64 rfl 2 rfl rfl (ck DX7_bendsAct_0 20 rfl) ?_
        obtain ⟨v19, g17, e18, hf⟩ := bd_so hf
        refine r_callVi 67 rfl (A_X7_pieceBends X x1 x2 g15 v19 g17 e18) (by omega) cw_X7_446 sh_96 cl_7 rfl rfl (Nat.le_of_ble_eq_true rfl) (ck DX7_bendsAct_0 21 rfl) ?_
        refine r_ineg 68 rfl (ck DX7_bendsAct_0 22 rfl) ?_
        obtain ⟨rfl, rfl⟩ := so2 hf
        exact r_iret rfl rfl (ck DX7_bendsAct_0 23 rfl)
      · skip
        rcases if_so hf with ⟨c20, hf⟩ | ⟨c20, hf⟩
        · refine r_tsw_in (v := 5) 40 (ck DX7_bendsAct_0 4 rfl) c20 (by decide) (by decide) rfl (by decide) ?_
          refine r_aload_n 41 rfl 0 rfl rfl (ck DX7_bendsAct_0 5 rfl) ?_
          refine r_bipush 43 rfl bp_30 (ck DX7_bendsAct_0 6 rfl) ?_
          obtain ⟨g21, e22, hf⟩ := bo_so hf
          refine r_callVv 46 rfl (A_X7_body X 30 h g21 e22) (by omega) cw_X7_443 sh_96 cl_7 rfl rfl (Nat.le_of_ble_eq_true rfl) (ck DX7_bendsAct_0 7 rfl) ?_
          refine r_aload_n 47 rfl 0 rfl rfl (ck DX7_bendsAct_0 8 rfl) ?_
          refine r_iload_n 48 rfl 1 rfl rfl (ck DX7_bendsAct_0 9 rfl) ?_
          refine r_iload_n 49 rfl 2 rfl rfl (ck DX7_bendsAct_0 10 rfl) ?_
          refine r_iconst 50 rfl ic_3 (ck DX7_bendsAct_0 11 rfl) ?_
          refine r_imul 51 rfl (ck DX7_bendsAct_0 12 rfl) ?_
          obtain ⟨v25, g23, e24, hf⟩ := bd_so hf
          refine r_callVi 54 rfl (A_X7_pieceBends X x1 (x2 * 3) g21 v25 g23 e24) (by omega) cw_X7_446 sh_96 cl_7 rfl rfl (Nat.le_of_ble_eq_true rfl) (ck DX7_bendsAct_0 13 rfl) ?_
          obtain ⟨rfl, rfl⟩ := so2 hf
          exact r_iret rfl rfl (ck DX7_bendsAct_0 14 rfl)
        · skip
          rcases if_so hf with ⟨c26, hf⟩ | ⟨c26, hf⟩
          · refine r_tsw_in (v := 6) 69 (ck DX7_bendsAct_0 4 rfl) c26 (by decide) (by decide) rfl (by decide) ?_
            refine r_aload_n 70 rfl 0 rfl rfl (ck DX7_bendsAct_0 24 rfl) ?_
            refine r_bipush 72 rfl bp_71 (ck DX7_bendsAct_0 25 rfl) ?_
            obtain ⟨g27, e28, hf⟩ := bo_so hf
            refine r_callVv 75 rfl (A_X7_body X 71 h g27 e28) (by omega) cw_X7_443 sh_96 cl_7 rfl rfl (Nat.le_of_ble_eq_true rfl) (ck DX7_bendsAct_0 26 rfl) ?_
            refine r_aload_n 76 rfl 0 rfl rfl (ck DX7_bendsAct_0 27 rfl) ?_
            refine r_iload_n 77 rfl 1 rfl rfl (ck DX7_bendsAct_0 28 rfl) ?_
            refine r_iload_n 78 rfl 2 rfl rfl (ck DX7_bendsAct_0 29 rfl) ?_
            obtain ⟨v31, g29, e30, hf⟩ := bd_so hf
            refine r_callVi 81 rfl (A_X7_pieceBends X x1 x2 g27 v31 g29 e30) (by omega) cw_X7_446 sh_96 cl_7 rfl rfl (Nat.le_of_ble_eq_true rfl) (ck DX7_bendsAct_0 30 rfl) ?_
            refine r_aload_n 82 rfl 0 rfl rfl (ck DX7_bendsAct_0 31 rfl) ?_
            refine r_getr (q := 98) 85 rfl (lq_7_7) sh_96 kd_7_7 fl_X7_32 (ck DX7_bendsAct_0 32 rfl) ?_
            refine r_iload_n 86 rfl 1 rfl rfl (ck DX7_bendsAct_0 33 rfl) ?_
            obtain ⟨b32, hf⟩ := gd_so hf
            refine r_iald 87 rfl sh_98 (inb_vp b32) (ck DX7_bendsAct_0 34 rfl) ?_
            refine r_ixor 88 rfl (ck DX7_bendsAct_0 35 rfl) ?_
            obtain ⟨rfl, rfl⟩ := so2 hf
            exact r_iret rfl rfl (ck DX7_bendsAct_0 36 rfl)
          · skip
            have hx9 : v2.toInt < 2 ∨ (6 : Int) < v2.toInt := by
              have h8 := tsw_o (x := v2) 2 5 (fun k hk => by
                match k, hk with
                | 0, _ => exact ne_int c4
                | 1, _ => exact ne_int c10
                | 2, _ => exact ne_int c14
                | 3, _ => exact ne_int c20
                | 4, _ => exact ne_int c26
                | k + 5, hk => exact absurd hk (by omega))
              exact h8
            refine r_tsw_out 89 (ck DX7_bendsAct_0 4 rfl) hx9 (by decide) ?_
            refine r_aload_n 90 rfl 0 rfl rfl (ck DX7_bendsAct_0 37 rfl) ?_
            refine r_iload_n 91 rfl 1 rfl rfl (ck DX7_bendsAct_0 38 rfl) ?_
            refine r_iload_n 92 rfl 2 rfl rfl (ck DX7_bendsAct_0 39 rfl) ?_
            obtain ⟨v35, g33, e34, hf⟩ := bd_so hf
            refine r_callVi 95 rfl (A_X7_pieceBends X x1 x2 h v35 g33 e34) (by omega) cw_X7_446 sh_96 cl_7 rfl rfl (Nat.le_of_ble_eq_true rfl) (ck DX7_bendsAct_0 40 rfl) ?_
            obtain ⟨rfl, rfl⟩ := so2 hf
            exact r_iret rfl rfl (ck DX7_bendsAct_0 41 rfl)
-- X7_pieceHolds
def f_X7_pieceHolds (x1 : Int32) (x2 : Int32) (h : HP) : Option (Int32 × HP) := bo (f_X7_body 11 h) fun g1 => bd (f_X7_bendsAct x1 x2 g1) fun v5 g3 => gd (inb x1 6) (some ((v5 - (g3.1 98 (Int32.toNatClampNeg x1))), g3))
set_option maxHeartbeats 4000000 in
set_option maxRecDepth 100000 in
theorem A_X7_pieceHolds (X : XE) (x1 : Int32) (x2 : Int32) (h : HP) (r : Int32) (h' : HP) (hf : f_X7_pieceHolds x1 x2 h = some (r, h')) : CC mX7_pieceHolds 4 X [.ref (X.1 96), .int x1, .int x2] h (some (.int r)) h' := by
  refine CC_of rfl (Nat.le_of_ble_eq_true rfl) ?_
  show Run mX7_pieceHolds 4 X 0 [(0, .ref (X.1 96)), (1, .int x1), (2, .int x2)] [] h (some (.int r)) h'
  unfold f_X7_pieceHolds at hf
  refine r_aload_n 1 rfl 0 rfl rfl (ck DX7_pieceHolds_0 0 rfl) ?_
  refine r_bipush 3 rfl bp_11 (ck DX7_pieceHolds_0 1 rfl) ?_
  obtain ⟨g1, e2, hf⟩ := bo_so hf
  refine r_callVv 6 rfl (A_X7_body X 11 h g1 e2) (by omega) cw_X7_443 sh_96 cl_7 rfl rfl (Nat.le_of_ble_eq_true rfl) (ck DX7_pieceHolds_0 2 rfl) ?_
  refine r_aload_n 7 rfl 0 rfl rfl (ck DX7_pieceHolds_0 3 rfl) ?_
  refine r_iload_n 8 rfl 1 rfl rfl (ck DX7_pieceHolds_0 4 rfl) ?_
  refine r_iload_n 9 rfl 2 rfl rfl (ck DX7_pieceHolds_0 5 rfl) ?_
  obtain ⟨v5, g3, e4, hf⟩ := bd_so hf
  refine r_callVi 12 rfl (A_X7_bendsAct X x1 x2 g1 v5 g3 e4) (by omega) cw_X7_449 sh_96 cl_7 rfl rfl (Nat.le_of_ble_eq_true rfl) (ck DX7_pieceHolds_0 6 rfl) ?_
  refine r_aload_n 13 rfl 0 rfl rfl (ck DX7_pieceHolds_0 7 rfl) ?_
  refine r_getr (q := 98) 16 rfl (lq_7_7) sh_96 kd_7_7 fl_X7_32 (ck DX7_pieceHolds_0 8 rfl) ?_
  refine r_iload_n 17 rfl 1 rfl rfl (ck DX7_pieceHolds_0 9 rfl) ?_
  obtain ⟨b6, hf⟩ := gd_so hf
  refine r_iald 18 rfl sh_98 (inb_vp b6) (ck DX7_pieceHolds_0 10 rfl) ?_
  refine r_isub 19 rfl (ck DX7_pieceHolds_0 11 rfl) ?_
  obtain ⟨rfl, rfl⟩ := so2 hf
  exact r_iret rfl rfl (ck DX7_pieceHolds_0 12 rfl)
-- X7_oarHolds
def f_X7_oarHolds (x1 : Int32) (x2 : Int32) (h : HP) : Option (Int32 × HP) := bo (f_X7_body 20 h) fun g1 => bd (f_X7_pieceHolds x1 x2 g1) fun v5 g3 => some ((v5 ^^^ 6), g3)
set_option maxHeartbeats 4000000 in
set_option maxRecDepth 100000 in
theorem A_X7_oarHolds (X : XE) (x1 : Int32) (x2 : Int32) (h : HP) (r : Int32) (h' : HP) (hf : f_X7_oarHolds x1 x2 h = some (r, h')) : CC mX7_oarHolds 5 X [.ref (X.1 96), .int x1, .int x2] h (some (.int r)) h' := by
  refine CC_of rfl (Nat.le_of_ble_eq_true rfl) ?_
  show Run mX7_oarHolds 5 X 0 [(0, .ref (X.1 96)), (1, .int x1), (2, .int x2)] [] h (some (.int r)) h'
  unfold f_X7_oarHolds at hf
  refine r_aload_n 1 rfl 0 rfl rfl (ck DX7_oarHolds_0 0 rfl) ?_
  refine r_bipush 3 rfl bp_20 (ck DX7_oarHolds_0 1 rfl) ?_
  obtain ⟨g1, e2, hf⟩ := bo_so hf
  refine r_callVv 6 rfl (A_X7_body X 20 h g1 e2) (by omega) cw_X7_443 sh_96 cl_7 rfl rfl (Nat.le_of_ble_eq_true rfl) (ck DX7_oarHolds_0 2 rfl) ?_
  refine r_aload_n 7 rfl 0 rfl rfl (ck DX7_oarHolds_0 3 rfl) ?_
  refine r_iload_n 8 rfl 1 rfl rfl (ck DX7_oarHolds_0 4 rfl) ?_
  refine r_iload_n 9 rfl 2 rfl rfl (ck DX7_oarHolds_0 5 rfl) ?_
  obtain ⟨v5, g3, e4, hf⟩ := bd_so hf
  refine r_callVi 12 rfl (A_X7_pieceHolds X x1 x2 g1 v5 g3 e4) (by omega) cw_X7_452 sh_96 cl_7 rfl rfl (Nat.le_of_ble_eq_true rfl) (ck DX7_oarHolds_0 6 rfl) ?_
  refine r_bipush 14 rfl bp_6 (ck DX7_oarHolds_0 7 rfl) ?_
  refine r_ixor 15 rfl (ck DX7_oarHolds_0 8 rfl) ?_
  obtain ⟨rfl, rfl⟩ := so2 hf
  exact r_iret rfl rfl (ck DX7_oarHolds_0 9 rfl)
-- X7_holdsAct
def f_X7_holdsAct (x1 : Int32) (x2 : Int32) (h : HP) : Option (Int32 × HP) := gd (inb x1 6) (lt ((h.1 97 (Int32.toNatClampNeg x1)) : Int32) fun v2 => if v2 = 1 then (bd (f_X7_oarHolds x1 x2 h) fun v7 g5 => some (v7, g5)) else (if v2 = 4 then (bo (f_X7_body 51 h) fun g9 => bd (f_X7_oarHolds x1 (x2 + 1) g9) fun v13 g11 => some (v13, g11)) else (if v2 = 6 then (bo (f_X7_body 70 h) fun g15 => bd (f_X7_pieceHolds x1 x2 g15) fun v19 g17 => bd (f_X7_pieceBends x1 2 g17) fun v22 g20 => some ((v19 + v22), g20)) else ((bd (f_X7_pieceHolds x1 x2 h) fun v25 g23 => some (v25, g23))))))
set_option maxHeartbeats 4000000 in
set_option maxRecDepth 100000 in
theorem A_X7_holdsAct (X : XE) (x1 : Int32) (x2 : Int32) (h : HP) (r : Int32) (h' : HP) (hf : f_X7_holdsAct x1 x2 h = some (r, h')) : CC mX7_holdsAct 6 X [.ref (X.1 96), .int x1, .int x2] h (some (.int r)) h' := by
  refine CC_of rfl (Nat.le_of_ble_eq_true rfl) ?_
  show Run mX7_holdsAct 6 X 0 [(0, .ref (X.1 96)), (1, .int x1), (2, .int x2)] [] h (some (.int r)) h'
  unfold f_X7_holdsAct at hf
  refine r_aload_n 1 rfl 0 rfl rfl (ck DX7_holdsAct_0 0 rfl) ?_
  refine r_getr (q := 97) 4 rfl (lq_7_6) sh_96 kd_7_6 fl_X7_28 (ck DX7_holdsAct_0 1 rfl) ?_
  refine r_iload_n 5 rfl 1 rfl rfl (ck DX7_holdsAct_0 2 rfl) ?_
  obtain ⟨b1, hf⟩ := gd_so hf
  refine r_iald 6 rfl sh_97 (inb_vp b1) (ck DX7_holdsAct_0 3 rfl) ?_
  obtain ⟨v2, e3, hf⟩ := lt_so hf
  refine r_top e3 ?_
  rcases if_so hf with ⟨c4, hf⟩ | ⟨c4, hf⟩
  · refine r_lsw 40 (ck DX7_holdsAct_0 4 rfl) (by decide) (by rw [c4] <;> decide) (by decide) ?_
    refine r_aload_n 41 rfl 0 rfl rfl (ck DX7_holdsAct_0 5 rfl) ?_
    refine r_iload_n 42 rfl 1 rfl rfl (ck DX7_holdsAct_0 6 rfl) ?_
    refine r_iload_n 43 rfl 2 rfl rfl (ck DX7_holdsAct_0 7 rfl) ?_
    obtain ⟨v7, g5, e6, hf⟩ := bd_so hf
    refine r_callVi 46 rfl (A_X7_oarHolds X x1 x2 h v7 g5 e6) (by omega) cw_X7_455 sh_96 cl_7 rfl rfl (Nat.le_of_ble_eq_true rfl) (ck DX7_holdsAct_0 8 rfl) ?_
    obtain ⟨rfl, rfl⟩ := so2 hf
    exact r_iret rfl rfl (ck DX7_holdsAct_0 9 rfl)
  · skip
    rcases if_so hf with ⟨c8, hf⟩ | ⟨c8, hf⟩
    · refine r_lsw 47 (ck DX7_holdsAct_0 4 rfl) (by decide) (by rw [c8] <;> decide) (by decide) ?_
      refine r_aload_n 48 rfl 0 rfl rfl (ck DX7_holdsAct_0 10 rfl) ?_
      refine r_bipush 50 rfl bp_51 (ck DX7_holdsAct_0 11 rfl) ?_
      obtain ⟨g9, e10, hf⟩ := bo_so hf
      refine r_callVv 53 rfl (A_X7_body X 51 h g9 e10) (by omega) cw_X7_443 sh_96 cl_7 rfl rfl (Nat.le_of_ble_eq_true rfl) (ck DX7_holdsAct_0 12 rfl) ?_
      refine r_aload_n 54 rfl 0 rfl rfl (ck DX7_holdsAct_0 13 rfl) ?_
      refine r_iload_n 55 rfl 1 rfl rfl (ck DX7_holdsAct_0 14 rfl) ?_
      refine r_iload_n 56 rfl 2 rfl rfl (ck DX7_holdsAct_0 15 rfl) ?_
      refine r_iconst 57 rfl ic_1 (ck DX7_holdsAct_0 16 rfl) ?_
      refine r_iadd 58 rfl (ck DX7_holdsAct_0 17 rfl) ?_
      obtain ⟨v13, g11, e12, hf⟩ := bd_so hf
      refine r_callVi 61 rfl (A_X7_oarHolds X x1 (x2 + 1) g9 v13 g11 e12) (by omega) cw_X7_455 sh_96 cl_7 rfl rfl (Nat.le_of_ble_eq_true rfl) (ck DX7_holdsAct_0 18 rfl) ?_
      obtain ⟨rfl, rfl⟩ := so2 hf
      exact r_iret rfl rfl (ck DX7_holdsAct_0 19 rfl)
    · skip
      rcases if_so hf with ⟨c14, hf⟩ | ⟨c14, hf⟩
      · refine r_lsw 62 (ck DX7_holdsAct_0 4 rfl) (by decide) (by rw [c14] <;> decide) (by decide) ?_
        refine r_aload_n 63 rfl 0 rfl rfl (ck DX7_holdsAct_0 20 rfl) ?_
        refine r_bipush 65 rfl bp_70 (ck DX7_holdsAct_0 21 rfl) ?_
        obtain ⟨g15, e16, hf⟩ := bo_so hf
        refine r_callVv 68 rfl (A_X7_body X 70 h g15 e16) (by omega) cw_X7_443 sh_96 cl_7 rfl rfl (Nat.le_of_ble_eq_true rfl) (ck DX7_holdsAct_0 22 rfl) ?_
        refine r_aload_n 69 rfl 0 rfl rfl (ck DX7_holdsAct_0 23 rfl) ?_
        refine r_iload_n 70 rfl 1 rfl rfl (ck DX7_holdsAct_0 24 rfl) ?_
        refine r_iload_n 71 rfl 2 rfl rfl (ck DX7_holdsAct_0 25 rfl) ?_
        obtain ⟨v19, g17, e18, hf⟩ := bd_so hf
        refine r_callVi 74 rfl (A_X7_pieceHolds X x1 x2 g15 v19 g17 e18) (by omega) cw_X7_452 sh_96 cl_7 rfl rfl (Nat.le_of_ble_eq_true rfl) (ck DX7_holdsAct_0 26 rfl) ?_
        refine r_istore_n (lv' := [(3, .int v19), (0, .ref (X.1 96)), (1, .int x1), (2, .int x2)]) 75 rfl (ck DX7_holdsAct_0 27 rfl) (by decide) rfl rfl ?_
        refine r_iload_n 76 rfl 0 rfl rfl (ck DX7_holdsAct_0 28 rfl) ?_
        refine r_aload_n 77 rfl 1 rfl rfl (ck DX7_holdsAct_0 29 rfl) ?_
        refine r_iload_n 78 rfl 2 rfl rfl (ck DX7_holdsAct_0 30 rfl) ?_
        refine r_iconst 79 rfl ic_2 (ck DX7_holdsAct_0 31 rfl) ?_
        obtain ⟨v22, g20, e21, hf⟩ := bd_so hf
        refine r_callVi 82 rfl (A_X7_pieceBends X x1 2 g17 v22 g20 e21) (by omega) cw_X7_446 sh_96 cl_7 rfl rfl (Nat.le_of_ble_eq_true rfl) (ck DX7_holdsAct_0 32 rfl) ?_
        refine r_iadd 83 rfl (ck DX7_holdsAct_0 33 rfl) ?_
        obtain ⟨rfl, rfl⟩ := so2 hf
        exact r_iret rfl rfl (ck DX7_holdsAct_0 34 rfl)
      · skip
        refine r_lsw 84 (ck DX7_holdsAct_0 4 rfl) (by decide) (lsw_d (by intro q hq; simp at hq; rcases hq with rfl | rfl | rfl <;> first | exact ne_int c4 | exact ne_int c8 | exact ne_int c14)) (by decide) ?_
        refine r_aload_n 85 rfl 0 rfl rfl (ck DX7_holdsAct_0 35 rfl) ?_
        refine r_iload_n 86 rfl 1 rfl rfl (ck DX7_holdsAct_0 36 rfl) ?_
        refine r_iload_n 87 rfl 2 rfl rfl (ck DX7_holdsAct_0 37 rfl) ?_
        obtain ⟨v25, g23, e24, hf⟩ := bd_so hf
        refine r_callVi 90 rfl (A_X7_pieceHolds X x1 x2 h v25 g23 e24) (by omega) cw_X7_452 sh_96 cl_7 rfl rfl (Nat.le_of_ble_eq_true rfl) (ck DX7_holdsAct_0 38 rfl) ?_
        obtain ⟨rfl, rfl⟩ := so2 hf
        exact r_iret rfl rfl (ck DX7_holdsAct_0 39 rfl)
-- X7_pieceTells
def f_X7_pieceTells (x1 : Int32) (x2 : Int32) (h : HP) : Option (Int32 × HP) := bo (f_X7_body 12 h) fun g1 => bd (f_X7_holdsAct x1 x2 g1) fun v5 g3 => some ((v5 * 2), g3)
set_option maxHeartbeats 4000000 in
set_option maxRecDepth 100000 in
theorem A_X7_pieceTells (X : XE) (x1 : Int32) (x2 : Int32) (h : HP) (r : Int32) (h' : HP) (hf : f_X7_pieceTells x1 x2 h = some (r, h')) : CC mX7_pieceTells 7 X [.ref (X.1 96), .int x1, .int x2] h (some (.int r)) h' := by
  refine CC_of rfl (Nat.le_of_ble_eq_true rfl) ?_
  show Run mX7_pieceTells 7 X 0 [(0, .ref (X.1 96)), (1, .int x1), (2, .int x2)] [] h (some (.int r)) h'
  unfold f_X7_pieceTells at hf
  refine r_aload_n 1 rfl 0 rfl rfl (ck DX7_pieceTells_0 0 rfl) ?_
  refine r_bipush 3 rfl bp_12 (ck DX7_pieceTells_0 1 rfl) ?_
  obtain ⟨g1, e2, hf⟩ := bo_so hf
  refine r_callVv 6 rfl (A_X7_body X 12 h g1 e2) (by omega) cw_X7_443 sh_96 cl_7 rfl rfl (Nat.le_of_ble_eq_true rfl) (ck DX7_pieceTells_0 2 rfl) ?_
  refine r_aload_n 7 rfl 0 rfl rfl (ck DX7_pieceTells_0 3 rfl) ?_
  refine r_iload_n 8 rfl 1 rfl rfl (ck DX7_pieceTells_0 4 rfl) ?_
  refine r_iload_n 9 rfl 2 rfl rfl (ck DX7_pieceTells_0 5 rfl) ?_
  obtain ⟨v5, g3, e4, hf⟩ := bd_so hf
  refine r_callVi 12 rfl (A_X7_holdsAct X x1 x2 g1 v5 g3 e4) (by omega) cw_X7_458 sh_96 cl_7 rfl rfl (Nat.le_of_ble_eq_true rfl) (ck DX7_pieceTells_0 6 rfl) ?_
  refine r_iconst 13 rfl ic_2 (ck DX7_pieceTells_0 7 rfl) ?_
  refine r_imul 14 rfl (ck DX7_pieceTells_0 8 rfl) ?_
  obtain ⟨rfl, rfl⟩ := so2 hf
  exact r_iret rfl rfl (ck DX7_pieceTells_0 9 rfl)
-- X7_tellsAct
def f_X7_tellsAct_J36 (x1 : Int32) (x2 : Int32) (h : HP) : Option (Int32 × HP) := bo (f_X7_body 40 h) fun g5 => bd (f_X7_pieceTells x1 x2 g5) fun v9 g7 => bd (f_X7_holdsAct x1 1 g7) fun v12 g10 => some ((v9 + v12), g10)
set_option maxHeartbeats 4000000 in
set_option maxRecDepth 100000 in
theorem A_X7_tellsAct_J36 (X : XE) (r : Int32) (h' : HP) (x1 : Int32) (x2 : Int32) (h : HP) (hf : f_X7_tellsAct_J36 x1 x2 h = some (r, h')) : Run mX7_tellsAct 8 X 36 [(0, .ref (X.1 96)), (1, .int x1), (2, .int x2)] [] h (some (.int r)) h' := by
  unfold f_X7_tellsAct_J36 at hf
  refine r_aload_n 37 rfl 0 rfl rfl (ck DX7_tellsAct_0 5 rfl) ?_
  refine r_bipush 39 rfl bp_40 (ck DX7_tellsAct_0 6 rfl) ?_
  obtain ⟨g5, e6, hf⟩ := bo_so hf
  refine r_callVv 42 rfl (A_X7_body X 40 h g5 e6) (by omega) cw_X7_443 sh_96 cl_7 rfl rfl (Nat.le_of_ble_eq_true rfl) (ck DX7_tellsAct_0 7 rfl) ?_
  refine r_aload_n 43 rfl 0 rfl rfl (ck DX7_tellsAct_0 8 rfl) ?_
  refine r_iload_n 44 rfl 1 rfl rfl (ck DX7_tellsAct_0 9 rfl) ?_
  refine r_iload_n 45 rfl 2 rfl rfl (ck DX7_tellsAct_0 10 rfl) ?_
  obtain ⟨v9, g7, e8, hf⟩ := bd_so hf
  refine r_callVi 48 rfl (A_X7_pieceTells X x1 x2 g5 v9 g7 e8) (by omega) cw_X7_461 sh_96 cl_7 rfl rfl (Nat.le_of_ble_eq_true rfl) (ck DX7_tellsAct_0 11 rfl) ?_
  refine r_istore_n (lv' := [(3, .int v9), (0, .ref (X.1 96)), (1, .int x1), (2, .int x2)]) 49 rfl (ck DX7_tellsAct_0 12 rfl) (by decide) rfl rfl ?_
  refine r_iload_n 50 rfl 0 rfl rfl (ck DX7_tellsAct_0 13 rfl) ?_
  refine r_aload_n 51 rfl 1 rfl rfl (ck DX7_tellsAct_0 14 rfl) ?_
  refine r_iload_n 52 rfl 2 rfl rfl (ck DX7_tellsAct_0 15 rfl) ?_
  refine r_iconst 53 rfl ic_1 (ck DX7_tellsAct_0 16 rfl) ?_
  obtain ⟨v12, g10, e11, hf⟩ := bd_so hf
  refine r_callVi 56 rfl (A_X7_holdsAct X x1 1 g7 v12 g10 e11) (by omega) cw_X7_458 sh_96 cl_7 rfl rfl (Nat.le_of_ble_eq_true rfl) (ck DX7_tellsAct_0 17 rfl) ?_
  refine r_iadd 57 rfl (ck DX7_tellsAct_0 18 rfl) ?_
  obtain ⟨rfl, rfl⟩ := so2 hf
  exact r_iret rfl rfl (ck DX7_tellsAct_0 19 rfl)
def f_X7_tellsAct (x1 : Int32) (x2 : Int32) (h : HP) : Option (Int32 × HP) := gd (inb x1 6) (lt ((h.1 97 (Int32.toNatClampNeg x1)) : Int32) fun v2 => if v2 = 3 then (f_X7_tellsAct_J36 x1 x2 h) else (if v2 = 4 then (bd (f_X7_pieceTells x1 x2 h) fun v16 g14 => some (v16, g14)) else (if v2 = 5 then (bo (f_X7_body 60 h) fun g18 => bd (f_X7_pieceTells x1 (x2 - x1) g18) fun v22 g20 => some (v22, g20)) else (if v2 = 6 then (f_X7_tellsAct_J36 x1 x2 h) else ((bd (f_X7_pieceTells x1 x2 h) fun v26 g24 => some (v26, g24)))))))
set_option maxHeartbeats 4000000 in
set_option maxRecDepth 100000 in
theorem A_X7_tellsAct (X : XE) (x1 : Int32) (x2 : Int32) (h : HP) (r : Int32) (h' : HP) (hf : f_X7_tellsAct x1 x2 h = some (r, h')) : CC mX7_tellsAct 8 X [.ref (X.1 96), .int x1, .int x2] h (some (.int r)) h' := by
  refine CC_of rfl (Nat.le_of_ble_eq_true rfl) ?_
  show Run mX7_tellsAct 8 X 0 [(0, .ref (X.1 96)), (1, .int x1), (2, .int x2)] [] h (some (.int r)) h'
  unfold f_X7_tellsAct at hf
  refine r_aload_n 1 rfl 0 rfl rfl (ck DX7_tellsAct_0 0 rfl) ?_
  refine r_getr (q := 97) 4 rfl (lq_7_6) sh_96 kd_7_6 fl_X7_28 (ck DX7_tellsAct_0 1 rfl) ?_
  refine r_iload_n 5 rfl 1 rfl rfl (ck DX7_tellsAct_0 2 rfl) ?_
  obtain ⟨b1, hf⟩ := gd_so hf
  refine r_iald 6 rfl sh_97 (inb_vp b1) (ck DX7_tellsAct_0 3 rfl) ?_
  obtain ⟨v2, e3, hf⟩ := lt_so hf
  refine r_top e3 ?_
  rcases if_so hf with ⟨c4, hf⟩ | ⟨c4, hf⟩
  · refine r_tsw_in (v := 3) 36 (ck DX7_tellsAct_0 4 rfl) c4 (by decide) (by decide) rfl (by decide) ?_
    refine r_sub (lv' := [(0, .ref (X.1 96)), (1, .int x1), (2, .int x2)]) [0, 1, 2] rfl ?_
    exact A_X7_tellsAct_J36 X _ _ x1 x2 h hf
  · skip
    rcases if_so hf with ⟨c13, hf⟩ | ⟨c13, hf⟩
    · refine r_tsw_in (v := 4) 73 (ck DX7_tellsAct_0 4 rfl) c13 (by decide) (by decide) rfl (by decide) ?_
      refine r_aload_n 74 rfl 0 rfl rfl (ck DX7_tellsAct_0 30 rfl) ?_
      refine r_iload_n 75 rfl 1 rfl rfl (ck DX7_tellsAct_0 31 rfl) ?_
      refine r_iload_n 76 rfl 2 rfl rfl (ck DX7_tellsAct_0 32 rfl) ?_
      obtain ⟨v16, g14, e15, hf⟩ := bd_so hf
      refine r_callVi 79 rfl (A_X7_pieceTells X x1 x2 h v16 g14 e15) (by omega) cw_X7_461 sh_96 cl_7 rfl rfl (Nat.le_of_ble_eq_true rfl) (ck DX7_tellsAct_0 33 rfl) ?_
      obtain ⟨rfl, rfl⟩ := so2 hf
      exact r_iret rfl rfl (ck DX7_tellsAct_0 34 rfl)
    · skip
      rcases if_so hf with ⟨c17, hf⟩ | ⟨c17, hf⟩
      · refine r_tsw_in (v := 5) 58 (ck DX7_tellsAct_0 4 rfl) c17 (by decide) (by decide) rfl (by decide) ?_
        refine r_aload_n 59 rfl 0 rfl rfl (ck DX7_tellsAct_0 20 rfl) ?_
        refine r_bipush 61 rfl bp_60 (ck DX7_tellsAct_0 21 rfl) ?_
        obtain ⟨g18, e19, hf⟩ := bo_so hf
        refine r_callVv 64 rfl (A_X7_body X 60 h g18 e19) (by omega) cw_X7_443 sh_96 cl_7 rfl rfl (Nat.le_of_ble_eq_true rfl) (ck DX7_tellsAct_0 22 rfl) ?_
        refine r_aload_n 65 rfl 0 rfl rfl (ck DX7_tellsAct_0 23 rfl) ?_
        refine r_iload_n 66 rfl 1 rfl rfl (ck DX7_tellsAct_0 24 rfl) ?_
        refine r_iload_n 67 rfl 2 rfl rfl (ck DX7_tellsAct_0 25 rfl) ?_
        refine r_iload_n 68 rfl 1 rfl rfl (ck DX7_tellsAct_0 26 rfl) ?_
        refine r_isub 69 rfl (ck DX7_tellsAct_0 27 rfl) ?_
        obtain ⟨v22, g20, e21, hf⟩ := bd_so hf
        refine r_callVi 72 rfl (A_X7_pieceTells X x1 (x2 - x1) g18 v22 g20 e21) (by omega) cw_X7_461 sh_96 cl_7 rfl rfl (Nat.le_of_ble_eq_true rfl) (ck DX7_tellsAct_0 28 rfl) ?_
        obtain ⟨rfl, rfl⟩ := so2 hf
        exact r_iret rfl rfl (ck DX7_tellsAct_0 29 rfl)
      · skip
        rcases if_so hf with ⟨c23, hf⟩ | ⟨c23, hf⟩
        · refine r_tsw_in (v := 6) 36 (ck DX7_tellsAct_0 4 rfl) c23 (by decide) (by decide) rfl (by decide) ?_
          refine r_sub (lv' := [(0, .ref (X.1 96)), (1, .int x1), (2, .int x2)]) [0, 1, 2] rfl ?_
          exact A_X7_tellsAct_J36 X _ _ x1 x2 h hf
        · skip
          have hx9 : v2.toInt < 3 ∨ (6 : Int) < v2.toInt := by
            have h8 := tsw_o (x := v2) 3 4 (fun k hk => by
              match k, hk with
              | 0, _ => exact ne_int c4
              | 1, _ => exact ne_int c13
              | 2, _ => exact ne_int c17
              | 3, _ => exact ne_int c23
              | k + 4, hk => exact absurd hk (by omega))
            exact h8
          refine r_tsw_out 73 (ck DX7_tellsAct_0 4 rfl) hx9 (by decide) ?_
          refine r_aload_n 74 rfl 0 rfl rfl (ck DX7_tellsAct_0 30 rfl) ?_
          refine r_iload_n 75 rfl 1 rfl rfl (ck DX7_tellsAct_0 31 rfl) ?_
          refine r_iload_n 76 rfl 2 rfl rfl (ck DX7_tellsAct_0 32 rfl) ?_
          obtain ⟨v26, g24, e25, hf⟩ := bd_so hf
          refine r_callVi 79 rfl (A_X7_pieceTells X x1 x2 h v26 g24 e25) (by omega) cw_X7_461 sh_96 cl_7 rfl rfl (Nat.le_of_ble_eq_true rfl) (ck DX7_tellsAct_0 33 rfl) ?_
          obtain ⟨rfl, rfl⟩ := so2 hf
          exact r_iret rfl rfl (ck DX7_tellsAct_0 34 rfl)
-- X7_act
def f_X7_act (x1 : Int32) (x2 : Int32) (x3 : Int32) (h : HP) : Option (Int32 × HP) := lt (si h 96 81 0) fun g1 => bo (f_X7_isPiece x1 g1) fun v3 => if v3 = 0 then (some (0, g1)) else (bo (f_X7_in x2 0 2) fun v6 => if v6 = 0 then (some (0, g1)) else (if x2 = 0 then (bd (f_X7_bendsAct x1 x3 g1) fun v12 g10 => some (v12, g10)) else (if x2 = 1 then (bd (f_X7_holdsAct x1 x3 g1) fun v16 g14 => some (v16, g14)) else (bd (f_X7_tellsAct x1 x3 g1) fun v19 g17 => some (v19, g17)))))
set_option maxHeartbeats 4000000 in
set_option maxRecDepth 100000 in
theorem A_X7_act (X : XE) (x1 : Int32) (x2 : Int32) (x3 : Int32) (h : HP) (r : Int32) (h' : HP) (hf : f_X7_act x1 x2 x3 h = some (r, h')) : CC mX7_act 9 X [.ref (X.1 96), .int x1, .int x2, .int x3] h (some (.int r)) h' := by
  refine CC_of rfl (Nat.le_of_ble_eq_true rfl) ?_
  show Run mX7_act 9 X 0 [(0, .ref (X.1 96)), (1, .int x1), (2, .int x2), (3, .int x3)] [] h (some (.int r)) h'
  unfold f_X7_act at hf
  refine r_aload_n 1 rfl 0 rfl rfl (ck DX7_act_0 0 rfl) ?_
  refine r_iconst 2 rfl ic_0 (ck DX7_act_0 1 rfl) ?_
  obtain ⟨g1, e2, hf⟩ := lt_so hf
  refine r_puti 5 rfl sh_96 kd_7_81 fw_X7_257 rfl rfl (ck DX7_act_0 2 rfl) ?_
  refine r_heap e2 ?_
  refine r_aload_n 6 rfl 0 rfl rfl (ck DX7_act_0 3 rfl) ?_
  refine r_iload_n 7 rfl 1 rfl rfl (ck DX7_act_0 4 rfl) ?_
  obtain ⟨v3, e4, hf⟩ := bo_so hf
  refine r_callVi 10 rfl (A_X7_isPiece X x1 g1 v3 e4) (by omega) cw_X7_280 sh_96 cl_7 rfl rfl (Nat.le_of_ble_eq_true rfl) (ck DX7_act_0 5 rfl) ?_
  rcases if_so hf with ⟨c5, hf⟩ | ⟨c5, hf⟩
  · refine r_if_eq_t 23 (ck DX7_act_0 6 rfl) (by decide) c5 ?_
    refine r_iconst 24 rfl ic_0 (ck DX7_act_0 13 rfl) ?_
    obtain ⟨rfl, rfl⟩ := so2 hf
    exact r_iret rfl rfl (ck DX7_act_0 14 rfl)
  · refine r_if_eq_f 13 rfl 23 (ck DX7_act_0 6 rfl) (by decide) c5 ?_
    refine r_aload_n 14 rfl 0 rfl rfl (ck DX7_act_0 7 rfl) ?_
    refine r_iload_n 15 rfl 2 rfl rfl (ck DX7_act_0 8 rfl) ?_
    refine r_iconst 16 rfl ic_0 (ck DX7_act_0 9 rfl) ?_
    refine r_iconst 17 rfl ic_2 (ck DX7_act_0 10 rfl) ?_
    obtain ⟨v6, e7, hf⟩ := bo_so hf
    refine r_callVi 20 rfl (A_X7_in X x2 0 2 g1 v6 e7) (by omega) cw_X7_276 sh_96 cl_7 rfl rfl (Nat.le_of_ble_eq_true rfl) (ck DX7_act_0 11 rfl) ?_
    rcases if_so hf with ⟨c8, hf⟩ | ⟨c8, hf⟩
    · refine r_if_ne_t 23 rfl 25 (ck DX7_act_0 12 rfl) (by decide) c8 ?_
      refine r_iconst 24 rfl ic_0 (ck DX7_act_0 13 rfl) ?_
      obtain ⟨rfl, rfl⟩ := so2 hf
      exact r_iret rfl rfl (ck DX7_act_0 14 rfl)
    · refine r_if_ne_f 25 (ck DX7_act_0 12 rfl) (by decide) c8 ?_
      refine r_iload_n 26 rfl 2 rfl rfl (ck DX7_act_0 15 rfl) ?_
      rcases if_so hf with ⟨c9, hf⟩ | ⟨c9, hf⟩
      · refine r_if_ne_t 29 rfl 38 (ck DX7_act_0 16 rfl) (by decide) c9 ?_
        refine r_aload_n 30 rfl 0 rfl rfl (ck DX7_act_0 17 rfl) ?_
        refine r_iload_n 31 rfl 1 rfl rfl (ck DX7_act_0 18 rfl) ?_
        refine r_iload_n 32 rfl 3 rfl rfl (ck DX7_act_0 19 rfl) ?_
        obtain ⟨v12, g10, e11, hf⟩ := bd_so hf
        refine r_callVi 35 rfl (A_X7_bendsAct X x1 x3 g1 v12 g10 e11) (by omega) cw_X7_449 sh_96 cl_7 rfl rfl (Nat.le_of_ble_eq_true rfl) (ck DX7_act_0 20 rfl) ?_
        refine r_goto 58 (ck DX7_act_0 21 rfl) (by decide) ?_
        obtain ⟨rfl, rfl⟩ := so2 hf
        exact r_iret rfl rfl (ck DX7_act_0 34 rfl)
      · refine r_if_ne_f 38 (ck DX7_act_0 16 rfl) (by decide) c9 ?_
        refine r_iload_n 39 rfl 2 rfl rfl (ck DX7_act_0 22 rfl) ?_
        refine r_iconst 40 rfl ic_1 (ck DX7_act_0 23 rfl) ?_
        rcases if_so hf with ⟨c13, hf⟩ | ⟨c13, hf⟩
        · refine r_icmp_ne_t 43 rfl 52 (ck DX7_act_0 24 rfl) (by decide) c13 ?_
          refine r_aload_n 44 rfl 0 rfl rfl (ck DX7_act_0 25 rfl) ?_
          refine r_iload_n 45 rfl 1 rfl rfl (ck DX7_act_0 26 rfl) ?_
          refine r_iload_n 46 rfl 3 rfl rfl (ck DX7_act_0 27 rfl) ?_
          obtain ⟨v16, g14, e15, hf⟩ := bd_so hf
          refine r_callVi 49 rfl (A_X7_holdsAct X x1 x3 g1 v16 g14 e15) (by omega) cw_X7_458 sh_96 cl_7 rfl rfl (Nat.le_of_ble_eq_true rfl) (ck DX7_act_0 28 rfl) ?_
          refine r_goto 58 (ck DX7_act_0 29 rfl) (by decide) ?_
          obtain ⟨rfl, rfl⟩ := so2 hf
          exact r_iret rfl rfl (ck DX7_act_0 34 rfl)
        · refine r_icmp_ne_f 52 (ck DX7_act_0 24 rfl) (by decide) c13 ?_
          refine r_aload_n 53 rfl 0 rfl rfl (ck DX7_act_0 30 rfl) ?_
          refine r_iload_n 54 rfl 1 rfl rfl (ck DX7_act_0 31 rfl) ?_
          refine r_iload_n 55 rfl 3 rfl rfl (ck DX7_act_0 32 rfl) ?_
          obtain ⟨v19, g17, e18, hf⟩ := bd_so hf
          refine r_callVi 58 rfl (A_X7_tellsAct X x1 x3 g1 v19 g17 e18) (by omega) cw_X7_464 sh_96 cl_7 rfl rfl (Nat.le_of_ble_eq_true rfl) (ck DX7_act_0 33 rfl) ?_
          obtain ⟨rfl, rfl⟩ := so2 hf
          exact r_iret rfl rfl (ck DX7_act_0 34 rfl)
-- X7_trace
def f_X7_trace (x1 : Int32) (h : HP) : Option Int32 := bo (f_X7_in x1 0 19) fun v1 => if v1 = 0 then (some (-1)) else (if (h.1 96 81) ≤ x1 then (some (-1)) else (gd (inb x1 20) (some (h.1 140 (Int32.toNatClampNeg x1)))))
set_option maxHeartbeats 4000000 in
set_option maxRecDepth 100000 in
theorem A_X7_trace (X : XE) (x1 : Int32) (h : HP) (r : Int32) (hf : f_X7_trace x1 h = some r) : CC mX7_trace 2 X [.ref (X.1 96), .int x1] h (some (.int r)) h := by
  refine CC_of rfl (Nat.le_of_ble_eq_true rfl) ?_
  show Run mX7_trace 2 X 0 [(0, .ref (X.1 96)), (1, .int x1)] [] h (some (.int r)) h
  unfold f_X7_trace at hf
  refine r_aload_n 1 rfl 0 rfl rfl (ck DX7_trace_0 0 rfl) ?_
  refine r_iload_n 2 rfl 1 rfl rfl (ck DX7_trace_0 1 rfl) ?_
  refine r_iconst 3 rfl ic_0 (ck DX7_trace_0 2 rfl) ?_
  refine r_bipush 5 rfl bp_19 (ck DX7_trace_0 3 rfl) ?_
  obtain ⟨v1, e2, hf⟩ := bo_so hf
  refine r_callVi 8 rfl (A_X7_in X x1 0 19 h v1 e2) (by omega) cw_X7_276 sh_96 cl_7 rfl rfl (Nat.le_of_ble_eq_true rfl) (ck DX7_trace_0 4 rfl) ?_
  rcases if_so hf with ⟨c3, hf⟩ | ⟨c3, hf⟩
  · refine r_if_eq_t 28 (ck DX7_trace_0 5 rfl) (by decide) c3 ?_
    refine r_iconst 29 rfl ic_m1 (ck DX7_trace_0 15 rfl) ?_
    obtain rfl := so1 hf
    exact r_iret rfl rfl (ck DX7_trace_0 16 rfl)
  · refine r_if_eq_f 11 rfl 28 (ck DX7_trace_0 5 rfl) (by decide) c3 ?_
    refine r_iload_n 12 rfl 1 rfl rfl (ck DX7_trace_0 6 rfl) ?_
    refine r_aload_n 13 rfl 0 rfl rfl (ck DX7_trace_0 7 rfl) ?_
    refine r_geti 16 rfl sh_96 kd_7_81 fl_X7_257 (ck DX7_trace_0 8 rfl) ?_
    rcases if_so hf with ⟨c4, hf⟩ | ⟨c4, hf⟩
    · refine r_icmp_ge_t 28 (ck DX7_trace_0 9 rfl) (by decide) c4 ?_
      refine r_iconst 29 rfl ic_m1 (ck DX7_trace_0 15 rfl) ?_
      obtain rfl := so1 hf
      exact r_iret rfl rfl (ck DX7_trace_0 16 rfl)
    · refine r_icmp_ge_f 19 rfl 28 (ck DX7_trace_0 9 rfl) (by decide) c4 ?_
      refine r_aload_n 20 rfl 0 rfl rfl (ck DX7_trace_0 10 rfl) ?_
      refine r_getr (q := 140) 23 rfl (lq_7_82) sh_96 kd_7_82 fl_X7_260 (ck DX7_trace_0 11 rfl) ?_
      refine r_iload_n 24 rfl 1 rfl rfl (ck DX7_trace_0 12 rfl) ?_
      obtain ⟨b5, hf⟩ := gd_so hf
      refine r_iald 25 rfl sh_140 (inb_vp b5) (ck DX7_trace_0 13 rfl) ?_
      refine r_goto 29 (ck DX7_trace_0 14 rfl) (by decide) ?_
      obtain rfl := so1 hf
      exact r_iret rfl rfl (ck DX7_trace_0 16 rfl)
-- X7_taken
def f_X7_taken_J51 (h : HP) (x2 : Int32) (x3 : Int32) : Option Int32 := if x2 = 2 then (if x3 = 5 then (some x3) else (if x2 = 3 then (if x3 = 6 then (some x3) else (some (-12))) else (some (-12)))) else (if x2 = 3 then (if x3 = 6 then (some x3) else (some (-12))) else (some (-12)))
set_option maxHeartbeats 4000000 in
set_option maxRecDepth 100000 in
theorem A_X7_taken_J51 (X : XE) (h : HP) (r : Int32) (x2 : Int32) (x3 : Int32) (hf : f_X7_taken_J51 h x2 x3 = some r) : Run mX7_taken 3 X 51 [(2, .int x2), (3, .int x3)] [] h (some (.int r)) h := by
  unfold f_X7_taken_J51 at hf
  refine r_iload_n 52 rfl 0 rfl rfl (ck DX7_taken_0 30 rfl) ?_
  refine r_iconst 53 rfl ic_2 (ck DX7_taken_0 31 rfl) ?_
  rcases if_so hf with ⟨c14, hf⟩ | ⟨c14, hf⟩
  · refine r_icmp_ne_t 56 rfl 61 (ck DX7_taken_0 32 rfl) (by decide) c14 ?_
    refine r_iload_n 57 rfl 1 rfl rfl (ck DX7_taken_0 33 rfl) ?_
    refine r_iconst 58 rfl ic_5 (ck DX7_taken_0 34 rfl) ?_
    rcases if_so hf with ⟨c15, hf⟩ | ⟨c15, hf⟩
    · refine r_icmp_eq_t 72 (ck DX7_taken_0 35 rfl) (by decide) c15 ?_
      refine r_iload_n 73 rfl 1 rfl rfl (ck DX7_taken_0 42 rfl) ?_
      refine r_goto 78 (ck DX7_taken_0 43 rfl) (by decide) ?_
      obtain rfl := so1 hf
      exact r_iret rfl rfl (ck DX7_taken_0 45 rfl)
    · refine r_icmp_eq_f 61 rfl 72 (ck DX7_taken_0 35 rfl) (by decide) c15 ?_
      refine r_iload_n 62 rfl 0 rfl rfl (ck DX7_taken_0 36 rfl) ?_
      refine r_iconst 63 rfl ic_3 (ck DX7_taken_0 37 rfl) ?_
      rcases if_so hf with ⟨c16, hf⟩ | ⟨c16, hf⟩
      · refine r_icmp_ne_t 66 rfl 76 (ck DX7_taken_0 38 rfl) (by decide) c16 ?_
        refine r_iload_n 67 rfl 1 rfl rfl (ck DX7_taken_0 39 rfl) ?_
        refine r_bipush 69 rfl bp_6 (ck DX7_taken_0 40 rfl) ?_
        rcases if_so hf with ⟨c17, hf⟩ | ⟨c17, hf⟩
        · refine r_icmp_ne_t 72 rfl 76 (ck DX7_taken_0 41 rfl) (by decide) c17 ?_
          refine r_iload_n 73 rfl 1 rfl rfl (ck DX7_taken_0 42 rfl) ?_
          refine r_goto 78 (ck DX7_taken_0 43 rfl) (by decide) ?_
          obtain rfl := so1 hf
          exact r_iret rfl rfl (ck DX7_taken_0 45 rfl)
        · refine r_icmp_ne_f 76 (ck DX7_taken_0 41 rfl) (by decide) c17 ?_
          refine r_bipush 78 rfl bp_m12 (ck DX7_taken_0 44 rfl) ?_
          obtain rfl := so1 hf
          exact r_iret rfl rfl (ck DX7_taken_0 45 rfl)
      · refine r_icmp_ne_f 76 (ck DX7_taken_0 38 rfl) (by decide) c16 ?_
        refine r_bipush 78 rfl bp_m12 (ck DX7_taken_0 44 rfl) ?_
        obtain rfl := so1 hf
        exact r_iret rfl rfl (ck DX7_taken_0 45 rfl)
  · refine r_icmp_ne_f 61 (ck DX7_taken_0 32 rfl) (by decide) c14 ?_
    refine r_iload_n 62 rfl 0 rfl rfl (ck DX7_taken_0 36 rfl) ?_
    refine r_iconst 63 rfl ic_3 (ck DX7_taken_0 37 rfl) ?_
    rcases if_so hf with ⟨c18, hf⟩ | ⟨c18, hf⟩
    · refine r_icmp_ne_t 66 rfl 76 (ck DX7_taken_0 38 rfl) (by decide) c18 ?_
      refine r_iload_n 67 rfl 1 rfl rfl (ck DX7_taken_0 39 rfl) ?_
      refine r_bipush 69 rfl bp_6 (ck DX7_taken_0 40 rfl) ?_
      rcases if_so hf with ⟨c19, hf⟩ | ⟨c19, hf⟩
      · refine r_icmp_ne_t 72 rfl 76 (ck DX7_taken_0 41 rfl) (by decide) c19 ?_
        refine r_iload_n 73 rfl 1 rfl rfl (ck DX7_taken_0 42 rfl) ?_
        refine r_goto 78 (ck DX7_taken_0 43 rfl) (by decide) ?_
        obtain rfl := so1 hf
        exact r_iret rfl rfl (ck DX7_taken_0 45 rfl)
      · refine r_icmp_ne_f 76 (ck DX7_taken_0 41 rfl) (by decide) c19 ?_
        refine r_bipush 78 rfl bp_m12 (ck DX7_taken_0 44 rfl) ?_
        obtain rfl := so1 hf
        exact r_iret rfl rfl (ck DX7_taken_0 45 rfl)
    · refine r_icmp_ne_f 76 (ck DX7_taken_0 38 rfl) (by decide) c18 ?_
      refine r_bipush 78 rfl bp_m12 (ck DX7_taken_0 44 rfl) ?_
      obtain rfl := so1 hf
      exact r_iret rfl rfl (ck DX7_taken_0 45 rfl)
def f_X7_taken (x1 : Int32) (x2 : Int32) (h : HP) : Option Int32 := bo (f_X7_in x2 0 6) fun v1 => if v1 = 0 then (some (-2)) else (bo (f_X7_isPiece x1 h) fun v4 => if v4 = 0 then (some (-11)) else (gd (inb x1 6) (lt ((h.1 97 (Int32.toNatClampNeg x1)) : Int32) fun v8 => if x2 = 0 then (some v8) else (if v8 = x2 then (some v8) else (if x2 = 1 then (if v8 = 4 then (some v8) else (f_X7_taken_J51 h x2 v8)) else (f_X7_taken_J51 h x2 v8))))))
set_option maxHeartbeats 4000000 in
set_option maxRecDepth 100000 in
theorem A_X7_taken (X : XE) (x1 : Int32) (x2 : Int32) (h : HP) (r : Int32) (hf : f_X7_taken x1 x2 h = some r) : CC mX7_taken 3 X [.ref (X.1 96), .int x1, .int x2] h (some (.int r)) h := by
  refine CC_of rfl (Nat.le_of_ble_eq_true rfl) ?_
  show Run mX7_taken 3 X 0 [(0, .ref (X.1 96)), (1, .int x1), (2, .int x2)] [] h (some (.int r)) h
  unfold f_X7_taken at hf
  refine r_aload_n 1 rfl 0 rfl rfl (ck DX7_taken_0 0 rfl) ?_
  refine r_iload_n 2 rfl 2 rfl rfl (ck DX7_taken_0 1 rfl) ?_
  refine r_iconst 3 rfl ic_0 (ck DX7_taken_0 2 rfl) ?_
  refine r_bipush 5 rfl bp_6 (ck DX7_taken_0 3 rfl) ?_
  obtain ⟨v1, e2, hf⟩ := bo_so hf
  refine r_callVi 8 rfl (A_X7_in X x2 0 6 h v1 e2) (by omega) cw_X7_276 sh_96 cl_7 rfl rfl (Nat.le_of_ble_eq_true rfl) (ck DX7_taken_0 4 rfl) ?_
  rcases if_so hf with ⟨c3, hf⟩ | ⟨c3, hf⟩
  · refine r_if_ne_t 11 rfl 14 (ck DX7_taken_0 5 rfl) (by decide) c3 ?_
    refine r_bipush 13 rfl bp_m2 (ck DX7_taken_0 6 rfl) ?_
    obtain rfl := so1 hf
    exact r_iret rfl rfl (ck DX7_taken_0 7 rfl)
  · refine r_if_ne_f 14 (ck DX7_taken_0 5 rfl) (by decide) c3 ?_
    refine r_aload_n 15 rfl 0 rfl rfl (ck DX7_taken_0 8 rfl) ?_
    refine r_iload_n 16 rfl 1 rfl rfl (ck DX7_taken_0 9 rfl) ?_
    obtain ⟨v4, e5, hf⟩ := bo_so hf
    refine r_callVi 19 rfl (A_X7_isPiece X x1 h v4 e5) (by omega) cw_X7_280 sh_96 cl_7 rfl rfl (Nat.le_of_ble_eq_true rfl) (ck DX7_taken_0 10 rfl) ?_
    rcases if_so hf with ⟨c6, hf⟩ | ⟨c6, hf⟩
    · refine r_if_ne_t 22 rfl 25 (ck DX7_taken_0 11 rfl) (by decide) c6 ?_
      refine r_bipush 24 rfl bp_m11 (ck DX7_taken_0 12 rfl) ?_
      obtain rfl := so1 hf
      exact r_iret rfl rfl (ck DX7_taken_0 13 rfl)
    · refine r_if_ne_f 25 (ck DX7_taken_0 11 rfl) (by decide) c6 ?_
      refine r_aload_n 26 rfl 0 rfl rfl (ck DX7_taken_0 14 rfl) ?_
      refine r_getr (q := 97) 29 rfl (lq_7_6) sh_96 kd_7_6 fl_X7_28 (ck DX7_taken_0 15 rfl) ?_
      refine r_iload_n 30 rfl 1 rfl rfl (ck DX7_taken_0 16 rfl) ?_
      obtain ⟨b7, hf⟩ := gd_so hf
      refine r_iald 31 rfl sh_97 (inb_vp b7) (ck DX7_taken_0 17 rfl) ?_
      obtain ⟨v8, e9, hf⟩ := lt_so hf
      refine r_top e9 ?_
      refine r_istore_n (lv' := [(3, .int v8), (0, .ref (X.1 96)), (1, .int x1), (2, .int x2)]) 32 rfl (ck DX7_taken_0 18 rfl) (by decide) rfl rfl ?_
      refine r_iload_n 33 rfl 3 rfl rfl (ck DX7_taken_0 19 rfl) ?_
      rcases if_so hf with ⟨c10, hf⟩ | ⟨c10, hf⟩
      · refine r_if_eq_t 72 (ck DX7_taken_0 20 rfl) (by decide) c10 ?_
        refine r_iload_n 73 rfl 0 rfl rfl (ck DX7_taken_0 42 rfl) ?_
        refine r_goto 78 (ck DX7_taken_0 43 rfl) (by decide) ?_
        obtain rfl := so1 hf
        exact r_iret rfl rfl (ck DX7_taken_0 45 rfl)
      · refine r_if_eq_f 36 rfl 72 (ck DX7_taken_0 20 rfl) (by decide) c10 ?_
        refine r_iload_n 37 rfl 0 rfl rfl (ck DX7_taken_0 21 rfl) ?_
        refine r_iload_n 38 rfl 3 rfl rfl (ck DX7_taken_0 22 rfl) ?_
        rcases if_so hf with ⟨c11, hf⟩ | ⟨c11, hf⟩
        · refine r_icmp_eq_t 72 (ck DX7_taken_0 23 rfl) (by decide) c11 ?_
          refine r_iload_n 73 rfl 0 rfl rfl (ck DX7_taken_0 42 rfl) ?_
          refine r_goto 78 (ck DX7_taken_0 43 rfl) (by decide) ?_
          obtain rfl := so1 hf
          exact r_iret rfl rfl (ck DX7_taken_0 45 rfl)
        · refine r_icmp_eq_f 41 rfl 72 (ck DX7_taken_0 23 rfl) (by decide) c11 ?_
          refine r_iload_n 42 rfl 3 rfl rfl (ck DX7_taken_0 24 rfl) ?_
          refine r_iconst 43 rfl ic_1 (ck DX7_taken_0 25 rfl) ?_
          rcases if_so hf with ⟨c12, hf⟩ | ⟨c12, hf⟩
          · refine r_icmp_ne_t 46 rfl 51 (ck DX7_taken_0 26 rfl) (by decide) c12 ?_
            refine r_iload_n 47 rfl 0 rfl rfl (ck DX7_taken_0 27 rfl) ?_
            refine r_iconst 48 rfl ic_4 (ck DX7_taken_0 28 rfl) ?_
            rcases if_so hf with ⟨c13, hf⟩ | ⟨c13, hf⟩
            · refine r_icmp_eq_t 72 (ck DX7_taken_0 29 rfl) (by decide) c13 ?_
              refine r_iload_n 73 rfl 0 rfl rfl (ck DX7_taken_0 42 rfl) ?_
              refine r_goto 78 (ck DX7_taken_0 43 rfl) (by decide) ?_
              obtain rfl := so1 hf
              exact r_iret rfl rfl (ck DX7_taken_0 45 rfl)
            · refine r_icmp_eq_f 51 rfl 72 (ck DX7_taken_0 29 rfl) (by decide) c13 ?_
              refine r_sub (lv' := [(2, .int x2), (3, .int v8)]) [3, 0] rfl ?_
              exact A_X7_taken_J51 X h _ x2 v8 hf
          · refine r_icmp_ne_f 51 (ck DX7_taken_0 26 rfl) (by decide) c12 ?_
            refine r_sub (lv' := [(2, .int x2), (3, .int v8)]) [3, 0] rfl ?_
            exact A_X7_taken_J51 X h _ x2 v8 hf
-- X7_count
def f_X7_count (x1 : Int32) (h : HP) : Option Int32 := if x1 = 0 then (some (h.1 96 0)) else (if x1 = 1 then (some (h.1 96 13)) else (if x1 = 2 then (some (h.1 96 1)) else (if x1 = 3 then (some (h.1 96 48)) else (if x1 = 4 then (some (h.1 96 51)) else (if x1 = 5 then (some (h.1 96 52)) else (if x1 = 6 then (some (h.1 96 15)) else (if x1 = 7 then (some (h.1 96 81)) else ((some (-2))))))))))
set_option maxHeartbeats 4000000 in
set_option maxRecDepth 100000 in
theorem A_X7_count (X : XE) (x1 : Int32) (h : HP) (r : Int32) (hf : f_X7_count x1 h = some r) : CC mX7_count 1 X [.ref (X.1 96), .int x1] h (some (.int r)) h := by
  refine CC_of rfl (Nat.le_of_ble_eq_true rfl) ?_
  show Run mX7_count 1 X 0 [(0, .ref (X.1 96)), (1, .int x1)] [] h (some (.int r)) h
  unfold f_X7_count at hf
  refine r_iload_n 1 rfl 1 rfl rfl (ck DX7_count_0 0 rfl) ?_
  rcases if_so hf with ⟨c1, hf⟩ | ⟨c1, hf⟩
  · refine r_tsw_in (v := 0) 48 (ck DX7_count_0 1 rfl) c1 (by decide) (by decide) rfl (by decide) ?_
    refine r_aload_n 49 rfl 0 rfl rfl (ck DX7_count_0 2 rfl) ?_
    refine r_geti 52 rfl sh_96 kd_7_0 fl_X7_7 (ck DX7_count_0 3 rfl) ?_
    obtain rfl := so1 hf
    exact r_iret rfl rfl (ck DX7_count_0 4 rfl)
  · skip
    rcases if_so hf with ⟨c2, hf⟩ | ⟨c2, hf⟩
    · refine r_tsw_in (v := 1) 53 (ck DX7_count_0 1 rfl) c2 (by decide) (by decide) rfl (by decide) ?_
      refine r_aload_n 54 rfl 0 rfl rfl (ck DX7_count_0 5 rfl) ?_
      refine r_geti 57 rfl sh_96 kd_7_13 fl_X7_50 (ck DX7_count_0 6 rfl) ?_
      obtain rfl := so1 hf
      exact r_iret rfl rfl (ck DX7_count_0 7 rfl)
    · skip
      rcases if_so hf with ⟨c3, hf⟩ | ⟨c3, hf⟩
      · refine r_tsw_in (v := 2) 58 (ck DX7_count_0 1 rfl) c3 (by decide) (by decide) rfl (by decide) ?_
        refine r_aload_n 59 rfl 0 rfl rfl (ck DX7_count_0 8 rfl) ?_
        refine r_geti 62 rfl sh_96 kd_7_1 fl_X7_13 (ck DX7_count_0 9 rfl) ?_
        obtain rfl := so1 hf
        exact r_iret rfl rfl (ck DX7_count_0 10 rfl)
      · skip
        rcases if_so hf with ⟨c4, hf⟩ | ⟨c4, hf⟩
        · refine r_tsw_in (v := 3) 63 (ck DX7_count_0 1 rfl) c4 (by decide) (by decide) rfl (by decide) ?_
          refine r_aload_n 64 rfl 0 rfl rfl (ck DX7_count_0 11 rfl) ?_
          refine r_geti 67 rfl sh_96 kd_7_48 fl_X7_157 (ck DX7_count_0 12 rfl) ?_
          obtain rfl := so1 hf
          exact r_iret rfl rfl (ck DX7_count_0 13 rfl)
        · skip
          rcases if_so hf with ⟨c5, hf⟩ | ⟨c5, hf⟩
          · refine r_tsw_in (v := 4) 68 (ck DX7_count_0 1 rfl) c5 (by decide) (by decide) rfl (by decide) ?_
            refine r_aload_n 69 rfl 0 rfl rfl (ck DX7_count_0 14 rfl) ?_
            refine r_geti 72 rfl sh_96 kd_7_51 fl_X7_166 (ck DX7_count_0 15 rfl) ?_
            obtain rfl := so1 hf
            exact r_iret rfl rfl (ck DX7_count_0 16 rfl)
          · skip
            rcases if_so hf with ⟨c6, hf⟩ | ⟨c6, hf⟩
            · refine r_tsw_in (v := 5) 73 (ck DX7_count_0 1 rfl) c6 (by decide) (by decide) rfl (by decide) ?_
              refine r_aload_n 74 rfl 0 rfl rfl (ck DX7_count_0 17 rfl) ?_
              refine r_geti 77 rfl sh_96 kd_7_52 fl_X7_169 (ck DX7_count_0 18 rfl) ?_
              obtain rfl := so1 hf
              exact r_iret rfl rfl (ck DX7_count_0 19 rfl)
            · skip
              rcases if_so hf with ⟨c7, hf⟩ | ⟨c7, hf⟩
              · refine r_tsw_in (v := 6) 78 (ck DX7_count_0 1 rfl) c7 (by decide) (by decide) rfl (by decide) ?_
                refine r_aload_n 79 rfl 0 rfl rfl (ck DX7_count_0 20 rfl) ?_
                refine r_geti 82 rfl sh_96 kd_7_15 fl_X7_56 (ck DX7_count_0 21 rfl) ?_
                obtain rfl := so1 hf
                exact r_iret rfl rfl (ck DX7_count_0 22 rfl)
              · skip
                rcases if_so hf with ⟨c8, hf⟩ | ⟨c8, hf⟩
                · refine r_tsw_in (v := 7) 83 (ck DX7_count_0 1 rfl) c8 (by decide) (by decide) rfl (by decide) ?_
                  refine r_aload_n 84 rfl 0 rfl rfl (ck DX7_count_0 23 rfl) ?_
                  refine r_geti 87 rfl sh_96 kd_7_81 fl_X7_257 (ck DX7_count_0 24 rfl) ?_
                  obtain rfl := so1 hf
                  exact r_iret rfl rfl (ck DX7_count_0 25 rfl)
                · skip
                  have hx9 : x1.toInt < 0 ∨ (7 : Int) < x1.toInt := by
                    have h8 := tsw_o (x := x1) 0 8 (fun k hk => by
                      match k, hk with
                      | 0, _ => exact ne_int c1
                      | 1, _ => exact ne_int c2
                      | 2, _ => exact ne_int c3
                      | 3, _ => exact ne_int c4
                      | 4, _ => exact ne_int c5
                      | 5, _ => exact ne_int c6
                      | 6, _ => exact ne_int c7
                      | 7, _ => exact ne_int c8
                      | k + 8, hk => exact absurd hk (by omega))
                    exact h8
                  refine r_tsw_out 88 (ck DX7_count_0 1 rfl) hx9 (by decide) ?_
                  refine r_bipush 90 rfl bp_m2 (ck DX7_count_0 26 rfl) ?_
                  obtain rfl := so1 hf
                  exact r_iret rfl rfl (ck DX7_count_0 27 rfl)
-- X7_tape
def f_X7_tape_L69 : Nat → Int32 → Int32 → HP → Option (Int32 × HP)
  | 0, _, _, _ => none
  | n + 1, x1, x4, h => if (60 : Int32) ≤ x4 then (some (1, h)) else (gd (inb ((60 * x1) + x4) 360) (lt (sl h 143 (Int32.toNatClampNeg ((60 * x1) + x4)) 0) fun g18 => lt (x4 + 1 : Int32) fun v20 => f_X7_tape_L69 n x1 v20 g18))
set_option maxHeartbeats 4000000 in
set_option maxRecDepth 100000 in
theorem A_X7_tape_L69 (X : XE) (r : Int32) (h' : HP) : ∀ (n : Nat) (x1 : Int32) (x4 : Int32) (h : HP), f_X7_tape_L69 n x1 x4 h = some (r, h') → Run mX7_tape 3 X 69 [(0, .ref (X.1 96)), (1, .int x1), (4, .int x4)] [] h (some (.int r)) h' := by
  intro n
  induction n with
  | zero => intro x1 x4 h hf; cases hf
  | succ n ih =>
    intro x1 x4 h hf
    rw [f_X7_tape_L69] at hf
    refine r_iload 71 rfl 2 rfl (ck DX7_tape_0 41 rfl) ?_
    refine r_bipush 73 rfl bp_60 (ck DX7_tape_0 42 rfl) ?_
    rcases if_so hf with ⟨c16, hf⟩ | ⟨c16, hf⟩
    · refine r_icmp_ge_t 95 (ck DX7_tape_0 43 rfl) (by decide) c16 ?_
      refine r_iconst 96 rfl ic_1 (ck DX7_tape_1 5 rfl) ?_
      obtain ⟨rfl, rfl⟩ := so2 hf
      exact r_iret rfl rfl (ck DX7_tape_1 6 rfl)
    · refine r_icmp_ge_f 76 rfl 95 (ck DX7_tape_0 43 rfl) (by decide) c16 ?_
      refine r_aload_n 77 rfl 0 rfl rfl (ck DX7_tape_0 44 rfl) ?_
      refine r_getr (q := 143) 80 rfl (lq_7_85) sh_96 kd_7_85 fl_X7_269 (ck DX7_tape_0 45 rfl) ?_
      refine r_bipush 82 rfl bp_60 (ck DX7_tape_0 46 rfl) ?_
      refine r_iload_n 83 rfl 1 rfl rfl (ck DX7_tape_0 47 rfl) ?_
      refine r_imul 84 rfl (ck DX7_tape_0 48 rfl) ?_
      refine r_iload 86 rfl 2 rfl (ck DX7_tape_0 49 rfl) ?_
      refine r_iadd 87 rfl (ck DX7_tape_1 0 rfl) ?_
      refine r_lconst (v := 0) 88 rfl rfl (ck DX7_tape_1 1 rfl) ?_
      obtain ⟨b17, hf⟩ := gd_so hf
      obtain ⟨g18, e19, hf⟩ := lt_so hf
      refine r_last 89 rfl sh_143 (inb_vp b17) (ck DX7_tape_1 2 rfl) ?_
      refine r_heap e19 ?_
      obtain ⟨v20, e21, hf⟩ := lt_so hf
      refine r_iinc (lv' := [(4, .int v20), (0, .ref (X.1 96)), (1, .int x1)]) 92 rfl 2 (ck DX7_tape_1 3 rfl) rfl (by rw [e21, ic_1]) (by decide) rfl ?_
      refine r_goto 69 (ck DX7_tape_1 4 rfl) (by decide) ?_
      refine r_sub (lv' := [(0, .ref (X.1 96)), (1, .int x1), (4, .int v20)]) [1, 2, 0] rfl ?_
      exact ih x1 v20 g18 hf
def f_X7_tape_J44 (x1 : Int32) (x2 : Int32) (x3 : Int32) (h : HP) : Option (Int32 × HP) := gd (inb x1 6) (lt (si h 141 (Int32.toNatClampNeg x1) x2) fun g10 => if (0 : Int32) ≤ x2 then (gd (inb x1 6) (lt (si g10 142 (Int32.toNatClampNeg x1) x3) fun g14 => f_X7_tape_L69 FZ x1 0 g14)) else (gd (inb x1 6) (lt (si g10 142 (Int32.toNatClampNeg x1) 0) fun g23 => f_X7_tape_L69 FZ x1 0 g23)))
set_option maxHeartbeats 4000000 in
set_option maxRecDepth 100000 in
theorem A_X7_tape_J44 (X : XE) (r : Int32) (h' : HP) (x1 : Int32) (x2 : Int32) (x3 : Int32) (h : HP) (hf : f_X7_tape_J44 x1 x2 x3 h = some (r, h')) : Run mX7_tape 3 X 44 [(0, .ref (X.1 96)), (1, .int x1), (2, .int x2), (3, .int x3)] [] h (some (.int r)) h' := by
  unfold f_X7_tape_J44 at hf
  refine r_aload_n 45 rfl 0 rfl rfl (ck DX7_tape_0 25 rfl) ?_
  refine r_getr (q := 141) 48 rfl (lq_7_83) sh_96 kd_7_83 fl_X7_263 (ck DX7_tape_0 26 rfl) ?_
  refine r_iload_n 49 rfl 1 rfl rfl (ck DX7_tape_0 27 rfl) ?_
  refine r_iload_n 50 rfl 2 rfl rfl (ck DX7_tape_0 28 rfl) ?_
  obtain ⟨b9, hf⟩ := gd_so hf
  obtain ⟨g10, e11, hf⟩ := lt_so hf
  refine r_iast 51 rfl sh_141 (inb_vp b9) (ck DX7_tape_0 29 rfl) ?_
  refine r_heap e11 ?_
  refine r_aload_n 52 rfl 0 rfl rfl (ck DX7_tape_0 30 rfl) ?_
  refine r_getr (q := 142) 55 rfl (lq_7_84) sh_96 kd_7_84 fl_X7_266 (ck DX7_tape_0 31 rfl) ?_
  refine r_iload_n 56 rfl 1 rfl rfl (ck DX7_tape_0 32 rfl) ?_
  refine r_iload_n 57 rfl 2 rfl rfl (ck DX7_tape_0 33 rfl) ?_
  rcases if_so hf with ⟨c12, hf⟩ | ⟨c12, hf⟩
  · refine r_if_ge_t 64 (ck DX7_tape_0 34 rfl) (by decide) c12 ?_
    refine r_iload_n 65 rfl 3 rfl rfl (ck DX7_tape_0 37 rfl) ?_
    obtain ⟨b13, hf⟩ := gd_so hf
    obtain ⟨g14, e15, hf⟩ := lt_so hf
    refine r_iast 66 rfl sh_142 (inb_vp b13) (ck DX7_tape_0 38 rfl) ?_
    refine r_heap e15 ?_
    refine r_iconst 67 rfl ic_0 (ck DX7_tape_0 39 rfl) ?_
    refine r_istore (lv' := [(4, .int 0), (0, .ref (X.1 96)), (1, .int x1), (2, .int x2), (3, .int x3)]) 69 rfl (ck DX7_tape_0 40 rfl) (by decide) rfl ?_
    refine r_sub (lv' := [(0, .ref (X.1 96)), (1, .int x1), (4, .int 0)]) [1, 2, 0] rfl ?_
    exact A_X7_tape_L69 X _ _ FZ x1 0 g14 hf
  · refine r_if_ge_f 60 rfl 64 (ck DX7_tape_0 34 rfl) (by decide) c12 ?_
    refine r_iconst 61 rfl ic_0 (ck DX7_tape_0 35 rfl) ?_
    refine r_goto 65 (ck DX7_tape_0 36 rfl) (by decide) ?_
    obtain ⟨b22, hf⟩ := gd_so hf
    obtain ⟨g23, e24, hf⟩ := lt_so hf
    refine r_iast 66 rfl sh_142 (inb_vp b22) (ck DX7_tape_0 38 rfl) ?_
    refine r_heap e24 ?_
    refine r_iconst 67 rfl ic_0 (ck DX7_tape_0 39 rfl) ?_
    refine r_istore (lv' := [(4, .int 0), (0, .ref (X.1 96)), (1, .int x1), (2, .int x2), (3, .int x3)]) 69 rfl (ck DX7_tape_0 40 rfl) (by decide) rfl ?_
    refine r_sub (lv' := [(0, .ref (X.1 96)), (1, .int x1), (4, .int 0)]) [1, 2, 0] rfl ?_
    exact A_X7_tape_L69 X _ _ FZ x1 0 g23 hf
def f_X7_tape (x1 : Int32) (x2 : Int32) (x3 : Int32) (h : HP) : Option (Int32 × HP) := bo (f_X7_isTape x1) fun v1 => if v1 = 0 then (some ((-1), h)) else (bo (f_X7_in x2 (-1) 4) fun v4 => if v4 = 0 then (some ((-2), h)) else (if x2 < 0 then (if x2 < 0 then (f_X7_tape_J44 x1 x2 x3 h) else (if (0 : Int32) ≤ x3 then (f_X7_tape_J44 x1 x2 x3 h) else (some ((-14), h)))) else (if x3 ≤ 60 then (if x2 < 0 then (f_X7_tape_J44 x1 x2 x3 h) else (if (0 : Int32) ≤ x3 then (f_X7_tape_J44 x1 x2 x3 h) else (some ((-14), h)))) else (some ((-2), h)))))
set_option maxHeartbeats 4000000 in
set_option maxRecDepth 100000 in
theorem A_X7_tape (X : XE) (x1 : Int32) (x2 : Int32) (x3 : Int32) (h : HP) (r : Int32) (h' : HP) (hf : f_X7_tape x1 x2 x3 h = some (r, h')) : CC mX7_tape 3 X [.ref (X.1 96), .int x1, .int x2, .int x3] h (some (.int r)) h' := by
  refine CC_of rfl (Nat.le_of_ble_eq_true rfl) ?_
  show Run mX7_tape 3 X 0 [(0, .ref (X.1 96)), (1, .int x1), (2, .int x2), (3, .int x3)] [] h (some (.int r)) h'
  unfold f_X7_tape at hf
  refine r_aload_n 1 rfl 0 rfl rfl (ck DX7_tape_0 0 rfl) ?_
  refine r_iload_n 2 rfl 1 rfl rfl (ck DX7_tape_0 1 rfl) ?_
  obtain ⟨v1, e2, hf⟩ := bo_so hf
  refine r_callVi 5 rfl (A_X7_isTape X x1 h v1 e2) (by omega) cw_X7_440 sh_96 cl_7 rfl rfl (Nat.le_of_ble_eq_true rfl) (ck DX7_tape_0 2 rfl) ?_
  rcases if_so hf with ⟨c3, hf⟩ | ⟨c3, hf⟩
  · refine r_if_ne_t 8 rfl 10 (ck DX7_tape_0 3 rfl) (by decide) c3 ?_
    refine r_iconst 9 rfl ic_m1 (ck DX7_tape_0 4 rfl) ?_
    obtain ⟨rfl, rfl⟩ := so2 hf
    exact r_iret rfl rfl (ck DX7_tape_0 5 rfl)
  · refine r_if_ne_f 10 (ck DX7_tape_0 3 rfl) (by decide) c3 ?_
    refine r_aload_n 11 rfl 0 rfl rfl (ck DX7_tape_0 6 rfl) ?_
    refine r_iload_n 12 rfl 2 rfl rfl (ck DX7_tape_0 7 rfl) ?_
    refine r_iconst 13 rfl ic_m1 (ck DX7_tape_0 8 rfl) ?_
    refine r_iconst 14 rfl ic_4 (ck DX7_tape_0 9 rfl) ?_
    obtain ⟨v4, e5, hf⟩ := bo_so hf
    refine r_callVi 17 rfl (A_X7_in X x2 (-1) 4 h v4 e5) (by omega) cw_X7_276 sh_96 cl_7 rfl rfl (Nat.le_of_ble_eq_true rfl) (ck DX7_tape_0 10 rfl) ?_
    rcases if_so hf with ⟨c6, hf⟩ | ⟨c6, hf⟩
    · refine r_if_eq_t 30 (ck DX7_tape_0 11 rfl) (by decide) c6 ?_
      refine r_bipush 32 rfl bp_m2 (ck DX7_tape_0 17 rfl) ?_
      obtain ⟨rfl, rfl⟩ := so2 hf
      exact r_iret rfl rfl (ck DX7_tape_0 18 rfl)
    · refine r_if_eq_f 20 rfl 30 (ck DX7_tape_0 11 rfl) (by decide) c6 ?_
      refine r_iload_n 21 rfl 2 rfl rfl (ck DX7_tape_0 12 rfl) ?_
      rcases if_so hf with ⟨c7, hf⟩ | ⟨c7, hf⟩
      · refine r_if_lt_t 33 (ck DX7_tape_0 13 rfl) (by decide) c7 ?_
        refine r_iload_n 34 rfl 2 rfl rfl (ck DX7_tape_0 19 rfl) ?_
        rcases if_so hf with ⟨c8, hf⟩ | ⟨c8, hf⟩
        · refine r_if_lt_t 44 (ck DX7_tape_0 20 rfl) (by decide) c8 ?_
          refine r_sub (lv' := [(0, .ref (X.1 96)), (1, .int x1), (2, .int x2), (3, .int x3)]) [0, 1, 2, 3] rfl ?_
          exact A_X7_tape_J44 X _ _ x1 x2 x3 h hf
        · refine r_if_lt_f 37 rfl 44 (ck DX7_tape_0 20 rfl) (by decide) c8 ?_
          refine r_iload_n 38 rfl 3 rfl rfl (ck DX7_tape_0 21 rfl) ?_
          rcases if_so hf with ⟨c25, hf⟩ | ⟨c25, hf⟩
          · refine r_if_ge_t 44 (ck DX7_tape_0 22 rfl) (by decide) c25 ?_
            refine r_sub (lv' := [(0, .ref (X.1 96)), (1, .int x1), (2, .int x2), (3, .int x3)]) [0, 1, 2, 3] rfl ?_
            exact A_X7_tape_J44 X _ _ x1 x2 x3 h hf
          · refine r_if_ge_f 41 rfl 44 (ck DX7_tape_0 22 rfl) (by decide) c25 ?_
            refine r_bipush 43 rfl bp_m14 (ck DX7_tape_0 23 rfl) ?_
            obtain ⟨rfl, rfl⟩ := so2 hf
            exact r_iret rfl rfl (ck DX7_tape_0 24 rfl)
      · refine r_if_lt_f 24 rfl 33 (ck DX7_tape_0 13 rfl) (by decide) c7 ?_
        refine r_iload_n 25 rfl 3 rfl rfl (ck DX7_tape_0 14 rfl) ?_
        refine r_bipush 27 rfl bp_60 (ck DX7_tape_0 15 rfl) ?_
        rcases if_so hf with ⟨c26, hf⟩ | ⟨c26, hf⟩
        · refine r_icmp_le_t 33 (ck DX7_tape_0 16 rfl) (by decide) c26 ?_
          refine r_iload_n 34 rfl 2 rfl rfl (ck DX7_tape_0 19 rfl) ?_
          rcases if_so hf with ⟨c27, hf⟩ | ⟨c27, hf⟩
          · refine r_if_lt_t 44 (ck DX7_tape_0 20 rfl) (by decide) c27 ?_
            refine r_sub (lv' := [(0, .ref (X.1 96)), (1, .int x1), (2, .int x2), (3, .int x3)]) [0, 1, 2, 3] rfl ?_
            exact A_X7_tape_J44 X _ _ x1 x2 x3 h hf
          · refine r_if_lt_f 37 rfl 44 (ck DX7_tape_0 20 rfl) (by decide) c27 ?_
            refine r_iload_n 38 rfl 3 rfl rfl (ck DX7_tape_0 21 rfl) ?_
            rcases if_so hf with ⟨c28, hf⟩ | ⟨c28, hf⟩
            · refine r_if_ge_t 44 (ck DX7_tape_0 22 rfl) (by decide) c28 ?_
              refine r_sub (lv' := [(0, .ref (X.1 96)), (1, .int x1), (2, .int x2), (3, .int x3)]) [0, 1, 2, 3] rfl ?_
              exact A_X7_tape_J44 X _ _ x1 x2 x3 h hf
            · refine r_if_ge_f 41 rfl 44 (ck DX7_tape_0 22 rfl) (by decide) c28 ?_
              refine r_bipush 43 rfl bp_m14 (ck DX7_tape_0 23 rfl) ?_
              obtain ⟨rfl, rfl⟩ := so2 hf
              exact r_iret rfl rfl (ck DX7_tape_0 24 rfl)
        · refine r_icmp_le_f 30 rfl 33 (ck DX7_tape_0 16 rfl) (by decide) c26 ?_
          refine r_bipush 32 rfl bp_m2 (ck DX7_tape_0 17 rfl) ?_
          obtain ⟨rfl, rfl⟩ := so2 hf
          exact r_iret rfl rfl (ck DX7_tape_0 18 rfl)
-- X7_narrow
def f_X7_narrow (x1 : Int32) (y2 : Int64) : Option Int64 := if x1 = 0 then (some (Int32.toInt64 (Int8.toInt32 (Int32.toInt8 (Int64.toInt32 y2))))) else (if x1 = 1 then (some (Int32.toInt64 (Int16.toInt32 (Int32.toInt16 (Int64.toInt32 y2))))) else (if x1 = 2 then (some (Int32.toInt64 (Int64.toInt32 y2))) else (if x1 = 4 then (if (lg_cmp y2 0) = 0 then (some 0) else (some 1)) else (some y2))))
set_option maxHeartbeats 4000000 in
set_option maxRecDepth 100000 in
theorem A_X7_narrow (X : XE) (x1 : Int32) (y2 : Int64) (h : HP) (r : Int64) (hf : f_X7_narrow x1 y2 = some r) : CC mX7_narrow 1 X [.ref (X.1 96), .int x1, .long y2] h (some (.long r)) h := by
  refine CC_of rfl (Nat.le_of_ble_eq_true rfl) ?_
  show Run mX7_narrow 1 X 0 [(0, .ref (X.1 96)), (1, .int x1), (2, .long y2)] [] h (some (.long r)) h
  unfold f_X7_narrow at hf
  refine r_iload_n 1 rfl 1 rfl rfl (ck DX7_narrow_0 0 rfl) ?_
  rcases if_so hf with ⟨c1, hf⟩ | ⟨c1, hf⟩
  · refine r_if_ne_t 4 rfl 11 (ck DX7_narrow_0 1 rfl) (by decide) c1 ?_
    refine r_lload_n 5 rfl 2 rfl rfl (ck DX7_narrow_0 2 rfl) ?_
    refine r_l2i 6 rfl (ck DX7_narrow_0 3 rfl) ?_
    refine r_i2b 7 rfl (ck DX7_narrow_0 4 rfl) ?_
    refine r_i2l 8 rfl (ck DX7_narrow_0 5 rfl) ?_
    refine r_goto 54 (ck DX7_narrow_0 6 rfl) (by decide) ?_
    obtain rfl := so1 hf
    exact r_lret rfl (ck DX7_narrow_0 34 rfl)
  · refine r_if_ne_f 11 (ck DX7_narrow_0 1 rfl) (by decide) c1 ?_
    refine r_iload_n 12 rfl 1 rfl rfl (ck DX7_narrow_0 7 rfl) ?_
    refine r_iconst 13 rfl ic_1 (ck DX7_narrow_0 8 rfl) ?_
    rcases if_so hf with ⟨c2, hf⟩ | ⟨c2, hf⟩
    · refine r_icmp_ne_t 16 rfl 23 (ck DX7_narrow_0 9 rfl) (by decide) c2 ?_
      refine r_lload_n 17 rfl 2 rfl rfl (ck DX7_narrow_0 10 rfl) ?_
      refine r_l2i 18 rfl (ck DX7_narrow_0 11 rfl) ?_
      refine r_i2s 19 rfl (ck DX7_narrow_0 12 rfl) ?_
      refine r_i2l 20 rfl (ck DX7_narrow_0 13 rfl) ?_
      refine r_goto 54 (ck DX7_narrow_0 14 rfl) (by decide) ?_
      obtain rfl := so1 hf
      exact r_lret rfl (ck DX7_narrow_0 34 rfl)
    · refine r_icmp_ne_f 23 (ck DX7_narrow_0 9 rfl) (by decide) c2 ?_
      refine r_iload_n 24 rfl 1 rfl rfl (ck DX7_narrow_0 15 rfl) ?_
      refine r_iconst 25 rfl ic_2 (ck DX7_narrow_0 16 rfl) ?_
      rcases if_so hf with ⟨c3, hf⟩ | ⟨c3, hf⟩
      · refine r_icmp_ne_t 28 rfl 34 (ck DX7_narrow_0 17 rfl) (by decide) c3 ?_
        refine r_lload_n 29 rfl 2 rfl rfl (ck DX7_narrow_0 18 rfl) ?_
        refine r_l2i 30 rfl (ck DX7_narrow_0 19 rfl) ?_
        refine r_i2l 31 rfl (ck DX7_narrow_0 20 rfl) ?_
        refine r_goto 54 (ck DX7_narrow_0 21 rfl) (by decide) ?_
        obtain rfl := so1 hf
        exact r_lret rfl (ck DX7_narrow_0 34 rfl)
      · refine r_icmp_ne_f 34 (ck DX7_narrow_0 17 rfl) (by decide) c3 ?_
        refine r_iload_n 35 rfl 1 rfl rfl (ck DX7_narrow_0 22 rfl) ?_
        refine r_iconst 36 rfl ic_4 (ck DX7_narrow_0 23 rfl) ?_
        rcases if_so hf with ⟨c4, hf⟩ | ⟨c4, hf⟩
        · refine r_icmp_ne_t 39 rfl 53 (ck DX7_narrow_0 24 rfl) (by decide) c4 ?_
          refine r_lload_n 40 rfl 2 rfl rfl (ck DX7_narrow_0 25 rfl) ?_
          refine r_lconst (v := 0) 41 rfl rfl (ck DX7_narrow_0 26 rfl) ?_
          refine r_lcmp 42 rfl (ck DX7_narrow_0 27 rfl) ?_
          rcases if_so hf with ⟨c5, hf⟩ | ⟨c5, hf⟩
          · refine r_if_eq_t 49 (ck DX7_narrow_0 28 rfl) (by decide) c5 ?_
            refine r_lconst (v := 0) 50 rfl rfl (ck DX7_narrow_0 31 rfl) ?_
            refine r_goto 54 (ck DX7_narrow_0 32 rfl) (by decide) ?_
            obtain rfl := so1 hf
            exact r_lret rfl (ck DX7_narrow_0 34 rfl)
          · refine r_if_eq_f 45 rfl 49 (ck DX7_narrow_0 28 rfl) (by decide) c5 ?_
            refine r_lconst (v := 1) 46 rfl rfl (ck DX7_narrow_0 29 rfl) ?_
            refine r_goto 54 (ck DX7_narrow_0 30 rfl) (by decide) ?_
            obtain rfl := so1 hf
            exact r_lret rfl (ck DX7_narrow_0 34 rfl)
        · refine r_icmp_ne_f 53 (ck DX7_narrow_0 24 rfl) (by decide) c4 ?_
          refine r_lload_n 54 rfl 2 rfl rfl (ck DX7_narrow_0 33 rfl) ?_
          obtain rfl := so1 hf
          exact r_lret rfl (ck DX7_narrow_0 34 rfl)
-- X7_item
def f_X7_item (x1 : Int32) (x2 : Int32) (y3 : Int64) (h : HP) : Option (Int32 × HP) := bo (f_X7_isTape x1) fun v1 => if v1 = 0 then (some ((-1), h)) else (gd (inb x1 6) (if (0 : Int32) ≤ (h.1 141 (Int32.toNatClampNeg x1)) then (gd (inb x1 6) (bo (f_X7_in x2 0 ((h.1 142 (Int32.toNatClampNeg x1)) - 1)) fun v7 => if v7 = 0 then (some ((-13), h)) else (gd (inb x1 6) (bo (f_X7_narrow (h.1 141 (Int32.toNatClampNeg x1)) y3) fun v11 => gd (inb ((60 * x1) + x2) 360) (lt (sl h 143 (Int32.toNatClampNeg ((60 * x1) + x2)) v11) fun g14 => some (1, g14)))))) else (some ((-11), h))))
set_option maxHeartbeats 4000000 in
set_option maxRecDepth 100000 in
theorem A_X7_item (X : XE) (x1 : Int32) (x2 : Int32) (y3 : Int64) (h : HP) (r : Int32) (h' : HP) (hf : f_X7_item x1 x2 y3 h = some (r, h')) : CC mX7_item 3 X [.ref (X.1 96), .int x1, .int x2, .long y3] h (some (.int r)) h' := by
  refine CC_of rfl (Nat.le_of_ble_eq_true rfl) ?_
  show Run mX7_item 3 X 0 [(0, .ref (X.1 96)), (1, .int x1), (2, .int x2), (3, .long y3)] [] h (some (.int r)) h'
  unfold f_X7_item at hf
  refine r_aload_n 1 rfl 0 rfl rfl (ck DX7_item_0 0 rfl) ?_
  refine r_iload_n 2 rfl 1 rfl rfl (ck DX7_item_0 1 rfl) ?_
  obtain ⟨v1, e2, hf⟩ := bo_so hf
  refine r_callVi 5 rfl (A_X7_isTape X x1 h v1 e2) (by omega) cw_X7_440 sh_96 cl_7 rfl rfl (Nat.le_of_ble_eq_true rfl) (ck DX7_item_0 2 rfl) ?_
  rcases if_so hf with ⟨c3, hf⟩ | ⟨c3, hf⟩
  · refine r_if_ne_t 8 rfl 10 (ck DX7_item_0 3 rfl) (by decide) c3 ?_
    refine r_iconst 9 rfl ic_m1 (ck DX7_item_0 4 rfl) ?_
    obtain ⟨rfl, rfl⟩ := so2 hf
    exact r_iret rfl rfl (ck DX7_item_0 5 rfl)
  · refine r_if_ne_f 10 (ck DX7_item_0 3 rfl) (by decide) c3 ?_
    refine r_aload_n 11 rfl 0 rfl rfl (ck DX7_item_0 6 rfl) ?_
    refine r_getr (q := 141) 14 rfl (lq_7_83) sh_96 kd_7_83 fl_X7_263 (ck DX7_item_0 7 rfl) ?_
    refine r_iload_n 15 rfl 1 rfl rfl (ck DX7_item_0 8 rfl) ?_
    obtain ⟨b4, hf⟩ := gd_so hf
    refine r_iald 16 rfl sh_141 (inb_vp b4) (ck DX7_item_0 9 rfl) ?_
    rcases if_so hf with ⟨c5, hf⟩ | ⟨c5, hf⟩
    · refine r_if_ge_t 22 (ck DX7_item_0 10 rfl) (by decide) c5 ?_
      refine r_aload_n 23 rfl 0 rfl rfl (ck DX7_item_0 13 rfl) ?_
      refine r_iload_n 24 rfl 2 rfl rfl (ck DX7_item_0 14 rfl) ?_
      refine r_iconst 25 rfl ic_0 (ck DX7_item_0 15 rfl) ?_
      refine r_aload_n 26 rfl 0 rfl rfl (ck DX7_item_0 16 rfl) ?_
      refine r_getr (q := 142) 29 rfl (lq_7_84) sh_96 kd_7_84 fl_X7_266 (ck DX7_item_0 17 rfl) ?_
      refine r_iload_n 30 rfl 1 rfl rfl (ck DX7_item_0 18 rfl) ?_
      obtain ⟨b6, hf⟩ := gd_so hf
      refine r_iald 31 rfl sh_142 (inb_vp b6) (ck DX7_item_0 19 rfl) ?_
      refine r_iconst 32 rfl ic_1 (ck DX7_item_0 20 rfl) ?_
      refine r_isub 33 rfl (ck DX7_item_0 21 rfl) ?_
      obtain ⟨v7, e8, hf⟩ := bo_so hf
      refine r_callVi 36 rfl (A_X7_in X x2 0 ((h.1 142 (Int32.toNatClampNeg x1)) - 1) h v7 e8) (by omega) cw_X7_276 sh_96 cl_7 rfl rfl (Nat.le_of_ble_eq_true rfl) (ck DX7_item_0 22 rfl) ?_
      rcases if_so hf with ⟨c9, hf⟩ | ⟨c9, hf⟩
      · refine r_if_ne_t 39 rfl 42 (ck DX7_item_0 23 rfl) (by decide) c9 ?_
        refine r_bipush 41 rfl bp_m13 (ck DX7_item_0 24 rfl) ?_
        obtain ⟨rfl, rfl⟩ := so2 hf
        exact r_iret rfl rfl (ck DX7_item_0 25 rfl)
      · refine r_if_ne_f 42 (ck DX7_item_0 23 rfl) (by decide) c9 ?_
        refine r_aload_n 43 rfl 0 rfl rfl (ck DX7_item_0 26 rfl) ?_
        refine r_getr (q := 143) 46 rfl (lq_7_85) sh_96 kd_7_85 fl_X7_269 (ck DX7_item_0 27 rfl) ?_
        refine r_bipush 48 rfl bp_60 (ck DX7_item_0 28 rfl) ?_
        refine r_iload_n 49 rfl 1 rfl rfl (ck DX7_item_0 29 rfl) ?_
        refine r_imul 50 rfl (ck DX7_item_0 30 rfl) ?_
        refine r_iload_n 51 rfl 2 rfl rfl (ck DX7_item_0 31 rfl) ?_
        refine r_iadd 52 rfl (ck DX7_item_0 32 rfl) ?_
        refine r_aload_n 53 rfl 0 rfl rfl (ck DX7_item_0 33 rfl) ?_
        refine r_aload_n 54 rfl 0 rfl rfl (ck DX7_item_0 34 rfl) ?_
        refine r_getr (q := 141) 57 rfl (lq_7_83) sh_96 kd_7_83 fl_X7_263 (ck DX7_item_0 35 rfl) ?_
        refine r_iload_n 58 rfl 1 rfl rfl (ck DX7_item_0 36 rfl) ?_
        obtain ⟨b10, hf⟩ := gd_so hf
        refine r_iald 59 rfl sh_141 (inb_vp b10) (ck DX7_item_0 37 rfl) ?_
        refine r_lload_n 60 rfl 3 rfl rfl (ck DX7_item_0 38 rfl) ?_
        obtain ⟨v11, e12, hf⟩ := bo_so hf
        refine r_callVl 63 rfl (A_X7_narrow X (h.1 141 (Int32.toNatClampNeg x1)) y3 h v11 e12) (by omega) cw_X7_467 sh_96 cl_7 rfl rfl (Nat.le_of_ble_eq_true rfl) (ck DX7_item_0 39 rfl) ?_
        obtain ⟨b13, hf⟩ := gd_so hf
        obtain ⟨g14, e15, hf⟩ := lt_so hf
        refine r_last 64 rfl sh_143 (inb_vp b13) (ck DX7_item_0 40 rfl) ?_
        refine r_heap e15 ?_
        refine r_iconst 65 rfl ic_1 (ck DX7_item_0 41 rfl) ?_
        obtain ⟨rfl, rfl⟩ := so2 hf
        exact r_iret rfl rfl (ck DX7_item_0 42 rfl)
    · refine r_if_ge_f 19 rfl 22 (ck DX7_item_0 10 rfl) (by decide) c5 ?_
      refine r_bipush 21 rfl bp_m11 (ck DX7_item_0 11 rfl) ?_
      obtain ⟨rfl, rfl⟩ := so2 hf
      exact r_iret rfl rfl (ck DX7_item_0 12 rfl)
-- X7_read
def f_X7_read (x1 : Int32) (x2 : Int32) (h : HP) : Option Int64 := bo (f_X7_isTape x1) fun v1 => if v1 = 0 then (some (-9223372036854775808)) else (gd (inb x1 6) (if (h.1 141 (Int32.toNatClampNeg x1)) < 0 then (some (-9223372036854775808)) else (gd (inb x1 6) (bo (f_X7_in x2 0 ((h.1 142 (Int32.toNatClampNeg x1)) - 1)) fun v7 => if v7 = 0 then (some (-9223372036854775808)) else (gd (inb ((60 * x1) + x2) 360) (some (h.2.1 143 (Int32.toNatClampNeg ((60 * x1) + x2)))))))))
set_option maxHeartbeats 4000000 in
set_option maxRecDepth 100000 in
theorem A_X7_read (X : XE) (x1 : Int32) (x2 : Int32) (h : HP) (r : Int64) (hf : f_X7_read x1 x2 h = some r) : CC mX7_read 3 X [.ref (X.1 96), .int x1, .int x2] h (some (.long r)) h := by
  refine CC_of rfl (Nat.le_of_ble_eq_true rfl) ?_
  show Run mX7_read 3 X 0 [(0, .ref (X.1 96)), (1, .int x1), (2, .int x2)] [] h (some (.long r)) h
  unfold f_X7_read at hf
  refine r_aload_n 1 rfl 0 rfl rfl (ck DX7_read_0 0 rfl) ?_
  refine r_iload_n 2 rfl 1 rfl rfl (ck DX7_read_0 1 rfl) ?_
  obtain ⟨v1, e2, hf⟩ := bo_so hf
  refine r_callVi 5 rfl (A_X7_isTape X x1 h v1 e2) (by omega) cw_X7_440 sh_96 cl_7 rfl rfl (Nat.le_of_ble_eq_true rfl) (ck DX7_read_0 2 rfl) ?_
  rcases if_so hf with ⟨c3, hf⟩ | ⟨c3, hf⟩
  · refine r_if_eq_t 34 (ck DX7_read_0 3 rfl) (by decide) c3 ?_
    refine r_ldc2 37 rfl cn_X7_430 (ck DX7_read_0 20 rfl) ?_
    refine r_goto 51 (ck DX7_read_0 21 rfl) (by decide) ?_
    obtain rfl := so1 hf
    exact r_lret rfl (ck DX7_read_0 30 rfl)
  · refine r_if_eq_f 8 rfl 34 (ck DX7_read_0 3 rfl) (by decide) c3 ?_
    refine r_aload_n 9 rfl 0 rfl rfl (ck DX7_read_0 4 rfl) ?_
    refine r_getr (q := 141) 12 rfl (lq_7_83) sh_96 kd_7_83 fl_X7_263 (ck DX7_read_0 5 rfl) ?_
    refine r_iload_n 13 rfl 1 rfl rfl (ck DX7_read_0 6 rfl) ?_
    obtain ⟨b4, hf⟩ := gd_so hf
    refine r_iald 14 rfl sh_141 (inb_vp b4) (ck DX7_read_0 7 rfl) ?_
    rcases if_so hf with ⟨c5, hf⟩ | ⟨c5, hf⟩
    · refine r_if_lt_t 34 (ck DX7_read_0 8 rfl) (by decide) c5 ?_
      refine r_ldc2 37 rfl cn_X7_430 (ck DX7_read_0 20 rfl) ?_
      refine r_goto 51 (ck DX7_read_0 21 rfl) (by decide) ?_
      obtain rfl := so1 hf
      exact r_lret rfl (ck DX7_read_0 30 rfl)
    · refine r_if_lt_f 17 rfl 34 (ck DX7_read_0 8 rfl) (by decide) c5 ?_
      refine r_aload_n 18 rfl 0 rfl rfl (ck DX7_read_0 9 rfl) ?_
      refine r_iload_n 19 rfl 2 rfl rfl (ck DX7_read_0 10 rfl) ?_
      refine r_iconst 20 rfl ic_0 (ck DX7_read_0 11 rfl) ?_
      refine r_aload_n 21 rfl 0 rfl rfl (ck DX7_read_0 12 rfl) ?_
      refine r_getr (q := 142) 24 rfl (lq_7_84) sh_96 kd_7_84 fl_X7_266 (ck DX7_read_0 13 rfl) ?_
      refine r_iload_n 25 rfl 1 rfl rfl (ck DX7_read_0 14 rfl) ?_
      obtain ⟨b6, hf⟩ := gd_so hf
      refine r_iald 26 rfl sh_142 (inb_vp b6) (ck DX7_read_0 15 rfl) ?_
      refine r_iconst 27 rfl ic_1 (ck DX7_read_0 16 rfl) ?_
      refine r_isub 28 rfl (ck DX7_read_0 17 rfl) ?_
      obtain ⟨v7, e8, hf⟩ := bo_so hf
      refine r_callVi 31 rfl (A_X7_in X x2 0 ((h.1 142 (Int32.toNatClampNeg x1)) - 1) h v7 e8) (by omega) cw_X7_276 sh_96 cl_7 rfl rfl (Nat.le_of_ble_eq_true rfl) (ck DX7_read_0 18 rfl) ?_
      rcases if_so hf with ⟨c9, hf⟩ | ⟨c9, hf⟩
      · refine r_if_ne_t 34 rfl 40 (ck DX7_read_0 19 rfl) (by decide) c9 ?_
        refine r_ldc2 37 rfl cn_X7_430 (ck DX7_read_0 20 rfl) ?_
        refine r_goto 51 (ck DX7_read_0 21 rfl) (by decide) ?_
        obtain rfl := so1 hf
        exact r_lret rfl (ck DX7_read_0 30 rfl)
      · refine r_if_ne_f 40 (ck DX7_read_0 19 rfl) (by decide) c9 ?_
        refine r_aload_n 41 rfl 0 rfl rfl (ck DX7_read_0 22 rfl) ?_
        refine r_getr (q := 143) 44 rfl (lq_7_85) sh_96 kd_7_85 fl_X7_269 (ck DX7_read_0 23 rfl) ?_
        refine r_bipush 46 rfl bp_60 (ck DX7_read_0 24 rfl) ?_
        refine r_iload_n 47 rfl 1 rfl rfl (ck DX7_read_0 25 rfl) ?_
        refine r_imul 48 rfl (ck DX7_read_0 26 rfl) ?_
        refine r_iload_n 49 rfl 2 rfl rfl (ck DX7_read_0 27 rfl) ?_
        refine r_iadd 50 rfl (ck DX7_read_0 28 rfl) ?_
        obtain ⟨b10, hf⟩ := gd_so hf
        refine r_lald 51 rfl sh_143 (inb_vp b10) (ck DX7_read_0 29 rfl) ?_
        obtain rfl := so1 hf
        exact r_lret rfl (ck DX7_read_0 30 rfl)
-- X7_shift
def f_X7_shift_L141 : Nat → Int32 → Int32 → Int32 → Int32 → HP → Option (Int32 × HP)
  | 0, _, _, _, _, _ => none
  | n + 1, x3, x4, x5, x6, h => if x5 ≤ x6 then (some (x5, h)) else (gd (inb x6 60) (gd (inb (((60 * x3) + x4) + x6) 360) (lt (sl h 143 (Int32.toNatClampNeg (((60 * x3) + x4) + x6)) (h.2.1 144 (Int32.toNatClampNeg x6))) fun g25 => lt (x6 + 1 : Int32) fun v27 => f_X7_shift_L141 n x3 x4 x5 v27 g25)))
set_option maxHeartbeats 4000000 in
set_option maxRecDepth 100000 in
theorem A_X7_shift_L141 (X : XE) (r : Int32) (h' : HP) : ∀ (n : Nat) (x3 : Int32) (x4 : Int32) (x5 : Int32) (x6 : Int32) (h : HP), f_X7_shift_L141 n x3 x4 x5 x6 h = some (r, h') → Run mX7_shift 3 X 141 [(0, .ref (X.1 96)), (3, .int x3), (4, .int x4), (5, .int x5), (6, .int x6)] [] h (some (.int r)) h' := by
  intro n
  induction n with
  | zero => intro x3 x4 x5 x6 h hf; cases hf
  | succ n ih =>
    intro x3 x4 x5 x6 h hf
    rw [f_X7_shift_L141] at hf
    refine r_iload 143 rfl 4 rfl (ck DX7_shift_1 30 rfl) ?_
    refine r_iload 145 rfl 3 rfl (ck DX7_shift_1 31 rfl) ?_
    rcases if_so hf with ⟨c22, hf⟩ | ⟨c22, hf⟩
    · refine r_icmp_ge_t 176 (ck DX7_shift_1 32 rfl) (by decide) c22 ?_
      refine r_iload 178 rfl 3 rfl (ck DX7_shift_1 49 rfl) ?_
      obtain ⟨rfl, rfl⟩ := so2 hf
      exact r_iret rfl rfl (ck DX7_shift_2 0 rfl)
    · refine r_icmp_ge_f 148 rfl 176 (ck DX7_shift_1 32 rfl) (by decide) c22 ?_
      refine r_aload_n 149 rfl 0 rfl rfl (ck DX7_shift_1 33 rfl) ?_
      refine r_getr (q := 143) 152 rfl (lq_7_85) sh_96 kd_7_85 fl_X7_269 (ck DX7_shift_1 34 rfl) ?_
      refine r_bipush 154 rfl bp_60 (ck DX7_shift_1 35 rfl) ?_
      refine r_iload_n 155 rfl 1 rfl rfl (ck DX7_shift_1 36 rfl) ?_
      refine r_imul 156 rfl (ck DX7_shift_1 37 rfl) ?_
      refine r_iload 158 rfl 2 rfl (ck DX7_shift_1 38 rfl) ?_
      refine r_iadd 159 rfl (ck DX7_shift_1 39 rfl) ?_
      refine r_iload 161 rfl 4 rfl (ck DX7_shift_1 40 rfl) ?_
      refine r_iadd 162 rfl (ck DX7_shift_1 41 rfl) ?_
      refine r_aload_n 163 rfl 0 rfl rfl (ck DX7_shift_1 42 rfl) ?_
      refine r_getr (q := 144) 166 rfl (lq_7_86) sh_96 kd_7_86 fl_X7_273 (ck DX7_shift_1 43 rfl) ?_
      refine r_iload 168 rfl 4 rfl (ck DX7_shift_1 44 rfl) ?_
      obtain ⟨b23, hf⟩ := gd_so hf
      refine r_lald 169 rfl sh_144 (inb_vp b23) (ck DX7_shift_1 45 rfl) ?_
      obtain ⟨b24, hf⟩ := gd_so hf
      obtain ⟨g25, e26, hf⟩ := lt_so hf
      refine r_last 170 rfl sh_143 (inb_vp b24) (ck DX7_shift_1 46 rfl) ?_
      refine r_heap e26 ?_
      obtain ⟨v27, e28, hf⟩ := lt_so hf
      refine r_iinc (lv' := [(6, .int v27), (0, .ref (X.1 96)), (3, .int x3), (4, .int x4), (5, .int x5)]) 173 rfl 4 (ck DX7_shift_1 47 rfl) rfl (by rw [e28, ic_1]) (by decide) rfl ?_
      refine r_goto 141 (ck DX7_shift_1 48 rfl) (by decide) ?_
      refine r_sub (lv' := [(0, .ref (X.1 96)), (3, .int x3), (4, .int x4), (5, .int x5), (6, .int v27)]) [1, 2, 3, 4, 0] rfl ?_
      exact ih x3 x4 x5 v27 g25 hf
def f_X7_shift_L104 : Nat → Int32 → Int32 → Int32 → Int32 → Int32 → Int32 → HP → Option (Int32 × HP)
  | 0, _, _, _, _, _, _, _ => none
  | n + 1, x1, x2, x3, x4, x5, x6, h => if x5 ≤ x6 then (f_X7_shift_L141 FZ x3 x4 x5 0 h) else (gd (inb (((60 * x1) + x2) + x6) 360) (gd (inb x6 60) (lt (sl h 144 (Int32.toNatClampNeg x6) (h.2.1 143 (Int32.toNatClampNeg (((60 * x1) + x2) + x6)))) fun g31 => lt (x6 + 1 : Int32) fun v33 => f_X7_shift_L104 n x1 x2 x3 x4 x5 v33 g31)))
set_option maxHeartbeats 4000000 in
set_option maxRecDepth 100000 in
theorem A_X7_shift_L104 (X : XE) (r : Int32) (h' : HP) : ∀ (n : Nat) (x1 : Int32) (x2 : Int32) (x3 : Int32) (x4 : Int32) (x5 : Int32) (x6 : Int32) (h : HP), f_X7_shift_L104 n x1 x2 x3 x4 x5 x6 h = some (r, h') → Run mX7_shift 3 X 104 [(0, .ref (X.1 96)), (1, .int x1), (2, .int x2), (3, .int x3), (4, .int x4), (5, .int x5), (6, .int x6)] [] h (some (.int r)) h' := by
  intro n
  induction n with
  | zero => intro x1 x2 x3 x4 x5 x6 h hf; cases hf
  | succ n ih =>
    intro x1 x2 x3 x4 x5 x6 h hf
    rw [f_X7_shift_L104] at hf
    refine r_iload 106 rfl 6 rfl (ck DX7_shift_1 9 rfl) ?_
    refine r_iload 108 rfl 5 rfl (ck DX7_shift_1 10 rfl) ?_
    rcases if_so hf with ⟨c21, hf⟩ | ⟨c21, hf⟩
    · refine r_icmp_ge_t 138 (ck DX7_shift_1 11 rfl) (by decide) c21 ?_
      refine r_iconst 139 rfl ic_0 (ck DX7_shift_1 28 rfl) ?_
      refine r_istore (lv' := [(6, .int 0), (0, .ref (X.1 96)), (1, .int x1), (2, .int x2), (3, .int x3), (4, .int x4), (5, .int x5)]) 141 rfl (ck DX7_shift_1 29 rfl) (by decide) rfl ?_
      refine r_sub (lv' := [(0, .ref (X.1 96)), (3, .int x3), (4, .int x4), (5, .int x5), (6, .int 0)]) [1, 4, 5, 6, 0] rfl ?_
      exact A_X7_shift_L141 X _ _ FZ x3 x4 x5 0 h hf
    · refine r_icmp_ge_f 111 rfl 138 (ck DX7_shift_1 11 rfl) (by decide) c21 ?_
      refine r_aload_n 112 rfl 0 rfl rfl (ck DX7_shift_1 12 rfl) ?_
      refine r_getr (q := 144) 115 rfl (lq_7_86) sh_96 kd_7_86 fl_X7_273 (ck DX7_shift_1 13 rfl) ?_
      refine r_iload 117 rfl 6 rfl (ck DX7_shift_1 14 rfl) ?_
      refine r_aload_n 118 rfl 0 rfl rfl (ck DX7_shift_1 15 rfl) ?_
      refine r_getr (q := 143) 121 rfl (lq_7_85) sh_96 kd_7_85 fl_X7_269 (ck DX7_shift_1 16 rfl) ?_
      refine r_bipush 123 rfl bp_60 (ck DX7_shift_1 17 rfl) ?_
      refine r_iload_n 124 rfl 1 rfl rfl (ck DX7_shift_1 18 rfl) ?_
      refine r_imul 125 rfl (ck DX7_shift_1 19 rfl) ?_
      refine r_iload_n 126 rfl 2 rfl rfl (ck DX7_shift_1 20 rfl) ?_
      refine r_iadd 127 rfl (ck DX7_shift_1 21 rfl) ?_
      refine r_iload 129 rfl 6 rfl (ck DX7_shift_1 22 rfl) ?_
      refine r_iadd 130 rfl (ck DX7_shift_1 23 rfl) ?_
      obtain ⟨b29, hf⟩ := gd_so hf
      refine r_lald 131 rfl sh_143 (inb_vp b29) (ck DX7_shift_1 24 rfl) ?_
      obtain ⟨b30, hf⟩ := gd_so hf
      obtain ⟨g31, e32, hf⟩ := lt_so hf
      refine r_last 132 rfl sh_144 (inb_vp b30) (ck DX7_shift_1 25 rfl) ?_
      refine r_heap e32 ?_
      obtain ⟨v33, e34, hf⟩ := lt_so hf
      refine r_iinc (lv' := [(6, .int v33), (0, .ref (X.1 96)), (1, .int x1), (2, .int x2), (3, .int x3), (4, .int x4), (5, .int x5)]) 135 rfl 6 (ck DX7_shift_1 26 rfl) rfl (by rw [e34, ic_1]) (by decide) rfl ?_
      refine r_goto 104 (ck DX7_shift_1 27 rfl) (by decide) ?_
      refine r_sub (lv' := [(0, .ref (X.1 96)), (1, .int x1), (2, .int x2), (3, .int x3), (4, .int x4), (5, .int x5), (6, .int v33)]) [1, 2, 3, 4, 5, 6, 0] rfl ?_
      exact ih x1 x2 x3 x4 x5 v33 g31 hf
def f_X7_shift (x1 : Int32) (x2 : Int32) (x3 : Int32) (x4 : Int32) (x5 : Int32) (h : HP) : Option (Int32 × HP) := bo (f_X7_isTape x1) fun v1 => if v1 = 0 then (some ((-1), h)) else (bo (f_X7_isTape x3) fun v4 => if v4 = 0 then (some ((-1), h)) else (gd (inb x1 6) (if (h.1 141 (Int32.toNatClampNeg x1)) < 0 then (some ((-11), h)) else (gd (inb x3 6) (if (0 : Int32) ≤ (h.1 141 (Int32.toNatClampNeg x3)) then (gd (inb x1 6) (gd (inb x3 6) (if (h.1 141 (Int32.toNatClampNeg x1)) = (h.1 141 (Int32.toNatClampNeg x3)) then (if x5 < 0 then (some ((-13), h)) else (if x2 < 0 then (some ((-13), h)) else (if x4 < 0 then (some ((-13), h)) else (gd (inb x1 6) (if ((h.1 142 (Int32.toNatClampNeg x1)) - x5) < x2 then (some ((-13), h)) else (gd (inb x3 6) (if x4 ≤ ((h.1 142 (Int32.toNatClampNeg x3)) - x5) then (f_X7_shift_L104 FZ x1 x2 x3 x4 x5 0 h) else (some ((-13), h))))))))) else (some ((-12), h))))) else (some ((-11), h)))))))
set_option maxHeartbeats 4000000 in
set_option maxRecDepth 100000 in
theorem A_X7_shift (X : XE) (x1 : Int32) (x2 : Int32) (x3 : Int32) (x4 : Int32) (x5 : Int32) (h : HP) (r : Int32) (h' : HP) (hf : f_X7_shift x1 x2 x3 x4 x5 h = some (r, h')) : CC mX7_shift 3 X [.ref (X.1 96), .int x1, .int x2, .int x3, .int x4, .int x5] h (some (.int r)) h' := by
  refine CC_of rfl (Nat.le_of_ble_eq_true rfl) ?_
  show Run mX7_shift 3 X 0 [(0, .ref (X.1 96)), (1, .int x1), (2, .int x2), (3, .int x3), (4, .int x4), (5, .int x5)] [] h (some (.int r)) h'
  unfold f_X7_shift at hf
  refine r_aload_n 1 rfl 0 rfl rfl (ck DX7_shift_0 0 rfl) ?_
  refine r_iload_n 2 rfl 1 rfl rfl (ck DX7_shift_0 1 rfl) ?_
  obtain ⟨v1, e2, hf⟩ := bo_so hf
  refine r_callVi 5 rfl (A_X7_isTape X x1 h v1 e2) (by omega) cw_X7_440 sh_96 cl_7 rfl rfl (Nat.le_of_ble_eq_true rfl) (ck DX7_shift_0 2 rfl) ?_
  rcases if_so hf with ⟨c3, hf⟩ | ⟨c3, hf⟩
  · refine r_if_eq_t 16 (ck DX7_shift_0 3 rfl) (by decide) c3 ?_
    refine r_iconst 17 rfl ic_m1 (ck DX7_shift_0 8 rfl) ?_
    obtain ⟨rfl, rfl⟩ := so2 hf
    exact r_iret rfl rfl (ck DX7_shift_0 9 rfl)
  · refine r_if_eq_f 8 rfl 16 (ck DX7_shift_0 3 rfl) (by decide) c3 ?_
    refine r_aload_n 9 rfl 0 rfl rfl (ck DX7_shift_0 4 rfl) ?_
    refine r_iload_n 10 rfl 3 rfl rfl (ck DX7_shift_0 5 rfl) ?_
    obtain ⟨v4, e5, hf⟩ := bo_so hf
    refine r_callVi 13 rfl (A_X7_isTape X x3 h v4 e5) (by omega) cw_X7_440 sh_96 cl_7 rfl rfl (Nat.le_of_ble_eq_true rfl) (ck DX7_shift_0 6 rfl) ?_
    rcases if_so hf with ⟨c6, hf⟩ | ⟨c6, hf⟩
    · refine r_if_ne_t 16 rfl 18 (ck DX7_shift_0 7 rfl) (by decide) c6 ?_
      refine r_iconst 17 rfl ic_m1 (ck DX7_shift_0 8 rfl) ?_
      obtain ⟨rfl, rfl⟩ := so2 hf
      exact r_iret rfl rfl (ck DX7_shift_0 9 rfl)
    · refine r_if_ne_f 18 (ck DX7_shift_0 7 rfl) (by decide) c6 ?_
      refine r_aload_n 19 rfl 0 rfl rfl (ck DX7_shift_0 10 rfl) ?_
      refine r_getr (q := 141) 22 rfl (lq_7_83) sh_96 kd_7_83 fl_X7_263 (ck DX7_shift_0 11 rfl) ?_
      refine r_iload_n 23 rfl 1 rfl rfl (ck DX7_shift_0 12 rfl) ?_
      obtain ⟨b7, hf⟩ := gd_so hf
      refine r_iald 24 rfl sh_141 (inb_vp b7) (ck DX7_shift_0 13 rfl) ?_
      rcases if_so hf with ⟨c8, hf⟩ | ⟨c8, hf⟩
      · refine r_if_lt_t 36 (ck DX7_shift_0 14 rfl) (by decide) c8 ?_
        refine r_bipush 38 rfl bp_m11 (ck DX7_shift_0 20 rfl) ?_
        obtain ⟨rfl, rfl⟩ := so2 hf
        exact r_iret rfl rfl (ck DX7_shift_0 21 rfl)
      · refine r_if_lt_f 27 rfl 36 (ck DX7_shift_0 14 rfl) (by decide) c8 ?_
        refine r_aload_n 28 rfl 0 rfl rfl (ck DX7_shift_0 15 rfl) ?_
        refine r_getr (q := 141) 31 rfl (lq_7_83) sh_96 kd_7_83 fl_X7_263 (ck DX7_shift_0 16 rfl) ?_
        refine r_iload_n 32 rfl 3 rfl rfl (ck DX7_shift_0 17 rfl) ?_
        obtain ⟨b9, hf⟩ := gd_so hf
        refine r_iald 33 rfl sh_141 (inb_vp b9) (ck DX7_shift_0 18 rfl) ?_
        rcases if_so hf with ⟨c10, hf⟩ | ⟨c10, hf⟩
        · refine r_if_ge_t 39 (ck DX7_shift_0 19 rfl) (by decide) c10 ?_
          refine r_aload_n 40 rfl 0 rfl rfl (ck DX7_shift_0 22 rfl) ?_
          refine r_getr (q := 141) 43 rfl (lq_7_83) sh_96 kd_7_83 fl_X7_263 (ck DX7_shift_0 23 rfl) ?_
          refine r_iload_n 44 rfl 1 rfl rfl (ck DX7_shift_0 24 rfl) ?_
          obtain ⟨b11, hf⟩ := gd_so hf
          refine r_iald 45 rfl sh_141 (inb_vp b11) (ck DX7_shift_0 25 rfl) ?_
          refine r_aload_n 46 rfl 0 rfl rfl (ck DX7_shift_0 26 rfl) ?_
          refine r_getr (q := 141) 49 rfl (lq_7_83) sh_96 kd_7_83 fl_X7_263 (ck DX7_shift_0 27 rfl) ?_
          refine r_iload_n 50 rfl 3 rfl rfl (ck DX7_shift_0 28 rfl) ?_
          obtain ⟨b12, hf⟩ := gd_so hf
          refine r_iald 51 rfl sh_141 (inb_vp b12) (ck DX7_shift_0 29 rfl) ?_
          rcases if_so hf with ⟨c13, hf⟩ | ⟨c13, hf⟩
          · refine r_icmp_eq_t 57 (ck DX7_shift_0 30 rfl) (by decide) c13 ?_
            refine r_iload 59 rfl 5 rfl (ck DX7_shift_0 33 rfl) ?_
            rcases if_so hf with ⟨c14, hf⟩ | ⟨c14, hf⟩
            · refine r_if_lt_t 98 (ck DX7_shift_0 34 rfl) (by decide) c14 ?_
              refine r_bipush 100 rfl bp_m13 (ck DX7_shift_1 5 rfl) ?_
              obtain ⟨rfl, rfl⟩ := so2 hf
              exact r_iret rfl rfl (ck DX7_shift_1 6 rfl)
            · refine r_if_lt_f 62 rfl 98 (ck DX7_shift_0 34 rfl) (by decide) c14 ?_
              refine r_iload_n 63 rfl 2 rfl rfl (ck DX7_shift_0 35 rfl) ?_
              rcases if_so hf with ⟨c15, hf⟩ | ⟨c15, hf⟩
              · refine r_if_lt_t 98 (ck DX7_shift_0 36 rfl) (by decide) c15 ?_
                refine r_bipush 100 rfl bp_m13 (ck DX7_shift_1 5 rfl) ?_
                obtain ⟨rfl, rfl⟩ := so2 hf
                exact r_iret rfl rfl (ck DX7_shift_1 6 rfl)
              · refine r_if_lt_f 66 rfl 98 (ck DX7_shift_0 36 rfl) (by decide) c15 ?_
                refine r_iload 68 rfl 4 rfl (ck DX7_shift_0 37 rfl) ?_
                rcases if_so hf with ⟨c16, hf⟩ | ⟨c16, hf⟩
                · refine r_if_lt_t 98 (ck DX7_shift_0 38 rfl) (by decide) c16 ?_
                  refine r_bipush 100 rfl bp_m13 (ck DX7_shift_1 5 rfl) ?_
                  obtain ⟨rfl, rfl⟩ := so2 hf
                  exact r_iret rfl rfl (ck DX7_shift_1 6 rfl)
                · refine r_if_lt_f 71 rfl 98 (ck DX7_shift_0 38 rfl) (by decide) c16 ?_
                  refine r_iload_n 72 rfl 2 rfl rfl (ck DX7_shift_0 39 rfl) ?_
                  refine r_aload_n 73 rfl 0 rfl rfl (ck DX7_shift_0 40 rfl) ?_
                  refine r_getr (q := 142) 76 rfl (lq_7_84) sh_96 kd_7_84 fl_X7_266 (ck DX7_shift_0 41 rfl) ?_
                  refine r_iload_n 77 rfl 1 rfl rfl (ck DX7_shift_0 42 rfl) ?_
                  obtain ⟨b17, hf⟩ := gd_so hf
                  refine r_iald 78 rfl sh_142 (inb_vp b17) (ck DX7_shift_0 43 rfl) ?_
                  refine r_iload 80 rfl 5 rfl (ck DX7_shift_0 44 rfl) ?_
                  refine r_isub 81 rfl (ck DX7_shift_0 45 rfl) ?_
                  rcases if_so hf with ⟨c18, hf⟩ | ⟨c18, hf⟩
                  · refine r_icmp_gt_t 98 (ck DX7_shift_0 46 rfl) (by decide) c18 ?_
                    refine r_bipush 100 rfl bp_m13 (ck DX7_shift_1 5 rfl) ?_
                    obtain ⟨rfl, rfl⟩ := so2 hf
                    exact r_iret rfl rfl (ck DX7_shift_1 6 rfl)
                  · refine r_icmp_gt_f 84 rfl 98 (ck DX7_shift_0 46 rfl) (by decide) c18 ?_
                    refine r_iload 86 rfl 4 rfl (ck DX7_shift_0 47 rfl) ?_
                    refine r_aload_n 87 rfl 0 rfl rfl (ck DX7_shift_0 48 rfl) ?_
                    refine r_getr (q := 142) 90 rfl (lq_7_84) sh_96 kd_7_84 fl_X7_266 (ck DX7_shift_0 49 rfl) ?_
                    refine r_iload_n 91 rfl 3 rfl rfl (ck DX7_shift_1 0 rfl) ?_
                    obtain ⟨b19, hf⟩ := gd_so hf
                    refine r_iald 92 rfl sh_142 (inb_vp b19) (ck DX7_shift_1 1 rfl) ?_
                    refine r_iload 94 rfl 5 rfl (ck DX7_shift_1 2 rfl) ?_
                    refine r_isub 95 rfl (ck DX7_shift_1 3 rfl) ?_
                    rcases if_so hf with ⟨c20, hf⟩ | ⟨c20, hf⟩
                    · refine r_icmp_le_t 101 (ck DX7_shift_1 4 rfl) (by decide) c20 ?_
                      refine r_iconst 102 rfl ic_0 (ck DX7_shift_1 7 rfl) ?_
                      refine r_istore (lv' := [(6, .int 0), (0, .ref (X.1 96)), (1, .int x1), (2, .int x2), (3, .int x3), (4, .int x4), (5, .int x5)]) 104 rfl (ck DX7_shift_1 8 rfl) (by decide) rfl ?_
                      refine r_sub (lv' := [(0, .ref (X.1 96)), (1, .int x1), (2, .int x2), (3, .int x3), (4, .int x4), (5, .int x5), (6, .int 0)]) [1, 2, 3, 4, 5, 6, 0] rfl ?_
                      exact A_X7_shift_L104 X _ _ FZ x1 x2 x3 x4 x5 0 h hf
                    · refine r_icmp_le_f 98 rfl 101 (ck DX7_shift_1 4 rfl) (by decide) c20 ?_
                      refine r_bipush 100 rfl bp_m13 (ck DX7_shift_1 5 rfl) ?_
                      obtain ⟨rfl, rfl⟩ := so2 hf
                      exact r_iret rfl rfl (ck DX7_shift_1 6 rfl)
          · refine r_icmp_eq_f 54 rfl 57 (ck DX7_shift_0 30 rfl) (by decide) c13 ?_
            refine r_bipush 56 rfl bp_m12 (ck DX7_shift_0 31 rfl) ?_
            obtain ⟨rfl, rfl⟩ := so2 hf
            exact r_iret rfl rfl (ck DX7_shift_0 32 rfl)
        · refine r_if_ge_f 36 rfl 39 (ck DX7_shift_0 19 rfl) (by decide) c10 ?_
          refine r_bipush 38 rfl bp_m11 (ck DX7_shift_0 20 rfl) ?_
          obtain ⟨rfl, rfl⟩ := so2 hf
          exact r_iret rfl rfl (ck DX7_shift_0 21 rfl)
end
