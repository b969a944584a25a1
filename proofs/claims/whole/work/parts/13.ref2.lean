-- X7_save
def f_X7_save_L106 : Nat → Int32 → HP → Option HP
  | 0, _, _ => none
  | n + 1, x1, h => if (3 : Int32) ≤ x1 then (some h) else (gd (inb x1 3) (gd (inb x1 3) (lt (si h 118 (Int32.toNatClampNeg x1) (h.1 103 (Int32.toNatClampNeg x1))) fun g19 => lt (x1 + 1 : Int32) fun v21 => f_X7_save_L106 n v21 g19)))
set_option maxHeartbeats 4000000 in
set_option maxRecDepth 100000 in
theorem A_X7_save_L106 (X : XE) (h' : HP) : ∀ (n : Nat) (x1 : Int32) (h : HP), f_X7_save_L106 n x1 h = some h' → Run mX7_save 1 X 106 [(0, .ref (X.1 96)), (1, .int x1)] [] h none h' := by
  intro n
  induction n with
  | zero => intro x1 h hf; cases hf
  | succ n ih =>
    intro x1 h hf
    rw [f_X7_save_L106] at hf
    refine r_iload_n 107 rfl 1 rfl rfl dX7_save_106 ?_
    refine r_iconst 108 rfl ic_3 dX7_save_107 ?_
    rcases if_so hf with ⟨c16, hf⟩ | ⟨c16, hf⟩
    · refine r_icmp_ge_t 129 dX7_save_108 (by decide) c16 ?_
      obtain rfl := so1 hf
      exact r_vret rfl dX7_save_129
    · refine r_icmp_ge_f 111 rfl 129 dX7_save_108 (by decide) c16 ?_
      refine r_aload_n 112 rfl 0 rfl rfl dX7_save_111 ?_
      refine r_getr (q := 118) 115 rfl (lq_7_42) sh_96 kd_7_42 fl_X7_139 dX7_save_112 ?_
      refine r_iload_n 116 rfl 1 rfl rfl dX7_save_115 ?_
      refine r_aload_n 117 rfl 0 rfl rfl dX7_save_116 ?_
      refine r_getr (q := 103) 120 rfl (lq_7_12) sh_96 kd_7_12 fl_X7_47 dX7_save_117 ?_
      refine r_iload_n 121 rfl 1 rfl rfl dX7_save_120 ?_
      obtain ⟨b17, hf⟩ := gd_so hf
      refine r_iald 122 rfl sh_103 (inb_vp b17) dX7_save_121 ?_
      obtain ⟨b18, hf⟩ := gd_so hf
      obtain ⟨g19, e20, hf⟩ := lt_so hf
      refine r_iast 123 rfl sh_118 (inb_vp b18) dX7_save_122 ?_
      refine r_heap e20 ?_
      obtain ⟨v21, e22, hf⟩ := lt_so hf
      refine r_iinc (lv' := [(1, .int v21), (0, .ref (X.1 96))]) 126 rfl 1 dX7_save_123 rfl (by rw [e22, ic_1]) (by decide) rfl ?_
      refine r_goto 106 dX7_save_126 (by decide) ?_
      refine r_sub (lv' := [(0, .ref (X.1 96)), (1, .int v21)]) [1, 0] rfl ?_
      exact ih v21 g19 hf
def f_X7_save_L56 : Nat → Int32 → HP → Option HP
  | 0, _, _ => none
  | n + 1, x1, h => if (6 : Int32) ≤ x1 then (f_X7_save_L106 FU 0 h) else (gd (inb x1 6) (gd (inb x1 6) (lt (si h 115 (Int32.toNatClampNeg x1) (h.1 99 (Int32.toNatClampNeg x1))) fun g25 => gd (inb x1 6) (gd (inb x1 6) (lt (si g25 116 (Int32.toNatClampNeg x1) (g25.1 100 (Int32.toNatClampNeg x1))) fun g29 => gd (inb x1 6) (gd (inb x1 6) (lt (si g29 117 (Int32.toNatClampNeg x1) (g29.1 101 (Int32.toNatClampNeg x1))) fun g33 => lt (x1 + 1 : Int32) fun v35 => f_X7_save_L56 n v35 g33)))))))
set_option maxHeartbeats 4000000 in
set_option maxRecDepth 100000 in
theorem A_X7_save_L56 (X : XE) (h' : HP) : ∀ (n : Nat) (x1 : Int32) (h : HP), f_X7_save_L56 n x1 h = some h' → Run mX7_save 1 X 56 [(0, .ref (X.1 96)), (1, .int x1)] [] h none h' := by
  intro n
  induction n with
  | zero => intro x1 h hf; cases hf
  | succ n ih =>
    intro x1 h hf
    rw [f_X7_save_L56] at hf
    refine r_iload_n 57 rfl 1 rfl rfl dX7_save_56 ?_
    refine r_bipush 59 rfl bp_6 dX7_save_57 ?_
    rcases if_so hf with ⟨c15, hf⟩ | ⟨c15, hf⟩
    · refine r_icmp_ge_t 104 dX7_save_59 (by decide) c15 ?_
      refine r_iconst 105 rfl ic_0 dX7_save_104 ?_
      refine r_istore_n (lv' := [(1, .int 0), (0, .ref (X.1 96))]) 106 rfl dX7_save_105 (by decide) rfl rfl ?_
      refine r_sub (lv' := [(0, .ref (X.1 96)), (1, .int 0)]) [1, 0] rfl ?_
      exact A_X7_save_L106 X _ FU 0 h hf
    · refine r_icmp_ge_f 62 rfl 104 dX7_save_59 (by decide) c15 ?_
      refine r_aload_n 63 rfl 0 rfl rfl dX7_save_62 ?_
      refine r_getr (q := 115) 66 rfl (lq_7_39) sh_96 kd_7_39 fl_X7_130 dX7_save_63 ?_
      refine r_iload_n 67 rfl 1 rfl rfl dX7_save_66 ?_
      refine r_aload_n 68 rfl 0 rfl rfl dX7_save_67 ?_
      refine r_getr (q := 99) 71 rfl (lq_7_8) sh_96 kd_7_8 fl_X7_35 dX7_save_68 ?_
      refine r_iload_n 72 rfl 1 rfl rfl dX7_save_71 ?_
      obtain ⟨b23, hf⟩ := gd_so hf
      refine r_iald 73 rfl sh_99 (inb_vp b23) dX7_save_72 ?_
      obtain ⟨b24, hf⟩ := gd_so hf
      obtain ⟨g25, e26, hf⟩ := lt_so hf
      refine r_iast 74 rfl sh_115 (inb_vp b24) dX7_save_73 ?_
      refine r_heap e26 ?_
      refine r_aload_n 75 rfl 0 rfl rfl dX7_save_74 ?_
      refine r_getr (q := 116) 78 rfl (lq_7_40) sh_96 kd_7_40 fl_X7_133 dX7_save_75 ?_
      refine r_iload_n 79 rfl 1 rfl rfl dX7_save_78 ?_
      refine r_aload_n 80 rfl 0 rfl rfl dX7_save_79 ?_
      refine r_getr (q := 100) 83 rfl (lq_7_9) sh_96 kd_7_9 fl_X7_38 dX7_save_80 ?_
      refine r_iload_n 84 rfl 1 rfl rfl dX7_save_83 ?_
      obtain ⟨b27, hf⟩ := gd_so hf
      refine r_iald 85 rfl sh_100 (inb_vp b27) dX7_save_84 ?_
      obtain ⟨b28, hf⟩ := gd_so hf
      obtain ⟨g29, e30, hf⟩ := lt_so hf
      refine r_iast 86 rfl sh_116 (inb_vp b28) dX7_save_85 ?_
      refine r_heap e30 ?_
      refine r_aload_n 87 rfl 0 rfl rfl dX7_save_86 ?_
      refine r_getr (q := 117) 90 rfl (lq_7_41) sh_96 kd_7_41 fl_X7_136 dX7_save_87 ?_
      refine r_iload_n 91 rfl 1 rfl rfl dX7_save_90 ?_
      refine r_aload_n 92 rfl 0 rfl rfl dX7_save_91 ?_
      refine r_getr (q := 101) 95 rfl (lq_7_10) sh_96 kd_7_10 fl_X7_41 dX7_save_92 ?_
      refine r_iload_n 96 rfl 1 rfl rfl dX7_save_95 ?_
      obtain ⟨b31, hf⟩ := gd_so hf
      refine r_iald 97 rfl sh_101 (inb_vp b31) dX7_save_96 ?_
      obtain ⟨b32, hf⟩ := gd_so hf
      obtain ⟨g33, e34, hf⟩ := lt_so hf
      refine r_iast 98 rfl sh_117 (inb_vp b32) dX7_save_97 ?_
      refine r_heap e34 ?_
      obtain ⟨v35, e36, hf⟩ := lt_so hf
      refine r_iinc (lv' := [(1, .int v35), (0, .ref (X.1 96))]) 101 rfl 1 dX7_save_98 rfl (by rw [e36, ic_1]) (by decide) rfl ?_
      refine r_goto 56 dX7_save_101 (by decide) ?_
      refine r_sub (lv' := [(0, .ref (X.1 96)), (1, .int v35)]) [1, 0] rfl ?_
      exact ih v35 g33 hf
def f_X7_save (h : HP) : Option HP := lt (si h 96 31 2000000000) fun g1 => lt (si g1 96 32 2000000000) fun g3 => lt (si g3 96 34 (g3.1 96 1)) fun g5 => lt (si g5 96 35 (g5.1 96 2)) fun g7 => lt (si g7 96 36 (g7.1 96 3)) fun g9 => lt (si g9 96 37 (g9.1 96 4)) fun g11 => lt (si g11 96 38 (g11.1 96 5)) fun g13 => f_X7_save_L56 FU 0 g13
set_option maxHeartbeats 4000000 in
set_option maxRecDepth 100000 in
theorem A_X7_save (X : XE) (h : HP) (h' : HP) (hf : f_X7_save h = some h') : CC mX7_save 1 X [.ref (X.1 96)] h none h' := by
  refine CC_of rfl (Nat.le_of_ble_eq_true rfl) ?_
  show Run mX7_save 1 X 0 [(0, .ref (X.1 96))] [] h none h'
  unfold f_X7_save at hf
  refine r_aload_n 1 rfl 0 rfl rfl dX7_save_0 ?_
  refine r_ldcw 4 rfl cn_X7_401 dX7_save_1 ?_
  obtain ⟨g1, e2, hf⟩ := lt_so hf
  refine r_puti 7 rfl sh_96 kd_7_31 fw_X7_106 rfl rfl dX7_save_4 ?_
  refine r_heap e2 ?_
  refine r_aload_n 8 rfl 0 rfl rfl dX7_save_7 ?_
  refine r_ldcw 11 rfl cn_X7_401 dX7_save_8 ?_
  obtain ⟨g3, e4, hf⟩ := lt_so hf
  refine r_puti 14 rfl sh_96 kd_7_32 fw_X7_109 rfl rfl dX7_save_11 ?_
  refine r_heap e4 ?_
  refine r_aload_n 15 rfl 0 rfl rfl dX7_save_14 ?_
  refine r_aload_n 16 rfl 0 rfl rfl dX7_save_15 ?_
  refine r_geti 19 rfl sh_96 kd_7_1 fl_X7_13 dX7_save_16 ?_
  obtain ⟨g5, e6, hf⟩ := lt_so hf
  refine r_puti 22 rfl sh_96 kd_7_34 fw_X7_115 rfl rfl dX7_save_19 ?_
  refine r_heap e6 ?_
  refine r_aload_n 23 rfl 0 rfl rfl dX7_save_22 ?_
  refine r_aload_n 24 rfl 0 rfl rfl dX7_save_23 ?_
  refine r_geti 27 rfl sh_96 kd_7_2 fl_X7_16 dX7_save_24 ?_
  obtain ⟨g7, e8, hf⟩ := lt_so hf
  refine r_puti 30 rfl sh_96 kd_7_35 fw_X7_118 rfl rfl dX7_save_27 ?_
  refine r_heap e8 ?_
  refine r_aload_n 31 rfl 0 rfl rfl dX7_save_30 ?_
  refine r_aload_n 32 rfl 0 rfl rfl dX7_save_31 ?_
  refine r_geti 35 rfl sh_96 kd_7_3 fl_X7_19 dX7_save_32 ?_
  obtain ⟨g9, e10, hf⟩ := lt_so hf
  refine r_puti 38 rfl sh_96 kd_7_36 fw_X7_121 rfl rfl dX7_save_35 ?_
  refine r_heap e10 ?_
  refine r_aload_n 39 rfl 0 rfl rfl dX7_save_38 ?_
  refine r_aload_n 40 rfl 0 rfl rfl dX7_save_39 ?_
  refine r_geti 43 rfl sh_96 kd_7_4 fl_X7_22 dX7_save_40 ?_
  obtain ⟨g11, e12, hf⟩ := lt_so hf
  refine r_puti 46 rfl sh_96 kd_7_37 fw_X7_124 rfl rfl dX7_save_43 ?_
  refine r_heap e12 ?_
  refine r_aload_n 47 rfl 0 rfl rfl dX7_save_46 ?_
  refine r_aload_n 48 rfl 0 rfl rfl dX7_save_47 ?_
  refine r_geti 51 rfl sh_96 kd_7_5 fl_X7_25 dX7_save_48 ?_
  obtain ⟨g13, e14, hf⟩ := lt_so hf
  refine r_puti 54 rfl sh_96 kd_7_38 fw_X7_127 rfl rfl dX7_save_51 ?_
  refine r_heap e14 ?_
  refine r_iconst 55 rfl ic_0 dX7_save_54 ?_
  refine r_istore_n (lv' := [(1, .int 0), (0, .ref (X.1 96))]) 56 rfl dX7_save_55 (by decide) rfl rfl ?_
  refine r_sub (lv' := [(0, .ref (X.1 96)), (1, .int 0)]) [1, 0] rfl ?_
  exact A_X7_save_L56 X _ FU 0 g13 hf
-- X7_putBack
def f_X7_putBack_L105 : Nat → Int32 → HP → Option HP
  | 0, _, _ => none
  | n + 1, x1, h => if (3 : Int32) ≤ x1 then (some h) else (gd (inb x1 3) (gd (inb x1 3) (lt (si h 103 (Int32.toNatClampNeg x1) (h.1 118 (Int32.toNatClampNeg x1))) fun g19 => lt (x1 + 1 : Int32) fun v21 => f_X7_putBack_L105 n v21 g19)))
set_option maxHeartbeats 4000000 in
set_option maxRecDepth 100000 in
theorem A_X7_putBack_L105 (X : XE) (h' : HP) : ∀ (n : Nat) (x1 : Int32) (h : HP), f_X7_putBack_L105 n x1 h = some h' → Run mX7_putBack 1 X 105 [(0, .ref (X.1 96)), (1, .int x1)] [] h none h' := by
  intro n
  induction n with
  | zero => intro x1 h hf; cases hf
  | succ n ih =>
    intro x1 h hf
    rw [f_X7_putBack_L105] at hf
    refine r_iload_n 106 rfl 1 rfl rfl dX7_putBack_105 ?_
    refine r_iconst 107 rfl ic_3 dX7_putBack_106 ?_
    rcases if_so hf with ⟨c16, hf⟩ | ⟨c16, hf⟩
    · refine r_icmp_ge_t 128 dX7_putBack_107 (by decide) c16 ?_
      obtain rfl := so1 hf
      exact r_vret rfl dX7_putBack_128
    · refine r_icmp_ge_f 110 rfl 128 dX7_putBack_107 (by decide) c16 ?_
      refine r_aload_n 111 rfl 0 rfl rfl dX7_putBack_110 ?_
      refine r_getr (q := 103) 114 rfl (lq_7_12) sh_96 kd_7_12 fl_X7_47 dX7_putBack_111 ?_
      refine r_iload_n 115 rfl 1 rfl rfl dX7_putBack_114 ?_
      refine r_aload_n 116 rfl 0 rfl rfl dX7_putBack_115 ?_
      refine r_getr (q := 118) 119 rfl (lq_7_42) sh_96 kd_7_42 fl_X7_139 dX7_putBack_116 ?_
      refine r_iload_n 120 rfl 1 rfl rfl dX7_putBack_119 ?_
      obtain ⟨b17, hf⟩ := gd_so hf
      refine r_iald 121 rfl sh_118 (inb_vp b17) dX7_putBack_120 ?_
      obtain ⟨b18, hf⟩ := gd_so hf
      obtain ⟨g19, e20, hf⟩ := lt_so hf
      refine r_iast 122 rfl sh_103 (inb_vp b18) dX7_putBack_121 ?_
      refine r_heap e20 ?_
      obtain ⟨v21, e22, hf⟩ := lt_so hf
      refine r_iinc (lv' := [(1, .int v21), (0, .ref (X.1 96))]) 125 rfl 1 dX7_putBack_122 rfl (by rw [e22, ic_1]) (by decide) rfl ?_
      refine r_goto 105 dX7_putBack_125 (by decide) ?_
      refine r_sub (lv' := [(0, .ref (X.1 96)), (1, .int v21)]) [1, 0] rfl ?_
      exact ih v21 g19 hf
def f_X7_putBack_L55 : Nat → Int32 → HP → Option HP
  | 0, _, _ => none
  | n + 1, x1, h => if (6 : Int32) ≤ x1 then (f_X7_putBack_L105 FU 0 h) else (gd (inb x1 6) (gd (inb x1 6) (lt (si h 99 (Int32.toNatClampNeg x1) (h.1 115 (Int32.toNatClampNeg x1))) fun g25 => gd (inb x1 6) (gd (inb x1 6) (lt (si g25 100 (Int32.toNatClampNeg x1) (g25.1 116 (Int32.toNatClampNeg x1))) fun g29 => gd (inb x1 6) (gd (inb x1 6) (lt (si g29 101 (Int32.toNatClampNeg x1) (g29.1 117 (Int32.toNatClampNeg x1))) fun g33 => lt (x1 + 1 : Int32) fun v35 => f_X7_putBack_L55 n v35 g33)))))))
set_option maxHeartbeats 4000000 in
set_option maxRecDepth 100000 in
theorem A_X7_putBack_L55 (X : XE) (h' : HP) : ∀ (n : Nat) (x1 : Int32) (h : HP), f_X7_putBack_L55 n x1 h = some h' → Run mX7_putBack 1 X 55 [(0, .ref (X.1 96)), (1, .int x1)] [] h none h' := by
  intro n
  induction n with
  | zero => intro x1 h hf; cases hf
  | succ n ih =>
    intro x1 h hf
    rw [f_X7_putBack_L55] at hf
    refine r_iload_n 56 rfl 1 rfl rfl dX7_putBack_55 ?_
    refine r_bipush 58 rfl bp_6 dX7_putBack_56 ?_
    rcases if_so hf with ⟨c15, hf⟩ | ⟨c15, hf⟩
    · refine r_icmp_ge_t 103 dX7_putBack_58 (by decide) c15 ?_
      refine r_iconst 104 rfl ic_0 dX7_putBack_103 ?_
      refine r_istore_n (lv' := [(1, .int 0), (0, .ref (X.1 96))]) 105 rfl dX7_putBack_104 (by decide) rfl rfl ?_
      refine r_sub (lv' := [(0, .ref (X.1 96)), (1, .int 0)]) [1, 0] rfl ?_
      exact A_X7_putBack_L105 X _ FU 0 h hf
    · refine r_icmp_ge_f 61 rfl 103 dX7_putBack_58 (by decide) c15 ?_
      refine r_aload_n 62 rfl 0 rfl rfl dX7_putBack_61 ?_
      refine r_getr (q := 99) 65 rfl (lq_7_8) sh_96 kd_7_8 fl_X7_35 dX7_putBack_62 ?_
      refine r_iload_n 66 rfl 1 rfl rfl dX7_putBack_65 ?_
      refine r_aload_n 67 rfl 0 rfl rfl dX7_putBack_66 ?_
      refine r_getr (q := 115) 70 rfl (lq_7_39) sh_96 kd_7_39 fl_X7_130 dX7_putBack_67 ?_
      refine r_iload_n 71 rfl 1 rfl rfl dX7_putBack_70 ?_
      obtain ⟨b23, hf⟩ := gd_so hf
      refine r_iald 72 rfl sh_115 (inb_vp b23) dX7_putBack_71 ?_
      obtain ⟨b24, hf⟩ := gd_so hf
      obtain ⟨g25, e26, hf⟩ := lt_so hf
      refine r_iast 73 rfl sh_99 (inb_vp b24) dX7_putBack_72 ?_
      refine r_heap e26 ?_
      refine r_aload_n 74 rfl 0 rfl rfl dX7_putBack_73 ?_
      refine r_getr (q := 100) 77 rfl (lq_7_9) sh_96 kd_7_9 fl_X7_38 dX7_putBack_74 ?_
      refine r_iload_n 78 rfl 1 rfl rfl dX7_putBack_77 ?_
      refine r_aload_n 79 rfl 0 rfl rfl dX7_putBack_78 ?_
      refine r_getr (q := 116) 82 rfl (lq_7_40) sh_96 kd_7_40 fl_X7_133 dX7_putBack_79 ?_
      refine r_iload_n 83 rfl 1 rfl rfl dX7_putBack_82 ?_
      obtain ⟨b27, hf⟩ := gd_so hf
      refine r_iald 84 rfl sh_116 (inb_vp b27) dX7_putBack_83 ?_
      obtain ⟨b28, hf⟩ := gd_so hf
      obtain ⟨g29, e30, hf⟩ := lt_so hf
      refine r_iast 85 rfl sh_100 (inb_vp b28) dX7_putBack_84 ?_
      refine r_heap e30 ?_
      refine r_aload_n 86 rfl 0 rfl rfl dX7_putBack_85 ?_
      refine r_getr (q := 101) 89 rfl (lq_7_10) sh_96 kd_7_10 fl_X7_41 dX7_putBack_86 ?_
      refine r_iload_n 90 rfl 1 rfl rfl dX7_putBack_89 ?_
      refine r_aload_n 91 rfl 0 rfl rfl dX7_putBack_90 ?_
      refine r_getr (q := 117) 94 rfl (lq_7_41) sh_96 kd_7_41 fl_X7_136 dX7_putBack_91 ?_
      refine r_iload_n 95 rfl 1 rfl rfl dX7_putBack_94 ?_
      obtain ⟨b31, hf⟩ := gd_so hf
      refine r_iald 96 rfl sh_117 (inb_vp b31) dX7_putBack_95 ?_
      obtain ⟨b32, hf⟩ := gd_so hf
      obtain ⟨g33, e34, hf⟩ := lt_so hf
      refine r_iast 97 rfl sh_101 (inb_vp b32) dX7_putBack_96 ?_
      refine r_heap e34 ?_
      obtain ⟨v35, e36, hf⟩ := lt_so hf
      refine r_iinc (lv' := [(1, .int v35), (0, .ref (X.1 96))]) 100 rfl 1 dX7_putBack_97 rfl (by rw [e36, ic_1]) (by decide) rfl ?_
      refine r_goto 55 dX7_putBack_100 (by decide) ?_
      refine r_sub (lv' := [(0, .ref (X.1 96)), (1, .int v35)]) [1, 0] rfl ?_
      exact ih v35 g33 hf
def f_X7_putBack (h : HP) : Option HP := lt (si h 96 31 99999) fun g1 => lt (si g1 96 32 9999) fun g3 => lt (si g3 96 1 (g3.1 96 34)) fun g5 => lt (si g5 96 2 (g5.1 96 35)) fun g7 => lt (si g7 96 3 (g7.1 96 36)) fun g9 => lt (si g9 96 4 (g9.1 96 37)) fun g11 => lt (si g11 96 5 (g11.1 96 38)) fun g13 => f_X7_putBack_L55 FU 0 g13
set_option maxHeartbeats 4000000 in
set_option maxRecDepth 100000 in
theorem A_X7_putBack (X : XE) (h : HP) (h' : HP) (hf : f_X7_putBack h = some h') : CC mX7_putBack 1 X [.ref (X.1 96)] h none h' := by
  refine CC_of rfl (Nat.le_of_ble_eq_true rfl) ?_
  show Run mX7_putBack 1 X 0 [(0, .ref (X.1 96))] [] h none h'
  unfold f_X7_putBack at hf
  refine r_aload_n 1 rfl 0 rfl rfl dX7_putBack_0 ?_
  refine r_ldc 3 rfl cn_X7_105 dX7_putBack_1 ?_
  obtain ⟨g1, e2, hf⟩ := lt_so hf
  refine r_puti 6 rfl sh_96 kd_7_31 fw_X7_106 rfl rfl dX7_putBack_3 ?_
  refine r_heap e2 ?_
  refine r_aload_n 7 rfl 0 rfl rfl dX7_putBack_6 ?_
  refine r_sipush 10 rfl sp_9999 dX7_putBack_7 ?_
  obtain ⟨g3, e4, hf⟩ := lt_so hf
  refine r_puti 13 rfl sh_96 kd_7_32 fw_X7_109 rfl rfl dX7_putBack_10 ?_
  refine r_heap e4 ?_
  refine r_aload_n 14 rfl 0 rfl rfl dX7_putBack_13 ?_
  refine r_aload_n 15 rfl 0 rfl rfl dX7_putBack_14 ?_
  refine r_geti 18 rfl sh_96 kd_7_34 fl_X7_115 dX7_putBack_15 ?_
  obtain ⟨g5, e6, hf⟩ := lt_so hf
  refine r_puti 21 rfl sh_96 kd_7_1 fw_X7_13 rfl rfl dX7_putBack_18 ?_
  refine r_heap e6 ?_
  refine r_aload_n 22 rfl 0 rfl rfl dX7_putBack_21 ?_
  refine r_aload_n 23 rfl 0 rfl rfl dX7_putBack_22 ?_
  refine r_geti 26 rfl sh_96 kd_7_35 fl_X7_118 dX7_putBack_23 ?_
  obtain ⟨g7, e8, hf⟩ := lt_so hf
  refine r_puti 29 rfl sh_96 kd_7_2 fw_X7_16 rfl rfl dX7_putBack_26 ?_
  refine r_heap e8 ?_
  refine r_aload_n 30 rfl 0 rfl rfl dX7_putBack_29 ?_
  refine r_aload_n 31 rfl 0 rfl rfl dX7_putBack_30 ?_
  refine r_geti 34 rfl sh_96 kd_7_36 fl_X7_121 dX7_putBack_31 ?_
  obtain ⟨g9, e10, hf⟩ := lt_so hf
  refine r_puti 37 rfl sh_96 kd_7_3 fw_X7_19 rfl rfl dX7_putBack_34 ?_
  refine r_heap e10 ?_
  refine r_aload_n 38 rfl 0 rfl rfl dX7_putBack_37 ?_
  refine r_aload_n 39 rfl 0 rfl rfl dX7_putBack_38 ?_
  refine r_geti 42 rfl sh_96 kd_7_37 fl_X7_124 dX7_putBack_39 ?_
  obtain ⟨g11, e12, hf⟩ := lt_so hf
  refine r_puti 45 rfl sh_96 kd_7_4 fw_X7_22 rfl rfl dX7_putBack_42 ?_
  refine r_heap e12 ?_
  refine r_aload_n 46 rfl 0 rfl rfl dX7_putBack_45 ?_
  refine r_aload_n 47 rfl 0 rfl rfl dX7_putBack_46 ?_
  refine r_geti 50 rfl sh_96 kd_7_38 fl_X7_127 dX7_putBack_47 ?_
  obtain ⟨g13, e14, hf⟩ := lt_so hf
  refine r_puti 53 rfl sh_96 kd_7_5 fw_X7_25 rfl rfl dX7_putBack_50 ?_
  refine r_heap e14 ?_
  refine r_iconst 54 rfl ic_0 dX7_putBack_53 ?_
  refine r_istore_n (lv' := [(1, .int 0), (0, .ref (X.1 96))]) 55 rfl dX7_putBack_54 (by decide) rfl rfl ?_
  refine r_sub (lv' := [(0, .ref (X.1 96)), (1, .int 0)]) [1, 0] rfl ?_
  exact A_X7_putBack_L55 X _ FU 0 g13 hf
-- X7_on
def f_X7_on_J46 (x1 : Int32) (x2 : Int32) (h : HP) : Option (Int32 × HP) := bo (f_X7_isDays x1) fun v10 => if v10 = 0 then (some ((-2), h)) else (bo (f_X7_save h) fun g13 => bo (f_X7_goDays x1 g13) fun g15 => if x2 = 0 then (lt (((g15.1 96 4) - (g15.1 96 37)) : Int32) fun v18 => bo (f_X7_putBack g15) fun g20 => some (v18, g20)) else (if x2 = 1 then (bo (f_X7_height g15) fun v23 => bo (f_X7_putBack g15) fun g25 => some (v23, g25)) else (if x2 = 2 then (lt ((g15.1 96 1) : Int32) fun v28 => bo (f_X7_putBack g15) fun g30 => some (v28, g30)) else (if (20 : Int32) ≤ x2 then (gd (inb (x2 - 20) 6) (lt ((g15.1 100 (Int32.toNatClampNeg (x2 - 20))) : Int32) fun v34 => bo (f_X7_putBack g15) fun g36 => some (v34, g36))) else (gd (inb (x2 - 10) 6) (lt ((g15.1 99 (Int32.toNatClampNeg (x2 - 10))) : Int32) fun v39 => bo (f_X7_putBack g15) fun g41 => some (v39, g41)))))))
set_option maxHeartbeats 4000000 in
set_option maxRecDepth 100000 in
theorem A_X7_on_J46 (X : XE) (r : Int32) (h' : HP) (x1 : Int32) (x2 : Int32) (h : HP) (hf : f_X7_on_J46 x1 x2 h = some (r, h')) : Run mX7_on 9 X 46 [(0, .ref (X.1 96)), (1, .int x1), (2, .int x2)] [] h (some (.int r)) h' := by
  unfold f_X7_on_J46 at hf
  refine r_aload_n 47 rfl 0 rfl rfl dX7_on_46 ?_
  refine r_iload_n 48 rfl 1 rfl rfl dX7_on_47 ?_
  obtain ⟨v10, e11, hf⟩ := bo_so hf
  refine r_callVi 51 rfl (A_X7_isDays X x1 h v10 e11) (by omega) cw_X7_395 sh_96 cl_7 rfl rfl (Nat.le_of_ble_eq_true rfl) dX7_on_48 ?_
  rcases if_so hf with ⟨c12, hf⟩ | ⟨c12, hf⟩
  · refine r_if_ne_t 54 rfl 57 dX7_on_51 (by decide) c12 ?_
    refine r_bipush 56 rfl bp_m2 dX7_on_54 ?_
    obtain ⟨rfl, rfl⟩ := so2 hf
    exact r_iret rfl rfl dX7_on_56
  · refine r_if_ne_f 57 dX7_on_51 (by decide) c12 ?_
    refine r_aload_n 58 rfl 0 rfl rfl dX7_on_57 ?_
    obtain ⟨g13, e14, hf⟩ := bo_so hf
    refine r_callVv 61 rfl (A_X7_save X h g13 e14) (by omega) cw_X7_402 sh_96 cl_7 rfl rfl (Nat.le_of_ble_eq_true rfl) dX7_on_58 ?_
    refine r_aload_n 62 rfl 0 rfl rfl dX7_on_61 ?_
    refine r_iload_n 63 rfl 1 rfl rfl dX7_on_62 ?_
    obtain ⟨g15, e16, hf⟩ := bo_so hf
    refine r_callVv 66 rfl (A_X7_goDays X x1 g13 g15 e16) (by omega) cw_X7_398 sh_96 cl_7 rfl rfl (Nat.le_of_ble_eq_true rfl) dX7_on_63 ?_
    refine r_iload_n 67 rfl 2 rfl rfl dX7_on_66 ?_
    rcases if_so hf with ⟨c17, hf⟩ | ⟨c17, hf⟩
    · refine r_if_ne_t 70 rfl 82 dX7_on_67 (by decide) c17 ?_
      refine r_aload_n 71 rfl 0 rfl rfl dX7_on_70 ?_
      refine r_geti 74 rfl sh_96 kd_7_4 fl_X7_22 dX7_on_71 ?_
      refine r_aload_n 75 rfl 0 rfl rfl dX7_on_74 ?_
      refine r_geti 78 rfl sh_96 kd_7_37 fl_X7_124 dX7_on_75 ?_
      refine r_isub 79 rfl dX7_on_78 ?_
      refine r_goto 133 dX7_on_79 (by decide) ?_
      obtain ⟨v18, e19, hf⟩ := lt_so hf
      refine r_top e19 ?_
      refine r_istore_n (lv' := [(3, .int v18), (0, .ref (X.1 96)), (1, .int x1), (2, .int x2)]) 134 rfl dX7_on_133 (by decide) rfl rfl ?_
      refine r_aload_n 135 rfl 1 rfl rfl dX7_on_134 ?_
      obtain ⟨g20, e21, hf⟩ := bo_so hf
      refine r_callVv 138 rfl (A_X7_putBack X g15 g20 e21) (by omega) cw_X7_405 sh_96 cl_7 rfl rfl (Nat.le_of_ble_eq_true rfl) dX7_on_135 ?_
      refine r_iload_n 139 rfl 0 rfl rfl dX7_on_138 ?_
      obtain ⟨rfl, rfl⟩ := so2 hf
      exact r_iret rfl rfl dX7_on_139
    · refine r_if_ne_f 82 dX7_on_67 (by decide) c17 ?_
      refine r_iload_n 83 rfl 2 rfl rfl dX7_on_82 ?_
      refine r_iconst 84 rfl ic_1 dX7_on_83 ?_
      rcases if_so hf with ⟨c22, hf⟩ | ⟨c22, hf⟩
      · refine r_icmp_ne_t 87 rfl 94 dX7_on_84 (by decide) c22 ?_
        refine r_aload_n 88 rfl 0 rfl rfl dX7_on_87 ?_
        obtain ⟨v23, e24, hf⟩ := bo_so hf
        refine r_callVi 91 rfl (A_X7_height X g15 v23 e24) (by omega) cw_X7_371 sh_96 cl_7 rfl rfl (Nat.le_of_ble_eq_true rfl) dX7_on_88 ?_
        refine r_goto 133 dX7_on_91 (by decide) ?_
        refine r_istore_n (lv' := [(3, .int v23), (0, .ref (X.1 96)), (1, .int x1), (2, .int x2)]) 134 rfl dX7_on_133 (by decide) rfl rfl ?_
        refine r_aload_n 135 rfl 1 rfl rfl dX7_on_134 ?_
        obtain ⟨g25, e26, hf⟩ := bo_so hf
        refine r_callVv 138 rfl (A_X7_putBack X g15 g25 e26) (by omega) cw_X7_405 sh_96 cl_7 rfl rfl (Nat.le_of_ble_eq_true rfl) dX7_on_135 ?_
        refine r_iload_n 139 rfl 0 rfl rfl dX7_on_138 ?_
        obtain ⟨rfl, rfl⟩ := so2 hf
        exact r_iret rfl rfl dX7_on_139
      · refine r_icmp_ne_f 94 dX7_on_84 (by decide) c22 ?_
        refine r_iload_n 95 rfl 2 rfl rfl dX7_on_94 ?_
        refine r_iconst 96 rfl ic_2 dX7_on_95 ?_
        rcases if_so hf with ⟨c27, hf⟩ | ⟨c27, hf⟩
        · refine r_icmp_ne_t 99 rfl 106 dX7_on_96 (by decide) c27 ?_
          refine r_aload_n 100 rfl 0 rfl rfl dX7_on_99 ?_
          refine r_geti 103 rfl sh_96 kd_7_1 fl_X7_13 dX7_on_100 ?_
          refine r_goto 133 dX7_on_103 (by decide) ?_
          obtain ⟨v28, e29, hf⟩ := lt_so hf
          refine r_top e29 ?_
          refine r_istore_n (lv' := [(3, .int v28), (0, .ref (X.1 96)), (1, .int x1), (2, .int x2)]) 134 rfl dX7_on_133 (by decide) rfl rfl ?_
          refine r_aload_n 135 rfl 1 rfl rfl dX7_on_134 ?_
          obtain ⟨g30, e31, hf⟩ := bo_so hf
          refine r_callVv 138 rfl (A_X7_putBack X g15 g30 e31) (by omega) cw_X7_405 sh_96 cl_7 rfl rfl (Nat.le_of_ble_eq_true rfl) dX7_on_135 ?_
          refine r_iload_n 139 rfl 0 rfl rfl dX7_on_138 ?_
          obtain ⟨rfl, rfl⟩ := so2 hf
          exact r_iret rfl rfl dX7_on_139
        · refine r_icmp_ne_f 106 dX7_on_96 (by decide) c27 ?_
          refine r_iload_n 107 rfl 2 rfl rfl dX7_on_106 ?_
          refine r_bipush 109 rfl bp_20 dX7_on_107 ?_
          rcases if_so hf with ⟨c32, hf⟩ | ⟨c32, hf⟩
          · refine r_icmp_ge_t 124 dX7_on_109 (by decide) c32 ?_
            refine r_aload_n 125 rfl 0 rfl rfl dX7_on_124 ?_
            refine r_getr (q := 100) 128 rfl (lq_7_9) sh_96 kd_7_9 fl_X7_38 dX7_on_125 ?_
            refine r_iload_n 129 rfl 2 rfl rfl dX7_on_128 ?_
            refine r_bipush 131 rfl bp_20 dX7_on_129 ?_
            refine r_isub 132 rfl dX7_on_131 ?_
            obtain ⟨b33, hf⟩ := gd_so hf
            refine r_iald 133 rfl sh_100 (inb_vp b33) dX7_on_132 ?_
            obtain ⟨v34, e35, hf⟩ := lt_so hf
            refine r_top e35 ?_
            refine r_istore_n (lv' := [(3, .int v34), (0, .ref (X.1 96)), (1, .int x1), (2, .int x2)]) 134 rfl dX7_on_133 (by decide) rfl rfl ?_
            refine r_aload_n 135 rfl 1 rfl rfl dX7_on_134 ?_
            obtain ⟨g36, e37, hf⟩ := bo_so hf
            refine r_callVv 138 rfl (A_X7_putBack X g15 g36 e37) (by omega) cw_X7_405 sh_96 cl_7 rfl rfl (Nat.le_of_ble_eq_true rfl) dX7_on_135 ?_
            refine r_iload_n 139 rfl 0 rfl rfl dX7_on_138 ?_
            obtain ⟨rfl, rfl⟩ := so2 hf
            exact r_iret rfl rfl dX7_on_139
          · refine r_icmp_ge_f 112 rfl 124 dX7_on_109 (by decide) c32 ?_
            refine r_aload_n 113 rfl 0 rfl rfl dX7_on_112 ?_
            refine r_getr (q := 99) 116 rfl (lq_7_8) sh_96 kd_7_8 fl_X7_35 dX7_on_113 ?_
            refine r_iload_n 117 rfl 2 rfl rfl dX7_on_116 ?_
            refine r_bipush 119 rfl bp_10 dX7_on_117 ?_
            refine r_isub 120 rfl dX7_on_119 ?_
            obtain ⟨b38, hf⟩ := gd_so hf
            refine r_iald 121 rfl sh_99 (inb_vp b38) dX7_on_120 ?_
            refine r_goto 133 dX7_on_121 (by decide) ?_
            obtain ⟨v39, e40, hf⟩ := lt_so hf
            refine r_top e40 ?_
            refine r_istore_n (lv' := [(3, .int v39), (0, .ref (X.1 96)), (1, .int x1), (2, .int x2)]) 134 rfl dX7_on_133 (by decide) rfl rfl ?_
            refine r_aload_n 135 rfl 1 rfl rfl dX7_on_134 ?_
            obtain ⟨g41, e42, hf⟩ := bo_so hf
            refine r_callVv 138 rfl (A_X7_putBack X g15 g41 e42) (by omega) cw_X7_405 sh_96 cl_7 rfl rfl (Nat.le_of_ble_eq_true rfl) dX7_on_135 ?_
            refine r_iload_n 139 rfl 0 rfl rfl dX7_on_138 ?_
            obtain ⟨rfl, rfl⟩ := so2 hf
            exact r_iret rfl rfl dX7_on_139
def f_X7_on (x1 : Int32) (x2 : Int32) (h : HP) : Option (Int32 × HP) := bo (f_X7_in x2 0 2) fun v1 => if v1 = 0 then (bo (f_X7_in x2 10 (9 + (h.1 96 0))) fun v4 => if v4 = 0 then (bo (f_X7_in x2 20 (19 + (h.1 96 0))) fun v7 => if v7 = 0 then (some ((-1), h)) else (f_X7_on_J46 x1 x2 h)) else (f_X7_on_J46 x1 x2 h)) else (f_X7_on_J46 x1 x2 h)
set_option maxHeartbeats 4000000 in
set_option maxRecDepth 100000 in
theorem A_X7_on (X : XE) (x1 : Int32) (x2 : Int32) (h : HP) (r : Int32) (h' : HP) (hf : f_X7_on x1 x2 h = some (r, h')) : CC mX7_on 9 X [.ref (X.1 96), .int x1, .int x2] h (some (.int r)) h' := by
  refine CC_of rfl (Nat.le_of_ble_eq_true rfl) ?_
  show Run mX7_on 9 X 0 [(0, .ref (X.1 96)), (1, .int x1), (2, .int x2)] [] h (some (.int r)) h'
  unfold f_X7_on at hf
  refine r_aload_n 1 rfl 0 rfl rfl dX7_on_0 ?_
  refine r_iload_n 2 rfl 2 rfl rfl dX7_on_1 ?_
  refine r_iconst 3 rfl ic_0 dX7_on_2 ?_
  refine r_iconst 4 rfl ic_2 dX7_on_3 ?_
  obtain ⟨v1, e2, hf⟩ := bo_so hf
  refine r_callVi 7 rfl (A_X7_in X x2 0 2 h v1 e2) (by omega) cw_X7_276 sh_96 cl_7 rfl rfl (Nat.le_of_ble_eq_true rfl) dX7_on_4 ?_
  rcases if_so hf with ⟨c3, hf⟩ | ⟨c3, hf⟩
  · refine r_if_ne_t 10 rfl 46 dX7_on_7 (by decide) c3 ?_
    refine r_aload_n 11 rfl 0 rfl rfl dX7_on_10 ?_
    refine r_iload_n 12 rfl 2 rfl rfl dX7_on_11 ?_
    refine r_bipush 14 rfl bp_10 dX7_on_12 ?_
    refine r_bipush 16 rfl bp_9 dX7_on_14 ?_
    refine r_aload_n 17 rfl 0 rfl rfl dX7_on_16 ?_
    refine r_geti 20 rfl sh_96 kd_7_0 fl_X7_7 dX7_on_17 ?_
    refine r_iadd 21 rfl dX7_on_20 ?_
    obtain ⟨v4, e5, hf⟩ := bo_so hf
    refine r_callVi 24 rfl (A_X7_in X x2 10 (9 + (h.1 96 0)) h v4 e5) (by omega) cw_X7_276 sh_96 cl_7 rfl rfl (Nat.le_of_ble_eq_true rfl) dX7_on_21 ?_
    rcases if_so hf with ⟨c6, hf⟩ | ⟨c6, hf⟩
    · refine r_if_ne_t 27 rfl 46 dX7_on_24 (by decide) c6 ?_
      refine r_aload_n 28 rfl 0 rfl rfl dX7_on_27 ?_
      refine r_iload_n 29 rfl 2 rfl rfl dX7_on_28 ?_
      refine r_bipush 31 rfl bp_20 dX7_on_29 ?_
      refine r_bipush 33 rfl bp_19 dX7_on_31 ?_
      refine r_aload_n 34 rfl 0 rfl rfl dX7_on_33 ?_
      refine r_geti 37 rfl sh_96 kd_7_0 fl_X7_7 dX7_on_34 ?_
      refine r_iadd 38 rfl dX7_on_37 ?_
      obtain ⟨v7, e8, hf⟩ := bo_so hf
      refine r_callVi 41 rfl (A_X7_in X x2 20 (19 + (h.1 96 0)) h v7 e8) (by omega) cw_X7_276 sh_96 cl_7 rfl rfl (Nat.le_of_ble_eq_true rfl) dX7_on_38 ?_
      rcases if_so hf with ⟨c9, hf⟩ | ⟨c9, hf⟩
      · refine r_if_ne_t 44 rfl 46 dX7_on_41 (by decide) c9 ?_
        refine r_iconst 45 rfl ic_m1 dX7_on_44 ?_
        obtain ⟨rfl, rfl⟩ := so2 hf
        exact r_iret rfl rfl dX7_on_45
      · refine r_if_ne_f 46 dX7_on_41 (by decide) c9 ?_
        refine r_sub (lv' := [(0, .ref (X.1 96)), (1, .int x1), (2, .int x2)]) [0, 1, 2] rfl ?_
        exact A_X7_on_J46 X _ _ x1 x2 h hf
    · refine r_if_ne_f 46 dX7_on_24 (by decide) c6 ?_
      refine r_sub (lv' := [(0, .ref (X.1 96)), (1, .int x1), (2, .int x2)]) [0, 1, 2] rfl ?_
      exact A_X7_on_J46 X _ _ x1 x2 h hf
  · refine r_if_ne_f 46 dX7_on_7 (by decide) c3 ?_
    refine r_sub (lv' := [(0, .ref (X.1 96)), (1, .int x1), (2, .int x2)]) [0, 1, 2] rfl ?_
    exact A_X7_on_J46 X _ _ x1 x2 h hf
-- X7_firstThen
def f_X7_firstThen_L11 : Nat → Int32 → Int32 → Int32 → HP → Option (Int32 × HP)
  | 0, _, _, _, _ => none
  | n + 1, x1, x2, x3, h => if x1 ≤ x3 then (bo (f_X7_putBack h) fun g4 => some (x2, g4)) else (if (0 : Int32) ≤ x2 then (bo (f_X7_putBack h) fun g7 => some (x2, g7)) else (bd (f_X7_goDay h) fun v11 g9 => if (0 : Int32) ≤ v11 then (lt (si g9 96 43 v11) fun g13 => lt (x3 + 1 : Int32) fun v15 => f_X7_firstThen_L11 n x1 x3 v15 g13) else (lt (x3 + 1 : Int32) fun v17 => f_X7_firstThen_L11 n x1 x2 v17 g9)))
set_option maxHeartbeats 4000000 in
set_option maxRecDepth 100000 in
theorem A_X7_firstThen_L11 (X : XE) (r : Int32) (h' : HP) : ∀ (n : Nat) (x1 : Int32) (x2 : Int32) (x3 : Int32) (h : HP), f_X7_firstThen_L11 n x1 x2 x3 h = some (r, h') → Run mX7_firstThen 8 X 11 [(0, .ref (X.1 96)), (1, .int x1), (2, .int x2), (3, .int x3)] [] h (some (.int r)) h' := by
  intro n
  induction n with
  | zero => intro x1 x2 x3 h hf; cases hf
  | succ n ih =>
    intro x1 x2 x3 h hf
    rw [f_X7_firstThen_L11] at hf
    refine r_iload_n 12 rfl 3 rfl rfl dX7_firstThen_11 ?_
    refine r_iload_n 13 rfl 1 rfl rfl dX7_firstThen_12 ?_
    rcases if_so hf with ⟨c3, hf⟩ | ⟨c3, hf⟩
    · refine r_icmp_ge_t 48 dX7_firstThen_13 (by decide) c3 ?_
      refine r_aload_n 49 rfl 0 rfl rfl dX7_firstThen_48 ?_
      obtain ⟨g4, e5, hf⟩ := bo_so hf
      refine r_callVv 52 rfl (A_X7_putBack X h g4 e5) (by omega) cw_X7_405 sh_96 cl_7 rfl rfl (Nat.le_of_ble_eq_true rfl) dX7_firstThen_49 ?_
      refine r_iload_n 53 rfl 2 rfl rfl dX7_firstThen_52 ?_
      obtain ⟨rfl, rfl⟩ := so2 hf
      exact r_iret rfl rfl dX7_firstThen_53
    · refine r_icmp_ge_f 16 rfl 48 dX7_firstThen_13 (by decide) c3 ?_
      refine r_iload_n 17 rfl 2 rfl rfl dX7_firstThen_16 ?_
      rcases if_so hf with ⟨c6, hf⟩ | ⟨c6, hf⟩
      · refine r_if_ge_t 48 dX7_firstThen_17 (by decide) c6 ?_
        refine r_aload_n 49 rfl 0 rfl rfl dX7_firstThen_48 ?_
        obtain ⟨g7, e8, hf⟩ := bo_so hf
        refine r_callVv 52 rfl (A_X7_putBack X h g7 e8) (by omega) cw_X7_405 sh_96 cl_7 rfl rfl (Nat.le_of_ble_eq_true rfl) dX7_firstThen_49 ?_
        refine r_iload_n 53 rfl 2 rfl rfl dX7_firstThen_52 ?_
        obtain ⟨rfl, rfl⟩ := so2 hf
        exact r_iret rfl rfl dX7_firstThen_53
      · refine r_if_ge_f 20 rfl 48 dX7_firstThen_17 (by decide) c6 ?_
        refine r_aload_n 21 rfl 0 rfl rfl dX7_firstThen_20 ?_
        obtain ⟨v11, g9, e10, hf⟩ := bd_so hf
        refine r_callVi 24 rfl (A_X7_goDay X h v11 g9 e10) (by omega) cw_X7_392 sh_96 cl_7 rfl rfl (Nat.le_of_ble_eq_true rfl) dX7_firstThen_21 ?_
        refine r_istore (lv' := [(4, .int v11), (0, .ref (X.1 96)), (1, .int x1), (2, .int x2), (3, .int x3)]) 26 rfl dX7_firstThen_24 (by decide) rfl ?_
        refine r_iload 28 rfl 0 rfl dX7_firstThen_26 ?_
        rcases if_so hf with ⟨c12, hf⟩ | ⟨c12, hf⟩
        · refine r_if_ge_t 34 dX7_firstThen_28 (by decide) c12 ?_
          refine r_iload_n 35 rfl 4 rfl rfl dX7_firstThen_34 ?_
          refine r_istore_n (lv' := [(2, .int x3), (4, .int v11), (0, .ref (X.1 96)), (1, .int x1), (3, .int x3)]) 36 rfl dX7_firstThen_35 (by decide) rfl rfl ?_
          refine r_aload_n 37 rfl 2 rfl rfl dX7_firstThen_36 ?_
          refine r_iload 39 rfl 1 rfl dX7_firstThen_37 ?_
          obtain ⟨g13, e14, hf⟩ := lt_so hf
          refine r_puti 42 rfl sh_96 kd_7_43 fw_X7_142 rfl rfl dX7_firstThen_39 ?_
          refine r_heap e14 ?_
          obtain ⟨v15, e16, hf⟩ := lt_so hf
          refine r_iinc (lv' := [(3, .int v15), (2, .int x3), (4, .int v11), (0, .ref (X.1 96)), (1, .int x1)]) 45 rfl 4 dX7_firstThen_42 rfl (by rw [e16, ic_1]) (by decide) rfl ?_
          refine r_goto 11 dX7_firstThen_45 (by decide) ?_
          refine r_sub (lv' := [(0, .ref (X.1 96)), (1, .int x1), (2, .int x3), (3, .int v15)]) [3, 4, 1, 0] rfl ?_
          exact ih x1 x3 v15 g13 hf
        · refine r_if_ge_f 31 rfl 34 dX7_firstThen_28 (by decide) c12 ?_
          refine r_goto 42 dX7_firstThen_31 (by decide) ?_
          obtain ⟨v17, e18, hf⟩ := lt_so hf
          refine r_iinc (lv' := [(3, .int v17), (4, .int v11), (0, .ref (X.1 96)), (1, .int x1), (2, .int x2)]) 45 rfl 4 dX7_firstThen_42 rfl (by rw [e18, ic_1]) (by decide) rfl ?_
          refine r_goto 11 dX7_firstThen_45 (by decide) ?_
          refine r_sub (lv' := [(0, .ref (X.1 96)), (1, .int x1), (2, .int x2), (3, .int v17)]) [2, 3, 4, 0] rfl ?_
          exact ih x1 x2 v17 g9 hf
def f_X7_firstThen (x1 : Int32) (h : HP) : Option (Int32 × HP) := lt (si h 96 43 (-5)) fun g1 => f_X7_firstThen_L11 FU x1 (-5) 0 g1
set_option maxHeartbeats 4000000 in
set_option maxRecDepth 100000 in
theorem A_X7_firstThen (X : XE) (x1 : Int32) (h : HP) (r : Int32) (h' : HP) (hf : f_X7_firstThen x1 h = some (r, h')) : CC mX7_firstThen 8 X [.ref (X.1 96), .int x1] h (some (.int r)) h' := by
  refine CC_of rfl (Nat.le_of_ble_eq_true rfl) ?_
  show Run mX7_firstThen 8 X 0 [(0, .ref (X.1 96)), (1, .int x1)] [] h (some (.int r)) h'
  unfold f_X7_firstThen at hf
  refine r_bipush 2 rfl bp_m5 dX7_firstThen_0 ?_
  refine r_istore_n (lv' := [(2, .int (-5)), (0, .ref (X.1 96)), (1, .int x1)]) 3 rfl dX7_firstThen_2 (by decide) rfl rfl ?_
  refine r_aload_n 4 rfl 1 rfl rfl dX7_firstThen_3 ?_
  refine r_bipush 6 rfl bp_m5 dX7_firstThen_4 ?_
  obtain ⟨g1, e2, hf⟩ := lt_so hf
  refine r_puti 9 rfl sh_96 kd_7_43 fw_X7_142 rfl rfl dX7_firstThen_6 ?_
  refine r_heap e2 ?_
  refine r_iconst 10 rfl ic_0 dX7_firstThen_9 ?_
  refine r_istore_n (lv' := [(3, .int 0), (2, .int (-5)), (0, .ref (X.1 96)), (1, .int x1)]) 11 rfl dX7_firstThen_10 (by decide) rfl rfl ?_
  refine r_sub (lv' := [(0, .ref (X.1 96)), (1, .int x1), (2, .int (-5)), (3, .int 0)]) [2, 3, 1, 0] rfl ?_
  exact A_X7_firstThen_L11 X _ _ FU x1 (-5) 0 g1 hf
-- X7_first
def f_X7_first (x1 : Int32) (h : HP) : Option (Int32 × HP) := bo (f_X7_in x1 0 1) fun v1 => if v1 = 0 then (some ((-1), h)) else (bo (f_X7_save h) fun g4 => bd (f_X7_firstThen 61 g4) fun v8 g6 => if x1 = 0 then (some (v8, g6)) else (some ((g6.1 96 43), g6)))
set_option maxHeartbeats 4000000 in
set_option maxRecDepth 100000 in
theorem A_X7_first (X : XE) (x1 : Int32) (h : HP) (r : Int32) (h' : HP) (hf : f_X7_first x1 h = some (r, h')) : CC mX7_first 9 X [.ref (X.1 96), .int x1] h (some (.int r)) h' := by
  refine CC_of rfl (Nat.le_of_ble_eq_true rfl) ?_
  show Run mX7_first 9 X 0 [(0, .ref (X.1 96)), (1, .int x1)] [] h (some (.int r)) h'
  unfold f_X7_first at hf
  refine r_aload_n 1 rfl 0 rfl rfl dX7_first_0 ?_
  refine r_iload_n 2 rfl 1 rfl rfl dX7_first_1 ?_
  refine r_iconst 3 rfl ic_0 dX7_first_2 ?_
  refine r_iconst 4 rfl ic_1 dX7_first_3 ?_
  obtain ⟨v1, e2, hf⟩ := bo_so hf
  refine r_callVi 7 rfl (A_X7_in X x1 0 1 h v1 e2) (by omega) cw_X7_276 sh_96 cl_7 rfl rfl (Nat.le_of_ble_eq_true rfl) dX7_first_4 ?_
  rcases if_so hf with ⟨c3, hf⟩ | ⟨c3, hf⟩
  · refine r_if_ne_t 10 rfl 12 dX7_first_7 (by decide) c3 ?_
    refine r_iconst 11 rfl ic_m1 dX7_first_10 ?_
    obtain ⟨rfl, rfl⟩ := so2 hf
    exact r_iret rfl rfl dX7_first_11
  · refine r_if_ne_f 12 dX7_first_7 (by decide) c3 ?_
    refine r_aload_n 13 rfl 0 rfl rfl dX7_first_12 ?_
    obtain ⟨g4, e5, hf⟩ := bo_so hf
    refine r_callVv 16 rfl (A_X7_save X h g4 e5) (by omega) cw_X7_402 sh_96 cl_7 rfl rfl (Nat.le_of_ble_eq_true rfl) dX7_first_13 ?_
    refine r_aload_n 17 rfl 0 rfl rfl dX7_first_16 ?_
    refine r_bipush 19 rfl bp_61 dX7_first_17 ?_
    obtain ⟨v8, g6, e7, hf⟩ := bd_so hf
    refine r_callVi 22 rfl (A_X7_firstThen X 61 g4 v8 g6 e7) (by omega) cw_X7_408 sh_96 cl_7 rfl rfl (Nat.le_of_ble_eq_true rfl) dX7_first_19 ?_
    refine r_istore_n (lv' := [(2, .int v8), (0, .ref (X.1 96)), (1, .int x1)]) 23 rfl dX7_first_22 (by decide) rfl rfl ?_
    refine r_iload_n 24 rfl 2 rfl rfl dX7_first_23 ?_
    rcases if_so hf with ⟨c9, hf⟩ | ⟨c9, hf⟩
    · refine r_if_ne_t 27 rfl 31 dX7_first_24 (by decide) c9 ?_
      refine r_iload_n 28 rfl 0 rfl rfl dX7_first_27 ?_
      refine r_goto 35 dX7_first_28 (by decide) ?_
      obtain ⟨rfl, rfl⟩ := so2 hf
      exact r_iret rfl rfl dX7_first_35
    · refine r_if_ne_f 31 dX7_first_24 (by decide) c9 ?_
      refine r_aload_n 32 rfl 1 rfl rfl dX7_first_31 ?_
      refine r_geti 35 rfl sh_96 kd_7_43 fl_X7_142 dX7_first_32 ?_
      obtain ⟨rfl, rfl⟩ := so2 hf
      exact r_iret rfl rfl dX7_first_35
-- X7_port
def f_X7_port_L21 : Nat → Int32 → Int32 → HP → Option (Int32 × HP)
  | 0, _, _, _ => none
  | n + 1, x1, x2, h => if (100 : Int32) ≤ x2 then (bo (f_X7_putBack h) fun g7 => if (100 : Int32) ≤ x2 then (some ((-5), g7)) else (some (x2, g7))) else (if x1 ≤ ((h.1 96 4) - (h.1 96 37)) then (bo (f_X7_putBack h) fun g11 => if (100 : Int32) ≤ x2 then (some ((-5), g11)) else (some (x2, g11))) else (bd (f_X7_goDay h) fun v16 g14 => lt (x2 + 1 : Int32) fun v17 => f_X7_port_L21 n x1 v17 g14))
set_option maxHeartbeats 4000000 in
set_option maxRecDepth 100000 in
theorem A_X7_port_L21 (X : XE) (r : Int32) (h' : HP) : ∀ (n : Nat) (x1 : Int32) (x2 : Int32) (h : HP), f_X7_port_L21 n x1 x2 h = some (r, h') → Run mX7_port 8 X 21 [(0, .ref (X.1 96)), (1, .int x1), (2, .int x2)] [] h (some (.int r)) h' := by
  intro n
  induction n with
  | zero => intro x1 x2 h hf; cases hf
  | succ n ih =>
    intro x1 x2 h hf
    rw [f_X7_port_L21] at hf
    refine r_iload_n 22 rfl 2 rfl rfl dX7_port_21 ?_
    refine r_bipush 24 rfl bp_100 dX7_port_22 ?_
    rcases if_so hf with ⟨c6, hf⟩ | ⟨c6, hf⟩
    · refine r_icmp_ge_t 51 dX7_port_24 (by decide) c6 ?_
      refine r_aload_n 52 rfl 0 rfl rfl dX7_port_51 ?_
      obtain ⟨g7, e8, hf⟩ := bo_so hf
      refine r_callVv 55 rfl (A_X7_putBack X h g7 e8) (by omega) cw_X7_405 sh_96 cl_7 rfl rfl (Nat.le_of_ble_eq_true rfl) dX7_port_52 ?_
      refine r_iload_n 56 rfl 2 rfl rfl dX7_port_55 ?_
      refine r_bipush 58 rfl bp_100 dX7_port_56 ?_
      rcases if_so hf with ⟨c9, hf⟩ | ⟨c9, hf⟩
      · refine r_icmp_ge_t 65 dX7_port_58 (by decide) c9 ?_
        refine r_bipush 67 rfl bp_m5 dX7_port_65 ?_
        obtain ⟨rfl, rfl⟩ := so2 hf
        exact r_iret rfl rfl dX7_port_67
      · refine r_icmp_ge_f 61 rfl 65 dX7_port_58 (by decide) c9 ?_
        refine r_iload_n 62 rfl 2 rfl rfl dX7_port_61 ?_
        refine r_goto 67 dX7_port_62 (by decide) ?_
        obtain ⟨rfl, rfl⟩ := so2 hf
        exact r_iret rfl rfl dX7_port_67
    · refine r_icmp_ge_f 27 rfl 51 dX7_port_24 (by decide) c6 ?_
      refine r_aload_n 28 rfl 0 rfl rfl dX7_port_27 ?_
      refine r_geti 31 rfl sh_96 kd_7_4 fl_X7_22 dX7_port_28 ?_
      refine r_aload_n 32 rfl 0 rfl rfl dX7_port_31 ?_
      refine r_geti 35 rfl sh_96 kd_7_37 fl_X7_124 dX7_port_32 ?_
      refine r_isub 36 rfl dX7_port_35 ?_
      refine r_iload_n 37 rfl 1 rfl rfl dX7_port_36 ?_
      rcases if_so hf with ⟨c10, hf⟩ | ⟨c10, hf⟩
      · refine r_icmp_ge_t 51 dX7_port_37 (by decide) c10 ?_
        refine r_aload_n 52 rfl 0 rfl rfl dX7_port_51 ?_
        obtain ⟨g11, e12, hf⟩ := bo_so hf
        refine r_callVv 55 rfl (A_X7_putBack X h g11 e12) (by omega) cw_X7_405 sh_96 cl_7 rfl rfl (Nat.le_of_ble_eq_true rfl) dX7_port_52 ?_
        refine r_iload_n 56 rfl 2 rfl rfl dX7_port_55 ?_
        refine r_bipush 58 rfl bp_100 dX7_port_56 ?_
        rcases if_so hf with ⟨c13, hf⟩ | ⟨c13, hf⟩
        · refine r_icmp_ge_t 65 dX7_port_58 (by decide) c13 ?_
          refine r_bipush 67 rfl bp_m5 dX7_port_65 ?_
          obtain ⟨rfl, rfl⟩ := so2 hf
          exact r_iret rfl rfl dX7_port_67
        · refine r_icmp_ge_f 61 rfl 65 dX7_port_58 (by decide) c13 ?_
          refine r_iload_n 62 rfl 2 rfl rfl dX7_port_61 ?_
          refine r_goto 67 dX7_port_62 (by decide) ?_
          obtain ⟨rfl, rfl⟩ := so2 hf
          exact r_iret rfl rfl dX7_port_67
      · refine r_icmp_ge_f 40 rfl 51 dX7_port_37 (by decide) c10 ?_
        refine r_aload_n 41 rfl 0 rfl rfl dX7_port_40 ?_
        obtain ⟨v16, g14, e15, hf⟩ := bd_so hf
        refine r_callVi 44 rfl (A_X7_goDay X h v16 g14 e15) (by omega) cw_X7_392 sh_96 cl_7 rfl rfl (Nat.le_of_ble_eq_true rfl) dX7_port_41 ?_
        refine r_pop 45 rfl rfl dX7_port_44 ?_
        obtain ⟨v17, e18, hf⟩ := lt_so hf
        refine r_iinc (lv' := [(2, .int v17), (0, .ref (X.1 96)), (1, .int x1)]) 48 rfl 2 dX7_port_45 rfl (by rw [e18, ic_1]) (by decide) rfl ?_
        refine r_goto 21 dX7_port_48 (by decide) ?_
        refine r_sub (lv' := [(0, .ref (X.1 96)), (1, .int x1), (2, .int v17)]) [1, 2, 0] rfl ?_
        exact ih x1 v17 g14 hf
def f_X7_port (x1 : Int32) (h : HP) : Option (Int32 × HP) := bo (f_X7_in x1 0 9999) fun v1 => if v1 = 0 then (some ((-2), h)) else (bo (f_X7_save h) fun g4 => f_X7_port_L21 FU x1 0 g4)
set_option maxHeartbeats 4000000 in
set_option maxRecDepth 100000 in
theorem A_X7_port (X : XE) (x1 : Int32) (h : HP) (r : Int32) (h' : HP) (hf : f_X7_port x1 h = some (r, h')) : CC mX7_port 8 X [.ref (X.1 96), .int x1] h (some (.int r)) h' := by
  refine CC_of rfl (Nat.le_of_ble_eq_true rfl) ?_
  show Run mX7_port 8 X 0 [(0, .ref (X.1 96)), (1, .int x1)] [] h (some (.int r)) h'
  unfold f_X7_port at hf
  refine r_aload_n 1 rfl 0 rfl rfl dX7_port_0 ?_
  refine r_iload_n 2 rfl 1 rfl rfl dX7_port_1 ?_
  refine r_iconst 3 rfl ic_0 dX7_port_2 ?_
  refine r_sipush 6 rfl sp_9999 dX7_port_3 ?_
  obtain ⟨v1, e2, hf⟩ := bo_so hf
  refine r_callVi 9 rfl (A_X7_in X x1 0 9999 h v1 e2) (by omega) cw_X7_276 sh_96 cl_7 rfl rfl (Nat.le_of_ble_eq_true rfl) dX7_port_6 ?_
  rcases if_so hf with ⟨c3, hf⟩ | ⟨c3, hf⟩
  · refine r_if_ne_t 12 rfl 15 dX7_port_9 (by decide) c3 ?_
    refine r_bipush 14 rfl bp_m2 dX7_port_12 ?_
    obtain ⟨rfl, rfl⟩ := so2 hf
    exact r_iret rfl rfl dX7_port_14
  · refine r_if_ne_f 15 dX7_port_9 (by decide) c3 ?_
    refine r_aload_n 16 rfl 0 rfl rfl dX7_port_15 ?_
    obtain ⟨g4, e5, hf⟩ := bo_so hf
    refine r_callVv 19 rfl (A_X7_save X h g4 e5) (by omega) cw_X7_402 sh_96 cl_7 rfl rfl (Nat.le_of_ble_eq_true rfl) dX7_port_16 ?_
    refine r_iconst 20 rfl ic_0 dX7_port_19 ?_
    refine r_istore_n (lv' := [(2, .int 0), (0, .ref (X.1 96)), (1, .int x1)]) 21 rfl dX7_port_20 (by decide) rfl rfl ?_
    refine r_sub (lv' := [(0, .ref (X.1 96)), (1, .int x1), (2, .int 0)]) [1, 2, 0] rfl ?_
    exact A_X7_port_L21 X _ _ FU x1 0 g4 hf
-- X7_wentThen
def f_X7_wentThen (x1 : Int32) (h : HP) : Option (Int32 × HP) := bo (f_X7_goDays x1 h) fun g1 => lt (((g1.1 96 4) - (g1.1 96 37)) : Int32) fun v3 => bo (f_X7_putBack g1) fun g5 => some (v3, g5)
set_option maxHeartbeats 4000000 in
set_option maxRecDepth 100000 in
theorem A_X7_wentThen (X : XE) (x1 : Int32) (h : HP) (r : Int32) (h' : HP) (hf : f_X7_wentThen x1 h = some (r, h')) : CC mX7_wentThen 9 X [.ref (X.1 96), .int x1] h (some (.int r)) h' := by
  refine CC_of rfl (Nat.le_of_ble_eq_true rfl) ?_
  show Run mX7_wentThen 9 X 0 [(0, .ref (X.1 96)), (1, .int x1)] [] h (some (.int r)) h'
  unfold f_X7_wentThen at hf
  refine r_aload_n 1 rfl 0 rfl rfl dX7_wentThen_0 ?_
  refine r_iload_n 2 rfl 1 rfl rfl dX7_wentThen_1 ?_
  obtain ⟨g1, e2, hf⟩ := bo_so hf
  refine r_callVv 5 rfl (A_X7_goDays X x1 h g1 e2) (by omega) cw_X7_398 sh_96 cl_7 rfl rfl (Nat.le_of_ble_eq_true rfl) dX7_wentThen_2 ?_
  refine r_aload_n 6 rfl 0 rfl rfl dX7_wentThen_5 ?_
  refine r_geti 9 rfl sh_96 kd_7_4 fl_X7_22 dX7_wentThen_6 ?_
  refine r_aload_n 10 rfl 0 rfl rfl dX7_wentThen_9 ?_
  refine r_geti 13 rfl sh_96 kd_7_37 fl_X7_124 dX7_wentThen_10 ?_
  refine r_isub 14 rfl dX7_wentThen_13 ?_
  obtain ⟨v3, e4, hf⟩ := lt_so hf
  refine r_top e4 ?_
  refine r_istore_n (lv' := [(2, .int v3), (0, .ref (X.1 96)), (1, .int x1)]) 15 rfl dX7_wentThen_14 (by decide) rfl rfl ?_
  refine r_aload_n 16 rfl 1 rfl rfl dX7_wentThen_15 ?_
  obtain ⟨g5, e6, hf⟩ := bo_so hf
  refine r_callVv 19 rfl (A_X7_putBack X g1 g5 e6) (by omega) cw_X7_405 sh_96 cl_7 rfl rfl (Nat.le_of_ble_eq_true rfl) dX7_wentThen_16 ?_
  refine r_iload_n 20 rfl 0 rfl rfl dX7_wentThen_19 ?_
  obtain ⟨rfl, rfl⟩ := so2 hf
  exact r_iret rfl rfl dX7_wentThen_20
-- X7_spread
def f_X7_spread_L6 : Nat → Int32 → Int32 → Int32 → HP → Option (Int32 × HP)
  | 0, _, _, _, _ => none
  | n + 1, x1, x2, x3, h => if (10 : Int32) ≤ x3 then (some (x1, h)) else (bo (f_X7_save h) fun g2 => lt (si g2 96 2 x3) fun g4 => bd (f_X7_wentThen 30 g4) fun v8 g6 => if x2 < v8 then (lt (x3 + 1 : Int32) fun v10 => f_X7_spread_L6 n x3 v8 v10 g6) else (lt (x3 + 1 : Int32) fun v12 => f_X7_spread_L6 n x1 x2 v12 g6))
set_option maxHeartbeats 4000000 in
set_option maxRecDepth 100000 in
theorem A_X7_spread_L6 (X : XE) (r : Int32) (h' : HP) : ∀ (n : Nat) (x1 : Int32) (x2 : Int32) (x3 : Int32) (h : HP), f_X7_spread_L6 n x1 x2 x3 h = some (r, h') → Run mX7_spread 10 X 6 [(0, .ref (X.1 96)), (1, .int x1), (2, .int x2), (3, .int x3)] [] h (some (.int r)) h' := by
  intro n
  induction n with
  | zero => intro x1 x2 x3 h hf; cases hf
  | succ n ih =>
    intro x1 x2 x3 h hf
    rw [f_X7_spread_L6] at hf
    refine r_iload_n 7 rfl 3 rfl rfl dX7_spread_6 ?_
    refine r_bipush 9 rfl bp_10 dX7_spread_7 ?_
    rcases if_so hf with ⟨c1, hf⟩ | ⟨c1, hf⟩
    · refine r_icmp_ge_t 49 dX7_spread_9 (by decide) c1 ?_
      refine r_iload_n 50 rfl 1 rfl rfl dX7_spread_49 ?_
      obtain ⟨rfl, rfl⟩ := so2 hf
      exact r_iret rfl rfl dX7_spread_50
    · refine r_icmp_ge_f 12 rfl 49 dX7_spread_9 (by decide) c1 ?_
      refine r_aload_n 13 rfl 0 rfl rfl dX7_spread_12 ?_
      obtain ⟨g2, e3, hf⟩ := bo_so hf
      refine r_callVv 16 rfl (A_X7_save X h g2 e3) (by omega) cw_X7_402 sh_96 cl_7 rfl rfl (Nat.le_of_ble_eq_true rfl) dX7_spread_13 ?_
      refine r_aload_n 17 rfl 0 rfl rfl dX7_spread_16 ?_
      refine r_iload_n 18 rfl 3 rfl rfl dX7_spread_17 ?_
      obtain ⟨g4, e5, hf⟩ := lt_so hf
      refine r_puti 21 rfl sh_96 kd_7_2 fw_X7_16 rfl rfl dX7_spread_18 ?_
      refine r_heap e5 ?_
      refine r_aload_n 22 rfl 0 rfl rfl dX7_spread_21 ?_
      refine r_bipush 24 rfl bp_30 dX7_spread_22 ?_
      obtain ⟨v8, g6, e7, hf⟩ := bd_so hf
      refine r_callVi 27 rfl (A_X7_wentThen X 30 g4 v8 g6 e7) (by omega) cw_X7_411 sh_96 cl_7 rfl rfl (Nat.le_of_ble_eq_true rfl) dX7_spread_24 ?_
      refine r_istore (lv' := [(4, .int v8), (0, .ref (X.1 96)), (1, .int x1), (2, .int x2), (3, .int x3)]) 29 rfl dX7_spread_27 (by decide) rfl ?_
      refine r_iload 31 rfl 0 rfl dX7_spread_29 ?_
      refine r_iload_n 32 rfl 3 rfl rfl dX7_spread_31 ?_
      rcases if_so hf with ⟨c9, hf⟩ | ⟨c9, hf⟩
      · refine r_icmp_gt_t 38 dX7_spread_32 (by decide) c9 ?_
        refine r_iload_n 39 rfl 4 rfl rfl dX7_spread_38 ?_
        refine r_istore_n (lv' := [(1, .int x3), (4, .int v8), (0, .ref (X.1 96)), (2, .int x2), (3, .int x3)]) 40 rfl dX7_spread_39 (by decide) rfl rfl ?_
        refine r_iload 42 rfl 1 rfl dX7_spread_40 ?_
        refine r_istore_n (lv' := [(2, .int v8), (1, .int x3), (4, .int v8), (0, .ref (X.1 96)), (3, .int x3)]) 43 rfl dX7_spread_42 (by decide) rfl rfl ?_
        obtain ⟨v10, e11, hf⟩ := lt_so hf
        refine r_iinc (lv' := [(3, .int v10), (2, .int v8), (1, .int x3), (4, .int v8), (0, .ref (X.1 96))]) 46 rfl 4 dX7_spread_43 rfl (by rw [e11, ic_1]) (by decide) rfl ?_
        refine r_goto 6 dX7_spread_46 (by decide) ?_
        refine r_sub (lv' := [(0, .ref (X.1 96)), (1, .int x3), (2, .int v8), (3, .int v10)]) [4, 2, 1, 0] rfl ?_
        exact ih x3 v8 v10 g6 hf
      · refine r_icmp_gt_f 35 rfl 38 dX7_spread_32 (by decide) c9 ?_
        refine r_goto 43 dX7_spread_35 (by decide) ?_
        obtain ⟨v12, e13, hf⟩ := lt_so hf
        refine r_iinc (lv' := [(3, .int v12), (4, .int v8), (0, .ref (X.1 96)), (1, .int x1), (2, .int x2)]) 46 rfl 4 dX7_spread_43 rfl (by rw [e13, ic_1]) (by decide) rfl ?_
        refine r_goto 6 dX7_spread_46 (by decide) ?_
        refine r_sub (lv' := [(0, .ref (X.1 96)), (1, .int x1), (2, .int x2), (3, .int v12)]) [2, 3, 4, 0] rfl ?_
        exact ih x1 x2 v12 g6 hf
def f_X7_spread (h : HP) : Option (Int32 × HP) := f_X7_spread_L6 FU 0 (-1) 0 h
set_option maxHeartbeats 4000000 in
set_option maxRecDepth 100000 in
theorem A_X7_spread (X : XE) (h : HP) (r : Int32) (h' : HP) (hf : f_X7_spread h = some (r, h')) : CC mX7_spread 10 X [.ref (X.1 96)] h (some (.int r)) h' := by
  refine CC_of rfl (Nat.le_of_ble_eq_true rfl) ?_
  show Run mX7_spread 10 X 0 [(0, .ref (X.1 96))] [] h (some (.int r)) h'
  unfold f_X7_spread at hf
  refine r_iconst 1 rfl ic_0 dX7_spread_0 ?_
  refine r_istore_n (lv' := [(1, .int 0), (0, .ref (X.1 96))]) 2 rfl dX7_spread_1 (by decide) rfl rfl ?_
  refine r_iconst 3 rfl ic_m1 dX7_spread_2 ?_
  refine r_istore_n (lv' := [(2, .int (-1)), (1, .int 0), (0, .ref (X.1 96))]) 4 rfl dX7_spread_3 (by decide) rfl rfl ?_
  refine r_iconst 5 rfl ic_0 dX7_spread_4 ?_
  refine r_istore_n (lv' := [(3, .int 0), (2, .int (-1)), (1, .int 0), (0, .ref (X.1 96))]) 6 rfl dX7_spread_5 (by decide) rfl rfl ?_
  refine r_sub (lv' := [(0, .ref (X.1 96)), (1, .int 0), (2, .int (-1)), (3, .int 0)]) [3, 2, 1, 0] rfl ?_
  exact A_X7_spread_L6 X _ _ FU 0 (-1) 0 h hf
-- X7_fewest
def f_X7_fewest_L16 : Nat → Int32 → Int32 → HP → Option (Int32 × HP)
  | 0, _, _, _ => none
  | n + 1, x1, x2, h => if (10 : Int32) ≤ x2 then (some ((-5), h)) else (bo (f_X7_save h) fun g5 => lt (si g5 96 3 x2) fun g7 => bd (f_X7_firstThen x1 g7) fun v11 g9 => if (0 : Int32) ≤ v11 then (lt (x2 + 1 : Int32) fun v13 => f_X7_fewest_L16 n x1 v13 g9) else (some (x2, g9)))
set_option maxHeartbeats 4000000 in
set_option maxRecDepth 100000 in
theorem A_X7_fewest_L16 (X : XE) (r : Int32) (h' : HP) : ∀ (n : Nat) (x1 : Int32) (x2 : Int32) (h : HP), f_X7_fewest_L16 n x1 x2 h = some (r, h') → Run mX7_fewest 9 X 16 [(0, .ref (X.1 96)), (1, .int x1), (2, .int x2)] [] h (some (.int r)) h' := by
  intro n
  induction n with
  | zero => intro x1 x2 h hf; cases hf
  | succ n ih =>
    intro x1 x2 h hf
    rw [f_X7_fewest_L16] at hf
    refine r_iload_n 17 rfl 2 rfl rfl dX7_fewest_16 ?_
    refine r_bipush 19 rfl bp_10 dX7_fewest_17 ?_
    rcases if_so hf with ⟨c4, hf⟩ | ⟨c4, hf⟩
    · refine r_icmp_ge_t 47 dX7_fewest_19 (by decide) c4 ?_
      refine r_bipush 49 rfl bp_m5 dX7_fewest_47 ?_
      obtain ⟨rfl, rfl⟩ := so2 hf
      exact r_iret rfl rfl dX7_fewest_49
    · refine r_icmp_ge_f 22 rfl 47 dX7_fewest_19 (by decide) c4 ?_
      refine r_aload_n 23 rfl 0 rfl rfl dX7_fewest_22 ?_
      obtain ⟨g5, e6, hf⟩ := bo_so hf
      refine r_callVv 26 rfl (A_X7_save X h g5 e6) (by omega) cw_X7_402 sh_96 cl_7 rfl rfl (Nat.le_of_ble_eq_true rfl) dX7_fewest_23 ?_
      refine r_aload_n 27 rfl 0 rfl rfl dX7_fewest_26 ?_
      refine r_iload_n 28 rfl 2 rfl rfl dX7_fewest_27 ?_
      obtain ⟨g7, e8, hf⟩ := lt_so hf
      refine r_puti 31 rfl sh_96 kd_7_3 fw_X7_19 rfl rfl dX7_fewest_28 ?_
      refine r_heap e8 ?_
      refine r_aload_n 32 rfl 0 rfl rfl dX7_fewest_31 ?_
      refine r_iload_n 33 rfl 1 rfl rfl dX7_fewest_32 ?_
      obtain ⟨v11, g9, e10, hf⟩ := bd_so hf
      refine r_callVi 36 rfl (A_X7_firstThen X x1 g7 v11 g9 e10) (by omega) cw_X7_408 sh_96 cl_7 rfl rfl (Nat.le_of_ble_eq_true rfl) dX7_fewest_33 ?_
      rcases if_so hf with ⟨c12, hf⟩ | ⟨c12, hf⟩
      · refine r_if_ge_t 41 dX7_fewest_36 (by decide) c12 ?_
        obtain ⟨v13, e14, hf⟩ := lt_so hf
        refine r_iinc (lv' := [(2, .int v13), (0, .ref (X.1 96)), (1, .int x1)]) 44 rfl 2 dX7_fewest_41 rfl (by rw [e14, ic_1]) (by decide) rfl ?_
        refine r_goto 16 dX7_fewest_44 (by decide) ?_
        refine r_sub (lv' := [(0, .ref (X.1 96)), (1, .int x1), (2, .int v13)]) [1, 2, 0] rfl ?_
        exact ih x1 v13 g9 hf
      · refine r_if_ge_f 39 rfl 41 dX7_fewest_36 (by decide) c12 ?_
        refine r_iload_n 40 rfl 2 rfl rfl dX7_fewest_39 ?_
        obtain ⟨rfl, rfl⟩ := so2 hf
        exact r_iret rfl rfl dX7_fewest_40
def f_X7_fewest (x1 : Int32) (h : HP) : Option (Int32 × HP) := bo (f_X7_in x1 1 30) fun v1 => if v1 = 0 then (some ((-2), h)) else (f_X7_fewest_L16 FU x1 0 h)
set_option maxHeartbeats 4000000 in
set_option maxRecDepth 100000 in
theorem A_X7_fewest (X : XE) (x1 : Int32) (h : HP) (r : Int32) (h' : HP) (hf : f_X7_fewest x1 h = some (r, h')) : CC mX7_fewest 9 X [.ref (X.1 96), .int x1] h (some (.int r)) h' := by
  refine CC_of rfl (Nat.le_of_ble_eq_true rfl) ?_
  show Run mX7_fewest 9 X 0 [(0, .ref (X.1 96)), (1, .int x1)] [] h (some (.int r)) h'
  unfold f_X7_fewest at hf
  refine r_aload_n 1 rfl 0 rfl rfl dX7_fewest_0 ?_
  refine r_iload_n 2 rfl 1 rfl rfl dX7_fewest_1 ?_
  refine r_iconst 3 rfl ic_1 dX7_fewest_2 ?_
  refine r_bipush 5 rfl bp_30 dX7_fewest_3 ?_
  obtain ⟨v1, e2, hf⟩ := bo_so hf
  refine r_callVi 8 rfl (A_X7_in X x1 1 30 h v1 e2) (by omega) cw_X7_276 sh_96 cl_7 rfl rfl (Nat.le_of_ble_eq_true rfl) dX7_fewest_5 ?_
  rcases if_so hf with ⟨c3, hf⟩ | ⟨c3, hf⟩
  · refine r_if_ne_t 11 rfl 14 dX7_fewest_8 (by decide) c3 ?_
    refine r_bipush 13 rfl bp_m2 dX7_fewest_11 ?_
    obtain ⟨rfl, rfl⟩ := so2 hf
    exact r_iret rfl rfl dX7_fewest_13
  · refine r_if_ne_f 14 dX7_fewest_8 (by decide) c3 ?_
    refine r_iconst 15 rfl ic_0 dX7_fewest_14 ?_
    refine r_istore_n (lv' := [(2, .int 0), (0, .ref (X.1 96)), (1, .int x1)]) 16 rfl dX7_fewest_15 (by decide) rfl rfl ?_
    refine r_sub (lv' := [(0, .ref (X.1 96)), (1, .int x1), (2, .int 0)]) [1, 2, 0] rfl ?_
    exact A_X7_fewest_L16 X _ _ FU x1 0 h hf
-- X7_tries
def f_X7_tries_J100 (x2 : Int32) (x3 : Int32) (x4 : Int32) (x5 : Int32) (x7 : Int32) (h : HP) : Option HP := lt (si h 96 45 x2) fun g24 => lt (si g24 96 46 x7) fun g26 => gd (inb 0 3) (lt (si g26 119 (Int32.toNatClampNeg 0) x3) fun g29 => gd (inb 1 3) (lt (si g29 119 (Int32.toNatClampNeg 1) x4) fun g32 => gd (inb 2 3) (lt (si g32 119 (Int32.toNatClampNeg 2) x5) fun g35 => some g35)))
set_option maxHeartbeats 4000000 in
set_option maxRecDepth 100000 in
theorem A_X7_tries_J100 (X : XE) (h' : HP) (x2 : Int32) (x3 : Int32) (x4 : Int32) (x5 : Int32) (x7 : Int32) (h : HP) (hf : f_X7_tries_J100 x2 x3 x4 x5 x7 h = some h') : Run mX7_tries 10 X 100 [(0, .ref (X.1 96)), (2, .int x2), (3, .int x3), (4, .int x4), (5, .int x5), (7, .int x7)] [] h none h' := by
  unfold f_X7_tries_J100 at hf
  refine r_aload_n 101 rfl 0 rfl rfl dX7_tries_100 ?_
  refine r_iload_n 102 rfl 1 rfl rfl dX7_tries_101 ?_
  obtain ⟨g24, e25, hf⟩ := lt_so hf
  refine r_puti 105 rfl sh_96 kd_7_45 fw_X7_148 rfl rfl dX7_tries_102 ?_
  refine r_heap e25 ?_
  refine r_aload_n 106 rfl 0 rfl rfl dX7_tries_105 ?_
  refine r_iload 108 rfl 5 rfl dX7_tries_106 ?_
  obtain ⟨g26, e27, hf⟩ := lt_so hf
  refine r_puti 111 rfl sh_96 kd_7_46 fw_X7_151 rfl rfl dX7_tries_108 ?_
  refine r_heap e27 ?_
  refine r_aload_n 112 rfl 0 rfl rfl dX7_tries_111 ?_
  refine r_getr (q := 119) 115 rfl (lq_7_44) sh_96 kd_7_44 fl_X7_145 dX7_tries_112 ?_
  refine r_iconst 116 rfl ic_0 dX7_tries_115 ?_
  refine r_iload_n 117 rfl 2 rfl rfl dX7_tries_116 ?_
  obtain ⟨b28, hf⟩ := gd_so hf
  obtain ⟨g29, e30, hf⟩ := lt_so hf
  refine r_iast 118 rfl sh_119 (inb_vp b28) dX7_tries_117 ?_
  refine r_heap e30 ?_
  refine r_aload_n 119 rfl 0 rfl rfl dX7_tries_118 ?_
  refine r_getr (q := 119) 122 rfl (lq_7_44) sh_96 kd_7_44 fl_X7_145 dX7_tries_119 ?_
  refine r_iconst 123 rfl ic_1 dX7_tries_122 ?_
  refine r_iload 125 rfl 3 rfl dX7_tries_123 ?_
  obtain ⟨b31, hf⟩ := gd_so hf
  obtain ⟨g32, e33, hf⟩ := lt_so hf
  refine r_iast 126 rfl sh_119 (inb_vp b31) dX7_tries_125 ?_
  refine r_heap e33 ?_
  refine r_aload_n 127 rfl 0 rfl rfl dX7_tries_126 ?_
  refine r_getr (q := 119) 130 rfl (lq_7_44) sh_96 kd_7_44 fl_X7_145 dX7_tries_127 ?_
  refine r_iconst 131 rfl ic_2 dX7_tries_130 ?_
  refine r_iload 133 rfl 4 rfl dX7_tries_131 ?_
  obtain ⟨b34, hf⟩ := gd_so hf
  obtain ⟨g35, e36, hf⟩ := lt_so hf
  refine r_iast 134 rfl sh_119 (inb_vp b34) dX7_tries_133 ?_
  refine r_heap e36 ?_
  obtain rfl := so1 hf
  exact r_vret rfl dX7_tries_134
def f_X7_tries_J67 (x1 : Int32) (x2 : Int32) (x3 : Int32) (x4 : Int32) (x5 : Int32) (x6 : Int32) (s0 : Int32) (h : HP) : Option HP := if x1 = 1 then (bo (f_X7_putBack h) fun g20 => if x6 = 0 then (some g20) else (if (g20.1 96 45) ≤ 0 then (f_X7_tries_J100 x2 x3 x4 x5 s0 g20) else (if (g20.1 96 46) < s0 then (f_X7_tries_J100 x2 x3 x4 x5 s0 g20) else (some g20)))) else (if x6 = 0 then (some h) else (if (h.1 96 45) ≤ 0 then (f_X7_tries_J100 x2 x3 x4 x5 s0 h) else (if (h.1 96 46) < s0 then (f_X7_tries_J100 x2 x3 x4 x5 s0 h) else (some h))))
set_option maxHeartbeats 4000000 in
set_option maxRecDepth 100000 in
theorem A_X7_tries_J67 (X : XE) (h' : HP) (x1 : Int32) (x2 : Int32) (x3 : Int32) (x4 : Int32) (x5 : Int32) (x6 : Int32) (s0 : Int32) (h : HP) (hf : f_X7_tries_J67 x1 x2 x3 x4 x5 x6 s0 h = some h') : Run mX7_tries 10 X 67 [(0, .ref (X.1 96)), (1, .int x1), (2, .int x2), (3, .int x3), (4, .int x4), (5, .int x5), (6, .int x6)] [.int s0] h none h' := by
  unfold f_X7_tries_J67 at hf
  refine r_istore (lv' := [(7, .int s0), (0, .ref (X.1 96)), (1, .int x1), (2, .int x2), (3, .int x3), (4, .int x4), (5, .int x5), (6, .int x6)]) 69 rfl dX7_tries_67 (by decide) rfl ?_
  refine r_iload_n 70 rfl 2 rfl rfl dX7_tries_69 ?_
  refine r_iconst 71 rfl ic_1 dX7_tries_70 ?_
  rcases if_so hf with ⟨c19, hf⟩ | ⟨c19, hf⟩
  · refine r_icmp_ne_t 74 rfl 78 dX7_tries_71 (by decide) c19 ?_
    refine r_aload_n 75 rfl 1 rfl rfl dX7_tries_74 ?_
    obtain ⟨g20, e21, hf⟩ := bo_so hf
    refine r_callVv 78 rfl (A_X7_putBack X h g20 e21) (by omega) cw_X7_405 sh_96 cl_7 rfl rfl (Nat.le_of_ble_eq_true rfl) dX7_tries_75 ?_
    refine r_iload 80 rfl 7 rfl dX7_tries_78 ?_
    rcases if_so hf with ⟨c22, hf⟩ | ⟨c22, hf⟩
    · refine r_if_eq_t 99 dX7_tries_80 (by decide) c22 ?_
      obtain rfl := so1 hf
      exact r_vret rfl dX7_tries_99
    · refine r_if_eq_f 83 rfl 99 dX7_tries_80 (by decide) c22 ?_
      refine r_aload_n 84 rfl 1 rfl rfl dX7_tries_83 ?_
      refine r_geti 87 rfl sh_96 kd_7_45 fl_X7_148 dX7_tries_84 ?_
      rcases if_so hf with ⟨c23, hf⟩ | ⟨c23, hf⟩
      · refine r_if_le_t 100 dX7_tries_87 (by decide) c23 ?_
        refine r_sub (lv' := [(0, .ref (X.1 96)), (2, .int x2), (3, .int x3), (4, .int x4), (5, .int x5), (7, .int s0)]) [1, 3, 4, 5, 6, 0] rfl ?_
        exact A_X7_tries_J100 X _ x2 x3 x4 x5 s0 g20 hf
      · refine r_if_le_f 90 rfl 100 dX7_tries_87 (by decide) c23 ?_
        refine r_iload 92 rfl 0 rfl dX7_tries_90 ?_
        refine r_aload_n 93 rfl 1 rfl rfl dX7_tries_92 ?_
        refine r_geti 96 rfl sh_96 kd_7_46 fl_X7_151 dX7_tries_93 ?_
        rcases if_so hf with ⟨c37, hf⟩ | ⟨c37, hf⟩
        · refine r_icmp_gt_t 100 dX7_tries_96 (by decide) c37 ?_
          refine r_sub (lv' := [(0, .ref (X.1 96)), (2, .int x2), (3, .int x3), (4, .int x4), (5, .int x5), (7, .int s0)]) [1, 3, 4, 5, 6, 0] rfl ?_
          exact A_X7_tries_J100 X _ x2 x3 x4 x5 s0 g20 hf
        · refine r_icmp_gt_f 99 rfl 100 dX7_tries_96 (by decide) c37 ?_
          obtain rfl := so1 hf
          exact r_vret rfl dX7_tries_99
  · refine r_icmp_ne_f 78 dX7_tries_71 (by decide) c19 ?_
    refine r_iload 80 rfl 7 rfl dX7_tries_78 ?_
    rcases if_so hf with ⟨c38, hf⟩ | ⟨c38, hf⟩
    · refine r_if_eq_t 99 dX7_tries_80 (by decide) c38 ?_
      obtain rfl := so1 hf
      exact r_vret rfl dX7_tries_99
    · refine r_if_eq_f 83 rfl 99 dX7_tries_80 (by decide) c38 ?_
      refine r_aload_n 84 rfl 1 rfl rfl dX7_tries_83 ?_
      refine r_geti 87 rfl sh_96 kd_7_45 fl_X7_148 dX7_tries_84 ?_
      rcases if_so hf with ⟨c39, hf⟩ | ⟨c39, hf⟩
      · refine r_if_le_t 100 dX7_tries_87 (by decide) c39 ?_
        refine r_sub (lv' := [(0, .ref (X.1 96)), (2, .int x2), (3, .int x3), (4, .int x4), (5, .int x5), (7, .int s0)]) [1, 3, 4, 5, 6, 0] rfl ?_
        exact A_X7_tries_J100 X _ x2 x3 x4 x5 s0 h hf
      · refine r_if_le_f 90 rfl 100 dX7_tries_87 (by decide) c39 ?_
        refine r_iload 92 rfl 0 rfl dX7_tries_90 ?_
        refine r_aload_n 93 rfl 1 rfl rfl dX7_tries_92 ?_
        refine r_geti 96 rfl sh_96 kd_7_46 fl_X7_151 dX7_tries_93 ?_
        rcases if_so hf with ⟨c40, hf⟩ | ⟨c40, hf⟩
        · refine r_icmp_gt_t 100 dX7_tries_96 (by decide) c40 ?_
          refine r_sub (lv' := [(0, .ref (X.1 96)), (2, .int x2), (3, .int x3), (4, .int x4), (5, .int x5), (7, .int s0)]) [1, 3, 4, 5, 6, 0] rfl ?_
          exact A_X7_tries_J100 X _ x2 x3 x4 x5 s0 h hf
        · refine r_icmp_gt_f 99 rfl 100 dX7_tries_96 (by decide) c40 ?_
          obtain rfl := so1 hf
          exact r_vret rfl dX7_tries_99
def f_X7_tries (x1 : Int32) (x2 : Int32) (x3 : Int32) (x4 : Int32) (x5 : Int32) (h : HP) : Option HP := bo (f_X7_save h) fun g1 => lt (si g1 96 1 x2) fun g3 => gd (inb 0 3) (lt (si g3 103 (Int32.toNatClampNeg 0) x3) fun g6 => gd (inb 1 3) (lt (si g6 103 (Int32.toNatClampNeg 1) x4) fun g9 => gd (inb 2 3) (lt (si g9 103 (Int32.toNatClampNeg 2) x5) fun g12 => if x1 = 0 then (if x1 = 0 then (bd (f_X7_wentThen 10 g12) fun v18 g16 => f_X7_tries_J67 x1 x2 x3 x4 x5 1 v18 g16) else (bo (f_X7_height g12) fun v41 => f_X7_tries_J67 x1 x2 x3 x4 x5 1 v41 g12)) else (bd (f_X7_breaksAt g12) fun v45 g43 => if (0 : Int32) ≤ v45 then (if x1 = 0 then (bd (f_X7_wentThen 10 g43) fun v50 g48 => f_X7_tries_J67 x1 x2 x3 x4 x5 0 v50 g48) else (bo (f_X7_height g43) fun v51 => f_X7_tries_J67 x1 x2 x3 x4 x5 0 v51 g43)) else (if x1 = 0 then (bd (f_X7_wentThen 10 g43) fun v56 g54 => f_X7_tries_J67 x1 x2 x3 x4 x5 1 v56 g54) else (bo (f_X7_height g43) fun v57 => f_X7_tries_J67 x1 x2 x3 x4 x5 1 v57 g43))))))
set_option maxHeartbeats 4000000 in
set_option maxRecDepth 100000 in
theorem A_X7_tries (X : XE) (x1 : Int32) (x2 : Int32) (x3 : Int32) (x4 : Int32) (x5 : Int32) (h : HP) (h' : HP) (hf : f_X7_tries x1 x2 x3 x4 x5 h = some h') : CC mX7_tries 10 X [.ref (X.1 96), .int x1, .int x2, .int x3, .int x4, .int x5] h none h' := by
  refine CC_of rfl (Nat.le_of_ble_eq_true rfl) ?_
  show Run mX7_tries 10 X 0 [(0, .ref (X.1 96)), (1, .int x1), (2, .int x2), (3, .int x3), (4, .int x4), (5, .int x5)] [] h none h'
  unfold f_X7_tries at hf
  refine r_aload_n 1 rfl 0 rfl rfl dX7_tries_0 ?_
  obtain ⟨g1, e2, hf⟩ := bo_so hf
  refine r_callVv 4 rfl (A_X7_save X h g1 e2) (by omega) cw_X7_402 sh_96 cl_7 rfl rfl (Nat.le_of_ble_eq_true rfl) dX7_tries_1 ?_
  refine r_aload_n 5 rfl 0 rfl rfl dX7_tries_4 ?_
  refine r_iload_n 6 rfl 2 rfl rfl dX7_tries_5 ?_
  obtain ⟨g3, e4, hf⟩ := lt_so hf
  refine r_puti 9 rfl sh_96 kd_7_1 fw_X7_13 rfl rfl dX7_tries_6 ?_
  refine r_heap e4 ?_
  refine r_aload_n 10 rfl 0 rfl rfl dX7_tries_9 ?_
  refine r_getr (q := 103) 13 rfl (lq_7_12) sh_96 kd_7_12 fl_X7_47 dX7_tries_10 ?_
  refine r_iconst 14 rfl ic_0 dX7_tries_13 ?_
  refine r_iload_n 15 rfl 3 rfl rfl dX7_tries_14 ?_
  obtain ⟨b5, hf⟩ := gd_so hf
  obtain ⟨g6, e7, hf⟩ := lt_so hf
  refine r_iast 16 rfl sh_103 (inb_vp b5) dX7_tries_15 ?_
  refine r_heap e7 ?_
  refine r_aload_n 17 rfl 0 rfl rfl dX7_tries_16 ?_
  refine r_getr (q := 103) 20 rfl (lq_7_12) sh_96 kd_7_12 fl_X7_47 dX7_tries_17 ?_
  refine r_iconst 21 rfl ic_1 dX7_tries_20 ?_
  refine r_iload 23 rfl 4 rfl dX7_tries_21 ?_
  obtain ⟨b8, hf⟩ := gd_so hf
  obtain ⟨g9, e10, hf⟩ := lt_so hf
  refine r_iast 24 rfl sh_103 (inb_vp b8) dX7_tries_23 ?_
  refine r_heap e10 ?_
  refine r_aload_n 25 rfl 0 rfl rfl dX7_tries_24 ?_
  refine r_getr (q := 103) 28 rfl (lq_7_12) sh_96 kd_7_12 fl_X7_47 dX7_tries_25 ?_
  refine r_iconst 29 rfl ic_2 dX7_tries_28 ?_
  refine r_iload 31 rfl 5 rfl dX7_tries_29 ?_
  obtain ⟨b11, hf⟩ := gd_so hf
  obtain ⟨g12, e13, hf⟩ := lt_so hf
  refine r_iast 32 rfl sh_103 (inb_vp b11) dX7_tries_31 ?_
  refine r_heap e13 ?_
  refine r_iload_n 33 rfl 1 rfl rfl dX7_tries_32 ?_
  rcases if_so hf with ⟨c14, hf⟩ | ⟨c14, hf⟩
  · refine r_if_eq_t 43 dX7_tries_33 (by decide) c14 ?_
    refine r_iconst 44 rfl ic_1 dX7_tries_43 ?_
    refine r_goto 48 dX7_tries_44 (by decide) ?_
    refine r_istore (lv' := [(6, .int 1), (0, .ref (X.1 96)), (1, .int x1), (2, .int x2), (3, .int x3), (4, .int x4), (5, .int x5)]) 50 rfl dX7_tries_48 (by decide) rfl ?_
    refine r_iload_n 51 rfl 2 rfl rfl dX7_tries_50 ?_
    rcases if_so hf with ⟨c15, hf⟩ | ⟨c15, hf⟩
    · refine r_if_ne_t 54 rfl 63 dX7_tries_51 (by decide) c15 ?_
      refine r_aload_n 55 rfl 1 rfl rfl dX7_tries_54 ?_
      refine r_bipush 57 rfl bp_10 dX7_tries_55 ?_
      obtain ⟨v18, g16, e17, hf⟩ := bd_so hf
      refine r_callVi 60 rfl (A_X7_wentThen X 10 g12 v18 g16 e17) (by omega) cw_X7_411 sh_96 cl_7 rfl rfl (Nat.le_of_ble_eq_true rfl) dX7_tries_57 ?_
      refine r_goto 67 dX7_tries_60 (by decide) ?_
      refine r_sub (lv' := [(0, .ref (X.1 96)), (1, .int x1), (2, .int x2), (3, .int x3), (4, .int x4), (5, .int x5), (6, .int 1)]) [1, 2, 3, 4, 5, 6, 0] rfl ?_
      exact A_X7_tries_J67 X _ x1 x2 x3 x4 x5 1 v18 g16 hf
    · refine r_if_ne_f 63 dX7_tries_51 (by decide) c15 ?_
      refine r_aload_n 64 rfl 1 rfl rfl dX7_tries_63 ?_
      obtain ⟨v41, e42, hf⟩ := bo_so hf
      refine r_callVi 67 rfl (A_X7_height X g12 v41 e42) (by omega) cw_X7_371 sh_96 cl_7 rfl rfl (Nat.le_of_ble_eq_true rfl) dX7_tries_64 ?_
      refine r_sub (lv' := [(0, .ref (X.1 96)), (1, .int x1), (2, .int x2), (3, .int x3), (4, .int x4), (5, .int x5), (6, .int 1)]) [1, 2, 3, 4, 5, 6, 0] rfl ?_
      exact A_X7_tries_J67 X _ x1 x2 x3 x4 x5 1 v41 g12 hf
  · refine r_if_eq_f 36 rfl 43 dX7_tries_33 (by decide) c14 ?_
    refine r_aload_n 37 rfl 0 rfl rfl dX7_tries_36 ?_
    obtain ⟨v45, g43, e44, hf⟩ := bd_so hf
    refine r_callVi 40 rfl (A_X7_breaksAt X g12 v45 g43 e44) (by omega) cw_X7_386 sh_96 cl_7 rfl rfl (Nat.le_of_ble_eq_true rfl) dX7_tries_37 ?_
    rcases if_so hf with ⟨c46, hf⟩ | ⟨c46, hf⟩
    · refine r_if_ge_t 47 dX7_tries_40 (by decide) c46 ?_
      refine r_iconst 48 rfl ic_0 dX7_tries_47 ?_
      refine r_istore (lv' := [(6, .int 0), (0, .ref (X.1 96)), (1, .int x1), (2, .int x2), (3, .int x3), (4, .int x4), (5, .int x5)]) 50 rfl dX7_tries_48 (by decide) rfl ?_
      refine r_iload_n 51 rfl 2 rfl rfl dX7_tries_50 ?_
      rcases if_so hf with ⟨c47, hf⟩ | ⟨c47, hf⟩
      · refine r_if_ne_t 54 rfl 63 dX7_tries_51 (by decide) c47 ?_
        refine r_aload_n 55 rfl 1 rfl rfl dX7_tries_54 ?_
        refine r_bipush 57 rfl bp_10 dX7_tries_55 ?_
        obtain ⟨v50, g48, e49, hf⟩ := bd_so hf
        refine r_callVi 60 rfl (A_X7_wentThen X 10 g43 v50 g48 e49) (by omega) cw_X7_411 sh_96 cl_7 rfl rfl (Nat.le_of_ble_eq_true rfl) dX7_tries_57 ?_
        refine r_goto 67 dX7_tries_60 (by decide) ?_
        refine r_sub (lv' := [(0, .ref (X.1 96)), (1, .int x1), (2, .int x2), (3, .int x3), (4, .int x4), (5, .int x5), (6, .int 0)]) [1, 2, 3, 4, 5, 6, 0] rfl ?_
        exact A_X7_tries_J67 X _ x1 x2 x3 x4 x5 0 v50 g48 hf
      · refine r_if_ne_f 63 dX7_tries_51 (by decide) c47 ?_
        refine r_aload_n 64 rfl 1 rfl rfl dX7_tries_63 ?_
        obtain ⟨v51, e52, hf⟩ := bo_so hf
        refine r_callVi 67 rfl (A_X7_height X g43 v51 e52) (by omega) cw_X7_371 sh_96 cl_7 rfl rfl (Nat.le_of_ble_eq_true rfl) dX7_tries_64 ?_
        refine r_sub (lv' := [(0, .ref (X.1 96)), (1, .int x1), (2, .int x2), (3, .int x3), (4, .int x4), (5, .int x5), (6, .int 0)]) [1, 2, 3, 4, 5, 6, 0] rfl ?_
        exact A_X7_tries_J67 X _ x1 x2 x3 x4 x5 0 v51 g43 hf
    · refine r_if_ge_f 43 rfl 47 dX7_tries_40 (by decide) c46 ?_
      refine r_iconst 44 rfl ic_1 dX7_tries_43 ?_
      refine r_goto 48 dX7_tries_44 (by decide) ?_
      refine r_istore (lv' := [(6, .int 1), (0, .ref (X.1 96)), (1, .int x1), (2, .int x2), (3, .int x3), (4, .int x4), (5, .int x5)]) 50 rfl dX7_tries_48 (by decide) rfl ?_
      refine r_iload_n 51 rfl 2 rfl rfl dX7_tries_50 ?_
      rcases if_so hf with ⟨c53, hf⟩ | ⟨c53, hf⟩
      · refine r_if_ne_t 54 rfl 63 dX7_tries_51 (by decide) c53 ?_
        refine r_aload_n 55 rfl 1 rfl rfl dX7_tries_54 ?_
        refine r_bipush 57 rfl bp_10 dX7_tries_55 ?_
        obtain ⟨v56, g54, e55, hf⟩ := bd_so hf
        refine r_callVi 60 rfl (A_X7_wentThen X 10 g43 v56 g54 e55) (by omega) cw_X7_411 sh_96 cl_7 rfl rfl (Nat.le_of_ble_eq_true rfl) dX7_tries_57 ?_
        refine r_goto 67 dX7_tries_60 (by decide) ?_
        refine r_sub (lv' := [(0, .ref (X.1 96)), (1, .int x1), (2, .int x2), (3, .int x3), (4, .int x4), (5, .int x5), (6, .int 1)]) [1, 2, 3, 4, 5, 6, 0] rfl ?_
        exact A_X7_tries_J67 X _ x1 x2 x3 x4 x5 1 v56 g54 hf
      · refine r_if_ne_f 63 dX7_tries_51 (by decide) c53 ?_
        refine r_aload_n 64 rfl 1 rfl rfl dX7_tries_63 ?_
        obtain ⟨v57, e58, hf⟩ := bo_so hf
        refine r_callVi 67 rfl (A_X7_height X g43 v57 e58) (by omega) cw_X7_371 sh_96 cl_7 rfl rfl (Nat.le_of_ble_eq_true rfl) dX7_tries_64 ?_
        refine r_sub (lv' := [(0, .ref (X.1 96)), (1, .int x1), (2, .int x2), (3, .int x3), (4, .int x4), (5, .int x5), (6, .int 1)]) [1, 2, 3, 4, 5, 6, 0] rfl ?_
        exact A_X7_tries_J67 X _ x1 x2 x3 x4 x5 1 v57 g43 hf
-- X7_layBest
def f_X7_layBest_L54 (rc7 : Int32 → Int32 → HP → Option HP) (rc26 : Int32 → Int32 → Int32 → HP → Option HP) : Nat → Int32 → Int32 → Int32 → Int32 → HP → Option HP
  | 0, _, _, _, _, _ => none
  | n + 1, x1, x2, x3, x4, h => if (h.1 96 0) ≤ x4 then (lt (x3 + 1 : Int32) fun v15 => rc26 x1 x2 v15 h) else (if x4 = x2 then (lt (x4 + 1 : Int32) fun v18 => f_X7_layBest_L54 rc7 rc26 n x1 x2 x3 v18 h) else (if x4 = x3 then (lt (x4 + 1 : Int32) fun v21 => f_X7_layBest_L54 rc7 rc26 n x1 x2 x3 v21 h) else (bo (f_X7_tries x1 3 x2 x3 x4 h) fun g23 => lt (x4 + 1 : Int32) fun v25 => f_X7_layBest_L54 rc7 rc26 n x1 x2 x3 v25 g23)))
set_option maxHeartbeats 4000000 in
set_option maxRecDepth 100000 in
theorem A_X7_layBest_L54 (X : XE) (rc7 : Int32 → Int32 → HP → Option HP) (rc26 : Int32 → Int32 → Int32 → HP → Option HP) (h' : HP) (hr7 : ∀ (x1 : Int32) (x2 : Int32) (h : HP), rc7 x1 x2 h = some h' → Run mX7_layBest 11 X 7 [(0, .ref (X.1 96)), (1, .int x1), (2, .int x2)] [] h none h') (hr26 : ∀ (x1 : Int32) (x2 : Int32) (x3 : Int32) (h : HP), rc26 x1 x2 x3 h = some h' → Run mX7_layBest 11 X 26 [(0, .ref (X.1 96)), (1, .int x1), (2, .int x2), (3, .int x3)] [] h none h') : ∀ (n : Nat) (x1 : Int32) (x2 : Int32) (x3 : Int32) (x4 : Int32) (h : HP), f_X7_layBest_L54 rc7 rc26 n x1 x2 x3 x4 h = some h' → Run mX7_layBest 11 X 54 [(0, .ref (X.1 96)), (1, .int x1), (2, .int x2), (3, .int x3), (4, .int x4)] [] h none h' := by
  intro n
  induction n with
  | zero => intro x1 x2 x3 x4 h hf; cases hf
  | succ n ih =>
    intro x1 x2 x3 x4 h hf
    rw [f_X7_layBest_L54] at hf
    refine r_iload 56 rfl 4 rfl dX7_layBest_54 ?_
    refine r_aload_n 57 rfl 0 rfl rfl dX7_layBest_56 ?_
    refine r_geti 60 rfl sh_96 kd_7_0 fl_X7_7 dX7_layBest_57 ?_
    rcases if_so hf with ⟨c14, hf⟩ | ⟨c14, hf⟩
    · refine r_icmp_ge_t 91 dX7_layBest_60 (by decide) c14 ?_
      obtain ⟨v15, e16, hf⟩ := lt_so hf
      refine r_iinc (lv' := [(3, .int v15), (0, .ref (X.1 96)), (1, .int x1), (2, .int x2), (4, .int x4)]) 94 rfl 3 dX7_layBest_91 rfl (by rw [e16, ic_1]) (by decide) rfl ?_
      refine r_goto 26 dX7_layBest_94 (by decide) ?_
      refine r_sub (lv' := [(0, .ref (X.1 96)), (1, .int x1), (2, .int x2), (3, .int v15)]) [1, 2, 3, 0] rfl ?_
      exact hr26 x1 x2 v15 h hf
    · refine r_icmp_ge_f 63 rfl 91 dX7_layBest_60 (by decide) c14 ?_
      refine r_iload 65 rfl 4 rfl dX7_layBest_63 ?_
      refine r_iload_n 66 rfl 2 rfl rfl dX7_layBest_65 ?_
      rcases if_so hf with ⟨c17, hf⟩ | ⟨c17, hf⟩
      · refine r_icmp_eq_t 85 dX7_layBest_66 (by decide) c17 ?_
        obtain ⟨v18, e19, hf⟩ := lt_so hf
        refine r_iinc (lv' := [(4, .int v18), (0, .ref (X.1 96)), (1, .int x1), (2, .int x2), (3, .int x3)]) 88 rfl 4 dX7_layBest_85 rfl (by rw [e19, ic_1]) (by decide) rfl ?_
        refine r_goto 54 dX7_layBest_88 (by decide) ?_
        refine r_sub (lv' := [(0, .ref (X.1 96)), (1, .int x1), (2, .int x2), (3, .int x3), (4, .int v18)]) [1, 2, 3, 4, 0] rfl ?_
        exact ih x1 x2 x3 v18 h hf
      · refine r_icmp_eq_f 69 rfl 85 dX7_layBest_66 (by decide) c17 ?_
        refine r_iload 71 rfl 4 rfl dX7_layBest_69 ?_
        refine r_iload_n 72 rfl 3 rfl rfl dX7_layBest_71 ?_
        rcases if_so hf with ⟨c20, hf⟩ | ⟨c20, hf⟩
        · refine r_icmp_eq_t 85 dX7_layBest_72 (by decide) c20 ?_
          obtain ⟨v21, e22, hf⟩ := lt_so hf
          refine r_iinc (lv' := [(4, .int v21), (0, .ref (X.1 96)), (1, .int x1), (2, .int x2), (3, .int x3)]) 88 rfl 4 dX7_layBest_85 rfl (by rw [e22, ic_1]) (by decide) rfl ?_
          refine r_goto 54 dX7_layBest_88 (by decide) ?_
          refine r_sub (lv' := [(0, .ref (X.1 96)), (1, .int x1), (2, .int x2), (3, .int x3), (4, .int v21)]) [1, 2, 3, 4, 0] rfl ?_
          exact ih x1 x2 x3 v21 h hf
        · refine r_icmp_eq_f 75 rfl 85 dX7_layBest_72 (by decide) c20 ?_
          refine r_aload_n 76 rfl 0 rfl rfl dX7_layBest_75 ?_
          refine r_iload_n 77 rfl 1 rfl rfl dX7_layBest_76 ?_
          refine r_iconst 78 rfl ic_3 dX7_layBest_77 ?_
          refine r_iload_n 79 rfl 2 rfl rfl dX7_layBest_78 ?_
          refine r_iload_n 80 rfl 3 rfl rfl dX7_layBest_79 ?_
          refine r_iload 82 rfl 4 rfl dX7_layBest_80 ?_
          obtain ⟨g23, e24, hf⟩ := bo_so hf
          refine r_callVv 85 rfl (A_X7_tries X x1 3 x2 x3 x4 h g23 e24) (by omega) cw_X7_414 sh_96 cl_7 rfl rfl (Nat.le_of_ble_eq_true rfl) dX7_layBest_82 ?_
          obtain ⟨v25, e26, hf⟩ := lt_so hf
          refine r_iinc (lv' := [(4, .int v25), (0, .ref (X.1 96)), (1, .int x1), (2, .int x2), (3, .int x3)]) 88 rfl 4 dX7_layBest_85 rfl (by rw [e26, ic_1]) (by decide) rfl ?_
          refine r_goto 54 dX7_layBest_88 (by decide) ?_
          refine r_sub (lv' := [(0, .ref (X.1 96)), (1, .int x1), (2, .int x2), (3, .int x3), (4, .int v25)]) [1, 2, 3, 4, 0] rfl ?_
          exact ih x1 x2 x3 v25 g23 hf
def f_X7_layBest_L26 (rc7 : Int32 → Int32 → HP → Option HP) : Nat → Int32 → Int32 → Int32 → HP → Option HP
  | 0, _, _, _, _ => none
  | n + 1, x1, x2, x3, h => if (h.1 96 0) ≤ x3 then (lt (x2 + 1 : Int32) fun v7 => rc7 x1 v7 h) else (if x3 = x2 then (lt (x3 + 1 : Int32) fun v10 => f_X7_layBest_L26 rc7 n x1 x2 v10 h) else (bo (f_X7_tries x1 2 x2 x3 0 h) fun g12 => f_X7_layBest_L54 rc7 (fun z0 z1 z2 z3 => f_X7_layBest_L26 rc7 n z0 z1 z2 z3) FU x1 x2 x3 0 g12))
set_option maxHeartbeats 4000000 in
set_option maxRecDepth 100000 in
theorem A_X7_layBest_L26 (X : XE) (rc7 : Int32 → Int32 → HP → Option HP) (h' : HP) (hr7 : ∀ (x1 : Int32) (x2 : Int32) (h : HP), rc7 x1 x2 h = some h' → Run mX7_layBest 11 X 7 [(0, .ref (X.1 96)), (1, .int x1), (2, .int x2)] [] h none h') : ∀ (n : Nat) (x1 : Int32) (x2 : Int32) (x3 : Int32) (h : HP), f_X7_layBest_L26 rc7 n x1 x2 x3 h = some h' → Run mX7_layBest 11 X 26 [(0, .ref (X.1 96)), (1, .int x1), (2, .int x2), (3, .int x3)] [] h none h' := by
  intro n
  induction n with
  | zero => intro x1 x2 x3 h hf; cases hf
  | succ n ih =>
    intro x1 x2 x3 h hf
    rw [f_X7_layBest_L26] at hf
    refine r_iload_n 27 rfl 3 rfl rfl dX7_layBest_26 ?_
    refine r_aload_n 28 rfl 0 rfl rfl dX7_layBest_27 ?_
    refine r_geti 31 rfl sh_96 kd_7_0 fl_X7_7 dX7_layBest_28 ?_
    rcases if_so hf with ⟨c6, hf⟩ | ⟨c6, hf⟩
    · refine r_icmp_ge_t 97 dX7_layBest_31 (by decide) c6 ?_
      obtain ⟨v7, e8, hf⟩ := lt_so hf
      refine r_iinc (lv' := [(2, .int v7), (0, .ref (X.1 96)), (1, .int x1), (3, .int x3)]) 100 rfl 2 dX7_layBest_97 rfl (by rw [e8, ic_1]) (by decide) rfl ?_
      refine r_goto 7 dX7_layBest_100 (by decide) ?_
      refine r_sub (lv' := [(0, .ref (X.1 96)), (1, .int x1), (2, .int v7)]) [1, 2, 0] rfl ?_
      exact hr7 x1 v7 h hf
    · refine r_icmp_ge_f 34 rfl 97 dX7_layBest_31 (by decide) c6 ?_
      refine r_iload_n 35 rfl 3 rfl rfl dX7_layBest_34 ?_
      refine r_iload_n 36 rfl 2 rfl rfl dX7_layBest_35 ?_
      rcases if_so hf with ⟨c9, hf⟩ | ⟨c9, hf⟩
      · refine r_icmp_ne_t 39 rfl 42 dX7_layBest_36 (by decide) c9 ?_
        refine r_goto 91 dX7_layBest_39 (by decide) ?_
        obtain ⟨v10, e11, hf⟩ := lt_so hf
        refine r_iinc (lv' := [(3, .int v10), (0, .ref (X.1 96)), (1, .int x1), (2, .int x2)]) 94 rfl 3 dX7_layBest_91 rfl (by rw [e11, ic_1]) (by decide) rfl ?_
        refine r_goto 26 dX7_layBest_94 (by decide) ?_
        refine r_sub (lv' := [(0, .ref (X.1 96)), (1, .int x1), (2, .int x2), (3, .int v10)]) [1, 2, 3, 0] rfl ?_
        exact ih x1 x2 v10 h hf
      · refine r_icmp_ne_f 42 dX7_layBest_36 (by decide) c9 ?_
        refine r_aload_n 43 rfl 0 rfl rfl dX7_layBest_42 ?_
        refine r_iload_n 44 rfl 1 rfl rfl dX7_layBest_43 ?_
        refine r_iconst 45 rfl ic_2 dX7_layBest_44 ?_
        refine r_iload_n 46 rfl 2 rfl rfl dX7_layBest_45 ?_
        refine r_iload_n 47 rfl 3 rfl rfl dX7_layBest_46 ?_
        refine r_iconst 48 rfl ic_0 dX7_layBest_47 ?_
        obtain ⟨g12, e13, hf⟩ := bo_so hf
        refine r_callVv 51 rfl (A_X7_tries X x1 2 x2 x3 0 h g12 e13) (by omega) cw_X7_414 sh_96 cl_7 rfl rfl (Nat.le_of_ble_eq_true rfl) dX7_layBest_48 ?_
        refine r_iconst 52 rfl ic_0 dX7_layBest_51 ?_
        refine r_istore (lv' := [(4, .int 0), (0, .ref (X.1 96)), (1, .int x1), (2, .int x2), (3, .int x3)]) 54 rfl dX7_layBest_52 (by decide) rfl ?_
        refine r_sub (lv' := [(0, .ref (X.1 96)), (1, .int x1), (2, .int x2), (3, .int x3), (4, .int 0)]) [1, 2, 3, 4, 0] rfl ?_
        exact A_X7_layBest_L54 X rc7 (fun z0 z1 z2 z3 => f_X7_layBest_L26 rc7 n z0 z1 z2 z3) _ hr7 ih FU x1 x2 x3 0 g12 hf
def f_X7_layBest_L7 : Nat → Int32 → Int32 → HP → Option HP
  | 0, _, _, _ => none
  | n + 1, x1, x2, h => if (h.1 96 0) ≤ x2 then (some h) else (bo (f_X7_tries x1 1 x2 0 0 h) fun g4 => f_X7_layBest_L26 (fun z0 z1 z2 => f_X7_layBest_L7 n z0 z1 z2) FU x1 x2 0 g4)
set_option maxHeartbeats 4000000 in
set_option maxRecDepth 100000 in
theorem A_X7_layBest_L7 (X : XE) (h' : HP) : ∀ (n : Nat) (x1 : Int32) (x2 : Int32) (h : HP), f_X7_layBest_L7 n x1 x2 h = some h' → Run mX7_layBest 11 X 7 [(0, .ref (X.1 96)), (1, .int x1), (2, .int x2)] [] h none h' := by
  intro n
  induction n with
  | zero => intro x1 x2 h hf; cases hf
  | succ n ih =>
    intro x1 x2 h hf
    rw [f_X7_layBest_L7] at hf
    refine r_iload_n 8 rfl 2 rfl rfl dX7_layBest_7 ?_
    refine r_aload_n 9 rfl 0 rfl rfl dX7_layBest_8 ?_
    refine r_geti 12 rfl sh_96 kd_7_0 fl_X7_7 dX7_layBest_9 ?_
    rcases if_so hf with ⟨c3, hf⟩ | ⟨c3, hf⟩
    · refine r_icmp_ge_t 103 dX7_layBest_12 (by decide) c3 ?_
      obtain rfl := so1 hf
      exact r_vret rfl dX7_layBest_103
    · refine r_icmp_ge_f 15 rfl 103 dX7_layBest_12 (by decide) c3 ?_
      refine r_aload_n 16 rfl 0 rfl rfl dX7_layBest_15 ?_
      refine r_iload_n 17 rfl 1 rfl rfl dX7_layBest_16 ?_
      refine r_iconst 18 rfl ic_1 dX7_layBest_17 ?_
      refine r_iload_n 19 rfl 2 rfl rfl dX7_layBest_18 ?_
      refine r_iconst 20 rfl ic_0 dX7_layBest_19 ?_
      refine r_iconst 21 rfl ic_0 dX7_layBest_20 ?_
      obtain ⟨g4, e5, hf⟩ := bo_so hf
      refine r_callVv 24 rfl (A_X7_tries X x1 1 x2 0 0 h g4 e5) (by omega) cw_X7_414 sh_96 cl_7 rfl rfl (Nat.le_of_ble_eq_true rfl) dX7_layBest_21 ?_
      refine r_iconst 25 rfl ic_0 dX7_layBest_24 ?_
      refine r_istore_n (lv' := [(3, .int 0), (0, .ref (X.1 96)), (1, .int x1), (2, .int x2)]) 26 rfl dX7_layBest_25 (by decide) rfl rfl ?_
      refine r_sub (lv' := [(0, .ref (X.1 96)), (1, .int x1), (2, .int x2), (3, .int 0)]) [1, 2, 3, 0] rfl ?_
      exact A_X7_layBest_L26 X (fun z0 z1 z2 => f_X7_layBest_L7 n z0 z1 z2) _ ih FU x1 x2 0 g4 hf
def f_X7_layBest (x1 : Int32) (h : HP) : Option HP := lt (si h 96 45 0) fun g1 => f_X7_layBest_L7 FU x1 0 g1
set_option maxHeartbeats 4000000 in
set_option maxRecDepth 100000 in
theorem A_X7_layBest (X : XE) (x1 : Int32) (h : HP) (h' : HP) (hf : f_X7_layBest x1 h = some h') : CC mX7_layBest 11 X [.ref (X.1 96), .int x1] h none h' := by
  refine CC_of rfl (Nat.le_of_ble_eq_true rfl) ?_
  show Run mX7_layBest 11 X 0 [(0, .ref (X.1 96)), (1, .int x1)] [] h none h'
  unfold f_X7_layBest at hf
  refine r_aload_n 1 rfl 0 rfl rfl dX7_layBest_0 ?_
  refine r_iconst 2 rfl ic_0 dX7_layBest_1 ?_
  obtain ⟨g1, e2, hf⟩ := lt_so hf
  refine r_puti 5 rfl sh_96 kd_7_45 fw_X7_148 rfl rfl dX7_layBest_2 ?_
  refine r_heap e2 ?_
  refine r_iconst 6 rfl ic_0 dX7_layBest_5 ?_
  refine r_istore_n (lv' := [(2, .int 0), (0, .ref (X.1 96)), (1, .int x1)]) 7 rfl dX7_layBest_6 (by decide) rfl rfl ?_
  refine r_sub (lv' := [(0, .ref (X.1 96)), (1, .int x1), (2, .int 0)]) [1, 2, 0] rfl ?_
  exact A_X7_layBest_L7 X _ FU x1 0 g1 hf
-- X7_best
def f_X7_best (x1 : Int32) (x2 : Int32) (h : HP) : Option (Int32 × HP) := bo (f_X7_in x1 0 1) fun v1 => if v1 = 0 then (some ((-1), h)) else (bo (f_X7_in x2 0 3) fun v4 => if v4 = 0 then (some ((-1), h)) else (bo (f_X7_layBest x1 h) fun g7 => if x2 = 3 then (if (g7.1 96 45) = 0 then (some ((-5), g7)) else (some ((g7.1 96 46), g7))) else (if (g7.1 96 45) ≤ x2 then (some ((-5), g7)) else (gd (inb x2 3) (some ((g7.1 119 (Int32.toNatClampNeg x2)), g7))))))
set_option maxHeartbeats 4000000 in
set_option maxRecDepth 100000 in
theorem A_X7_best (X : XE) (x1 : Int32) (x2 : Int32) (h : HP) (r : Int32) (h' : HP) (hf : f_X7_best x1 x2 h = some (r, h')) : CC mX7_best 12 X [.ref (X.1 96), .int x1, .int x2] h (some (.int r)) h' := by
  refine CC_of rfl (Nat.le_of_ble_eq_true rfl) ?_
  show Run mX7_best 12 X 0 [(0, .ref (X.1 96)), (1, .int x1), (2, .int x2)] [] h (some (.int r)) h'
  unfold f_X7_best at hf
  refine r_aload_n 1 rfl 0 rfl rfl dX7_best_0 ?_
  refine r_iload_n 2 rfl 1 rfl rfl dX7_best_1 ?_
  refine r_iconst 3 rfl ic_0 dX7_best_2 ?_
  refine r_iconst 4 rfl ic_1 dX7_best_3 ?_
  obtain ⟨v1, e2, hf⟩ := bo_so hf
  refine r_callVi 7 rfl (A_X7_in X x1 0 1 h v1 e2) (by omega) cw_X7_276 sh_96 cl_7 rfl rfl (Nat.le_of_ble_eq_true rfl) dX7_best_4 ?_
  rcases if_so hf with ⟨c3, hf⟩ | ⟨c3, hf⟩
  · refine r_if_eq_t 20 dX7_best_7 (by decide) c3 ?_
    refine r_iconst 21 rfl ic_m1 dX7_best_20 ?_
    obtain ⟨rfl, rfl⟩ := so2 hf
    exact r_iret rfl rfl dX7_best_21
  · refine r_if_eq_f 10 rfl 20 dX7_best_7 (by decide) c3 ?_
    refine r_aload_n 11 rfl 0 rfl rfl dX7_best_10 ?_
    refine r_iload_n 12 rfl 2 rfl rfl dX7_best_11 ?_
    refine r_iconst 13 rfl ic_0 dX7_best_12 ?_
    refine r_iconst 14 rfl ic_3 dX7_best_13 ?_
    obtain ⟨v4, e5, hf⟩ := bo_so hf
    refine r_callVi 17 rfl (A_X7_in X x2 0 3 h v4 e5) (by omega) cw_X7_276 sh_96 cl_7 rfl rfl (Nat.le_of_ble_eq_true rfl) dX7_best_14 ?_
    rcases if_so hf with ⟨c6, hf⟩ | ⟨c6, hf⟩
    · refine r_if_ne_t 20 rfl 22 dX7_best_17 (by decide) c6 ?_
      refine r_iconst 21 rfl ic_m1 dX7_best_20 ?_
      obtain ⟨rfl, rfl⟩ := so2 hf
      exact r_iret rfl rfl dX7_best_21
    · refine r_if_ne_f 22 dX7_best_17 (by decide) c6 ?_
      refine r_aload_n 23 rfl 0 rfl rfl dX7_best_22 ?_
      refine r_iload_n 24 rfl 1 rfl rfl dX7_best_23 ?_
      obtain ⟨g7, e8, hf⟩ := bo_so hf
      refine r_callVv 27 rfl (A_X7_layBest X x1 h g7 e8) (by omega) cw_X7_418 sh_96 cl_7 rfl rfl (Nat.le_of_ble_eq_true rfl) dX7_best_24 ?_
      refine r_iload_n 28 rfl 2 rfl rfl dX7_best_27 ?_
      refine r_iconst 29 rfl ic_3 dX7_best_28 ?_
      rcases if_so hf with ⟨c9, hf⟩ | ⟨c9, hf⟩
      · refine r_icmp_ne_t 32 rfl 49 dX7_best_29 (by decide) c9 ?_
        refine r_aload_n 33 rfl 0 rfl rfl dX7_best_32 ?_
        refine r_geti 36 rfl sh_96 kd_7_45 fl_X7_148 dX7_best_33 ?_
        rcases if_so hf with ⟨c10, hf⟩ | ⟨c10, hf⟩
        · refine r_if_ne_t 39 rfl 44 dX7_best_36 (by decide) c10 ?_
          refine r_bipush 41 rfl bp_m5 dX7_best_39 ?_
          refine r_goto 48 dX7_best_41 (by decide) ?_
          obtain ⟨rfl, rfl⟩ := so2 hf
          exact r_iret rfl rfl dX7_best_48
        · refine r_if_ne_f 44 dX7_best_36 (by decide) c10 ?_
          refine r_aload_n 45 rfl 0 rfl rfl dX7_best_44 ?_
          refine r_geti 48 rfl sh_96 kd_7_46 fl_X7_151 dX7_best_45 ?_
          obtain ⟨rfl, rfl⟩ := so2 hf
          exact r_iret rfl rfl dX7_best_48
      · refine r_icmp_ne_f 49 dX7_best_29 (by decide) c9 ?_
        refine r_iload_n 50 rfl 2 rfl rfl dX7_best_49 ?_
        refine r_aload_n 51 rfl 0 rfl rfl dX7_best_50 ?_
        refine r_geti 54 rfl sh_96 kd_7_45 fl_X7_148 dX7_best_51 ?_
        rcases if_so hf with ⟨c11, hf⟩ | ⟨c11, hf⟩
        · refine r_icmp_ge_t 66 dX7_best_54 (by decide) c11 ?_
          refine r_bipush 68 rfl bp_m5 dX7_best_66 ?_
          obtain ⟨rfl, rfl⟩ := so2 hf
          exact r_iret rfl rfl dX7_best_68
        · refine r_icmp_ge_f 57 rfl 66 dX7_best_54 (by decide) c11 ?_
          refine r_aload_n 58 rfl 0 rfl rfl dX7_best_57 ?_
          refine r_getr (q := 119) 61 rfl (lq_7_44) sh_96 kd_7_44 fl_X7_145 dX7_best_58 ?_
          refine r_iload_n 62 rfl 2 rfl rfl dX7_best_61 ?_
          obtain ⟨b12, hf⟩ := gd_so hf
          refine r_iald 63 rfl sh_119 (inb_vp b12) dX7_best_62 ?_
          refine r_goto 68 dX7_best_63 (by decide) ?_
          obtain ⟨rfl, rfl⟩ := so2 hf
          exact r_iret rfl rfl dX7_best_68
-- X7_layOrder
def f_X7_layOrder_L96 (rc36 : Int32 → HP → Option (Int32 × HP)) : Nat → Int32 → Int32 → Int32 → HP → Option (Int32 × HP)
  | 0, _, _, _, _ => none
  | n + 1, x3, x4, x5, h => if x3 ≤ x5 then (if x4 = 0 then (some (0, h)) else (lt (x3 + 1 : Int32) fun v8 => rc36 v8 h)) else (if x4 = 0 then (lt (x5 + 1 : Int32) fun v11 => f_X7_layOrder_L96 rc36 n x3 0 v11 h) else (gd (inb x5 3) (gd (inb x3 3) (if (h.1 103 (Int32.toNatClampNeg x5)) = (h.1 103 (Int32.toNatClampNeg x3)) then (lt (x5 + 1 : Int32) fun v16 => f_X7_layOrder_L96 rc36 n x3 0 v16 h) else (lt (x5 + 1 : Int32) fun v18 => f_X7_layOrder_L96 rc36 n x3 1 v18 h)))))
set_option maxHeartbeats 4000000 in
set_option maxRecDepth 100000 in
theorem A_X7_layOrder_L96 (X : XE) (rc36 : Int32 → HP → Option (Int32 × HP)) (r : Int32) (h' : HP) (hr36 : ∀ (x3 : Int32) (h : HP), rc36 x3 h = some (r, h') → Run mX7_layOrder 1 X 36 [(0, .ref (X.1 96)), (3, .int x3)] [] h (some (.int r)) h') : ∀ (n : Nat) (x3 : Int32) (x4 : Int32) (x5 : Int32) (h : HP), f_X7_layOrder_L96 rc36 n x3 x4 x5 h = some (r, h') → Run mX7_layOrder 1 X 96 [(0, .ref (X.1 96)), (3, .int x3), (4, .int x4), (5, .int x5)] [] h (some (.int r)) h' := by
  intro n
  induction n with
  | zero => intro x3 x4 x5 h hf; cases hf
  | succ n ih =>
    intro x3 x4 x5 h hf
    rw [f_X7_layOrder_L96] at hf
    refine r_iload 98 rfl 3 rfl dX7_layOrder_96 ?_
    refine r_iload_n 99 rfl 1 rfl rfl dX7_layOrder_98 ?_
    rcases if_so hf with ⟨c6, hf⟩ | ⟨c6, hf⟩
    · refine r_icmp_ge_t 136 dX7_layOrder_99 (by decide) c6 ?_
      refine r_iload 138 rfl 2 rfl dX7_layOrder_136 ?_
      rcases if_so hf with ⟨c7, hf⟩ | ⟨c7, hf⟩
      · refine r_if_ne_t 141 rfl 143 dX7_layOrder_138 (by decide) c7 ?_
        refine r_iconst 142 rfl ic_0 dX7_layOrder_141 ?_
        obtain ⟨rfl, rfl⟩ := so2 hf
        exact r_iret rfl rfl dX7_layOrder_142
      · refine r_if_ne_f 143 dX7_layOrder_138 (by decide) c7 ?_
        obtain ⟨v8, e9, hf⟩ := lt_so hf
        refine r_iinc (lv' := [(3, .int v8), (0, .ref (X.1 96)), (4, .int x4), (5, .int x5)]) 146 rfl 1 dX7_layOrder_143 rfl (by rw [e9, ic_1]) (by decide) rfl ?_
        refine r_goto 36 dX7_layOrder_146 (by decide) ?_
        refine r_sub (lv' := [(0, .ref (X.1 96)), (3, .int v8)]) [1, 0] rfl ?_
        exact hr36 v8 h hf
    · refine r_icmp_ge_f 102 rfl 136 dX7_layOrder_99 (by decide) c6 ?_
      refine r_iload 104 rfl 2 rfl dX7_layOrder_102 ?_
      rcases if_so hf with ⟨c10, hf⟩ | ⟨c10, hf⟩
      · refine r_if_eq_t 127 dX7_layOrder_104 (by decide) c10 ?_
        refine r_iconst 128 rfl ic_0 dX7_layOrder_127 ?_
        refine r_istore (lv' := [(4, .int 0), (0, .ref (X.1 96)), (3, .int x3), (5, .int x5)]) 130 rfl dX7_layOrder_128 (by decide) rfl ?_
        obtain ⟨v11, e12, hf⟩ := lt_so hf
        refine r_iinc (lv' := [(5, .int v11), (4, .int 0), (0, .ref (X.1 96)), (3, .int x3)]) 133 rfl 3 dX7_layOrder_130 rfl (by rw [e12, ic_1]) (by decide) rfl ?_
        refine r_goto 96 dX7_layOrder_133 (by decide) ?_
        refine r_sub (lv' := [(0, .ref (X.1 96)), (3, .int x3), (4, .int 0), (5, .int v11)]) [2, 3, 1, 0] rfl ?_
        exact ih x3 0 v11 h hf
      · refine r_if_eq_f 107 rfl 127 dX7_layOrder_104 (by decide) c10 ?_
        refine r_aload_n 108 rfl 0 rfl rfl dX7_layOrder_107 ?_
        refine r_getr (q := 103) 111 rfl (lq_7_12) sh_96 kd_7_12 fl_X7_47 dX7_layOrder_108 ?_
        refine r_iload 113 rfl 3 rfl dX7_layOrder_111 ?_
        obtain ⟨b13, hf⟩ := gd_so hf
        refine r_iald 114 rfl sh_103 (inb_vp b13) dX7_layOrder_113 ?_
        refine r_aload_n 115 rfl 0 rfl rfl dX7_layOrder_114 ?_
        refine r_getr (q := 103) 118 rfl (lq_7_12) sh_96 kd_7_12 fl_X7_47 dX7_layOrder_115 ?_
        refine r_iload_n 119 rfl 1 rfl rfl dX7_layOrder_118 ?_
        obtain ⟨b14, hf⟩ := gd_so hf
        refine r_iald 120 rfl sh_103 (inb_vp b14) dX7_layOrder_119 ?_
        rcases if_so hf with ⟨c15, hf⟩ | ⟨c15, hf⟩
        · refine r_icmp_eq_t 127 dX7_layOrder_120 (by decide) c15 ?_
          refine r_iconst 128 rfl ic_0 dX7_layOrder_127 ?_
          refine r_istore (lv' := [(4, .int 0), (0, .ref (X.1 96)), (3, .int x3), (5, .int x5)]) 130 rfl dX7_layOrder_128 (by decide) rfl ?_
          obtain ⟨v16, e17, hf⟩ := lt_so hf
          refine r_iinc (lv' := [(5, .int v16), (4, .int 0), (0, .ref (X.1 96)), (3, .int x3)]) 133 rfl 3 dX7_layOrder_130 rfl (by rw [e17, ic_1]) (by decide) rfl ?_
          refine r_goto 96 dX7_layOrder_133 (by decide) ?_
          refine r_sub (lv' := [(0, .ref (X.1 96)), (3, .int x3), (4, .int 0), (5, .int v16)]) [2, 3, 1, 0] rfl ?_
          exact ih x3 0 v16 h hf
        · refine r_icmp_eq_f 123 rfl 127 dX7_layOrder_120 (by decide) c15 ?_
          refine r_iconst 124 rfl ic_1 dX7_layOrder_123 ?_
          refine r_goto 128 dX7_layOrder_124 (by decide) ?_
          refine r_istore (lv' := [(4, .int 1), (0, .ref (X.1 96)), (3, .int x3), (5, .int x5)]) 130 rfl dX7_layOrder_128 (by decide) rfl ?_
          obtain ⟨v18, e19, hf⟩ := lt_so hf
          refine r_iinc (lv' := [(5, .int v18), (4, .int 1), (0, .ref (X.1 96)), (3, .int x3)]) 133 rfl 3 dX7_layOrder_130 rfl (by rw [e19, ic_1]) (by decide) rfl ?_
          refine r_goto 96 dX7_layOrder_133 (by decide) ?_
          refine r_sub (lv' := [(0, .ref (X.1 96)), (3, .int x3), (4, .int 1), (5, .int v18)]) [2, 3, 1, 0] rfl ?_
          exact ih x3 1 v18 h hf
def f_X7_layOrder_L50 (rc36 : Int32 → HP → Option (Int32 × HP)) : Nat → Int32 → Int32 → Int32 → HP → Option (Int32 × HP)
  | 0, _, _, _, _ => none
  | n + 1, x3, x4, x5, h => if (h.1 96 34) ≤ x5 then (f_X7_layOrder_L96 rc36 FU x3 x4 0 h) else (if x4 = 0 then (gd (inb x5 3) (gd (inb x3 3) (if (h.1 118 (Int32.toNatClampNeg x5)) = (h.1 103 (Int32.toNatClampNeg x3)) then (lt (x5 + 1 : Int32) fun v24 => f_X7_layOrder_L50 rc36 n x3 1 v24 h) else (lt (x5 + 1 : Int32) fun v26 => f_X7_layOrder_L50 rc36 n x3 0 v26 h)))) else (lt (x5 + 1 : Int32) fun v28 => f_X7_layOrder_L50 rc36 n x3 1 v28 h))
set_option maxHeartbeats 4000000 in
set_option maxRecDepth 100000 in
theorem A_X7_layOrder_L50 (X : XE) (rc36 : Int32 → HP → Option (Int32 × HP)) (r : Int32) (h' : HP) (hr36 : ∀ (x3 : Int32) (h : HP), rc36 x3 h = some (r, h') → Run mX7_layOrder 1 X 36 [(0, .ref (X.1 96)), (3, .int x3)] [] h (some (.int r)) h') : ∀ (n : Nat) (x3 : Int32) (x4 : Int32) (x5 : Int32) (h : HP), f_X7_layOrder_L50 rc36 n x3 x4 x5 h = some (r, h') → Run mX7_layOrder 1 X 50 [(0, .ref (X.1 96)), (3, .int x3), (4, .int x4), (5, .int x5)] [] h (some (.int r)) h' := by
  intro n
  induction n with
  | zero => intro x3 x4 x5 h hf; cases hf
  | succ n ih =>
    intro x3 x4 x5 h hf
    rw [f_X7_layOrder_L50] at hf
    refine r_iload 52 rfl 3 rfl dX7_layOrder_50 ?_
    refine r_aload_n 53 rfl 0 rfl rfl dX7_layOrder_52 ?_
    refine r_geti 56 rfl sh_96 kd_7_34 fl_X7_115 dX7_layOrder_53 ?_
    rcases if_so hf with ⟨c5, hf⟩ | ⟨c5, hf⟩
    · refine r_icmp_ge_t 93 dX7_layOrder_56 (by decide) c5 ?_
      refine r_iconst 94 rfl ic_0 dX7_layOrder_93 ?_
      refine r_istore (lv' := [(5, .int 0), (0, .ref (X.1 96)), (3, .int x3), (4, .int x4)]) 96 rfl dX7_layOrder_94 (by decide) rfl ?_
      refine r_sub (lv' := [(0, .ref (X.1 96)), (3, .int x3), (4, .int x4), (5, .int 0)]) [1, 2, 3, 0] rfl ?_
      exact A_X7_layOrder_L96 X rc36 _ _ hr36 FU x3 x4 0 h hf
    · refine r_icmp_ge_f 59 rfl 93 dX7_layOrder_56 (by decide) c5 ?_
      refine r_iload 61 rfl 2 rfl dX7_layOrder_59 ?_
      rcases if_so hf with ⟨c20, hf⟩ | ⟨c20, hf⟩
      · refine r_if_ne_t 64 rfl 80 dX7_layOrder_61 (by decide) c20 ?_
        refine r_aload_n 65 rfl 0 rfl rfl dX7_layOrder_64 ?_
        refine r_getr (q := 118) 68 rfl (lq_7_42) sh_96 kd_7_42 fl_X7_139 dX7_layOrder_65 ?_
        refine r_iload 70 rfl 3 rfl dX7_layOrder_68 ?_
        obtain ⟨b21, hf⟩ := gd_so hf
        refine r_iald 71 rfl sh_118 (inb_vp b21) dX7_layOrder_70 ?_
        refine r_aload_n 72 rfl 0 rfl rfl dX7_layOrder_71 ?_
        refine r_getr (q := 103) 75 rfl (lq_7_12) sh_96 kd_7_12 fl_X7_47 dX7_layOrder_72 ?_
        refine r_iload_n 76 rfl 1 rfl rfl dX7_layOrder_75 ?_
        obtain ⟨b22, hf⟩ := gd_so hf
        refine r_iald 77 rfl sh_103 (inb_vp b22) dX7_layOrder_76 ?_
        rcases if_so hf with ⟨c23, hf⟩ | ⟨c23, hf⟩
        · refine r_icmp_ne_t 80 rfl 84 dX7_layOrder_77 (by decide) c23 ?_
          refine r_iconst 81 rfl ic_1 dX7_layOrder_80 ?_
          refine r_goto 85 dX7_layOrder_81 (by decide) ?_
          refine r_istore (lv' := [(4, .int 1), (0, .ref (X.1 96)), (3, .int x3), (5, .int x5)]) 87 rfl dX7_layOrder_85 (by decide) rfl ?_
          obtain ⟨v24, e25, hf⟩ := lt_so hf
          refine r_iinc (lv' := [(5, .int v24), (4, .int 1), (0, .ref (X.1 96)), (3, .int x3)]) 90 rfl 3 dX7_layOrder_87 rfl (by rw [e25, ic_1]) (by decide) rfl ?_
          refine r_goto 50 dX7_layOrder_90 (by decide) ?_
          refine r_sub (lv' := [(0, .ref (X.1 96)), (3, .int x3), (4, .int 1), (5, .int v24)]) [2, 3, 1, 0] rfl ?_
          exact ih x3 1 v24 h hf
        · refine r_icmp_ne_f 84 dX7_layOrder_77 (by decide) c23 ?_
          refine r_iconst 85 rfl ic_0 dX7_layOrder_84 ?_
          refine r_istore (lv' := [(4, .int 0), (0, .ref (X.1 96)), (3, .int x3), (5, .int x5)]) 87 rfl dX7_layOrder_85 (by decide) rfl ?_
          obtain ⟨v26, e27, hf⟩ := lt_so hf
          refine r_iinc (lv' := [(5, .int v26), (4, .int 0), (0, .ref (X.1 96)), (3, .int x3)]) 90 rfl 3 dX7_layOrder_87 rfl (by rw [e27, ic_1]) (by decide) rfl ?_
          refine r_goto 50 dX7_layOrder_90 (by decide) ?_
          refine r_sub (lv' := [(0, .ref (X.1 96)), (3, .int x3), (4, .int 0), (5, .int v26)]) [2, 3, 1, 0] rfl ?_
          exact ih x3 0 v26 h hf
      · refine r_if_ne_f 80 dX7_layOrder_61 (by decide) c20 ?_
        refine r_iconst 81 rfl ic_1 dX7_layOrder_80 ?_
        refine r_goto 85 dX7_layOrder_81 (by decide) ?_
        refine r_istore (lv' := [(4, .int 1), (0, .ref (X.1 96)), (3, .int x3), (5, .int x5)]) 87 rfl dX7_layOrder_85 (by decide) rfl ?_
        obtain ⟨v28, e29, hf⟩ := lt_so hf
        refine r_iinc (lv' := [(5, .int v28), (4, .int 1), (0, .ref (X.1 96)), (3, .int x3)]) 90 rfl 3 dX7_layOrder_87 rfl (by rw [e29, ic_1]) (by decide) rfl ?_
        refine r_goto 50 dX7_layOrder_90 (by decide) ?_
        refine r_sub (lv' := [(0, .ref (X.1 96)), (3, .int x3), (4, .int 1), (5, .int v28)]) [2, 3, 1, 0] rfl ?_
        exact ih x3 1 v28 h hf
def f_X7_layOrder_L36 : Nat → Int32 → HP → Option (Int32 × HP)
  | 0, _, _ => none
  | n + 1, x3, h => if (h.1 96 34) ≤ x3 then (some (1, h)) else (f_X7_layOrder_L50 (fun z0 z1 => f_X7_layOrder_L36 n z0 z1) FU x3 0 0 h)
set_option maxHeartbeats 4000000 in
set_option maxRecDepth 100000 in
theorem A_X7_layOrder_L36 (X : XE) (r : Int32) (h' : HP) : ∀ (n : Nat) (x3 : Int32) (h : HP), f_X7_layOrder_L36 n x3 h = some (r, h') → Run mX7_layOrder 1 X 36 [(0, .ref (X.1 96)), (3, .int x3)] [] h (some (.int r)) h' := by
  intro n
  induction n with
  | zero => intro x3 h hf; cases hf
  | succ n ih =>
    intro x3 h hf
    rw [f_X7_layOrder_L36] at hf
    refine r_iload_n 37 rfl 1 rfl rfl dX7_layOrder_36 ?_
    refine r_aload_n 38 rfl 0 rfl rfl dX7_layOrder_37 ?_
    refine r_geti 41 rfl sh_96 kd_7_34 fl_X7_115 dX7_layOrder_38 ?_
    rcases if_so hf with ⟨c4, hf⟩ | ⟨c4, hf⟩
    · refine r_icmp_ge_t 149 dX7_layOrder_41 (by decide) c4 ?_
      refine r_iconst 150 rfl ic_1 dX7_layOrder_149 ?_
      obtain ⟨rfl, rfl⟩ := so2 hf
      exact r_iret rfl rfl dX7_layOrder_150
    · refine r_icmp_ge_f 44 rfl 149 dX7_layOrder_41 (by decide) c4 ?_
      refine r_iconst 45 rfl ic_0 dX7_layOrder_44 ?_
      refine r_istore (lv' := [(4, .int 0), (0, .ref (X.1 96)), (3, .int x3)]) 47 rfl dX7_layOrder_45 (by decide) rfl ?_
      refine r_iconst 48 rfl ic_0 dX7_layOrder_47 ?_
      refine r_istore (lv' := [(5, .int 0), (4, .int 0), (0, .ref (X.1 96)), (3, .int x3)]) 50 rfl dX7_layOrder_48 (by decide) rfl ?_
      refine r_sub (lv' := [(0, .ref (X.1 96)), (3, .int x3), (4, .int 0), (5, .int 0)]) [2, 3, 1, 0] rfl ?_
      exact A_X7_layOrder_L50 X (fun z0 z1 => f_X7_layOrder_L36 n z0 z1) _ _ ih FU x3 0 0 h hf
def f_X7_layOrder_L9 : Nat → Int32 → Int32 → HP → Option (Int32 × HP)
  | 0, _, _, _ => none
  | n + 1, x2, x3, h => if x3 < 0 then (f_X7_layOrder_L36 FU 0 h) else (gd (inb x3 3) (lt (si h 103 (Int32.toNatClampNeg x3) (x2 - x2 / 6 * 6)) fun g31 => lt ((x2 / 6) : Int32) fun v33 => lt (x3 + (-1) : Int32) fun v35 => f_X7_layOrder_L9 n v33 v35 g31))
set_option maxHeartbeats 4000000 in
set_option maxRecDepth 100000 in
theorem A_X7_layOrder_L9 (X : XE) (r : Int32) (h' : HP) : ∀ (n : Nat) (x2 : Int32) (x3 : Int32) (h : HP), f_X7_layOrder_L9 n x2 x3 h = some (r, h') → Run mX7_layOrder 1 X 9 [(0, .ref (X.1 96)), (2, .int x2), (3, .int x3)] [] h (some (.int r)) h' := by
  intro n
  induction n with
  | zero => intro x2 x3 h hf; cases hf
  | succ n ih =>
    intro x2 x3 h hf
    rw [f_X7_layOrder_L9] at hf
    refine r_iload_n 10 rfl 2 rfl rfl dX7_layOrder_9 ?_
    rcases if_so hf with ⟨c3, hf⟩ | ⟨c3, hf⟩
    · refine r_if_lt_t 34 dX7_layOrder_10 (by decide) c3 ?_
      refine r_iconst 35 rfl ic_0 dX7_layOrder_34 ?_
      refine r_istore_n (lv' := [(3, .int 0), (0, .ref (X.1 96)), (2, .int x2)]) 36 rfl dX7_layOrder_35 (by decide) rfl rfl ?_
      refine r_sub (lv' := [(0, .ref (X.1 96)), (3, .int 0)]) [1, 0] rfl ?_
      exact A_X7_layOrder_L36 X _ _ FU 0 h hf
    · refine r_if_lt_f 13 rfl 34 dX7_layOrder_10 (by decide) c3 ?_
      refine r_aload_n 14 rfl 0 rfl rfl dX7_layOrder_13 ?_
      refine r_getr (q := 103) 17 rfl (lq_7_12) sh_96 kd_7_12 fl_X7_47 dX7_layOrder_14 ?_
      refine r_iload_n 18 rfl 2 rfl rfl dX7_layOrder_17 ?_
      refine r_iload_n 19 rfl 1 rfl rfl dX7_layOrder_18 ?_
      refine r_bipush 21 rfl bp_6 dX7_layOrder_19 ?_
      refine r_irem 22 rfl (by decide) dX7_layOrder_21 ?_
      obtain ⟨b30, hf⟩ := gd_so hf
      obtain ⟨g31, e32, hf⟩ := lt_so hf
      refine r_iast 23 rfl sh_103 (inb_vp b30) dX7_layOrder_22 ?_
      refine r_heap e32 ?_
      refine r_iload_n 24 rfl 1 rfl rfl dX7_layOrder_23 ?_
      refine r_bipush 26 rfl bp_6 dX7_layOrder_24 ?_
      refine r_idiv 27 rfl (by decide) dX7_layOrder_26 ?_
      obtain ⟨v33, e34, hf⟩ := lt_so hf
      refine r_top e34 ?_
      refine r_istore_n (lv' := [(2, .int v33), (0, .ref (X.1 96)), (3, .int x3)]) 28 rfl dX7_layOrder_27 (by decide) rfl rfl ?_
      obtain ⟨v35, e36, hf⟩ := lt_so hf
      refine r_iinc (lv' := [(3, .int v35), (2, .int v33), (0, .ref (X.1 96))]) 31 rfl 2 dX7_layOrder_28 rfl (by rw [e36, ic_m1]) (by decide) rfl ?_
      refine r_goto 9 dX7_layOrder_31 (by decide) ?_
      refine r_sub (lv' := [(0, .ref (X.1 96)), (2, .int v33), (3, .int v35)]) [2, 1, 0] rfl ?_
      exact ih v33 v35 g31 hf
def f_X7_layOrder (x1 : Int32) (h : HP) : Option (Int32 × HP) := lt (((h.1 96 34) - 1) : Int32) fun v1 => f_X7_layOrder_L9 FU x1 v1 h
set_option maxHeartbeats 4000000 in
set_option maxRecDepth 100000 in
theorem A_X7_layOrder (X : XE) (x1 : Int32) (h : HP) (r : Int32) (h' : HP) (hf : f_X7_layOrder x1 h = some (r, h')) : CC mX7_layOrder 1 X [.ref (X.1 96), .int x1] h (some (.int r)) h' := by
  refine CC_of rfl (Nat.le_of_ble_eq_true rfl) ?_
  show Run mX7_layOrder 1 X 0 [(0, .ref (X.1 96)), (1, .int x1)] [] h (some (.int r)) h'
  unfold f_X7_layOrder at hf
  refine r_iload_n 1 rfl 1 rfl rfl dX7_layOrder_0 ?_
  refine r_istore_n (lv' := [(2, .int x1), (0, .ref (X.1 96)), (1, .int x1)]) 2 rfl dX7_layOrder_1 (by decide) rfl rfl ?_
  refine r_aload_n 3 rfl 1 rfl rfl dX7_layOrder_2 ?_
  refine r_geti 6 rfl sh_96 kd_7_34 fl_X7_115 dX7_layOrder_3 ?_
  refine r_iconst 7 rfl ic_1 dX7_layOrder_6 ?_
  refine r_isub 8 rfl dX7_layOrder_7 ?_
  obtain ⟨v1, e2, hf⟩ := lt_so hf
  refine r_top e2 ?_
  refine r_istore_n (lv' := [(3, .int v1), (2, .int x1), (0, .ref (X.1 96)), (1, .int x1)]) 9 rfl dX7_layOrder_8 (by decide) rfl rfl ?_
  refine r_sub (lv' := [(0, .ref (X.1 96)), (2, .int x1), (3, .int v1)]) [2, 1, 0] rfl ?_
  exact A_X7_layOrder_L9 X _ _ FU x1 v1 h hf
-- X7_longest
def f_X7_longest_J127 (rc57 : Int32 → Int32 → Int32 → Int32 → HP → Option (Int32 × HP)) (x1 : Int32) (x2 : Int32) (x3 : Int32) (x4 : Int32) (x5 : Int32) (x6 : Int32) (x7 : Int32) (s0 : Int32) (h : HP) : Option (Int32 × HP) := if x3 < s0 then (gd (inb 0 3) (lt (si h 120 (Int32.toNatClampNeg 0) x5) fun g36 => gd (inb 1 3) (lt (si g36 120 (Int32.toNatClampNeg 1) x6) fun g39 => gd (inb 2 3) (lt (si g39 120 (Int32.toNatClampNeg 2) x7) fun g42 => lt (x4 + 1 : Int32) fun v44 => rc57 x1 x2 s0 v44 g42)))) else (lt (x4 + 1 : Int32) fun v46 => rc57 x1 x2 x3 v46 h)
set_option maxHeartbeats 4000000 in
set_option maxRecDepth 100000 in
theorem A_X7_longest_J127 (X : XE) (rc57 : Int32 → Int32 → Int32 → Int32 → HP → Option (Int32 × HP)) (r : Int32) (h' : HP) (hr57 : ∀ (x1 : Int32) (x2 : Int32) (x3 : Int32) (x4 : Int32) (h : HP), rc57 x1 x2 x3 x4 h = some (r, h') → Run mX7_longest 9 X 57 [(0, .ref (X.1 96)), (1, .int x1), (2, .int x2), (3, .int x3), (4, .int x4)] [] h (some (.int r)) h') (x1 : Int32) (x2 : Int32) (x3 : Int32) (x4 : Int32) (x5 : Int32) (x6 : Int32) (x7 : Int32) (s0 : Int32) (h : HP) (hf : f_X7_longest_J127 rc57 x1 x2 x3 x4 x5 x6 x7 s0 h = some (r, h')) : Run mX7_longest 9 X 127 [(0, .ref (X.1 96)), (1, .int x1), (2, .int x2), (3, .int x3), (4, .int x4), (5, .int x5), (6, .int x6), (7, .int x7)] [.int s0] h (some (.int r)) h' := by
  unfold f_X7_longest_J127 at hf
  refine r_istore (lv' := [(8, .int s0), (0, .ref (X.1 96)), (1, .int x1), (2, .int x2), (3, .int x3), (4, .int x4), (5, .int x5), (6, .int x6), (7, .int x7)]) 129 rfl dX7_longest_127 (by decide) rfl ?_
  refine r_iload 131 rfl 0 rfl dX7_longest_129 ?_
  refine r_iload_n 132 rfl 4 rfl rfl dX7_longest_131 ?_
  rcases if_so hf with ⟨c34, hf⟩ | ⟨c34, hf⟩
  · refine r_icmp_gt_t 138 dX7_longest_132 (by decide) c34 ?_
    refine r_iload 140 rfl 0 rfl dX7_longest_138 ?_
    refine r_istore_n (lv' := [(3, .int s0), (8, .int s0), (0, .ref (X.1 96)), (1, .int x1), (2, .int x2), (4, .int x4), (5, .int x5), (6, .int x6), (7, .int x7)]) 141 rfl dX7_longest_140 (by decide) rfl rfl ?_
    refine r_aload_n 142 rfl 2 rfl rfl dX7_longest_141 ?_
    refine r_getr (q := 120) 145 rfl (lq_7_47) sh_96 kd_7_47 fl_X7_154 dX7_longest_142 ?_
    refine r_iconst 146 rfl ic_0 dX7_longest_145 ?_
    refine r_iload 148 rfl 6 rfl dX7_longest_146 ?_
    obtain ⟨b35, hf⟩ := gd_so hf
    obtain ⟨g36, e37, hf⟩ := lt_so hf
    refine r_iast 149 rfl sh_120 (inb_vp b35) dX7_longest_148 ?_
    refine r_heap e37 ?_
    refine r_aload_n 150 rfl 2 rfl rfl dX7_longest_149 ?_
    refine r_getr (q := 120) 153 rfl (lq_7_47) sh_96 kd_7_47 fl_X7_154 dX7_longest_150 ?_
    refine r_iconst 154 rfl ic_1 dX7_longest_153 ?_
    refine r_iload 156 rfl 7 rfl dX7_longest_154 ?_
    obtain ⟨b38, hf⟩ := gd_so hf
    obtain ⟨g39, e40, hf⟩ := lt_so hf
    refine r_iast 157 rfl sh_120 (inb_vp b38) dX7_longest_156 ?_
    refine r_heap e40 ?_
    refine r_aload_n 158 rfl 2 rfl rfl dX7_longest_157 ?_
    refine r_getr (q := 120) 161 rfl (lq_7_47) sh_96 kd_7_47 fl_X7_154 dX7_longest_158 ?_
    refine r_iconst 162 rfl ic_2 dX7_longest_161 ?_
    refine r_iload 164 rfl 8 rfl dX7_longest_162 ?_
    obtain ⟨b41, hf⟩ := gd_so hf
    obtain ⟨g42, e43, hf⟩ := lt_so hf
    refine r_iast 165 rfl sh_120 (inb_vp b41) dX7_longest_164 ?_
    refine r_heap e43 ?_
    obtain ⟨v44, e45, hf⟩ := lt_so hf
    refine r_iinc (lv' := [(4, .int v44), (3, .int s0), (8, .int s0), (0, .ref (X.1 96)), (1, .int x1), (2, .int x2), (5, .int x5), (6, .int x6), (7, .int x7)]) 168 rfl 5 dX7_longest_165 rfl (by rw [e45, ic_1]) (by decide) rfl ?_
    refine r_goto 57 dX7_longest_168 (by decide) ?_
    refine r_sub (lv' := [(0, .ref (X.1 96)), (1, .int x1), (2, .int x2), (3, .int s0), (4, .int v44)]) [3, 4, 5, 1, 0] rfl ?_
    exact hr57 x1 x2 s0 v44 g42 hf
  · refine r_icmp_gt_f 135 rfl 138 dX7_longest_132 (by decide) c34 ?_
    refine r_goto 165 dX7_longest_135 (by decide) ?_
    obtain ⟨v46, e47, hf⟩ := lt_so hf
    refine r_iinc (lv' := [(4, .int v46), (8, .int s0), (0, .ref (X.1 96)), (1, .int x1), (2, .int x2), (3, .int x3), (5, .int x5), (6, .int x6), (7, .int x7)]) 168 rfl 5 dX7_longest_165 rfl (by rw [e47, ic_1]) (by decide) rfl ?_
    refine r_goto 57 dX7_longest_168 (by decide) ?_
    refine r_sub (lv' := [(0, .ref (X.1 96)), (1, .int x1), (2, .int x2), (3, .int x3), (4, .int v46)]) [2, 3, 4, 5, 0] rfl ?_
    exact hr57 x1 x2 x3 v46 h hf
def f_X7_longest_L57 : Nat → Int32 → Int32 → Int32 → Int32 → HP → Option (Int32 × HP)
  | 0, _, _, _, _, _ => none
  | n + 1, x1, x2, x3, x4, h => if x2 ≤ x4 then (if x1 = 3 then (if x3 = 99 then (some ((-5), h)) else (some (x3, h))) else (if (h.1 96 1) ≤ x1 then (some ((-5), h)) else (gd (inb x1 3) (some ((h.1 120 (Int32.toNatClampNeg x1)), h))))) else (bo (f_X7_save h) fun g11 => bd (f_X7_layOrder x4 g11) fun v15 g13 => if v15 = 0 then (bo (f_X7_putBack g13) fun g17 => lt (x4 + 1 : Int32) fun v19 => f_X7_longest_L57 n x1 x2 x3 v19 g17) else (gd (inb 0 3) (lt ((g13.1 103 (Int32.toNatClampNeg 0)) : Int32) fun v22 => gd (inb 1 3) (lt ((g13.1 103 (Int32.toNatClampNeg 1)) : Int32) fun v25 => gd (inb 2 3) (lt ((g13.1 103 (Int32.toNatClampNeg 2)) : Int32) fun v28 => bd (f_X7_firstThen 61 g13) fun v32 g30 => if (0 : Int32) ≤ v32 then (f_X7_longest_J127 (fun z0 z1 z2 z3 z4 => f_X7_longest_L57 n z0 z1 z2 z3 z4) x1 x2 x3 x4 v22 v25 v28 v32 g30) else (f_X7_longest_J127 (fun z0 z1 z2 z3 z4 => f_X7_longest_L57 n z0 z1 z2 z3 z4) x1 x2 x3 x4 v22 v25 v28 99 g30))))))
set_option maxHeartbeats 4000000 in
set_option maxRecDepth 100000 in
theorem A_X7_longest_L57 (X : XE) (r : Int32) (h' : HP) : ∀ (n : Nat) (x1 : Int32) (x2 : Int32) (x3 : Int32) (x4 : Int32) (h : HP), f_X7_longest_L57 n x1 x2 x3 x4 h = some (r, h') → Run mX7_longest 9 X 57 [(0, .ref (X.1 96)), (1, .int x1), (2, .int x2), (3, .int x3), (4, .int x4)] [] h (some (.int r)) h' := by
  intro n
  induction n with
  | zero => intro x1 x2 x3 x4 h hf; cases hf
  | succ n ih =>
    intro x1 x2 x3 x4 h hf
    rw [f_X7_longest_L57] at hf
    refine r_iload 59 rfl 4 rfl dX7_longest_57 ?_
    refine r_iload_n 60 rfl 2 rfl rfl dX7_longest_59 ?_
    rcases if_so hf with ⟨c6, hf⟩ | ⟨c6, hf⟩
    · refine r_icmp_ge_t 171 dX7_longest_60 (by decide) c6 ?_
      refine r_iload_n 172 rfl 1 rfl rfl dX7_longest_171 ?_
      refine r_iconst 173 rfl ic_3 dX7_longest_172 ?_
      rcases if_so hf with ⟨c7, hf⟩ | ⟨c7, hf⟩
      · refine r_icmp_ne_t 176 rfl 189 dX7_longest_173 (by decide) c7 ?_
        refine r_iload_n 177 rfl 3 rfl rfl dX7_longest_176 ?_
        refine r_bipush 179 rfl bp_99 dX7_longest_177 ?_
        rcases if_so hf with ⟨c8, hf⟩ | ⟨c8, hf⟩
        · refine r_icmp_ne_t 182 rfl 187 dX7_longest_179 (by decide) c8 ?_
          refine r_bipush 184 rfl bp_m5 dX7_longest_182 ?_
          refine r_goto 188 dX7_longest_184 (by decide) ?_
          obtain ⟨rfl, rfl⟩ := so2 hf
          exact r_iret rfl rfl dX7_longest_188
        · refine r_icmp_ne_f 187 dX7_longest_179 (by decide) c8 ?_
          refine r_iload_n 188 rfl 3 rfl rfl dX7_longest_187 ?_
          obtain ⟨rfl, rfl⟩ := so2 hf
          exact r_iret rfl rfl dX7_longest_188
      · refine r_icmp_ne_f 189 dX7_longest_173 (by decide) c7 ?_
        refine r_iload_n 190 rfl 1 rfl rfl dX7_longest_189 ?_
        refine r_aload_n 191 rfl 0 rfl rfl dX7_longest_190 ?_
        refine r_geti 194 rfl sh_96 kd_7_1 fl_X7_13 dX7_longest_191 ?_
        rcases if_so hf with ⟨c9, hf⟩ | ⟨c9, hf⟩
        · refine r_icmp_ge_t 206 dX7_longest_194 (by decide) c9 ?_
          refine r_bipush 208 rfl bp_m5 dX7_longest_206 ?_
          obtain ⟨rfl, rfl⟩ := so2 hf
          exact r_iret rfl rfl dX7_longest_208
        · refine r_icmp_ge_f 197 rfl 206 dX7_longest_194 (by decide) c9 ?_
          refine r_aload_n 198 rfl 0 rfl rfl dX7_longest_197 ?_
          refine r_getr (q := 120) 201 rfl (lq_7_47) sh_96 kd_7_47 fl_X7_154 dX7_longest_198 ?_
          refine r_iload_n 202 rfl 1 rfl rfl dX7_longest_201 ?_
          obtain ⟨b10, hf⟩ := gd_so hf
          refine r_iald 203 rfl sh_120 (inb_vp b10) dX7_longest_202 ?_
          refine r_goto 208 dX7_longest_203 (by decide) ?_
          obtain ⟨rfl, rfl⟩ := so2 hf
          exact r_iret rfl rfl dX7_longest_208
    · refine r_icmp_ge_f 63 rfl 171 dX7_longest_60 (by decide) c6 ?_
      refine r_aload_n 64 rfl 0 rfl rfl dX7_longest_63 ?_
      obtain ⟨g11, e12, hf⟩ := bo_so hf
      refine r_callVv 67 rfl (A_X7_save X h g11 e12) (by omega) cw_X7_402 sh_96 cl_7 rfl rfl (Nat.le_of_ble_eq_true rfl) dX7_longest_64 ?_
      refine r_aload_n 68 rfl 0 rfl rfl dX7_longest_67 ?_
      refine r_iload 70 rfl 4 rfl dX7_longest_68 ?_
      obtain ⟨v15, g13, e14, hf⟩ := bd_so hf
      refine r_callVi 73 rfl (A_X7_layOrder X x4 g11 v15 g13 e14) (by omega) cw_X7_421 sh_96 cl_7 rfl rfl (Nat.le_of_ble_eq_true rfl) dX7_longest_70 ?_
      rcases if_so hf with ⟨c16, hf⟩ | ⟨c16, hf⟩
      · refine r_if_ne_t 76 rfl 83 dX7_longest_73 (by decide) c16 ?_
        refine r_aload_n 77 rfl 0 rfl rfl dX7_longest_76 ?_
        obtain ⟨g17, e18, hf⟩ := bo_so hf
        refine r_callVv 80 rfl (A_X7_putBack X g13 g17 e18) (by omega) cw_X7_405 sh_96 cl_7 rfl rfl (Nat.le_of_ble_eq_true rfl) dX7_longest_77 ?_
        refine r_goto 165 dX7_longest_80 (by decide) ?_
        obtain ⟨v19, e20, hf⟩ := lt_so hf
        refine r_iinc (lv' := [(4, .int v19), (0, .ref (X.1 96)), (1, .int x1), (2, .int x2), (3, .int x3)]) 168 rfl 4 dX7_longest_165 rfl (by rw [e20, ic_1]) (by decide) rfl ?_
        refine r_goto 57 dX7_longest_168 (by decide) ?_
        refine r_sub (lv' := [(0, .ref (X.1 96)), (1, .int x1), (2, .int x2), (3, .int x3), (4, .int v19)]) [1, 2, 3, 4, 0] rfl ?_
        exact ih x1 x2 x3 v19 g17 hf
      · refine r_if_ne_f 83 dX7_longest_73 (by decide) c16 ?_
        refine r_aload_n 84 rfl 0 rfl rfl dX7_longest_83 ?_
        refine r_getr (q := 103) 87 rfl (lq_7_12) sh_96 kd_7_12 fl_X7_47 dX7_longest_84 ?_
        refine r_iconst 88 rfl ic_0 dX7_longest_87 ?_
        obtain ⟨b21, hf⟩ := gd_so hf
        refine r_iald 89 rfl sh_103 (inb_vp b21) dX7_longest_88 ?_
        obtain ⟨v22, e23, hf⟩ := lt_so hf
        refine r_top e23 ?_
        refine r_istore (lv' := [(5, .int v22), (0, .ref (X.1 96)), (1, .int x1), (2, .int x2), (3, .int x3), (4, .int x4)]) 91 rfl dX7_longest_89 (by decide) rfl ?_
        refine r_aload_n 92 rfl 1 rfl rfl dX7_longest_91 ?_
        refine r_getr (q := 103) 95 rfl (lq_7_12) sh_96 kd_7_12 fl_X7_47 dX7_longest_92 ?_
        refine r_iconst 96 rfl ic_1 dX7_longest_95 ?_
        obtain ⟨b24, hf⟩ := gd_so hf
        refine r_iald 97 rfl sh_103 (inb_vp b24) dX7_longest_96 ?_
        obtain ⟨v25, e26, hf⟩ := lt_so hf
        refine r_top e26 ?_
        refine r_istore (lv' := [(6, .int v25), (5, .int v22), (0, .ref (X.1 96)), (1, .int x1), (2, .int x2), (3, .int x3), (4, .int x4)]) 99 rfl dX7_longest_97 (by decide) rfl ?_
        refine r_aload_n 100 rfl 2 rfl rfl dX7_longest_99 ?_
        refine r_getr (q := 103) 103 rfl (lq_7_12) sh_96 kd_7_12 fl_X7_47 dX7_longest_100 ?_
        refine r_iconst 104 rfl ic_2 dX7_longest_103 ?_
        obtain ⟨b27, hf⟩ := gd_so hf
        refine r_iald 105 rfl sh_103 (inb_vp b27) dX7_longest_104 ?_
        obtain ⟨v28, e29, hf⟩ := lt_so hf
        refine r_top e29 ?_
        refine r_istore (lv' := [(7, .int v28), (6, .int v25), (5, .int v22), (0, .ref (X.1 96)), (1, .int x1), (2, .int x2), (3, .int x3), (4, .int x4)]) 107 rfl dX7_longest_105 (by decide) rfl ?_
        refine r_aload_n 108 rfl 3 rfl rfl dX7_longest_107 ?_
        refine r_bipush 110 rfl bp_61 dX7_longest_108 ?_
        obtain ⟨v32, g30, e31, hf⟩ := bd_so hf
        refine r_callVi 113 rfl (A_X7_firstThen X 61 g13 v32 g30 e31) (by omega) cw_X7_408 sh_96 cl_7 rfl rfl (Nat.le_of_ble_eq_true rfl) dX7_longest_110 ?_
        refine r_istore (lv' := [(8, .int v32), (7, .int v28), (6, .int v25), (5, .int v22), (0, .ref (X.1 96)), (1, .int x1), (2, .int x2), (3, .int x3), (4, .int x4)]) 115 rfl dX7_longest_113 (by decide) rfl ?_
        refine r_iload 117 rfl 0 rfl dX7_longest_115 ?_
        rcases if_so hf with ⟨c33, hf⟩ | ⟨c33, hf⟩
        · refine r_if_ge_t 125 dX7_longest_117 (by decide) c33 ?_
          refine r_iload 127 rfl 0 rfl dX7_longest_125 ?_
          refine r_sub (lv' := [(0, .ref (X.1 96)), (1, .int x1), (2, .int x2), (3, .int x3), (4, .int x4), (5, .int v22), (6, .int v25), (7, .int v28)]) [4, 5, 6, 7, 8, 3, 2, 1] rfl ?_
          exact A_X7_longest_J127 X (fun z0 z1 z2 z3 z4 => f_X7_longest_L57 n z0 z1 z2 z3 z4) _ _ ih x1 x2 x3 x4 v22 v25 v28 v32 g30 hf
        · refine r_if_ge_f 120 rfl 125 dX7_longest_117 (by decide) c33 ?_
          refine r_bipush 122 rfl bp_99 dX7_longest_120 ?_
          refine r_goto 127 dX7_longest_122 (by decide) ?_
          refine r_sub (lv' := [(0, .ref (X.1 96)), (1, .int x1), (2, .int x2), (3, .int x3), (4, .int x4), (5, .int v22), (6, .int v25), (7, .int v28)]) [4, 5, 6, 7, 8, 3, 2, 1] rfl ?_
          exact A_X7_longest_J127 X (fun z0 z1 z2 z3 z4 => f_X7_longest_L57 n z0 z1 z2 z3 z4) _ _ ih x1 x2 x3 x4 v22 v25 v28 99 g30 hf
def f_X7_longest (x1 : Int32) (h : HP) : Option (Int32 × HP) := bo (f_X7_in x1 0 3) fun v1 => if v1 = 0 then (some ((-1), h)) else (if (h.1 96 1) = 0 then (some ((-5), h)) else (if (h.1 96 1) = 1 then (f_X7_longest_L57 FU x1 6 (-1) 0 h) else (if (h.1 96 1) = 2 then (f_X7_longest_L57 FU x1 36 (-1) 0 h) else (f_X7_longest_L57 FU x1 216 (-1) 0 h))))
set_option maxHeartbeats 4000000 in
set_option maxRecDepth 100000 in
theorem A_X7_longest (X : XE) (x1 : Int32) (h : HP) (r : Int32) (h' : HP) (hf : f_X7_longest x1 h = some (r, h')) : CC mX7_longest 9 X [.ref (X.1 96), .int x1] h (some (.int r)) h' := by
  refine CC_of rfl (Nat.le_of_ble_eq_true rfl) ?_
  show Run mX7_longest 9 X 0 [(0, .ref (X.1 96)), (1, .int x1)] [] h (some (.int r)) h'
  unfold f_X7_longest at hf
  refine r_aload_n 1 rfl 0 rfl rfl dX7_longest_0 ?_
  refine r_iload_n 2 rfl 1 rfl rfl dX7_longest_1 ?_
  refine r_iconst 3 rfl ic_0 dX7_longest_2 ?_
  refine r_iconst 4 rfl ic_3 dX7_longest_3 ?_
  obtain ⟨v1, e2, hf⟩ := bo_so hf
  refine r_callVi 7 rfl (A_X7_in X x1 0 3 h v1 e2) (by omega) cw_X7_276 sh_96 cl_7 rfl rfl (Nat.le_of_ble_eq_true rfl) dX7_longest_4 ?_
  rcases if_so hf with ⟨c3, hf⟩ | ⟨c3, hf⟩
  · refine r_if_ne_t 10 rfl 12 dX7_longest_7 (by decide) c3 ?_
    refine r_iconst 11 rfl ic_m1 dX7_longest_10 ?_
    obtain ⟨rfl, rfl⟩ := so2 hf
    exact r_iret rfl rfl dX7_longest_11
  · refine r_if_ne_f 12 dX7_longest_7 (by decide) c3 ?_
    refine r_aload_n 13 rfl 0 rfl rfl dX7_longest_12 ?_
    refine r_geti 16 rfl sh_96 kd_7_1 fl_X7_13 dX7_longest_13 ?_
    rcases if_so hf with ⟨c4, hf⟩ | ⟨c4, hf⟩
    · refine r_if_ne_t 19 rfl 22 dX7_longest_16 (by decide) c4 ?_
      refine r_bipush 21 rfl bp_m5 dX7_longest_19 ?_
      obtain ⟨rfl, rfl⟩ := so2 hf
      exact r_iret rfl rfl dX7_longest_21
    · refine r_if_ne_f 22 dX7_longest_16 (by decide) c4 ?_
      refine r_aload_n 23 rfl 0 rfl rfl dX7_longest_22 ?_
      refine r_geti 26 rfl sh_96 kd_7_1 fl_X7_13 dX7_longest_23 ?_
      refine r_iconst 27 rfl ic_1 dX7_longest_26 ?_
      rcases if_so hf with ⟨c5, hf⟩ | ⟨c5, hf⟩
      · refine r_icmp_ne_t 30 rfl 35 dX7_longest_27 (by decide) c5 ?_
        refine r_bipush 32 rfl bp_6 dX7_longest_30 ?_
        refine r_goto 51 dX7_longest_32 (by decide) ?_
        refine r_istore_n (lv' := [(2, .int 6), (0, .ref (X.1 96)), (1, .int x1)]) 52 rfl dX7_longest_51 (by decide) rfl rfl ?_
        refine r_iconst 53 rfl ic_m1 dX7_longest_52 ?_
        refine r_istore_n (lv' := [(3, .int (-1)), (2, .int 6), (0, .ref (X.1 96)), (1, .int x1)]) 54 rfl dX7_longest_53 (by decide) rfl rfl ?_
        refine r_iconst 55 rfl ic_0 dX7_longest_54 ?_
        refine r_istore (lv' := [(4, .int 0), (3, .int (-1)), (2, .int 6), (0, .ref (X.1 96)), (1, .int x1)]) 57 rfl dX7_longest_55 (by decide) rfl ?_
        refine r_sub (lv' := [(0, .ref (X.1 96)), (1, .int x1), (2, .int 6), (3, .int (-1)), (4, .int 0)]) [3, 4, 2, 1, 0] rfl ?_
        exact A_X7_longest_L57 X _ _ FU x1 6 (-1) 0 h hf
      · refine r_icmp_ne_f 35 dX7_longest_27 (by decide) c5 ?_
        refine r_aload_n 36 rfl 0 rfl rfl dX7_longest_35 ?_
        refine r_geti 39 rfl sh_96 kd_7_1 fl_X7_13 dX7_longest_36 ?_
        refine r_iconst 40 rfl ic_2 dX7_longest_39 ?_
        rcases if_so hf with ⟨c48, hf⟩ | ⟨c48, hf⟩
        · refine r_icmp_ne_t 43 rfl 48 dX7_longest_40 (by decide) c48 ?_
          refine r_bipush 45 rfl bp_36 dX7_longest_43 ?_
          refine r_goto 51 dX7_longest_45 (by decide) ?_
          refine r_istore_n (lv' := [(2, .int 36), (0, .ref (X.1 96)), (1, .int x1)]) 52 rfl dX7_longest_51 (by decide) rfl rfl ?_
          refine r_iconst 53 rfl ic_m1 dX7_longest_52 ?_
          refine r_istore_n (lv' := [(3, .int (-1)), (2, .int 36), (0, .ref (X.1 96)), (1, .int x1)]) 54 rfl dX7_longest_53 (by decide) rfl rfl ?_
          refine r_iconst 55 rfl ic_0 dX7_longest_54 ?_
          refine r_istore (lv' := [(4, .int 0), (3, .int (-1)), (2, .int 36), (0, .ref (X.1 96)), (1, .int x1)]) 57 rfl dX7_longest_55 (by decide) rfl ?_
          refine r_sub (lv' := [(0, .ref (X.1 96)), (1, .int x1), (2, .int 36), (3, .int (-1)), (4, .int 0)]) [3, 4, 2, 1, 0] rfl ?_
          exact A_X7_longest_L57 X _ _ FU x1 36 (-1) 0 h hf
        · refine r_icmp_ne_f 48 dX7_longest_40 (by decide) c48 ?_
          refine r_sipush 51 rfl sp_216 dX7_longest_48 ?_
          refine r_istore_n (lv' := [(2, .int 216), (0, .ref (X.1 96)), (1, .int x1)]) 52 rfl dX7_longest_51 (by decide) rfl rfl ?_
          refine r_iconst 53 rfl ic_m1 dX7_longest_52 ?_
          refine r_istore_n (lv' := [(3, .int (-1)), (2, .int 216), (0, .ref (X.1 96)), (1, .int x1)]) 54 rfl dX7_longest_53 (by decide) rfl rfl ?_
          refine r_iconst 55 rfl ic_0 dX7_longest_54 ?_
          refine r_istore (lv' := [(4, .int 0), (3, .int (-1)), (2, .int 216), (0, .ref (X.1 96)), (1, .int x1)]) 57 rfl dX7_longest_55 (by decide) rfl ?_
          refine r_sub (lv' := [(0, .ref (X.1 96)), (1, .int x1), (2, .int 216), (3, .int (-1)), (4, .int 0)]) [3, 4, 2, 1, 0] rfl ?_
          exact A_X7_longest_L57 X _ _ FU x1 216 (-1) 0 h hf
-- X7_see
def f_X7_see (x1 : Int32) (x2 : Int32) (h : HP) : Option (Int32 × HP) := if x1 = (-1) then (lt (si h 96 48 0) fun g2 => some (0, g2)) else (bo (f_X7_in x1 0 3) fun v4 => if v4 = 0 then (some ((-2), h)) else (bo (f_X7_in x2 0 20) fun v7 => if v7 = 0 then (some ((-2), h)) else (if (h.1 96 48) = 5 then (some ((-4), h)) else (gd (inb (h.1 96 48) 5) (lt (si h 121 (Int32.toNatClampNeg (h.1 96 48)) x1) fun g12 => gd (inb (g12.1 96 48) 5) (lt (si g12 122 (Int32.toNatClampNeg (g12.1 96 48)) x2) fun g15 => lt (si g15 96 48 ((g15.1 96 48) + 1)) fun g17 => some ((g17.1 96 48), g17)))))))
set_option maxHeartbeats 4000000 in
set_option maxRecDepth 100000 in
theorem A_X7_see (X : XE) (x1 : Int32) (x2 : Int32) (h : HP) (r : Int32) (h' : HP) (hf : f_X7_see x1 x2 h = some (r, h')) : CC mX7_see 2 X [.ref (X.1 96), .int x1, .int x2] h (some (.int r)) h' := by
  refine CC_of rfl (Nat.le_of_ble_eq_true rfl) ?_
  show Run mX7_see 2 X 0 [(0, .ref (X.1 96)), (1, .int x1), (2, .int x2)] [] h (some (.int r)) h'
  unfold f_X7_see at hf
  refine r_iload_n 1 rfl 1 rfl rfl dX7_see_0 ?_
  refine r_iconst 2 rfl ic_m1 dX7_see_1 ?_
  rcases if_so hf with ⟨c1, hf⟩ | ⟨c1, hf⟩
  · refine r_icmp_ne_t 5 rfl 12 dX7_see_2 (by decide) c1 ?_
    refine r_aload_n 6 rfl 0 rfl rfl dX7_see_5 ?_
    refine r_iconst 7 rfl ic_0 dX7_see_6 ?_
    obtain ⟨g2, e3, hf⟩ := lt_so hf
    refine r_puti 10 rfl sh_96 kd_7_48 fw_X7_157 rfl rfl dX7_see_7 ?_
    refine r_heap e3 ?_
    refine r_iconst 11 rfl ic_0 dX7_see_10 ?_
    obtain ⟨rfl, rfl⟩ := so2 hf
    exact r_iret rfl rfl dX7_see_11
  · refine r_icmp_ne_f 12 dX7_see_2 (by decide) c1 ?_
    refine r_aload_n 13 rfl 0 rfl rfl dX7_see_12 ?_
    refine r_iload_n 14 rfl 1 rfl rfl dX7_see_13 ?_
    refine r_iconst 15 rfl ic_0 dX7_see_14 ?_
    refine r_iconst 16 rfl ic_3 dX7_see_15 ?_
    obtain ⟨v4, e5, hf⟩ := bo_so hf
    refine r_callVi 19 rfl (A_X7_in X x1 0 3 h v4 e5) (by omega) cw_X7_276 sh_96 cl_7 rfl rfl (Nat.le_of_ble_eq_true rfl) dX7_see_16 ?_
    rcases if_so hf with ⟨c6, hf⟩ | ⟨c6, hf⟩
    · refine r_if_eq_t 33 dX7_see_19 (by decide) c6 ?_
      refine r_bipush 35 rfl bp_m2 dX7_see_33 ?_
      obtain ⟨rfl, rfl⟩ := so2 hf
      exact r_iret rfl rfl dX7_see_35
    · refine r_if_eq_f 22 rfl 33 dX7_see_19 (by decide) c6 ?_
      refine r_aload_n 23 rfl 0 rfl rfl dX7_see_22 ?_
      refine r_iload_n 24 rfl 2 rfl rfl dX7_see_23 ?_
      refine r_iconst 25 rfl ic_0 dX7_see_24 ?_
      refine r_bipush 27 rfl bp_20 dX7_see_25 ?_
      obtain ⟨v7, e8, hf⟩ := bo_so hf
      refine r_callVi 30 rfl (A_X7_in X x2 0 20 h v7 e8) (by omega) cw_X7_276 sh_96 cl_7 rfl rfl (Nat.le_of_ble_eq_true rfl) dX7_see_27 ?_
      rcases if_so hf with ⟨c9, hf⟩ | ⟨c9, hf⟩
      · refine r_if_ne_t 33 rfl 36 dX7_see_30 (by decide) c9 ?_
        refine r_bipush 35 rfl bp_m2 dX7_see_33 ?_
        obtain ⟨rfl, rfl⟩ := so2 hf
        exact r_iret rfl rfl dX7_see_35
      · refine r_if_ne_f 36 dX7_see_30 (by decide) c9 ?_
        refine r_aload_n 37 rfl 0 rfl rfl dX7_see_36 ?_
        refine r_geti 40 rfl sh_96 kd_7_48 fl_X7_157 dX7_see_37 ?_
        refine r_iconst 41 rfl ic_5 dX7_see_40 ?_
        rcases if_so hf with ⟨c10, hf⟩ | ⟨c10, hf⟩
        · refine r_icmp_ne_t 44 rfl 47 dX7_see_41 (by decide) c10 ?_
          refine r_bipush 46 rfl bp_m4 dX7_see_44 ?_
          obtain ⟨rfl, rfl⟩ := so2 hf
          exact r_iret rfl rfl dX7_see_46
        · refine r_icmp_ne_f 47 dX7_see_41 (by decide) c10 ?_
          refine r_aload_n 48 rfl 0 rfl rfl dX7_see_47 ?_
          refine r_getr (q := 121) 51 rfl (lq_7_49) sh_96 kd_7_49 fl_X7_160 dX7_see_48 ?_
          refine r_aload_n 52 rfl 0 rfl rfl dX7_see_51 ?_
          refine r_geti 55 rfl sh_96 kd_7_48 fl_X7_157 dX7_see_52 ?_
          refine r_iload_n 56 rfl 1 rfl rfl dX7_see_55 ?_
          obtain ⟨b11, hf⟩ := gd_so hf
          obtain ⟨g12, e13, hf⟩ := lt_so hf
          refine r_iast 57 rfl sh_121 (inb_vp b11) dX7_see_56 ?_
          refine r_heap e13 ?_
          refine r_aload_n 58 rfl 0 rfl rfl dX7_see_57 ?_
          refine r_getr (q := 122) 61 rfl (lq_7_50) sh_96 kd_7_50 fl_X7_163 dX7_see_58 ?_
          refine r_aload_n 62 rfl 0 rfl rfl dX7_see_61 ?_
          refine r_geti 65 rfl sh_96 kd_7_48 fl_X7_157 dX7_see_62 ?_
          refine r_iload_n 66 rfl 2 rfl rfl dX7_see_65 ?_
          obtain ⟨b14, hf⟩ := gd_so hf
          obtain ⟨g15, e16, hf⟩ := lt_so hf
          refine r_iast 67 rfl sh_122 (inb_vp b14) dX7_see_66 ?_
          refine r_heap e16 ?_
          refine r_aload_n 68 rfl 0 rfl rfl dX7_see_67 ?_
          refine r_dup 69 rfl rfl dX7_see_68 ?_
          refine r_geti 72 rfl sh_96 kd_7_48 fl_X7_157 dX7_see_69 ?_
          refine r_iconst 73 rfl ic_1 dX7_see_72 ?_
          refine r_iadd 74 rfl dX7_see_73 ?_
          obtain ⟨g17, e18, hf⟩ := lt_so hf
          refine r_puti 77 rfl sh_96 kd_7_48 fw_X7_157 rfl rfl dX7_see_74 ?_
          refine r_heap e18 ?_
          refine r_aload_n 78 rfl 0 rfl rfl dX7_see_77 ?_
          refine r_geti 81 rfl sh_96 kd_7_48 fl_X7_157 dX7_see_78 ?_
          obtain ⟨rfl, rfl⟩ := so2 hf
          exact r_iret rfl rfl dX7_see_81
-- X7_isSeen
def f_X7_isSeen_L4 : Nat → Int32 → Int32 → HP → Option (Int32 × HP)
  | 0, _, _, _ => none
  | n + 1, x1, x2, h => if (h.1 96 48) ≤ x2 then (gd (zok x1) (some (x1, h))) else (if x1 = 0 then (gd (zok x1) (some (x1, h))) else (bo (f_X7_save h) fun g5 => gd (inb x2 5) (bo (f_X7_goDays (g5.1 122 (Int32.toNatClampNeg x2)) g5) fun g8 => gd (inb x2 5) (if (g8.1 96 1) = (g8.1 121 (Int32.toNatClampNeg x2)) then (bo (f_X7_putBack g8) fun g12 => lt (x2 + 1 : Int32) fun v14 => f_X7_isSeen_L4 n 1 v14 g12) else (bo (f_X7_putBack g8) fun g16 => lt (x2 + 1 : Int32) fun v18 => f_X7_isSeen_L4 n 0 v18 g16)))))
set_option maxHeartbeats 4000000 in
set_option maxRecDepth 100000 in
theorem A_X7_isSeen_L4 (X : XE) (r : Int32) (h' : HP) : ∀ (n : Nat) (x1 : Int32) (x2 : Int32) (h : HP), f_X7_isSeen_L4 n x1 x2 h = some (r, h') → Run mX7_isSeen 9 X 4 [(0, .ref (X.1 96)), (1, .int x1), (2, .int x2)] [] h (some (.int r)) h' := by
  intro n
  induction n with
  | zero => intro x1 x2 h hf; cases hf
  | succ n ih =>
    intro x1 x2 h hf
    rw [f_X7_isSeen_L4] at hf
    refine r_iload_n 5 rfl 2 rfl rfl dX7_isSeen_4 ?_
    refine r_aload_n 6 rfl 0 rfl rfl dX7_isSeen_5 ?_
    refine r_geti 9 rfl sh_96 kd_7_48 fl_X7_157 dX7_isSeen_6 ?_
    rcases if_so hf with ⟨c1, hf⟩ | ⟨c1, hf⟩
    · refine r_icmp_ge_t 59 dX7_isSeen_9 (by decide) c1 ?_
      refine r_iload_n 60 rfl 1 rfl rfl dX7_isSeen_59 ?_
      obtain ⟨b2, hf⟩ := gd_so hf
      obtain ⟨rfl, rfl⟩ := so2 hf
      exact r_iret rfl (zok_nar b2) dX7_isSeen_60
    · refine r_icmp_ge_f 12 rfl 59 dX7_isSeen_9 (by decide) c1 ?_
      refine r_iload_n 13 rfl 1 rfl rfl dX7_isSeen_12 ?_
      rcases if_so hf with ⟨c3, hf⟩ | ⟨c3, hf⟩
      · refine r_if_eq_t 59 dX7_isSeen_13 (by decide) c3 ?_
        refine r_iload_n 60 rfl 1 rfl rfl dX7_isSeen_59 ?_
        obtain ⟨b4, hf⟩ := gd_so hf
        obtain ⟨rfl, rfl⟩ := so2 hf
        exact r_iret rfl (zok_nar b4) dX7_isSeen_60
      · refine r_if_eq_f 16 rfl 59 dX7_isSeen_13 (by decide) c3 ?_
        refine r_aload_n 17 rfl 0 rfl rfl dX7_isSeen_16 ?_
        obtain ⟨g5, e6, hf⟩ := bo_so hf
        refine r_callVv 20 rfl (A_X7_save X h g5 e6) (by omega) cw_X7_402 sh_96 cl_7 rfl rfl (Nat.le_of_ble_eq_true rfl) dX7_isSeen_17 ?_
        refine r_aload_n 21 rfl 0 rfl rfl dX7_isSeen_20 ?_
        refine r_aload_n 22 rfl 0 rfl rfl dX7_isSeen_21 ?_
        refine r_getr (q := 122) 25 rfl (lq_7_50) sh_96 kd_7_50 fl_X7_163 dX7_isSeen_22 ?_
        refine r_iload_n 26 rfl 2 rfl rfl dX7_isSeen_25 ?_
        obtain ⟨b7, hf⟩ := gd_so hf
        refine r_iald 27 rfl sh_122 (inb_vp b7) dX7_isSeen_26 ?_
        obtain ⟨g8, e9, hf⟩ := bo_so hf
        refine r_callVv 30 rfl (A_X7_goDays X (g5.1 122 (Int32.toNatClampNeg x2)) g5 g8 e9) (by omega) cw_X7_398 sh_96 cl_7 rfl rfl (Nat.le_of_ble_eq_true rfl) dX7_isSeen_27 ?_
        refine r_aload_n 31 rfl 0 rfl rfl dX7_isSeen_30 ?_
        refine r_geti 34 rfl sh_96 kd_7_1 fl_X7_13 dX7_isSeen_31 ?_
        refine r_aload_n 35 rfl 0 rfl rfl dX7_isSeen_34 ?_
        refine r_getr (q := 121) 38 rfl (lq_7_49) sh_96 kd_7_49 fl_X7_160 dX7_isSeen_35 ?_
        refine r_iload_n 39 rfl 2 rfl rfl dX7_isSeen_38 ?_
        obtain ⟨b10, hf⟩ := gd_so hf
        refine r_iald 40 rfl sh_121 (inb_vp b10) dX7_isSeen_39 ?_
        rcases if_so hf with ⟨c11, hf⟩ | ⟨c11, hf⟩
        · refine r_icmp_ne_t 43 rfl 47 dX7_isSeen_40 (by decide) c11 ?_
          refine r_iconst 44 rfl ic_1 dX7_isSeen_43 ?_
          refine r_goto 48 dX7_isSeen_44 (by decide) ?_
          refine r_istore_n (lv' := [(1, .int 1), (0, .ref (X.1 96)), (2, .int x2)]) 49 rfl dX7_isSeen_48 (by decide) rfl rfl ?_
          refine r_aload_n 50 rfl 1 rfl rfl dX7_isSeen_49 ?_
          obtain ⟨g12, e13, hf⟩ := bo_so hf
          refine r_callVv 53 rfl (A_X7_putBack X g8 g12 e13) (by omega) cw_X7_405 sh_96 cl_7 rfl rfl (Nat.le_of_ble_eq_true rfl) dX7_isSeen_50 ?_
          obtain ⟨v14, e15, hf⟩ := lt_so hf
          refine r_iinc (lv' := [(2, .int v14), (1, .int 1), (0, .ref (X.1 96))]) 56 rfl 2 dX7_isSeen_53 rfl (by rw [e15, ic_1]) (by decide) rfl ?_
          refine r_goto 4 dX7_isSeen_56 (by decide) ?_
          refine r_sub (lv' := [(0, .ref (X.1 96)), (1, .int 1), (2, .int v14)]) [2, 1, 0] rfl ?_
          exact ih 1 v14 g12 hf
        · refine r_icmp_ne_f 47 dX7_isSeen_40 (by decide) c11 ?_
          refine r_iconst 48 rfl ic_0 dX7_isSeen_47 ?_
          refine r_istore_n (lv' := [(1, .int 0), (0, .ref (X.1 96)), (2, .int x2)]) 49 rfl dX7_isSeen_48 (by decide) rfl rfl ?_
          refine r_aload_n 50 rfl 1 rfl rfl dX7_isSeen_49 ?_
          obtain ⟨g16, e17, hf⟩ := bo_so hf
          refine r_callVv 53 rfl (A_X7_putBack X g8 g16 e17) (by omega) cw_X7_405 sh_96 cl_7 rfl rfl (Nat.le_of_ble_eq_true rfl) dX7_isSeen_50 ?_
          obtain ⟨v18, e19, hf⟩ := lt_so hf
          refine r_iinc (lv' := [(2, .int v18), (1, .int 0), (0, .ref (X.1 96))]) 56 rfl 2 dX7_isSeen_53 rfl (by rw [e19, ic_1]) (by decide) rfl ?_
          refine r_goto 4 dX7_isSeen_56 (by decide) ?_
          refine r_sub (lv' := [(0, .ref (X.1 96)), (1, .int 0), (2, .int v18)]) [2, 1, 0] rfl ?_
          exact ih 0 v18 g16 hf
def f_X7_isSeen (h : HP) : Option (Int32 × HP) := f_X7_isSeen_L4 FU 1 0 h
set_option maxHeartbeats 4000000 in
set_option maxRecDepth 100000 in
theorem A_X7_isSeen (X : XE) (h : HP) (r : Int32) (h' : HP) (hf : f_X7_isSeen h = some (r, h')) : CC mX7_isSeen 9 X [.ref (X.1 96)] h (some (.int r)) h' := by
  refine CC_of rfl (Nat.le_of_ble_eq_true rfl) ?_
  show Run mX7_isSeen 9 X 0 [(0, .ref (X.1 96))] [] h (some (.int r)) h'
  unfold f_X7_isSeen at hf
  refine r_iconst 1 rfl ic_1 dX7_isSeen_0 ?_
  refine r_istore_n (lv' := [(1, .int 1), (0, .ref (X.1 96))]) 2 rfl dX7_isSeen_1 (by decide) rfl rfl ?_
  refine r_iconst 3 rfl ic_0 dX7_isSeen_2 ?_
  refine r_istore_n (lv' := [(2, .int 0), (1, .int 1), (0, .ref (X.1 96))]) 4 rfl dX7_isSeen_3 (by decide) rfl rfl ?_
  refine r_sub (lv' := [(0, .ref (X.1 96)), (1, .int 1), (2, .int 0)]) [2, 1, 0] rfl ?_
  exact A_X7_isSeen_L4 X _ _ FU 1 0 h hf
-- X7_worn
def f_X7_worn_L38 : Nat → Int32 → Int32 → Int32 → Int32 → Int32 → Int32 → HP → Option (Int32 × HP)
  | 0, _, _, _, _, _, _, _ => none
  | n + 1, x1, x2, x3, x4, x5, x6, h => if x6 < 0 then (gd (inb x1 6) (lt (si h 100 (Int32.toNatClampNeg x1) x3) fun g12 => if x2 = 0 then (some (x4, g12)) else (some (x5, g12)))) else (gd (inb x1 6) (lt (si h 100 (Int32.toNatClampNeg x1) x6) fun g16 => bd (f_X7_isSeen g16) fun v20 g18 => if v20 = 0 then (lt (x6 + (-1) : Int32) fun v22 => f_X7_worn_L38 n x1 x2 x3 x4 x5 v22 g18) else (lt (x4 + 1 : Int32) fun v24 => lt (x6 + (-1) : Int32) fun v26 => f_X7_worn_L38 n x1 x2 x3 v24 x6 v26 g18)))
set_option maxHeartbeats 4000000 in
set_option maxRecDepth 100000 in
theorem A_X7_worn_L38 (X : XE) (r : Int32) (h' : HP) : ∀ (n : Nat) (x1 : Int32) (x2 : Int32) (x3 : Int32) (x4 : Int32) (x5 : Int32) (x6 : Int32) (h : HP), f_X7_worn_L38 n x1 x2 x3 x4 x5 x6 h = some (r, h') → Run mX7_worn 10 X 38 [(0, .ref (X.1 96)), (1, .int x1), (2, .int x2), (3, .int x3), (4, .int x4), (5, .int x5), (6, .int x6)] [] h (some (.int r)) h' := by
  intro n
  induction n with
  | zero => intro x1 x2 x3 x4 x5 x6 h hf; cases hf
  | succ n ih =>
    intro x1 x2 x3 x4 x5 x6 h hf
    rw [f_X7_worn_L38] at hf
    refine r_iload 40 rfl 6 rfl dX7_worn_38 ?_
    rcases if_so hf with ⟨c10, hf⟩ | ⟨c10, hf⟩
    · refine r_if_lt_t 74 dX7_worn_40 (by decide) c10 ?_
      refine r_aload_n 75 rfl 0 rfl rfl dX7_worn_74 ?_
      refine r_getr (q := 100) 78 rfl (lq_7_9) sh_96 kd_7_9 fl_X7_38 dX7_worn_75 ?_
      refine r_iload_n 79 rfl 1 rfl rfl dX7_worn_78 ?_
      refine r_iload_n 80 rfl 3 rfl rfl dX7_worn_79 ?_
      obtain ⟨b11, hf⟩ := gd_so hf
      obtain ⟨g12, e13, hf⟩ := lt_so hf
      refine r_iast 81 rfl sh_100 (inb_vp b11) dX7_worn_80 ?_
      refine r_heap e13 ?_
      refine r_iload_n 82 rfl 2 rfl rfl dX7_worn_81 ?_
      rcases if_so hf with ⟨c14, hf⟩ | ⟨c14, hf⟩
      · refine r_if_ne_t 85 rfl 90 dX7_worn_82 (by decide) c14 ?_
        refine r_iload 87 rfl 4 rfl dX7_worn_85 ?_
        refine r_goto 92 dX7_worn_87 (by decide) ?_
        obtain ⟨rfl, rfl⟩ := so2 hf
        exact r_iret rfl rfl dX7_worn_92
      · refine r_if_ne_f 90 dX7_worn_82 (by decide) c14 ?_
        refine r_iload 92 rfl 5 rfl dX7_worn_90 ?_
        obtain ⟨rfl, rfl⟩ := so2 hf
        exact r_iret rfl rfl dX7_worn_92
    · refine r_if_lt_f 43 rfl 74 dX7_worn_40 (by decide) c10 ?_
      refine r_aload_n 44 rfl 0 rfl rfl dX7_worn_43 ?_
      refine r_getr (q := 100) 47 rfl (lq_7_9) sh_96 kd_7_9 fl_X7_38 dX7_worn_44 ?_
      refine r_iload_n 48 rfl 1 rfl rfl dX7_worn_47 ?_
      refine r_iload 50 rfl 6 rfl dX7_worn_48 ?_
      obtain ⟨b15, hf⟩ := gd_so hf
      obtain ⟨g16, e17, hf⟩ := lt_so hf
      refine r_iast 51 rfl sh_100 (inb_vp b15) dX7_worn_50 ?_
      refine r_heap e17 ?_
      refine r_aload_n 52 rfl 0 rfl rfl dX7_worn_51 ?_
      obtain ⟨v20, g18, e19, hf⟩ := bd_so hf
      refine r_callVi 55 rfl (A_X7_isSeen X g16 v20 g18 e19) (by omega) cw_X7_424 sh_96 cl_7 rfl rfl (Nat.le_of_ble_eq_true rfl) dX7_worn_52 ?_
      rcases if_so hf with ⟨c21, hf⟩ | ⟨c21, hf⟩
      · refine r_if_ne_t 58 rfl 61 dX7_worn_55 (by decide) c21 ?_
        refine r_goto 68 dX7_worn_58 (by decide) ?_
        obtain ⟨v22, e23, hf⟩ := lt_so hf
        refine r_iinc (lv' := [(6, .int v22), (0, .ref (X.1 96)), (1, .int x1), (2, .int x2), (3, .int x3), (4, .int x4), (5, .int x5)]) 71 rfl 6 dX7_worn_68 rfl (by rw [e23, ic_m1]) (by decide) rfl ?_
        refine r_goto 38 dX7_worn_71 (by decide) ?_
        refine r_sub (lv' := [(0, .ref (X.1 96)), (1, .int x1), (2, .int x2), (3, .int x3), (4, .int x4), (5, .int x5), (6, .int v22)]) [1, 2, 3, 4, 5, 6, 0] rfl ?_
        exact ih x1 x2 x3 x4 x5 v22 g18 hf
      · refine r_if_ne_f 61 dX7_worn_55 (by decide) c21 ?_
        obtain ⟨v24, e25, hf⟩ := lt_so hf
        refine r_iinc (lv' := [(4, .int v24), (0, .ref (X.1 96)), (1, .int x1), (2, .int x2), (3, .int x3), (5, .int x5), (6, .int x6)]) 64 rfl 4 dX7_worn_61 rfl (by rw [e25, ic_1]) (by decide) rfl ?_
        refine r_iload 66 rfl 6 rfl dX7_worn_64 ?_
        refine r_istore (lv' := [(5, .int x6), (4, .int v24), (0, .ref (X.1 96)), (1, .int x1), (2, .int x2), (3, .int x3), (6, .int x6)]) 68 rfl dX7_worn_66 (by decide) rfl ?_
        obtain ⟨v26, e27, hf⟩ := lt_so hf
        refine r_iinc (lv' := [(6, .int v26), (5, .int x6), (4, .int v24), (0, .ref (X.1 96)), (1, .int x1), (2, .int x2), (3, .int x3)]) 71 rfl 6 dX7_worn_68 rfl (by rw [e27, ic_m1]) (by decide) rfl ?_
        refine r_goto 38 dX7_worn_71 (by decide) ?_
        refine r_sub (lv' := [(0, .ref (X.1 96)), (1, .int x1), (2, .int x2), (3, .int x3), (4, .int v24), (5, .int x6), (6, .int v26)]) [3, 4, 5, 6, 2, 1, 0] rfl ?_
        exact ih x1 x2 x3 v24 x6 v26 g18 hf
def f_X7_worn (x1 : Int32) (x2 : Int32) (h : HP) : Option (Int32 × HP) := bo (f_X7_isPiece x1 h) fun v1 => if v1 = 0 then (some ((-1), h)) else (bo (f_X7_in x2 0 1) fun v4 => if v4 = 0 then (some ((-1), h)) else (gd (inb x1 6) (lt ((h.1 100 (Int32.toNatClampNeg x1)) : Int32) fun v8 => f_X7_worn_L38 FU x1 x2 v8 0 (-5) 60 h)))
set_option maxHeartbeats 4000000 in
set_option maxRecDepth 100000 in
theorem A_X7_worn (X : XE) (x1 : Int32) (x2 : Int32) (h : HP) (r : Int32) (h' : HP) (hf : f_X7_worn x1 x2 h = some (r, h')) : CC mX7_worn 10 X [.ref (X.1 96), .int x1, .int x2] h (some (.int r)) h' := by
  refine CC_of rfl (Nat.le_of_ble_eq_true rfl) ?_
  show Run mX7_worn 10 X 0 [(0, .ref (X.1 96)), (1, .int x1), (2, .int x2)] [] h (some (.int r)) h'
  unfold f_X7_worn at hf
  refine r_aload_n 1 rfl 0 rfl rfl dX7_worn_0 ?_
  refine r_iload_n 2 rfl 1 rfl rfl dX7_worn_1 ?_
  obtain ⟨v1, e2, hf⟩ := bo_so hf
  refine r_callVi 5 rfl (A_X7_isPiece X x1 h v1 e2) (by omega) cw_X7_280 sh_96 cl_7 rfl rfl (Nat.le_of_ble_eq_true rfl) dX7_worn_2 ?_
  rcases if_so hf with ⟨c3, hf⟩ | ⟨c3, hf⟩
  · refine r_if_eq_t 18 dX7_worn_5 (by decide) c3 ?_
    refine r_iconst 19 rfl ic_m1 dX7_worn_18 ?_
    obtain ⟨rfl, rfl⟩ := so2 hf
    exact r_iret rfl rfl dX7_worn_19
  · refine r_if_eq_f 8 rfl 18 dX7_worn_5 (by decide) c3 ?_
    refine r_aload_n 9 rfl 0 rfl rfl dX7_worn_8 ?_
    refine r_iload_n 10 rfl 2 rfl rfl dX7_worn_9 ?_
    refine r_iconst 11 rfl ic_0 dX7_worn_10 ?_
    refine r_iconst 12 rfl ic_1 dX7_worn_11 ?_
    obtain ⟨v4, e5, hf⟩ := bo_so hf
    refine r_callVi 15 rfl (A_X7_in X x2 0 1 h v4 e5) (by omega) cw_X7_276 sh_96 cl_7 rfl rfl (Nat.le_of_ble_eq_true rfl) dX7_worn_12 ?_
    rcases if_so hf with ⟨c6, hf⟩ | ⟨c6, hf⟩
    · refine r_if_ne_t 18 rfl 20 dX7_worn_15 (by decide) c6 ?_
      refine r_iconst 19 rfl ic_m1 dX7_worn_18 ?_
      obtain ⟨rfl, rfl⟩ := so2 hf
      exact r_iret rfl rfl dX7_worn_19
    · refine r_if_ne_f 20 dX7_worn_15 (by decide) c6 ?_
      refine r_aload_n 21 rfl 0 rfl rfl dX7_worn_20 ?_
      refine r_getr (q := 100) 24 rfl (lq_7_9) sh_96 kd_7_9 fl_X7_38 dX7_worn_21 ?_
      refine r_iload_n 25 rfl 1 rfl rfl dX7_worn_24 ?_
      obtain ⟨b7, hf⟩ := gd_so hf
      refine r_iald 26 rfl sh_100 (inb_vp b7) dX7_worn_25 ?_
      obtain ⟨v8, e9, hf⟩ := lt_so hf
      refine r_top e9 ?_
      refine r_istore_n (lv' := [(3, .int v8), (0, .ref (X.1 96)), (1, .int x1), (2, .int x2)]) 27 rfl dX7_worn_26 (by decide) rfl rfl ?_
      refine r_iconst 28 rfl ic_0 dX7_worn_27 ?_
      refine r_istore (lv' := [(4, .int 0), (3, .int v8), (0, .ref (X.1 96)), (1, .int x1), (2, .int x2)]) 30 rfl dX7_worn_28 (by decide) rfl ?_
      refine r_bipush 32 rfl bp_m5 dX7_worn_30 ?_
      refine r_istore (lv' := [(5, .int (-5)), (4, .int 0), (3, .int v8), (0, .ref (X.1 96)), (1, .int x1), (2, .int x2)]) 34 rfl dX7_worn_32 (by decide) rfl ?_
      refine r_bipush 36 rfl bp_60 dX7_worn_34 ?_
      refine r_istore (lv' := [(6, .int 60), (5, .int (-5)), (4, .int 0), (3, .int v8), (0, .ref (X.1 96)), (1, .int x1), (2, .int x2)]) 38 rfl dX7_worn_36 (by decide) rfl ?_
      refine r_sub (lv' := [(0, .ref (X.1 96)), (1, .int x1), (2, .int x2), (3, .int v8), (4, .int 0), (5, .int (-5)), (6, .int 60)]) [4, 5, 6, 3, 2, 1, 0] rfl ?_
      exact A_X7_worn_L38 X _ _ FU x1 x2 v8 0 (-5) 60 h hf
-- X7_can
def f_X7_can_L38 : Nat → Int32 → Int32 → Int32 → Int32 → Int32 → Int32 → HP → Option (Int32 × HP)
  | 0, _, _, _, _, _, _, _ => none
  | n + 1, x1, x2, x3, x4, x5, x6, h => if x6 < 0 then (gd (inb x1 6) (lt (si h 98 (Int32.toNatClampNeg x1) x3) fun g12 => if x2 = 0 then (some (x4, g12)) else (some (x5, g12)))) else (gd (inb x1 6) (lt (si h 98 (Int32.toNatClampNeg x1) x6) fun g16 => bd (f_X7_isSeen g16) fun v20 g18 => if v20 = 0 then (lt (x6 + (-1) : Int32) fun v22 => f_X7_can_L38 n x1 x2 x3 x4 x5 v22 g18) else (lt (x4 + 1 : Int32) fun v24 => lt (x6 + (-1) : Int32) fun v26 => f_X7_can_L38 n x1 x2 x3 v24 x6 v26 g18)))
set_option maxHeartbeats 4000000 in
set_option maxRecDepth 100000 in
theorem A_X7_can_L38 (X : XE) (r : Int32) (h' : HP) : ∀ (n : Nat) (x1 : Int32) (x2 : Int32) (x3 : Int32) (x4 : Int32) (x5 : Int32) (x6 : Int32) (h : HP), f_X7_can_L38 n x1 x2 x3 x4 x5 x6 h = some (r, h') → Run mX7_can 10 X 38 [(0, .ref (X.1 96)), (1, .int x1), (2, .int x2), (3, .int x3), (4, .int x4), (5, .int x5), (6, .int x6)] [] h (some (.int r)) h' := by
  intro n
  induction n with
  | zero => intro x1 x2 x3 x4 x5 x6 h hf; cases hf
  | succ n ih =>
    intro x1 x2 x3 x4 x5 x6 h hf
    rw [f_X7_can_L38] at hf
    refine r_iload 40 rfl 6 rfl dX7_can_38 ?_
    rcases if_so hf with ⟨c10, hf⟩ | ⟨c10, hf⟩
    · refine r_if_lt_t 74 dX7_can_40 (by decide) c10 ?_
      refine r_aload_n 75 rfl 0 rfl rfl dX7_can_74 ?_
      refine r_getr (q := 98) 78 rfl (lq_7_7) sh_96 kd_7_7 fl_X7_32 dX7_can_75 ?_
      refine r_iload_n 79 rfl 1 rfl rfl dX7_can_78 ?_
      refine r_iload_n 80 rfl 3 rfl rfl dX7_can_79 ?_
      obtain ⟨b11, hf⟩ := gd_so hf
      obtain ⟨g12, e13, hf⟩ := lt_so hf
      refine r_iast 81 rfl sh_98 (inb_vp b11) dX7_can_80 ?_
      refine r_heap e13 ?_
      refine r_iload_n 82 rfl 2 rfl rfl dX7_can_81 ?_
      rcases if_so hf with ⟨c14, hf⟩ | ⟨c14, hf⟩
      · refine r_if_ne_t 85 rfl 90 dX7_can_82 (by decide) c14 ?_
        refine r_iload 87 rfl 4 rfl dX7_can_85 ?_
        refine r_goto 92 dX7_can_87 (by decide) ?_
        obtain ⟨rfl, rfl⟩ := so2 hf
        exact r_iret rfl rfl dX7_can_92
      · refine r_if_ne_f 90 dX7_can_82 (by decide) c14 ?_
        refine r_iload 92 rfl 5 rfl dX7_can_90 ?_
        obtain ⟨rfl, rfl⟩ := so2 hf
        exact r_iret rfl rfl dX7_can_92
    · refine r_if_lt_f 43 rfl 74 dX7_can_40 (by decide) c10 ?_
      refine r_aload_n 44 rfl 0 rfl rfl dX7_can_43 ?_
      refine r_getr (q := 98) 47 rfl (lq_7_7) sh_96 kd_7_7 fl_X7_32 dX7_can_44 ?_
      refine r_iload_n 48 rfl 1 rfl rfl dX7_can_47 ?_
      refine r_iload 50 rfl 6 rfl dX7_can_48 ?_
      obtain ⟨b15, hf⟩ := gd_so hf
      obtain ⟨g16, e17, hf⟩ := lt_so hf
      refine r_iast 51 rfl sh_98 (inb_vp b15) dX7_can_50 ?_
      refine r_heap e17 ?_
      refine r_aload_n 52 rfl 0 rfl rfl dX7_can_51 ?_
      obtain ⟨v20, g18, e19, hf⟩ := bd_so hf
      refine r_callVi 55 rfl (A_X7_isSeen X g16 v20 g18 e19) (by omega) cw_X7_424 sh_96 cl_7 rfl rfl (Nat.le_of_ble_eq_true rfl) dX7_can_52 ?_
      rcases if_so hf with ⟨c21, hf⟩ | ⟨c21, hf⟩
      · refine r_if_ne_t 58 rfl 61 dX7_can_55 (by decide) c21 ?_
        refine r_goto 68 dX7_can_58 (by decide) ?_
        obtain ⟨v22, e23, hf⟩ := lt_so hf
        refine r_iinc (lv' := [(6, .int v22), (0, .ref (X.1 96)), (1, .int x1), (2, .int x2), (3, .int x3), (4, .int x4), (5, .int x5)]) 71 rfl 6 dX7_can_68 rfl (by rw [e23, ic_m1]) (by decide) rfl ?_
        refine r_goto 38 dX7_can_71 (by decide) ?_
        refine r_sub (lv' := [(0, .ref (X.1 96)), (1, .int x1), (2, .int x2), (3, .int x3), (4, .int x4), (5, .int x5), (6, .int v22)]) [1, 2, 3, 4, 5, 6, 0] rfl ?_
        exact ih x1 x2 x3 x4 x5 v22 g18 hf
      · refine r_if_ne_f 61 dX7_can_55 (by decide) c21 ?_
        obtain ⟨v24, e25, hf⟩ := lt_so hf
        refine r_iinc (lv' := [(4, .int v24), (0, .ref (X.1 96)), (1, .int x1), (2, .int x2), (3, .int x3), (5, .int x5), (6, .int x6)]) 64 rfl 4 dX7_can_61 rfl (by rw [e25, ic_1]) (by decide) rfl ?_
        refine r_iload 66 rfl 6 rfl dX7_can_64 ?_
        refine r_istore (lv' := [(5, .int x6), (4, .int v24), (0, .ref (X.1 96)), (1, .int x1), (2, .int x2), (3, .int x3), (6, .int x6)]) 68 rfl dX7_can_66 (by decide) rfl ?_
        obtain ⟨v26, e27, hf⟩ := lt_so hf
        refine r_iinc (lv' := [(6, .int v26), (5, .int x6), (4, .int v24), (0, .ref (X.1 96)), (1, .int x1), (2, .int x2), (3, .int x3)]) 71 rfl 6 dX7_can_68 rfl (by rw [e27, ic_m1]) (by decide) rfl ?_
        refine r_goto 38 dX7_can_71 (by decide) ?_
        refine r_sub (lv' := [(0, .ref (X.1 96)), (1, .int x1), (2, .int x2), (3, .int x3), (4, .int v24), (5, .int x6), (6, .int v26)]) [3, 4, 5, 6, 2, 1, 0] rfl ?_
        exact ih x1 x2 x3 v24 x6 v26 g18 hf
def f_X7_can (x1 : Int32) (x2 : Int32) (h : HP) : Option (Int32 × HP) := bo (f_X7_isPiece x1 h) fun v1 => if v1 = 0 then (some ((-1), h)) else (bo (f_X7_in x2 0 1) fun v4 => if v4 = 0 then (some ((-1), h)) else (gd (inb x1 6) (lt ((h.1 98 (Int32.toNatClampNeg x1)) : Int32) fun v8 => f_X7_can_L38 FU x1 x2 v8 0 (-5) 9 h)))
set_option maxHeartbeats 4000000 in
set_option maxRecDepth 100000 in
theorem A_X7_can (X : XE) (x1 : Int32) (x2 : Int32) (h : HP) (r : Int32) (h' : HP) (hf : f_X7_can x1 x2 h = some (r, h')) : CC mX7_can 10 X [.ref (X.1 96), .int x1, .int x2] h (some (.int r)) h' := by
  refine CC_of rfl (Nat.le_of_ble_eq_true rfl) ?_
  show Run mX7_can 10 X 0 [(0, .ref (X.1 96)), (1, .int x1), (2, .int x2)] [] h (some (.int r)) h'
  unfold f_X7_can at hf
  refine r_aload_n 1 rfl 0 rfl rfl dX7_can_0 ?_
  refine r_iload_n 2 rfl 1 rfl rfl dX7_can_1 ?_
  obtain ⟨v1, e2, hf⟩ := bo_so hf
  refine r_callVi 5 rfl (A_X7_isPiece X x1 h v1 e2) (by omega) cw_X7_280 sh_96 cl_7 rfl rfl (Nat.le_of_ble_eq_true rfl) dX7_can_2 ?_
  rcases if_so hf with ⟨c3, hf⟩ | ⟨c3, hf⟩
  · refine r_if_eq_t 18 dX7_can_5 (by decide) c3 ?_
    refine r_iconst 19 rfl ic_m1 dX7_can_18 ?_
    obtain ⟨rfl, rfl⟩ := so2 hf
    exact r_iret rfl rfl dX7_can_19
  · refine r_if_eq_f 8 rfl 18 dX7_can_5 (by decide) c3 ?_
    refine r_aload_n 9 rfl 0 rfl rfl dX7_can_8 ?_
    refine r_iload_n 10 rfl 2 rfl rfl dX7_can_9 ?_
    refine r_iconst 11 rfl ic_0 dX7_can_10 ?_
    refine r_iconst 12 rfl ic_1 dX7_can_11 ?_
    obtain ⟨v4, e5, hf⟩ := bo_so hf
    refine r_callVi 15 rfl (A_X7_in X x2 0 1 h v4 e5) (by omega) cw_X7_276 sh_96 cl_7 rfl rfl (Nat.le_of_ble_eq_true rfl) dX7_can_12 ?_
    rcases if_so hf with ⟨c6, hf⟩ | ⟨c6, hf⟩
    · refine r_if_ne_t 18 rfl 20 dX7_can_15 (by decide) c6 ?_
      refine r_iconst 19 rfl ic_m1 dX7_can_18 ?_
      obtain ⟨rfl, rfl⟩ := so2 hf
      exact r_iret rfl rfl dX7_can_19
    · refine r_if_ne_f 20 dX7_can_15 (by decide) c6 ?_
      refine r_aload_n 21 rfl 0 rfl rfl dX7_can_20 ?_
      refine r_getr (q := 98) 24 rfl (lq_7_7) sh_96 kd_7_7 fl_X7_32 dX7_can_21 ?_
      refine r_iload_n 25 rfl 1 rfl rfl dX7_can_24 ?_
      obtain ⟨b7, hf⟩ := gd_so hf
      refine r_iald 26 rfl sh_98 (inb_vp b7) dX7_can_25 ?_
      obtain ⟨v8, e9, hf⟩ := lt_so hf
      refine r_top e9 ?_
      refine r_istore_n (lv' := [(3, .int v8), (0, .ref (X.1 96)), (1, .int x1), (2, .int x2)]) 27 rfl dX7_can_26 (by decide) rfl rfl ?_
      refine r_iconst 28 rfl ic_0 dX7_can_27 ?_
      refine r_istore (lv' := [(4, .int 0), (3, .int v8), (0, .ref (X.1 96)), (1, .int x1), (2, .int x2)]) 30 rfl dX7_can_28 (by decide) rfl ?_
      refine r_bipush 32 rfl bp_m5 dX7_can_30 ?_
      refine r_istore (lv' := [(5, .int (-5)), (4, .int 0), (3, .int v8), (0, .ref (X.1 96)), (1, .int x1), (2, .int x2)]) 34 rfl dX7_can_32 (by decide) rfl ?_
      refine r_bipush 36 rfl bp_9 dX7_can_34 ?_
      refine r_istore (lv' := [(6, .int 9), (5, .int (-5)), (4, .int 0), (3, .int v8), (0, .ref (X.1 96)), (1, .int x1), (2, .int x2)]) 38 rfl dX7_can_36 (by decide) rfl ?_
      refine r_sub (lv' := [(0, .ref (X.1 96)), (1, .int x1), (2, .int x2), (3, .int v8), (4, .int 0), (5, .int (-5)), (6, .int 9)]) [4, 5, 6, 3, 2, 1, 0] rfl ?_
      exact A_X7_can_L38 X _ _ FU x1 x2 v8 0 (-5) 9 h hf
-- X7_divisor
def f_X7_divisor_L5 : Nat → Int32 → Int32 → Option Int32
  | 0, _, _ => none
  | n + 1, x3, x4 => if x4 = 0 then (some x3) else (gd (nz x4) (lt ((x3 - x3 / x4 * x4) : Int32) fun v3 => f_X7_divisor_L5 n x4 v3))
set_option maxHeartbeats 4000000 in
set_option maxRecDepth 100000 in
theorem A_X7_divisor_L5 (X : XE) (h : HP) (r : Int32) : ∀ (n : Nat) (x3 : Int32) (x4 : Int32), f_X7_divisor_L5 n x3 x4 = some r → Run mX7_divisor 1 X 5 [(3, .int x3), (4, .int x4)] [] h (some (.int r)) h := by
  intro n
  induction n with
  | zero => intro x3 x4 hf; cases hf
  | succ n ih =>
    intro x3 x4 hf
    rw [f_X7_divisor_L5] at hf
    refine r_iload 7 rfl 1 rfl dX7_divisor_5 ?_
    rcases if_so hf with ⟨c1, hf⟩ | ⟨c1, hf⟩
    · refine r_if_eq_t 26 dX7_divisor_7 (by decide) c1 ?_
      refine r_iload_n 27 rfl 0 rfl rfl dX7_divisor_26 ?_
      obtain rfl := so1 hf
      exact r_iret rfl rfl dX7_divisor_27
    · refine r_if_eq_f 10 rfl 26 dX7_divisor_7 (by decide) c1 ?_
      refine r_iload_n 11 rfl 0 rfl rfl dX7_divisor_10 ?_
      refine r_iload 13 rfl 1 rfl dX7_divisor_11 ?_
      obtain ⟨b2, hf⟩ := gd_so hf
      refine r_irem 14 rfl (nz_of b2) dX7_divisor_13 ?_
      obtain ⟨v3, e4, hf⟩ := lt_so hf
      refine r_top e4 ?_
      refine r_istore (lv' := [(5, .int v3), (3, .int x3), (4, .int x4)]) 16 rfl dX7_divisor_14 (by decide) rfl ?_
      refine r_iload 18 rfl 2 rfl dX7_divisor_16 ?_
      refine r_istore_n (lv' := [(3, .int x4), (5, .int v3), (4, .int x4)]) 19 rfl dX7_divisor_18 (by decide) rfl rfl ?_
      refine r_iload 21 rfl 1 rfl dX7_divisor_19 ?_
      refine r_istore (lv' := [(4, .int v3), (3, .int x4), (5, .int v3)]) 23 rfl dX7_divisor_21 (by decide) rfl ?_
      refine r_goto 5 dX7_divisor_23 (by decide) ?_
      refine r_sub (lv' := [(3, .int x4), (4, .int v3)]) [1, 0] rfl ?_
      exact ih x4 v3 hf
def f_X7_divisor (x1 : Int32) (x2 : Int32) : Option Int32 := f_X7_divisor_L5 FU x1 x2
set_option maxHeartbeats 4000000 in
set_option maxRecDepth 100000 in
theorem A_X7_divisor (X : XE) (x1 : Int32) (x2 : Int32) (h : HP) (r : Int32) (hf : f_X7_divisor x1 x2 = some r) : CC mX7_divisor 1 X [.ref (X.1 96), .int x1, .int x2] h (some (.int r)) h := by
  refine CC_of rfl (Nat.le_of_ble_eq_true rfl) ?_
  show Run mX7_divisor 1 X 0 [(0, .ref (X.1 96)), (1, .int x1), (2, .int x2)] [] h (some (.int r)) h
  unfold f_X7_divisor at hf
  refine r_iload_n 1 rfl 1 rfl rfl dX7_divisor_0 ?_
  refine r_istore_n (lv' := [(3, .int x1), (0, .ref (X.1 96)), (1, .int x1), (2, .int x2)]) 2 rfl dX7_divisor_1 (by decide) rfl rfl ?_
  refine r_iload_n 3 rfl 3 rfl rfl dX7_divisor_2 ?_
  refine r_istore (lv' := [(4, .int x2), (3, .int x1), (0, .ref (X.1 96)), (1, .int x1), (2, .int x2)]) 5 rfl dX7_divisor_3 (by decide) rfl ?_
  refine r_sub (lv' := [(3, .int x1), (4, .int x2)]) [1, 0] rfl ?_
  exact A_X7_divisor_L5 X h _ FU x1 x2 hf
-- X7_lowest
def f_X7_lowest (x1 : Int32) (x2 : Int32) (x3 : Int32) : Option Int64 := bo (f_X7_divisor x1 x2) fun v1 => if x3 = 0 then (gd (nz v1) (some (Int32.toInt64 (x1 / v1)))) else (gd (nz v1) (some (Int32.toInt64 (x2 / v1))))
set_option maxHeartbeats 4000000 in
set_option maxRecDepth 100000 in
theorem A_X7_lowest (X : XE) (x1 : Int32) (x2 : Int32) (x3 : Int32) (h : HP) (r : Int64) (hf : f_X7_lowest x1 x2 x3 = some r) : CC mX7_lowest 2 X [.ref (X.1 96), .int x1, .int x2, .int x3] h (some (.long r)) h := by
  refine CC_of rfl (Nat.le_of_ble_eq_true rfl) ?_
  show Run mX7_lowest 2 X 0 [(0, .ref (X.1 96)), (1, .int x1), (2, .int x2), (3, .int x3)] [] h (some (.long r)) h
  unfold f_X7_lowest at hf
  refine r_aload_n 1 rfl 0 rfl rfl dX7_lowest_0 ?_
  refine r_iload_n 2 rfl 1 rfl rfl dX7_lowest_1 ?_
  refine r_iload_n 3 rfl 2 rfl rfl dX7_lowest_2 ?_
  obtain ⟨v1, e2, hf⟩ := bo_so hf
  refine r_callVi 6 rfl (A_X7_divisor X x1 x2 h v1 e2) (by omega) cw_X7_427 sh_96 cl_7 rfl rfl (Nat.le_of_ble_eq_true rfl) dX7_lowest_3 ?_
  refine r_istore (lv' := [(4, .int v1), (0, .ref (X.1 96)), (1, .int x1), (2, .int x2), (3, .int x3)]) 8 rfl dX7_lowest_6 (by decide) rfl ?_
  refine r_iload_n 9 rfl 4 rfl rfl dX7_lowest_8 ?_
  rcases if_so hf with ⟨c3, hf⟩ | ⟨c3, hf⟩
  · refine r_if_ne_t 12 rfl 20 dX7_lowest_9 (by decide) c3 ?_
    refine r_iload_n 13 rfl 2 rfl rfl dX7_lowest_12 ?_
    refine r_iload 15 rfl 0 rfl dX7_lowest_13 ?_
    obtain ⟨b4, hf⟩ := gd_so hf
    refine r_idiv 16 rfl (nz_of b4) dX7_lowest_15 ?_
    refine r_i2l 17 rfl dX7_lowest_16 ?_
    refine r_goto 25 dX7_lowest_17 (by decide) ?_
    obtain rfl := so1 hf
    exact r_lret rfl dX7_lowest_25
  · refine r_if_ne_f 20 dX7_lowest_9 (by decide) c3 ?_
    refine r_iload_n 21 rfl 3 rfl rfl dX7_lowest_20 ?_
    refine r_iload 23 rfl 0 rfl dX7_lowest_21 ?_
    obtain ⟨b5, hf⟩ := gd_so hf
    refine r_idiv 24 rfl (nz_of b5) dX7_lowest_23 ?_
    refine r_i2l 25 rfl dX7_lowest_24 ?_
    obtain rfl := so1 hf
    exact r_lret rfl dX7_lowest_25
-- X7_odds
def f_X7_odds_L40 : Nat → Int32 → Int32 → Int32 → Int32 → Int32 → HP → Option (Int64 × HP)
  | 0, _, _, _, _, _, _ => none
  | n + 1, x1, x2, x3, x4, x5, h => if x4 ≤ x5 then (bo (f_X7_lowest x3 x4 x2) fun v11 => some (v11, h)) else (bo (f_X7_save h) fun g13 => lt (si g13 96 1 x5) fun g15 => bd (f_X7_firstThen x1 g15) fun v19 g17 => if (0 : Int32) ≤ v19 then (lt ((x3 + 0) : Int32) fun v21 => lt (x5 + 1 : Int32) fun v23 => f_X7_odds_L40 n x1 x2 v21 x4 v23 g17) else (lt ((x3 + 1) : Int32) fun v25 => lt (x5 + 1 : Int32) fun v27 => f_X7_odds_L40 n x1 x2 v25 x4 v27 g17))
set_option maxHeartbeats 4000000 in
set_option maxRecDepth 100000 in
theorem A_X7_odds_L40 (X : XE) (r : Int64) (h' : HP) : ∀ (n : Nat) (x1 : Int32) (x2 : Int32) (x3 : Int32) (x4 : Int32) (x5 : Int32) (h : HP), f_X7_odds_L40 n x1 x2 x3 x4 x5 h = some (r, h') → Run mX7_odds 9 X 40 [(0, .ref (X.1 96)), (1, .int x1), (2, .int x2), (3, .int x3), (4, .int x4), (5, .int x5)] [] h (some (.long r)) h' := by
  intro n
  induction n with
  | zero => intro x1 x2 x3 x4 x5 h hf; cases hf
  | succ n ih =>
    intro x1 x2 x3 x4 x5 h hf
    rw [f_X7_odds_L40] at hf
    refine r_iload 42 rfl 5 rfl dX7_odds_40 ?_
    refine r_iload 44 rfl 4 rfl dX7_odds_42 ?_
    rcases if_so hf with ⟨c10, hf⟩ | ⟨c10, hf⟩
    · refine r_icmp_ge_t 79 dX7_odds_44 (by decide) c10 ?_
      refine r_aload_n 80 rfl 0 rfl rfl dX7_odds_79 ?_
      refine r_iload_n 81 rfl 3 rfl rfl dX7_odds_80 ?_
      refine r_iload 83 rfl 4 rfl dX7_odds_81 ?_
      refine r_iload_n 84 rfl 2 rfl rfl dX7_odds_83 ?_
      obtain ⟨v11, e12, hf⟩ := bo_so hf
      refine r_callVl 87 rfl (A_X7_lowest X x3 x4 x2 h v11 e12) (by omega) cw_X7_432 sh_96 cl_7 rfl rfl (Nat.le_of_ble_eq_true rfl) dX7_odds_84 ?_
      obtain ⟨rfl, rfl⟩ := so2 hf
      exact r_lret rfl dX7_odds_87
    · refine r_icmp_ge_f 47 rfl 79 dX7_odds_44 (by decide) c10 ?_
      refine r_aload_n 48 rfl 0 rfl rfl dX7_odds_47 ?_
      obtain ⟨g13, e14, hf⟩ := bo_so hf
      refine r_callVv 51 rfl (A_X7_save X h g13 e14) (by omega) cw_X7_402 sh_96 cl_7 rfl rfl (Nat.le_of_ble_eq_true rfl) dX7_odds_48 ?_
      refine r_aload_n 52 rfl 0 rfl rfl dX7_odds_51 ?_
      refine r_iload 54 rfl 5 rfl dX7_odds_52 ?_
      obtain ⟨g15, e16, hf⟩ := lt_so hf
      refine r_puti 57 rfl sh_96 kd_7_1 fw_X7_13 rfl rfl dX7_odds_54 ?_
      refine r_heap e16 ?_
      refine r_iload_n 58 rfl 3 rfl rfl dX7_odds_57 ?_
      refine r_aload_n 59 rfl 0 rfl rfl dX7_odds_58 ?_
      refine r_iload_n 60 rfl 1 rfl rfl dX7_odds_59 ?_
      obtain ⟨v19, g17, e18, hf⟩ := bd_so hf
      refine r_callVi 63 rfl (A_X7_firstThen X x1 g15 v19 g17 e18) (by omega) cw_X7_408 sh_96 cl_7 rfl rfl (Nat.le_of_ble_eq_true rfl) dX7_odds_60 ?_
      rcases if_so hf with ⟨c20, hf⟩ | ⟨c20, hf⟩
      · refine r_if_ge_t 70 dX7_odds_63 (by decide) c20 ?_
        refine r_iconst 71 rfl ic_0 dX7_odds_70 ?_
        refine r_iadd 72 rfl dX7_odds_71 ?_
        obtain ⟨v21, e22, hf⟩ := lt_so hf
        refine r_top e22 ?_
        refine r_istore_n (lv' := [(3, .int v21), (0, .ref (X.1 96)), (1, .int x1), (2, .int x2), (4, .int x4), (5, .int x5)]) 73 rfl dX7_odds_72 (by decide) rfl rfl ?_
        obtain ⟨v23, e24, hf⟩ := lt_so hf
        refine r_iinc (lv' := [(5, .int v23), (3, .int v21), (0, .ref (X.1 96)), (1, .int x1), (2, .int x2), (4, .int x4)]) 76 rfl 5 dX7_odds_73 rfl (by rw [e24, ic_1]) (by decide) rfl ?_
        refine r_goto 40 dX7_odds_76 (by decide) ?_
        refine r_sub (lv' := [(0, .ref (X.1 96)), (1, .int x1), (2, .int x2), (3, .int v21), (4, .int x4), (5, .int v23)]) [2, 3, 4, 1, 5, 0] rfl ?_
        exact ih x1 x2 v21 x4 v23 g17 hf
      · refine r_if_ge_f 66 rfl 70 dX7_odds_63 (by decide) c20 ?_
        refine r_iconst 67 rfl ic_1 dX7_odds_66 ?_
        refine r_goto 71 dX7_odds_67 (by decide) ?_
        refine r_iadd 72 rfl dX7_odds_71 ?_
        obtain ⟨v25, e26, hf⟩ := lt_so hf
        refine r_top e26 ?_
        refine r_istore_n (lv' := [(3, .int v25), (0, .ref (X.1 96)), (1, .int x1), (2, .int x2), (4, .int x4), (5, .int x5)]) 73 rfl dX7_odds_72 (by decide) rfl rfl ?_
        obtain ⟨v27, e28, hf⟩ := lt_so hf
        refine r_iinc (lv' := [(5, .int v27), (3, .int v25), (0, .ref (X.1 96)), (1, .int x1), (2, .int x2), (4, .int x4)]) 76 rfl 5 dX7_odds_73 rfl (by rw [e28, ic_1]) (by decide) rfl ?_
        refine r_goto 40 dX7_odds_76 (by decide) ?_
        refine r_sub (lv' := [(0, .ref (X.1 96)), (1, .int x1), (2, .int x2), (3, .int v25), (4, .int x4), (5, .int v27)]) [2, 3, 4, 1, 5, 0] rfl ?_
        exact ih x1 x2 v25 x4 v27 g17 hf
def f_X7_odds (x1 : Int32) (x2 : Int32) (h : HP) : Option (Int64 × HP) := bo (f_X7_isDays x1) fun v1 => if v1 = 0 then (some ((-9223372036854775808), h)) else (bo (f_X7_in x2 0 1) fun v4 => if v4 = 0 then (some ((-9223372036854775808), h)) else (if (h.1 96 1) = 0 then (some ((-9223372036854775808), h)) else (lt ((h.1 96 1) : Int32) fun v8 => f_X7_odds_L40 FU x1 x2 0 v8 0 h)))
set_option maxHeartbeats 4000000 in
set_option maxRecDepth 100000 in
theorem A_X7_odds (X : XE) (x1 : Int32) (x2 : Int32) (h : HP) (r : Int64) (h' : HP) (hf : f_X7_odds x1 x2 h = some (r, h')) : CC mX7_odds 9 X [.ref (X.1 96), .int x1, .int x2] h (some (.long r)) h' := by
  refine CC_of rfl (Nat.le_of_ble_eq_true rfl) ?_
  show Run mX7_odds 9 X 0 [(0, .ref (X.1 96)), (1, .int x1), (2, .int x2)] [] h (some (.long r)) h'
  unfold f_X7_odds at hf
  refine r_aload_n 1 rfl 0 rfl rfl dX7_odds_0 ?_
  refine r_iload_n 2 rfl 1 rfl rfl dX7_odds_1 ?_
  obtain ⟨v1, e2, hf⟩ := bo_so hf
  refine r_callVi 5 rfl (A_X7_isDays X x1 h v1 e2) (by omega) cw_X7_395 sh_96 cl_7 rfl rfl (Nat.le_of_ble_eq_true rfl) dX7_odds_2 ?_
  rcases if_so hf with ⟨c3, hf⟩ | ⟨c3, hf⟩
  · refine r_if_eq_t 25 dX7_odds_5 (by decide) c3 ?_
    refine r_ldc2 28 rfl cn_X7_430 dX7_odds_25 ?_
    obtain ⟨rfl, rfl⟩ := so2 hf
    exact r_lret rfl dX7_odds_28
  · refine r_if_eq_f 8 rfl 25 dX7_odds_5 (by decide) c3 ?_
    refine r_aload_n 9 rfl 0 rfl rfl dX7_odds_8 ?_
    refine r_iload_n 10 rfl 2 rfl rfl dX7_odds_9 ?_
    refine r_iconst 11 rfl ic_0 dX7_odds_10 ?_
    refine r_iconst 12 rfl ic_1 dX7_odds_11 ?_
    obtain ⟨v4, e5, hf⟩ := bo_so hf
    refine r_callVi 15 rfl (A_X7_in X x2 0 1 h v4 e5) (by omega) cw_X7_276 sh_96 cl_7 rfl rfl (Nat.le_of_ble_eq_true rfl) dX7_odds_12 ?_
    rcases if_so hf with ⟨c6, hf⟩ | ⟨c6, hf⟩
    · refine r_if_eq_t 25 dX7_odds_15 (by decide) c6 ?_
      refine r_ldc2 28 rfl cn_X7_430 dX7_odds_25 ?_
      obtain ⟨rfl, rfl⟩ := so2 hf
      exact r_lret rfl dX7_odds_28
    · refine r_if_eq_f 18 rfl 25 dX7_odds_15 (by decide) c6 ?_
      refine r_aload_n 19 rfl 0 rfl rfl dX7_odds_18 ?_
      refine r_geti 22 rfl sh_96 kd_7_1 fl_X7_13 dX7_odds_19 ?_
      rcases if_so hf with ⟨c7, hf⟩ | ⟨c7, hf⟩
      · refine r_if_ne_t 25 rfl 29 dX7_odds_22 (by decide) c7 ?_
        refine r_ldc2 28 rfl cn_X7_430 dX7_odds_25 ?_
        obtain ⟨rfl, rfl⟩ := so2 hf
        exact r_lret rfl dX7_odds_28
      · refine r_if_ne_f 29 dX7_odds_22 (by decide) c7 ?_
        refine r_iconst 30 rfl ic_0 dX7_odds_29 ?_
        refine r_istore_n (lv' := [(3, .int 0), (0, .ref (X.1 96)), (1, .int x1), (2, .int x2)]) 31 rfl dX7_odds_30 (by decide) rfl rfl ?_
        refine r_aload_n 32 rfl 1 rfl rfl dX7_odds_31 ?_
        refine r_geti 35 rfl sh_96 kd_7_1 fl_X7_13 dX7_odds_32 ?_
        obtain ⟨v8, e9, hf⟩ := lt_so hf
        refine r_top e9 ?_
        refine r_istore (lv' := [(4, .int v8), (3, .int 0), (0, .ref (X.1 96)), (1, .int x1), (2, .int x2)]) 37 rfl dX7_odds_35 (by decide) rfl ?_
        refine r_iconst 38 rfl ic_0 dX7_odds_37 ?_
        refine r_istore (lv' := [(5, .int 0), (4, .int v8), (3, .int 0), (0, .ref (X.1 96)), (1, .int x1), (2, .int x2)]) 40 rfl dX7_odds_38 (by decide) rfl ?_
        refine r_sub (lv' := [(0, .ref (X.1 96)), (1, .int x1), (2, .int x2), (3, .int 0), (4, .int v8), (5, .int 0)]) [3, 4, 5, 2, 1, 0] rfl ?_
        exact A_X7_odds_L40 X _ _ FU x1 x2 0 v8 0 h hf
-- X7_mean
def f_X7_mean_L25 (h : HP) : Nat → Int32 → Int32 → Int32 → Option Int64
  | 0, _, _, _ => none
  | n + 1, x1, x2, x3 => if (h.1 96 1) ≤ x3 then (bo (f_X7_lowest x2 (h.1 96 1) x1) fun v6 => some v6) else (bo (f_X7_load x3 h) fun v8 => lt ((x2 + v8) : Int32) fun v10 => lt (x3 + 1 : Int32) fun v12 => f_X7_mean_L25 h n x1 v10 v12)
set_option maxHeartbeats 4000000 in
set_option maxRecDepth 100000 in
theorem A_X7_mean_L25 (X : XE) (h : HP) (r : Int64) : ∀ (n : Nat) (x1 : Int32) (x2 : Int32) (x3 : Int32), f_X7_mean_L25 h n x1 x2 x3 = some r → Run mX7_mean 5 X 25 [(0, .ref (X.1 96)), (1, .int x1), (2, .int x2), (3, .int x3)] [] h (some (.long r)) h := by
  intro n
  induction n with
  | zero => intro x1 x2 x3 hf; cases hf
  | succ n ih =>
    intro x1 x2 x3 hf
    rw [f_X7_mean_L25] at hf
    refine r_iload_n 26 rfl 3 rfl rfl dX7_mean_25 ?_
    refine r_aload_n 27 rfl 0 rfl rfl dX7_mean_26 ?_
    refine r_geti 30 rfl sh_96 kd_7_1 fl_X7_13 dX7_mean_27 ?_
    rcases if_so hf with ⟨c5, hf⟩ | ⟨c5, hf⟩
    · refine r_icmp_ge_t 47 dX7_mean_30 (by decide) c5 ?_
      refine r_aload_n 48 rfl 0 rfl rfl dX7_mean_47 ?_
      refine r_iload_n 49 rfl 2 rfl rfl dX7_mean_48 ?_
      refine r_aload_n 50 rfl 0 rfl rfl dX7_mean_49 ?_
      refine r_geti 53 rfl sh_96 kd_7_1 fl_X7_13 dX7_mean_50 ?_
      refine r_iload_n 54 rfl 1 rfl rfl dX7_mean_53 ?_
      obtain ⟨v6, e7, hf⟩ := bo_so hf
      refine r_callVl 57 rfl (A_X7_lowest X x2 (h.1 96 1) x1 h v6 e7) (by omega) cw_X7_432 sh_96 cl_7 rfl rfl (Nat.le_of_ble_eq_true rfl) dX7_mean_54 ?_
      obtain rfl := so1 hf
      exact r_lret rfl dX7_mean_57
    · refine r_icmp_ge_f 33 rfl 47 dX7_mean_30 (by decide) c5 ?_
      refine r_iload_n 34 rfl 2 rfl rfl dX7_mean_33 ?_
      refine r_aload_n 35 rfl 0 rfl rfl dX7_mean_34 ?_
      refine r_iload_n 36 rfl 3 rfl rfl dX7_mean_35 ?_
      obtain ⟨v8, e9, hf⟩ := bo_so hf
      refine r_callVi 39 rfl (A_X7_load X x3 h v8 e9) (by omega) cw_X7_377 sh_96 cl_7 rfl rfl (Nat.le_of_ble_eq_true rfl) dX7_mean_36 ?_
      refine r_iadd 40 rfl dX7_mean_39 ?_
      obtain ⟨v10, e11, hf⟩ := lt_so hf
      refine r_top e11 ?_
      refine r_istore_n (lv' := [(2, .int v10), (0, .ref (X.1 96)), (1, .int x1), (3, .int x3)]) 41 rfl dX7_mean_40 (by decide) rfl rfl ?_
      obtain ⟨v12, e13, hf⟩ := lt_so hf
      refine r_iinc (lv' := [(3, .int v12), (2, .int v10), (0, .ref (X.1 96)), (1, .int x1)]) 44 rfl 3 dX7_mean_41 rfl (by rw [e13, ic_1]) (by decide) rfl ?_
      refine r_goto 25 dX7_mean_44 (by decide) ?_
      refine r_sub (lv' := [(0, .ref (X.1 96)), (1, .int x1), (2, .int v10), (3, .int v12)]) [2, 3, 1, 0] rfl ?_
      exact ih x1 v10 v12 hf
def f_X7_mean (x1 : Int32) (h : HP) : Option Int64 := bo (f_X7_in x1 0 1) fun v1 => if v1 = 0 then (some (-9223372036854775808)) else (if (h.1 96 1) = 0 then (some (-9223372036854775808)) else (f_X7_mean_L25 h FU x1 0 0))
set_option maxHeartbeats 4000000 in
set_option maxRecDepth 100000 in
theorem A_X7_mean (X : XE) (x1 : Int32) (h : HP) (r : Int64) (hf : f_X7_mean x1 h = some r) : CC mX7_mean 5 X [.ref (X.1 96), .int x1] h (some (.long r)) h := by
  refine CC_of rfl (Nat.le_of_ble_eq_true rfl) ?_
  show Run mX7_mean 5 X 0 [(0, .ref (X.1 96)), (1, .int x1)] [] h (some (.long r)) h
  unfold f_X7_mean at hf
  refine r_aload_n 1 rfl 0 rfl rfl dX7_mean_0 ?_
  refine r_iload_n 2 rfl 1 rfl rfl dX7_mean_1 ?_
  refine r_iconst 3 rfl ic_0 dX7_mean_2 ?_
  refine r_iconst 4 rfl ic_1 dX7_mean_3 ?_
  obtain ⟨v1, e2, hf⟩ := bo_so hf
  refine r_callVi 7 rfl (A_X7_in X x1 0 1 h v1 e2) (by omega) cw_X7_276 sh_96 cl_7 rfl rfl (Nat.le_of_ble_eq_true rfl) dX7_mean_4 ?_
  rcases if_so hf with ⟨c3, hf⟩ | ⟨c3, hf⟩
  · refine r_if_eq_t 17 dX7_mean_7 (by decide) c3 ?_
    refine r_ldc2 20 rfl cn_X7_430 dX7_mean_17 ?_
    obtain rfl := so1 hf
    exact r_lret rfl dX7_mean_20
  · refine r_if_eq_f 10 rfl 17 dX7_mean_7 (by decide) c3 ?_
    refine r_aload_n 11 rfl 0 rfl rfl dX7_mean_10 ?_
    refine r_geti 14 rfl sh_96 kd_7_1 fl_X7_13 dX7_mean_11 ?_
    rcases if_so hf with ⟨c4, hf⟩ | ⟨c4, hf⟩
    · refine r_if_ne_t 17 rfl 21 dX7_mean_14 (by decide) c4 ?_
      refine r_ldc2 20 rfl cn_X7_430 dX7_mean_17 ?_
      obtain rfl := so1 hf
      exact r_lret rfl dX7_mean_20
    · refine r_if_ne_f 21 dX7_mean_14 (by decide) c4 ?_
      refine r_iconst 22 rfl ic_0 dX7_mean_21 ?_
      refine r_istore_n (lv' := [(2, .int 0), (0, .ref (X.1 96)), (1, .int x1)]) 23 rfl dX7_mean_22 (by decide) rfl rfl ?_
      refine r_iconst 24 rfl ic_0 dX7_mean_23 ?_
      refine r_istore_n (lv' := [(3, .int 0), (2, .int 0), (0, .ref (X.1 96)), (1, .int x1)]) 25 rfl dX7_mean_24 (by decide) rfl rfl ?_
      refine r_sub (lv' := [(0, .ref (X.1 96)), (1, .int x1), (2, .int 0), (3, .int 0)]) [2, 3, 1, 0] rfl ?_
      exact A_X7_mean_L25 X h _ FU x1 0 0 hf
-- X7_plan
def f_X7_plan_J58 (x1 : Int32) (x2 : Int32) (h : HP) : Option (Int32 × HP) := if (h.1 96 51) = 10 then (some ((-4), h)) else (gd (inb (h.1 96 51) 10) (lt (si h 123 (Int32.toNatClampNeg (h.1 96 51)) x1) fun g16 => gd (inb (g16.1 96 51) 10) (lt (si g16 124 (Int32.toNatClampNeg (g16.1 96 51)) x2) fun g19 => lt (si g19 96 51 ((g19.1 96 51) + 1)) fun g21 => some ((g21.1 96 51), g21))))
set_option maxHeartbeats 4000000 in
set_option maxRecDepth 100000 in
theorem A_X7_plan_J58 (X : XE) (r : Int32) (h' : HP) (x1 : Int32) (x2 : Int32) (h : HP) (hf : f_X7_plan_J58 x1 x2 h = some (r, h')) : Run mX7_plan 3 X 58 [(0, .ref (X.1 96)), (1, .int x1), (2, .int x2)] [] h (some (.int r)) h' := by
  unfold f_X7_plan_J58 at hf
  refine r_aload_n 59 rfl 0 rfl rfl dX7_plan_58 ?_
  refine r_geti 62 rfl sh_96 kd_7_51 fl_X7_166 dX7_plan_59 ?_
  refine r_bipush 64 rfl bp_10 dX7_plan_62 ?_
  rcases if_so hf with ⟨c14, hf⟩ | ⟨c14, hf⟩
  · refine r_icmp_ne_t 67 rfl 70 dX7_plan_64 (by decide) c14 ?_
    refine r_bipush 69 rfl bp_m4 dX7_plan_67 ?_
    obtain ⟨rfl, rfl⟩ := so2 hf
    exact r_iret rfl rfl dX7_plan_69
  · refine r_icmp_ne_f 70 dX7_plan_64 (by decide) c14 ?_
    refine r_aload_n 71 rfl 0 rfl rfl dX7_plan_70 ?_
    refine r_getr (q := 123) 74 rfl (lq_7_53) sh_96 kd_7_53 fl_X7_172 dX7_plan_71 ?_
    refine r_aload_n 75 rfl 0 rfl rfl dX7_plan_74 ?_
    refine r_geti 78 rfl sh_96 kd_7_51 fl_X7_166 dX7_plan_75 ?_
    refine r_iload_n 79 rfl 1 rfl rfl dX7_plan_78 ?_
    obtain ⟨b15, hf⟩ := gd_so hf
    obtain ⟨g16, e17, hf⟩ := lt_so hf
    refine r_iast 80 rfl sh_123 (inb_vp b15) dX7_plan_79 ?_
    refine r_heap e17 ?_
    refine r_aload_n 81 rfl 0 rfl rfl dX7_plan_80 ?_
    refine r_getr (q := 124) 84 rfl (lq_7_54) sh_96 kd_7_54 fl_X7_175 dX7_plan_81 ?_
    refine r_aload_n 85 rfl 0 rfl rfl dX7_plan_84 ?_
    refine r_geti 88 rfl sh_96 kd_7_51 fl_X7_166 dX7_plan_85 ?_
    refine r_iload_n 89 rfl 2 rfl rfl dX7_plan_88 ?_
    obtain ⟨b18, hf⟩ := gd_so hf
    obtain ⟨g19, e20, hf⟩ := lt_so hf
    refine r_iast 90 rfl sh_124 (inb_vp b18) dX7_plan_89 ?_
    refine r_heap e20 ?_
    refine r_aload_n 91 rfl 0 rfl rfl dX7_plan_90 ?_
    refine r_dup 92 rfl rfl dX7_plan_91 ?_
    refine r_geti 95 rfl sh_96 kd_7_51 fl_X7_166 dX7_plan_92 ?_
    refine r_iconst 96 rfl ic_1 dX7_plan_95 ?_
    refine r_iadd 97 rfl dX7_plan_96 ?_
    obtain ⟨g21, e22, hf⟩ := lt_so hf
    refine r_puti 100 rfl sh_96 kd_7_51 fw_X7_166 rfl rfl dX7_plan_97 ?_
    refine r_heap e22 ?_
    refine r_aload_n 101 rfl 0 rfl rfl dX7_plan_100 ?_
    refine r_geti 104 rfl sh_96 kd_7_51 fl_X7_166 dX7_plan_101 ?_
    obtain ⟨rfl, rfl⟩ := so2 hf
    exact r_iret rfl rfl dX7_plan_104
def f_X7_plan (x1 : Int32) (x2 : Int32) (h : HP) : Option (Int32 × HP) := if x1 = (-1) then (lt (si h 96 51 0) fun g2 => some (0, g2)) else (bo (f_X7_in x1 0 4) fun v4 => if v4 = 0 then (some ((-1), h)) else (if x1 = 3 then (bo (f_X7_isPiece x2 h) fun v8 => if v8 = 0 then (some ((-1), h)) else (bo (f_X7_in x1 1 2) fun v11 => if v11 = 0 then (f_X7_plan_J58 x1 x2 h) else (bo (f_X7_isTrim x2) fun v23 => if v23 = 0 then (some ((-2), h)) else (f_X7_plan_J58 x1 x2 h)))) else (bo (f_X7_in x1 1 2) fun v26 => if v26 = 0 then (f_X7_plan_J58 x1 x2 h) else (bo (f_X7_isTrim x2) fun v29 => if v29 = 0 then (some ((-2), h)) else (f_X7_plan_J58 x1 x2 h)))))
set_option maxHeartbeats 4000000 in
set_option maxRecDepth 100000 in
theorem A_X7_plan (X : XE) (x1 : Int32) (x2 : Int32) (h : HP) (r : Int32) (h' : HP) (hf : f_X7_plan x1 x2 h = some (r, h')) : CC mX7_plan 3 X [.ref (X.1 96), .int x1, .int x2] h (some (.int r)) h' := by
  refine CC_of rfl (Nat.le_of_ble_eq_true rfl) ?_
  show Run mX7_plan 3 X 0 [(0, .ref (X.1 96)), (1, .int x1), (2, .int x2)] [] h (some (.int r)) h'
  unfold f_X7_plan at hf
  refine r_iload_n 1 rfl 1 rfl rfl dX7_plan_0 ?_
  refine r_iconst 2 rfl ic_m1 dX7_plan_1 ?_
  rcases if_so hf with ⟨c1, hf⟩ | ⟨c1, hf⟩
  · refine r_icmp_ne_t 5 rfl 12 dX7_plan_2 (by decide) c1 ?_
    refine r_aload_n 6 rfl 0 rfl rfl dX7_plan_5 ?_
    refine r_iconst 7 rfl ic_0 dX7_plan_6 ?_
    obtain ⟨g2, e3, hf⟩ := lt_so hf
    refine r_puti 10 rfl sh_96 kd_7_51 fw_X7_166 rfl rfl dX7_plan_7 ?_
    refine r_heap e3 ?_
    refine r_iconst 11 rfl ic_0 dX7_plan_10 ?_
    obtain ⟨rfl, rfl⟩ := so2 hf
    exact r_iret rfl rfl dX7_plan_11
  · refine r_icmp_ne_f 12 dX7_plan_2 (by decide) c1 ?_
    refine r_aload_n 13 rfl 0 rfl rfl dX7_plan_12 ?_
    refine r_iload_n 14 rfl 1 rfl rfl dX7_plan_13 ?_
    refine r_iconst 15 rfl ic_0 dX7_plan_14 ?_
    refine r_iconst 16 rfl ic_4 dX7_plan_15 ?_
    obtain ⟨v4, e5, hf⟩ := bo_so hf
    refine r_callVi 19 rfl (A_X7_in X x1 0 4 h v4 e5) (by omega) cw_X7_276 sh_96 cl_7 rfl rfl (Nat.le_of_ble_eq_true rfl) dX7_plan_16 ?_
    rcases if_so hf with ⟨c6, hf⟩ | ⟨c6, hf⟩
    · refine r_if_eq_t 35 dX7_plan_19 (by decide) c6 ?_
      refine r_iconst 36 rfl ic_m1 dX7_plan_35 ?_
      obtain ⟨rfl, rfl⟩ := so2 hf
      exact r_iret rfl rfl dX7_plan_36
    · refine r_if_eq_f 22 rfl 35 dX7_plan_19 (by decide) c6 ?_
      refine r_iload_n 23 rfl 1 rfl rfl dX7_plan_22 ?_
      refine r_iconst 24 rfl ic_3 dX7_plan_23 ?_
      rcases if_so hf with ⟨c7, hf⟩ | ⟨c7, hf⟩
      · refine r_icmp_ne_t 27 rfl 37 dX7_plan_24 (by decide) c7 ?_
        refine r_aload_n 28 rfl 0 rfl rfl dX7_plan_27 ?_
        refine r_iload_n 29 rfl 2 rfl rfl dX7_plan_28 ?_
        obtain ⟨v8, e9, hf⟩ := bo_so hf
        refine r_callVi 32 rfl (A_X7_isPiece X x2 h v8 e9) (by omega) cw_X7_280 sh_96 cl_7 rfl rfl (Nat.le_of_ble_eq_true rfl) dX7_plan_29 ?_
        rcases if_so hf with ⟨c10, hf⟩ | ⟨c10, hf⟩
        · refine r_if_ne_t 35 rfl 37 dX7_plan_32 (by decide) c10 ?_
          refine r_iconst 36 rfl ic_m1 dX7_plan_35 ?_
          obtain ⟨rfl, rfl⟩ := so2 hf
          exact r_iret rfl rfl dX7_plan_36
        · refine r_if_ne_f 37 dX7_plan_32 (by decide) c10 ?_
          refine r_aload_n 38 rfl 0 rfl rfl dX7_plan_37 ?_
          refine r_iload_n 39 rfl 1 rfl rfl dX7_plan_38 ?_
          refine r_iconst 40 rfl ic_1 dX7_plan_39 ?_
          refine r_iconst 41 rfl ic_2 dX7_plan_40 ?_
          obtain ⟨v11, e12, hf⟩ := bo_so hf
          refine r_callVi 44 rfl (A_X7_in X x1 1 2 h v11 e12) (by omega) cw_X7_276 sh_96 cl_7 rfl rfl (Nat.le_of_ble_eq_true rfl) dX7_plan_41 ?_
          rcases if_so hf with ⟨c13, hf⟩ | ⟨c13, hf⟩
          · refine r_if_eq_t 58 dX7_plan_44 (by decide) c13 ?_
            refine r_sub (lv' := [(0, .ref (X.1 96)), (1, .int x1), (2, .int x2)]) [0, 1, 2] rfl ?_
            exact A_X7_plan_J58 X _ _ x1 x2 h hf
          · refine r_if_eq_f 47 rfl 58 dX7_plan_44 (by decide) c13 ?_
            refine r_aload_n 48 rfl 0 rfl rfl dX7_plan_47 ?_
            refine r_iload_n 49 rfl 2 rfl rfl dX7_plan_48 ?_
            obtain ⟨v23, e24, hf⟩ := bo_so hf
            refine r_callVi 52 rfl (A_X7_isTrim X x2 h v23 e24) (by omega) cw_X7_295 sh_96 cl_7 rfl rfl (Nat.le_of_ble_eq_true rfl) dX7_plan_49 ?_
            rcases if_so hf with ⟨c25, hf⟩ | ⟨c25, hf⟩
            · refine r_if_ne_t 55 rfl 58 dX7_plan_52 (by decide) c25 ?_
              refine r_bipush 57 rfl bp_m2 dX7_plan_55 ?_
              obtain ⟨rfl, rfl⟩ := so2 hf
              exact r_iret rfl rfl dX7_plan_57
            · refine r_if_ne_f 58 dX7_plan_52 (by decide) c25 ?_
              refine r_sub (lv' := [(0, .ref (X.1 96)), (1, .int x1), (2, .int x2)]) [0, 1, 2] rfl ?_
              exact A_X7_plan_J58 X _ _ x1 x2 h hf
      · refine r_icmp_ne_f 37 dX7_plan_24 (by decide) c7 ?_
        refine r_aload_n 38 rfl 0 rfl rfl dX7_plan_37 ?_
        refine r_iload_n 39 rfl 1 rfl rfl dX7_plan_38 ?_
        refine r_iconst 40 rfl ic_1 dX7_plan_39 ?_
        refine r_iconst 41 rfl ic_2 dX7_plan_40 ?_
        obtain ⟨v26, e27, hf⟩ := bo_so hf
        refine r_callVi 44 rfl (A_X7_in X x1 1 2 h v26 e27) (by omega) cw_X7_276 sh_96 cl_7 rfl rfl (Nat.le_of_ble_eq_true rfl) dX7_plan_41 ?_
        rcases if_so hf with ⟨c28, hf⟩ | ⟨c28, hf⟩
        · refine r_if_eq_t 58 dX7_plan_44 (by decide) c28 ?_
          refine r_sub (lv' := [(0, .ref (X.1 96)), (1, .int x1), (2, .int x2)]) [0, 1, 2] rfl ?_
          exact A_X7_plan_J58 X _ _ x1 x2 h hf
        · refine r_if_eq_f 47 rfl 58 dX7_plan_44 (by decide) c28 ?_
          refine r_aload_n 48 rfl 0 rfl rfl dX7_plan_47 ?_
          refine r_iload_n 49 rfl 2 rfl rfl dX7_plan_48 ?_
          obtain ⟨v29, e30, hf⟩ := bo_so hf
          refine r_callVi 52 rfl (A_X7_isTrim X x2 h v29 e30) (by omega) cw_X7_295 sh_96 cl_7 rfl rfl (Nat.le_of_ble_eq_true rfl) dX7_plan_49 ?_
          rcases if_so hf with ⟨c31, hf⟩ | ⟨c31, hf⟩
          · refine r_if_ne_t 55 rfl 58 dX7_plan_52 (by decide) c31 ?_
            refine r_bipush 57 rfl bp_m2 dX7_plan_55 ?_
            obtain ⟨rfl, rfl⟩ := so2 hf
            exact r_iret rfl rfl dX7_plan_57
          · refine r_if_ne_f 58 dX7_plan_52 (by decide) c31 ?_
            refine r_sub (lv' := [(0, .ref (X.1 96)), (1, .int x1), (2, .int x2)]) [0, 1, 2] rfl ?_
            exact A_X7_plan_J58 X _ _ x1 x2 h hf
-- X7_goPlan
def f_X7_goPlan_J29 (x1 : Int32) (x2 : Int32) (h : HP) : Option HP := if x1 = 3 then (bo (f_X7_placeOf x2 h) fun v12 => if (0 : Int32) ≤ v12 then (if x1 = 4 then (lt (si h 96 1 0) fun g16 => some g16) else (some h)) else (if (3 : Int32) ≤ (h.1 96 1) then (if x1 = 4 then (lt (si h 96 1 0) fun g20 => some g20) else (some h)) else (bo (f_X7_hoists x2 h) fun g22 => if x1 = 4 then (lt (si g22 96 1 0) fun g25 => some g25) else (some g22)))) else (if x1 = 4 then (lt (si h 96 1 0) fun g28 => some g28) else (some h))
set_option maxHeartbeats 4000000 in
set_option maxRecDepth 100000 in
theorem A_X7_goPlan_J29 (X : XE) (h' : HP) (x1 : Int32) (x2 : Int32) (h : HP) (hf : f_X7_goPlan_J29 x1 x2 h = some h') : Run mX7_goPlan 8 X 29 [(0, .ref (X.1 96)), (1, .int x1), (2, .int x2)] [] h none h' := by
  unfold f_X7_goPlan_J29 at hf
  refine r_iload_n 30 rfl 1 rfl rfl dX7_goPlan_29 ?_
  refine r_iconst 31 rfl ic_3 dX7_goPlan_30 ?_
  rcases if_so hf with ⟨c11, hf⟩ | ⟨c11, hf⟩
  · refine r_icmp_ne_t 34 rfl 55 dX7_goPlan_31 (by decide) c11 ?_
    refine r_aload_n 35 rfl 0 rfl rfl dX7_goPlan_34 ?_
    refine r_iload_n 36 rfl 2 rfl rfl dX7_goPlan_35 ?_
    obtain ⟨v12, e13, hf⟩ := bo_so hf
    refine r_callVi 39 rfl (A_X7_placeOf X x2 h v12 e13) (by omega) cw_X7_287 sh_96 cl_7 rfl rfl (Nat.le_of_ble_eq_true rfl) dX7_goPlan_36 ?_
    rcases if_so hf with ⟨c14, hf⟩ | ⟨c14, hf⟩
    · refine r_if_ge_t 55 dX7_goPlan_39 (by decide) c14 ?_
      refine r_iload_n 56 rfl 1 rfl rfl dX7_goPlan_55 ?_
      refine r_iconst 57 rfl ic_4 dX7_goPlan_56 ?_
      rcases if_so hf with ⟨c15, hf⟩ | ⟨c15, hf⟩
      · refine r_icmp_ne_t 60 rfl 65 dX7_goPlan_57 (by decide) c15 ?_
        refine r_aload_n 61 rfl 0 rfl rfl dX7_goPlan_60 ?_
        refine r_iconst 62 rfl ic_0 dX7_goPlan_61 ?_
        obtain ⟨g16, e17, hf⟩ := lt_so hf
        refine r_puti 65 rfl sh_96 kd_7_1 fw_X7_13 rfl rfl dX7_goPlan_62 ?_
        refine r_heap e17 ?_
        obtain rfl := so1 hf
        exact r_vret rfl dX7_goPlan_65
      · refine r_icmp_ne_f 65 dX7_goPlan_57 (by decide) c15 ?_
        obtain rfl := so1 hf
        exact r_vret rfl dX7_goPlan_65
    · refine r_if_ge_f 42 rfl 55 dX7_goPlan_39 (by decide) c14 ?_
      refine r_aload_n 43 rfl 0 rfl rfl dX7_goPlan_42 ?_
      refine r_geti 46 rfl sh_96 kd_7_1 fl_X7_13 dX7_goPlan_43 ?_
      refine r_iconst 47 rfl ic_3 dX7_goPlan_46 ?_
      rcases if_so hf with ⟨c18, hf⟩ | ⟨c18, hf⟩
      · refine r_icmp_ge_t 55 dX7_goPlan_47 (by decide) c18 ?_
        refine r_iload_n 56 rfl 1 rfl rfl dX7_goPlan_55 ?_
        refine r_iconst 57 rfl ic_4 dX7_goPlan_56 ?_
        rcases if_so hf with ⟨c19, hf⟩ | ⟨c19, hf⟩
        · refine r_icmp_ne_t 60 rfl 65 dX7_goPlan_57 (by decide) c19 ?_
          refine r_aload_n 61 rfl 0 rfl rfl dX7_goPlan_60 ?_
          refine r_iconst 62 rfl ic_0 dX7_goPlan_61 ?_
          obtain ⟨g20, e21, hf⟩ := lt_so hf
          refine r_puti 65 rfl sh_96 kd_7_1 fw_X7_13 rfl rfl dX7_goPlan_62 ?_
          refine r_heap e21 ?_
          obtain rfl := so1 hf
          exact r_vret rfl dX7_goPlan_65
        · refine r_icmp_ne_f 65 dX7_goPlan_57 (by decide) c19 ?_
          obtain rfl := so1 hf
          exact r_vret rfl dX7_goPlan_65
      · refine r_icmp_ge_f 50 rfl 55 dX7_goPlan_47 (by decide) c18 ?_
        refine r_aload_n 51 rfl 0 rfl rfl dX7_goPlan_50 ?_
        refine r_iload_n 52 rfl 2 rfl rfl dX7_goPlan_51 ?_
        obtain ⟨g22, e23, hf⟩ := bo_so hf
        refine r_callVv 55 rfl (A_X7_hoists X x2 h g22 e23) (by omega) cw_X7_291 sh_96 cl_7 rfl rfl (Nat.le_of_ble_eq_true rfl) dX7_goPlan_52 ?_
        refine r_iload_n 56 rfl 1 rfl rfl dX7_goPlan_55 ?_
        refine r_iconst 57 rfl ic_4 dX7_goPlan_56 ?_
        rcases if_so hf with ⟨c24, hf⟩ | ⟨c24, hf⟩
        · refine r_icmp_ne_t 60 rfl 65 dX7_goPlan_57 (by decide) c24 ?_
          refine r_aload_n 61 rfl 0 rfl rfl dX7_goPlan_60 ?_
          refine r_iconst 62 rfl ic_0 dX7_goPlan_61 ?_
          obtain ⟨g25, e26, hf⟩ := lt_so hf
          refine r_puti 65 rfl sh_96 kd_7_1 fw_X7_13 rfl rfl dX7_goPlan_62 ?_
          refine r_heap e26 ?_
          obtain rfl := so1 hf
          exact r_vret rfl dX7_goPlan_65
        · refine r_icmp_ne_f 65 dX7_goPlan_57 (by decide) c24 ?_
          obtain rfl := so1 hf
          exact r_vret rfl dX7_goPlan_65
  · refine r_icmp_ne_f 55 dX7_goPlan_31 (by decide) c11 ?_
    refine r_iload_n 56 rfl 1 rfl rfl dX7_goPlan_55 ?_
    refine r_iconst 57 rfl ic_4 dX7_goPlan_56 ?_
    rcases if_so hf with ⟨c27, hf⟩ | ⟨c27, hf⟩
    · refine r_icmp_ne_t 60 rfl 65 dX7_goPlan_57 (by decide) c27 ?_
      refine r_aload_n 61 rfl 0 rfl rfl dX7_goPlan_60 ?_
      refine r_iconst 62 rfl ic_0 dX7_goPlan_61 ?_
      obtain ⟨g28, e29, hf⟩ := lt_so hf
      refine r_puti 65 rfl sh_96 kd_7_1 fw_X7_13 rfl rfl dX7_goPlan_62 ?_
      refine r_heap e29 ?_
      obtain rfl := so1 hf
      exact r_vret rfl dX7_goPlan_65
    · refine r_icmp_ne_f 65 dX7_goPlan_57 (by decide) c27 ?_
      obtain rfl := so1 hf
      exact r_vret rfl dX7_goPlan_65
def f_X7_goPlan_J9 (x1 : Int32) (x2 : Int32) (h : HP) : Option HP := if x1 = 1 then (lt (si h 96 2 x2) fun g6 => if x1 = 2 then (lt (si g6 96 3 x2) fun g9 => f_X7_goPlan_J29 x1 x2 g9) else (f_X7_goPlan_J29 x1 x2 g6)) else (if x1 = 2 then (lt (si h 96 3 x2) fun g31 => f_X7_goPlan_J29 x1 x2 g31) else (f_X7_goPlan_J29 x1 x2 h))
set_option maxHeartbeats 4000000 in
set_option maxRecDepth 100000 in
theorem A_X7_goPlan_J9 (X : XE) (h' : HP) (x1 : Int32) (x2 : Int32) (h : HP) (hf : f_X7_goPlan_J9 x1 x2 h = some h') : Run mX7_goPlan 8 X 9 [(0, .ref (X.1 96)), (1, .int x1), (2, .int x2)] [] h none h' := by
  unfold f_X7_goPlan_J9 at hf
  refine r_iload_n 10 rfl 1 rfl rfl dX7_goPlan_9 ?_
  refine r_iconst 11 rfl ic_1 dX7_goPlan_10 ?_
  rcases if_so hf with ⟨c5, hf⟩ | ⟨c5, hf⟩
  · refine r_icmp_ne_t 14 rfl 19 dX7_goPlan_11 (by decide) c5 ?_
    refine r_aload_n 15 rfl 0 rfl rfl dX7_goPlan_14 ?_
    refine r_iload_n 16 rfl 2 rfl rfl dX7_goPlan_15 ?_
    obtain ⟨g6, e7, hf⟩ := lt_so hf
    refine r_puti 19 rfl sh_96 kd_7_2 fw_X7_16 rfl rfl dX7_goPlan_16 ?_
    refine r_heap e7 ?_
    refine r_iload_n 20 rfl 1 rfl rfl dX7_goPlan_19 ?_
    refine r_iconst 21 rfl ic_2 dX7_goPlan_20 ?_
    rcases if_so hf with ⟨c8, hf⟩ | ⟨c8, hf⟩
    · refine r_icmp_ne_t 24 rfl 29 dX7_goPlan_21 (by decide) c8 ?_
      refine r_aload_n 25 rfl 0 rfl rfl dX7_goPlan_24 ?_
      refine r_iload_n 26 rfl 2 rfl rfl dX7_goPlan_25 ?_
      obtain ⟨g9, e10, hf⟩ := lt_so hf
      refine r_puti 29 rfl sh_96 kd_7_3 fw_X7_19 rfl rfl dX7_goPlan_26 ?_
      refine r_heap e10 ?_
      refine r_sub (lv' := [(0, .ref (X.1 96)), (1, .int x1), (2, .int x2)]) [0, 1, 2] rfl ?_
      exact A_X7_goPlan_J29 X _ x1 x2 g9 hf
    · refine r_icmp_ne_f 29 dX7_goPlan_21 (by decide) c8 ?_
      refine r_sub (lv' := [(0, .ref (X.1 96)), (1, .int x1), (2, .int x2)]) [0, 1, 2] rfl ?_
      exact A_X7_goPlan_J29 X _ x1 x2 g6 hf
  · refine r_icmp_ne_f 19 dX7_goPlan_11 (by decide) c5 ?_
    refine r_iload_n 20 rfl 1 rfl rfl dX7_goPlan_19 ?_
    refine r_iconst 21 rfl ic_2 dX7_goPlan_20 ?_
    rcases if_so hf with ⟨c30, hf⟩ | ⟨c30, hf⟩
    · refine r_icmp_ne_t 24 rfl 29 dX7_goPlan_21 (by decide) c30 ?_
      refine r_aload_n 25 rfl 0 rfl rfl dX7_goPlan_24 ?_
      refine r_iload_n 26 rfl 2 rfl rfl dX7_goPlan_25 ?_
      obtain ⟨g31, e32, hf⟩ := lt_so hf
      refine r_puti 29 rfl sh_96 kd_7_3 fw_X7_19 rfl rfl dX7_goPlan_26 ?_
      refine r_heap e32 ?_
      refine r_sub (lv' := [(0, .ref (X.1 96)), (1, .int x1), (2, .int x2)]) [0, 1, 2] rfl ?_
      exact A_X7_goPlan_J29 X _ x1 x2 g31 hf
    · refine r_icmp_ne_f 29 dX7_goPlan_21 (by decide) c30 ?_
      refine r_sub (lv' := [(0, .ref (X.1 96)), (1, .int x1), (2, .int x2)]) [0, 1, 2] rfl ?_
      exact A_X7_goPlan_J29 X _ x1 x2 h hf
def f_X7_goPlan (x1 : Int32) (x2 : Int32) (h : HP) : Option HP := if x1 = 0 then (bd (f_X7_goDay h) fun v4 g2 => f_X7_goPlan_J9 x1 x2 g2) else (f_X7_goPlan_J9 x1 x2 h)
set_option maxHeartbeats 4000000 in
set_option maxRecDepth 100000 in
theorem A_X7_goPlan (X : XE) (x1 : Int32) (x2 : Int32) (h : HP) (h' : HP) (hf : f_X7_goPlan x1 x2 h = some h') : CC mX7_goPlan 8 X [.ref (X.1 96), .int x1, .int x2] h none h' := by
  refine CC_of rfl (Nat.le_of_ble_eq_true rfl) ?_
  show Run mX7_goPlan 8 X 0 [(0, .ref (X.1 96)), (1, .int x1), (2, .int x2)] [] h none h'
  unfold f_X7_goPlan at hf
  refine r_iload_n 1 rfl 1 rfl rfl dX7_goPlan_0 ?_
  rcases if_so hf with ⟨c1, hf⟩ | ⟨c1, hf⟩
  · refine r_if_ne_t 4 rfl 9 dX7_goPlan_1 (by decide) c1 ?_
    refine r_aload_n 5 rfl 0 rfl rfl dX7_goPlan_4 ?_
    obtain ⟨v4, g2, e3, hf⟩ := bd_so hf
    refine r_callVi 8 rfl (A_X7_goDay X h v4 g2 e3) (by omega) cw_X7_392 sh_96 cl_7 rfl rfl (Nat.le_of_ble_eq_true rfl) dX7_goPlan_5 ?_
    refine r_pop 9 rfl rfl dX7_goPlan_8 ?_
    refine r_sub (lv' := [(0, .ref (X.1 96)), (1, .int x1), (2, .int x2)]) [0, 1, 2] rfl ?_
    exact A_X7_goPlan_J9 X _ x1 x2 g2 hf
  · refine r_if_ne_f 9 dX7_goPlan_1 (by decide) c1 ?_
    refine r_sub (lv' := [(0, .ref (X.1 96)), (1, .int x1), (2, .int x2)]) [0, 1, 2] rfl ?_
    exact A_X7_goPlan_J9 X _ x1 x2 h hf
-- X7_ends
def f_X7_ends_L18 : Nat → Int32 → Int32 → HP → Option (Int32 × HP)
  | 0, _, _, _ => none
  | n + 1, x1, x2, h => if (h.1 96 51) ≤ x2 then (if x1 = 0 then (lt (((h.1 96 4) - (h.1 96 37)) : Int32) fun v8 => bo (f_X7_putBack h) fun g10 => some (v8, g10)) else (bo (f_X7_height h) fun v12 => bo (f_X7_putBack h) fun g14 => some (v12, g14))) else (gd (inb x2 10) (gd (inb x2 10) (bo (f_X7_goPlan (h.1 123 (Int32.toNatClampNeg x2)) (h.1 124 (Int32.toNatClampNeg x2)) h) fun g18 => lt (x2 + 1 : Int32) fun v20 => f_X7_ends_L18 n x1 v20 g18)))
set_option maxHeartbeats 4000000 in
set_option maxRecDepth 100000 in
theorem A_X7_ends_L18 (X : XE) (r : Int32) (h' : HP) : ∀ (n : Nat) (x1 : Int32) (x2 : Int32) (h : HP), f_X7_ends_L18 n x1 x2 h = some (r, h') → Run mX7_ends 9 X 18 [(0, .ref (X.1 96)), (1, .int x1), (2, .int x2)] [] h (some (.int r)) h' := by
  intro n
  induction n with
  | zero => intro x1 x2 h hf; cases hf
  | succ n ih =>
    intro x1 x2 h hf
    rw [f_X7_ends_L18] at hf
    refine r_iload_n 19 rfl 2 rfl rfl dX7_ends_18 ?_
    refine r_aload_n 20 rfl 0 rfl rfl dX7_ends_19 ?_
    refine r_geti 23 rfl sh_96 kd_7_51 fl_X7_166 dX7_ends_20 ?_
    rcases if_so hf with ⟨c6, hf⟩ | ⟨c6, hf⟩
    · refine r_icmp_ge_t 48 dX7_ends_23 (by decide) c6 ?_
      refine r_iload_n 49 rfl 1 rfl rfl dX7_ends_48 ?_
      rcases if_so hf with ⟨c7, hf⟩ | ⟨c7, hf⟩
      · refine r_if_ne_t 52 rfl 64 dX7_ends_49 (by decide) c7 ?_
        refine r_aload_n 53 rfl 0 rfl rfl dX7_ends_52 ?_
        refine r_geti 56 rfl sh_96 kd_7_4 fl_X7_22 dX7_ends_53 ?_
        refine r_aload_n 57 rfl 0 rfl rfl dX7_ends_56 ?_
        refine r_geti 60 rfl sh_96 kd_7_37 fl_X7_124 dX7_ends_57 ?_
        refine r_isub 61 rfl dX7_ends_60 ?_
        refine r_goto 68 dX7_ends_61 (by decide) ?_
        obtain ⟨v8, e9, hf⟩ := lt_so hf
        refine r_top e9 ?_
        refine r_istore_n (lv' := [(2, .int v8), (0, .ref (X.1 96)), (1, .int x1)]) 69 rfl dX7_ends_68 (by decide) rfl rfl ?_
        refine r_aload_n 70 rfl 1 rfl rfl dX7_ends_69 ?_
        obtain ⟨g10, e11, hf⟩ := bo_so hf
        refine r_callVv 73 rfl (A_X7_putBack X h g10 e11) (by omega) cw_X7_405 sh_96 cl_7 rfl rfl (Nat.le_of_ble_eq_true rfl) dX7_ends_70 ?_
        refine r_iload_n 74 rfl 0 rfl rfl dX7_ends_73 ?_
        obtain ⟨rfl, rfl⟩ := so2 hf
        exact r_iret rfl rfl dX7_ends_74
      · refine r_if_ne_f 64 dX7_ends_49 (by decide) c7 ?_
        refine r_aload_n 65 rfl 0 rfl rfl dX7_ends_64 ?_
        obtain ⟨v12, e13, hf⟩ := bo_so hf
        refine r_callVi 68 rfl (A_X7_height X h v12 e13) (by omega) cw_X7_371 sh_96 cl_7 rfl rfl (Nat.le_of_ble_eq_true rfl) dX7_ends_65 ?_
        refine r_istore_n (lv' := [(2, .int v12), (0, .ref (X.1 96)), (1, .int x1)]) 69 rfl dX7_ends_68 (by decide) rfl rfl ?_
        refine r_aload_n 70 rfl 1 rfl rfl dX7_ends_69 ?_
        obtain ⟨g14, e15, hf⟩ := bo_so hf
        refine r_callVv 73 rfl (A_X7_putBack X h g14 e15) (by omega) cw_X7_405 sh_96 cl_7 rfl rfl (Nat.le_of_ble_eq_true rfl) dX7_ends_70 ?_
        refine r_iload_n 74 rfl 0 rfl rfl dX7_ends_73 ?_
        obtain ⟨rfl, rfl⟩ := so2 hf
        exact r_iret rfl rfl dX7_ends_74
    · refine r_icmp_ge_f 26 rfl 48 dX7_ends_23 (by decide) c6 ?_
      refine r_aload_n 27 rfl 0 rfl rfl dX7_ends_26 ?_
      refine r_aload_n 28 rfl 0 rfl rfl dX7_ends_27 ?_
      refine r_getr (q := 123) 31 rfl (lq_7_53) sh_96 kd_7_53 fl_X7_172 dX7_ends_28 ?_
      refine r_iload_n 32 rfl 2 rfl rfl dX7_ends_31 ?_
      obtain ⟨b16, hf⟩ := gd_so hf
      refine r_iald 33 rfl sh_123 (inb_vp b16) dX7_ends_32 ?_
      refine r_aload_n 34 rfl 0 rfl rfl dX7_ends_33 ?_
      refine r_getr (q := 124) 37 rfl (lq_7_54) sh_96 kd_7_54 fl_X7_175 dX7_ends_34 ?_
      refine r_iload_n 38 rfl 2 rfl rfl dX7_ends_37 ?_
      obtain ⟨b17, hf⟩ := gd_so hf
      refine r_iald 39 rfl sh_124 (inb_vp b17) dX7_ends_38 ?_
      obtain ⟨g18, e19, hf⟩ := bo_so hf
      refine r_callVv 42 rfl (A_X7_goPlan X (h.1 123 (Int32.toNatClampNeg x2)) (h.1 124 (Int32.toNatClampNeg x2)) h g18 e19) (by omega) cw_X7_436 sh_96 cl_7 rfl rfl (Nat.le_of_ble_eq_true rfl) dX7_ends_39 ?_
      obtain ⟨v20, e21, hf⟩ := lt_so hf
      refine r_iinc (lv' := [(2, .int v20), (0, .ref (X.1 96)), (1, .int x1)]) 45 rfl 2 dX7_ends_42 rfl (by rw [e21, ic_1]) (by decide) rfl ?_
      refine r_goto 18 dX7_ends_45 (by decide) ?_
      refine r_sub (lv' := [(0, .ref (X.1 96)), (1, .int x1), (2, .int v20)]) [1, 2, 0] rfl ?_
      exact ih x1 v20 g18 hf
def f_X7_ends (x1 : Int32) (h : HP) : Option (Int32 × HP) := bo (f_X7_in x1 0 1) fun v1 => if v1 = 0 then (some ((-1), h)) else (bo (f_X7_save h) fun g4 => f_X7_ends_L18 FU x1 0 g4)
set_option maxHeartbeats 4000000 in
set_option maxRecDepth 100000 in
theorem A_X7_ends (X : XE) (x1 : Int32) (h : HP) (r : Int32) (h' : HP) (hf : f_X7_ends x1 h = some (r, h')) : CC mX7_ends 9 X [.ref (X.1 96), .int x1] h (some (.int r)) h' := by
  refine CC_of rfl (Nat.le_of_ble_eq_true rfl) ?_
  show Run mX7_ends 9 X 0 [(0, .ref (X.1 96)), (1, .int x1)] [] h (some (.int r)) h'
  unfold f_X7_ends at hf
  refine r_aload_n 1 rfl 0 rfl rfl dX7_ends_0 ?_
  refine r_iload_n 2 rfl 1 rfl rfl dX7_ends_1 ?_
  refine r_iconst 3 rfl ic_0 dX7_ends_2 ?_
  refine r_iconst 4 rfl ic_1 dX7_ends_3 ?_
  obtain ⟨v1, e2, hf⟩ := bo_so hf
  refine r_callVi 7 rfl (A_X7_in X x1 0 1 h v1 e2) (by omega) cw_X7_276 sh_96 cl_7 rfl rfl (Nat.le_of_ble_eq_true rfl) dX7_ends_4 ?_
  rcases if_so hf with ⟨c3, hf⟩ | ⟨c3, hf⟩
  · refine r_if_ne_t 10 rfl 12 dX7_ends_7 (by decide) c3 ?_
    refine r_iconst 11 rfl ic_m1 dX7_ends_10 ?_
    obtain ⟨rfl, rfl⟩ := so2 hf
    exact r_iret rfl rfl dX7_ends_11
  · refine r_if_ne_f 12 dX7_ends_7 (by decide) c3 ?_
    refine r_aload_n 13 rfl 0 rfl rfl dX7_ends_12 ?_
    obtain ⟨g4, e5, hf⟩ := bo_so hf
    refine r_callVv 16 rfl (A_X7_save X h g4 e5) (by omega) cw_X7_402 sh_96 cl_7 rfl rfl (Nat.le_of_ble_eq_true rfl) dX7_ends_13 ?_
    refine r_iconst 17 rfl ic_0 dX7_ends_16 ?_
    refine r_istore_n (lv' := [(2, .int 0), (0, .ref (X.1 96)), (1, .int x1)]) 18 rfl dX7_ends_17 (by decide) rfl rfl ?_
    refine r_sub (lv' := [(0, .ref (X.1 96)), (1, .int x1), (2, .int 0)]) [1, 2, 0] rfl ?_
    exact A_X7_ends_L18 X _ _ FU x1 0 g4 hf
-- X7_book
def f_X7_book (x1 : Int32) (x2 : Int32) (h : HP) : Option (Int32 × HP) := if x1 = (-1) then (lt (si h 96 52 0) fun g2 => some (0, g2)) else (bo (f_X7_isPiece x1 h) fun v4 => if v4 = 0 then (some ((-1), h)) else (bo (f_X7_isFeet x2) fun v7 => if v7 = 0 then (some ((-2), h)) else (if (h.1 96 52) = 8 then (some ((-4), h)) else (gd (inb (h.1 96 52) 8) (lt (si h 125 (Int32.toNatClampNeg (h.1 96 52)) x1) fun g12 => gd (inb (g12.1 96 52) 8) (lt (si g12 126 (Int32.toNatClampNeg (g12.1 96 52)) x2) fun g15 => lt (si g15 96 52 ((g15.1 96 52) + 1)) fun g17 => some ((g17.1 96 52), g17)))))))
set_option maxHeartbeats 4000000 in
set_option maxRecDepth 100000 in
theorem A_X7_book (X : XE) (x1 : Int32) (x2 : Int32) (h : HP) (r : Int32) (h' : HP) (hf : f_X7_book x1 x2 h = some (r, h')) : CC mX7_book 3 X [.ref (X.1 96), .int x1, .int x2] h (some (.int r)) h' := by
  refine CC_of rfl (Nat.le_of_ble_eq_true rfl) ?_
  show Run mX7_book 3 X 0 [(0, .ref (X.1 96)), (1, .int x1), (2, .int x2)] [] h (some (.int r)) h'
  unfold f_X7_book at hf
  refine r_iload_n 1 rfl 1 rfl rfl dX7_book_0 ?_
  refine r_iconst 2 rfl ic_m1 dX7_book_1 ?_
  rcases if_so hf with ⟨c1, hf⟩ | ⟨c1, hf⟩
  · refine r_icmp_ne_t 5 rfl 12 dX7_book_2 (by decide) c1 ?_
    refine r_aload_n 6 rfl 0 rfl rfl dX7_book_5 ?_
    refine r_iconst 7 rfl ic_0 dX7_book_6 ?_
    obtain ⟨g2, e3, hf⟩ := lt_so hf
    refine r_puti 10 rfl sh_96 kd_7_52 fw_X7_169 rfl rfl dX7_book_7 ?_
    refine r_heap e3 ?_
    refine r_iconst 11 rfl ic_0 dX7_book_10 ?_
    obtain ⟨rfl, rfl⟩ := so2 hf
    exact r_iret rfl rfl dX7_book_11
  · refine r_icmp_ne_f 12 dX7_book_2 (by decide) c1 ?_
    refine r_aload_n 13 rfl 0 rfl rfl dX7_book_12 ?_
    refine r_iload_n 14 rfl 1 rfl rfl dX7_book_13 ?_
    obtain ⟨v4, e5, hf⟩ := bo_so hf
    refine r_callVi 17 rfl (A_X7_isPiece X x1 h v4 e5) (by omega) cw_X7_280 sh_96 cl_7 rfl rfl (Nat.le_of_ble_eq_true rfl) dX7_book_14 ?_
    rcases if_so hf with ⟨c6, hf⟩ | ⟨c6, hf⟩
    · refine r_if_ne_t 20 rfl 22 dX7_book_17 (by decide) c6 ?_
      refine r_iconst 21 rfl ic_m1 dX7_book_20 ?_
      obtain ⟨rfl, rfl⟩ := so2 hf
      exact r_iret rfl rfl dX7_book_21
    · refine r_if_ne_f 22 dX7_book_17 (by decide) c6 ?_
      refine r_aload_n 23 rfl 0 rfl rfl dX7_book_22 ?_
      refine r_iload_n 24 rfl 2 rfl rfl dX7_book_23 ?_
      obtain ⟨v7, e8, hf⟩ := bo_so hf
      refine r_callVi 27 rfl (A_X7_isFeet X x2 h v7 e8) (by omega) cw_X7_284 sh_96 cl_7 rfl rfl (Nat.le_of_ble_eq_true rfl) dX7_book_24 ?_
      rcases if_so hf with ⟨c9, hf⟩ | ⟨c9, hf⟩
      · refine r_if_ne_t 30 rfl 33 dX7_book_27 (by decide) c9 ?_
        refine r_bipush 32 rfl bp_m2 dX7_book_30 ?_
        obtain ⟨rfl, rfl⟩ := so2 hf
        exact r_iret rfl rfl dX7_book_32
      · refine r_if_ne_f 33 dX7_book_27 (by decide) c9 ?_
        refine r_aload_n 34 rfl 0 rfl rfl dX7_book_33 ?_
        refine r_geti 37 rfl sh_96 kd_7_52 fl_X7_169 dX7_book_34 ?_
        refine r_bipush 39 rfl bp_8 dX7_book_37 ?_
        rcases if_so hf with ⟨c10, hf⟩ | ⟨c10, hf⟩
        · refine r_icmp_ne_t 42 rfl 45 dX7_book_39 (by decide) c10 ?_
          refine r_bipush 44 rfl bp_m4 dX7_book_42 ?_
          obtain ⟨rfl, rfl⟩ := so2 hf
          exact r_iret rfl rfl dX7_book_44
        · refine r_icmp_ne_f 45 dX7_book_39 (by decide) c10 ?_
          refine r_aload_n 46 rfl 0 rfl rfl dX7_book_45 ?_
          refine r_getr (q := 125) 49 rfl (lq_7_55) sh_96 kd_7_55 fl_X7_178 dX7_book_46 ?_
          refine r_aload_n 50 rfl 0 rfl rfl dX7_book_49 ?_
          refine r_geti 53 rfl sh_96 kd_7_52 fl_X7_169 dX7_book_50 ?_
          refine r_iload_n 54 rfl 1 rfl rfl dX7_book_53 ?_
          obtain ⟨b11, hf⟩ := gd_so hf
          obtain ⟨g12, e13, hf⟩ := lt_so hf
          refine r_iast 55 rfl sh_125 (inb_vp b11) dX7_book_54 ?_
          refine r_heap e13 ?_
          refine r_aload_n 56 rfl 0 rfl rfl dX7_book_55 ?_
          refine r_getr (q := 126) 59 rfl (lq_7_56) sh_96 kd_7_56 fl_X7_181 dX7_book_56 ?_
          refine r_aload_n 60 rfl 0 rfl rfl dX7_book_59 ?_
          refine r_geti 63 rfl sh_96 kd_7_52 fl_X7_169 dX7_book_60 ?_
          refine r_iload_n 64 rfl 2 rfl rfl dX7_book_63 ?_
          obtain ⟨b14, hf⟩ := gd_so hf
          obtain ⟨g15, e16, hf⟩ := lt_so hf
          refine r_iast 65 rfl sh_126 (inb_vp b14) dX7_book_64 ?_
          refine r_heap e16 ?_
          refine r_aload_n 66 rfl 0 rfl rfl dX7_book_65 ?_
          refine r_dup 67 rfl rfl dX7_book_66 ?_
          refine r_geti 70 rfl sh_96 kd_7_52 fl_X7_169 dX7_book_67 ?_
          refine r_iconst 71 rfl ic_1 dX7_book_70 ?_
          refine r_iadd 72 rfl dX7_book_71 ?_
          obtain ⟨g17, e18, hf⟩ := lt_so hf
          refine r_puti 75 rfl sh_96 kd_7_52 fw_X7_169 rfl rfl dX7_book_72 ?_
          refine r_heap e18 ?_
          refine r_aload_n 76 rfl 0 rfl rfl dX7_book_75 ?_
          refine r_geti 79 rfl sh_96 kd_7_52 fl_X7_169 dX7_book_76 ?_
          obtain ⟨rfl, rfl⟩ := so2 hf
          exact r_iret rfl rfl dX7_book_79
-- X7_looked
def f_X7_looked_L2 (h : HP) : Nat → Int32 → Option Int32
  | 0, _ => none
  | n + 1, x1 => if (h.1 96 52) ≤ x1 then (some (-5)) else (gd (inb x1 8) (gd (inb (h.1 125 (Int32.toNatClampNeg x1)) 6) (gd (inb x1 8) (if (h.1 99 (Int32.toNatClampNeg (h.1 125 (Int32.toNatClampNeg x1)))) = (h.1 126 (Int32.toNatClampNeg x1)) then (lt (x1 + 1 : Int32) fun v6 => f_X7_looked_L2 h n v6) else (some x1)))))
set_option maxHeartbeats 4000000 in
set_option maxRecDepth 100000 in
theorem A_X7_looked_L2 (X : XE) (h : HP) (r : Int32) : ∀ (n : Nat) (x1 : Int32), f_X7_looked_L2 h n x1 = some r → Run mX7_looked 1 X 2 [(0, .ref (X.1 96)), (1, .int x1)] [] h (some (.int r)) h := by
  intro n
  induction n with
  | zero => intro x1 hf; cases hf
  | succ n ih =>
    intro x1 hf
    rw [f_X7_looked_L2] at hf
    refine r_iload_n 3 rfl 1 rfl rfl dX7_looked_2 ?_
    refine r_aload_n 4 rfl 0 rfl rfl dX7_looked_3 ?_
    refine r_geti 7 rfl sh_96 kd_7_52 fl_X7_169 dX7_looked_4 ?_
    rcases if_so hf with ⟨c1, hf⟩ | ⟨c1, hf⟩
    · refine r_icmp_ge_t 38 dX7_looked_7 (by decide) c1 ?_
      refine r_bipush 40 rfl bp_m5 dX7_looked_38 ?_
      obtain rfl := so1 hf
      exact r_iret rfl rfl dX7_looked_40
    · refine r_icmp_ge_f 10 rfl 38 dX7_looked_7 (by decide) c1 ?_
      refine r_aload_n 11 rfl 0 rfl rfl dX7_looked_10 ?_
      refine r_getr (q := 99) 14 rfl (lq_7_8) sh_96 kd_7_8 fl_X7_35 dX7_looked_11 ?_
      refine r_aload_n 15 rfl 0 rfl rfl dX7_looked_14 ?_
      refine r_getr (q := 125) 18 rfl (lq_7_55) sh_96 kd_7_55 fl_X7_178 dX7_looked_15 ?_
      refine r_iload_n 19 rfl 1 rfl rfl dX7_looked_18 ?_
      obtain ⟨b2, hf⟩ := gd_so hf
      refine r_iald 20 rfl sh_125 (inb_vp b2) dX7_looked_19 ?_
      obtain ⟨b3, hf⟩ := gd_so hf
      refine r_iald 21 rfl sh_99 (inb_vp b3) dX7_looked_20 ?_
      refine r_aload_n 22 rfl 0 rfl rfl dX7_looked_21 ?_
      refine r_getr (q := 126) 25 rfl (lq_7_56) sh_96 kd_7_56 fl_X7_181 dX7_looked_22 ?_
      refine r_iload_n 26 rfl 1 rfl rfl dX7_looked_25 ?_
      obtain ⟨b4, hf⟩ := gd_so hf
      refine r_iald 27 rfl sh_126 (inb_vp b4) dX7_looked_26 ?_
      rcases if_so hf with ⟨c5, hf⟩ | ⟨c5, hf⟩
      · refine r_icmp_eq_t 32 dX7_looked_27 (by decide) c5 ?_
        obtain ⟨v6, e7, hf⟩ := lt_so hf
        refine r_iinc (lv' := [(1, .int v6), (0, .ref (X.1 96))]) 35 rfl 1 dX7_looked_32 rfl (by rw [e7, ic_1]) (by decide) rfl ?_
        refine r_goto 2 dX7_looked_35 (by decide) ?_
        refine r_sub (lv' := [(0, .ref (X.1 96)), (1, .int v6)]) [1, 0] rfl ?_
        exact ih v6 hf
      · refine r_icmp_eq_f 30 rfl 32 dX7_looked_27 (by decide) c5 ?_
        refine r_iload_n 31 rfl 1 rfl rfl dX7_looked_30 ?_
        obtain rfl := so1 hf
        exact r_iret rfl rfl dX7_looked_31
def f_X7_looked (h : HP) : Option Int32 := f_X7_looked_L2 h FU 0
set_option maxHeartbeats 4000000 in
set_option maxRecDepth 100000 in
theorem A_X7_looked (X : XE) (h : HP) (r : Int32) (hf : f_X7_looked h = some r) : CC mX7_looked 1 X [.ref (X.1 96)] h (some (.int r)) h := by
  refine CC_of rfl (Nat.le_of_ble_eq_true rfl) ?_
  show Run mX7_looked 1 X 0 [(0, .ref (X.1 96))] [] h (some (.int r)) h
  unfold f_X7_looked at hf
  refine r_iconst 1 rfl ic_0 dX7_looked_0 ?_
  refine r_istore_n (lv' := [(1, .int 0), (0, .ref (X.1 96))]) 2 rfl dX7_looked_1 (by decide) rfl rfl ?_
  refine r_sub (lv' := [(0, .ref (X.1 96)), (1, .int 0)]) [1, 0] rfl ?_
  exact A_X7_looked_L2 X h _ FU 0 hf
-- X7_isTape
def f_X7_isTape (x1 : Int32) : Option Int32 := bo (f_X7_in x1 0 5) fun v1 => gd (zok v1) (some v1)
set_option maxHeartbeats 4000000 in
set_option maxRecDepth 100000 in
theorem A_X7_isTape (X : XE) (x1 : Int32) (h : HP) (r : Int32) (hf : f_X7_isTape x1 = some r) : CC mX7_isTape 2 X [.ref (X.1 96), .int x1] h (some (.int r)) h := by
  refine CC_of rfl (Nat.le_of_ble_eq_true rfl) ?_
  show Run mX7_isTape 2 X 0 [(0, .ref (X.1 96)), (1, .int x1)] [] h (some (.int r)) h
  unfold f_X7_isTape at hf
  refine r_aload_n 1 rfl 0 rfl rfl dX7_isTape_0 ?_
  refine r_iload_n 2 rfl 1 rfl rfl dX7_isTape_1 ?_
  refine r_iconst 3 rfl ic_0 dX7_isTape_2 ?_
  refine r_iconst 4 rfl ic_5 dX7_isTape_3 ?_
  obtain ⟨v1, e2, hf⟩ := bo_so hf
  refine r_callVi 7 rfl (A_X7_in X x1 0 5 h v1 e2) (by omega) cw_X7_276 sh_96 cl_7 rfl rfl (Nat.le_of_ble_eq_true rfl) dX7_isTape_4 ?_
  obtain ⟨b3, hf⟩ := gd_so hf
  obtain rfl := so1 hf
  exact r_iret rfl (zok_nar b3) dX7_isTape_7
-- X7_judge
def f_X7_judge_L24 (h : HP) : Nat → Int32 → Int32 → Int32 → Option Int32
  | 0, _, _, _ => none
  | n + 1, x1, x2, x3 => if (h.1 96 0) ≤ x3 then (some (-5)) else (gd (inb x1 6) (if (h.1 141 (Int32.toNatClampNeg x1)) < 0 then (some (100 + x3)) else (if x2 < 0 then (some (100 + x3)) else (gd (inb x1 6) (if x2 ≤ (((h.1 142 (Int32.toNatClampNeg x1)) - x3) - 1) then (gd (inb (((60 * x1) + x2) + x3) 360) (gd (inb x3 6) (if (lg_cmp (h.2.1 143 (Int32.toNatClampNeg (((60 * x1) + x2) + x3))) (Int32.toInt64 (h.1 99 (Int32.toNatClampNeg x3)))) = 0 then (lt (x3 + 1 : Int32) fun v15 => f_X7_judge_L24 h n x1 x2 v15) else (some x3)))) else (some (100 + x3)))))))
set_option maxHeartbeats 4000000 in
set_option maxRecDepth 100000 in
theorem A_X7_judge_L24 (X : XE) (h : HP) (r : Int32) : ∀ (n : Nat) (x1 : Int32) (x2 : Int32) (x3 : Int32), f_X7_judge_L24 h n x1 x2 x3 = some r → Run mX7_judge 3 X 24 [(0, .ref (X.1 96)), (1, .int x1), (2, .int x2), (3, .int x3)] [] h (some (.int r)) h := by
  intro n
  induction n with
  | zero => intro x1 x2 x3 hf; cases hf
  | succ n ih =>
    intro x1 x2 x3 hf
    rw [f_X7_judge_L24] at hf
    refine r_iload_n 25 rfl 3 rfl rfl dX7_judge_24 ?_
    refine r_aload_n 26 rfl 0 rfl rfl dX7_judge_25 ?_
    refine r_geti 29 rfl sh_96 kd_7_0 fl_X7_7 dX7_judge_26 ?_
    rcases if_so hf with ⟨c6, hf⟩ | ⟨c6, hf⟩
    · refine r_icmp_ge_t 96 dX7_judge_29 (by decide) c6 ?_
      refine r_bipush 98 rfl bp_m5 dX7_judge_96 ?_
      obtain rfl := so1 hf
      exact r_iret rfl rfl dX7_judge_98
    · refine r_icmp_ge_f 32 rfl 96 dX7_judge_29 (by decide) c6 ?_
      refine r_aload_n 33 rfl 0 rfl rfl dX7_judge_32 ?_
      refine r_getr (q := 141) 36 rfl (lq_7_83) sh_96 kd_7_83 fl_X7_263 dX7_judge_33 ?_
      refine r_iload_n 37 rfl 1 rfl rfl dX7_judge_36 ?_
      obtain ⟨b7, hf⟩ := gd_so hf
      refine r_iald 38 rfl sh_141 (inb_vp b7) dX7_judge_37 ?_
      rcases if_so hf with ⟨c8, hf⟩ | ⟨c8, hf⟩
      · refine r_if_lt_t 59 dX7_judge_38 (by decide) c8 ?_
        refine r_bipush 61 rfl bp_100 dX7_judge_59 ?_
        refine r_iload_n 62 rfl 3 rfl rfl dX7_judge_61 ?_
        refine r_iadd 63 rfl dX7_judge_62 ?_
        obtain rfl := so1 hf
        exact r_iret rfl rfl dX7_judge_63
      · refine r_if_lt_f 41 rfl 59 dX7_judge_38 (by decide) c8 ?_
        refine r_iload_n 42 rfl 2 rfl rfl dX7_judge_41 ?_
        rcases if_so hf with ⟨c9, hf⟩ | ⟨c9, hf⟩
        · refine r_if_lt_t 59 dX7_judge_42 (by decide) c9 ?_
          refine r_bipush 61 rfl bp_100 dX7_judge_59 ?_
          refine r_iload_n 62 rfl 3 rfl rfl dX7_judge_61 ?_
          refine r_iadd 63 rfl dX7_judge_62 ?_
          obtain rfl := so1 hf
          exact r_iret rfl rfl dX7_judge_63
        · refine r_if_lt_f 45 rfl 59 dX7_judge_42 (by decide) c9 ?_
          refine r_iload_n 46 rfl 2 rfl rfl dX7_judge_45 ?_
          refine r_aload_n 47 rfl 0 rfl rfl dX7_judge_46 ?_
          refine r_getr (q := 142) 50 rfl (lq_7_84) sh_96 kd_7_84 fl_X7_266 dX7_judge_47 ?_
          refine r_iload_n 51 rfl 1 rfl rfl dX7_judge_50 ?_
          obtain ⟨b10, hf⟩ := gd_so hf
          refine r_iald 52 rfl sh_142 (inb_vp b10) dX7_judge_51 ?_
          refine r_iload_n 53 rfl 3 rfl rfl dX7_judge_52 ?_
          refine r_isub 54 rfl dX7_judge_53 ?_
          refine r_iconst 55 rfl ic_1 dX7_judge_54 ?_
          refine r_isub 56 rfl dX7_judge_55 ?_
          rcases if_so hf with ⟨c11, hf⟩ | ⟨c11, hf⟩
          · refine r_icmp_le_t 64 dX7_judge_56 (by decide) c11 ?_
            refine r_aload_n 65 rfl 0 rfl rfl dX7_judge_64 ?_
            refine r_getr (q := 143) 68 rfl (lq_7_85) sh_96 kd_7_85 fl_X7_269 dX7_judge_65 ?_
            refine r_bipush 70 rfl bp_60 dX7_judge_68 ?_
            refine r_iload_n 71 rfl 1 rfl rfl dX7_judge_70 ?_
            refine r_imul 72 rfl dX7_judge_71 ?_
            refine r_iload_n 73 rfl 2 rfl rfl dX7_judge_72 ?_
            refine r_iadd 74 rfl dX7_judge_73 ?_
            refine r_iload_n 75 rfl 3 rfl rfl dX7_judge_74 ?_
            refine r_iadd 76 rfl dX7_judge_75 ?_
            obtain ⟨b12, hf⟩ := gd_so hf
            refine r_lald 77 rfl sh_143 (inb_vp b12) dX7_judge_76 ?_
            refine r_aload_n 78 rfl 0 rfl rfl dX7_judge_77 ?_
            refine r_getr (q := 99) 81 rfl (lq_7_8) sh_96 kd_7_8 fl_X7_35 dX7_judge_78 ?_
            refine r_iload_n 82 rfl 3 rfl rfl dX7_judge_81 ?_
            obtain ⟨b13, hf⟩ := gd_so hf
            refine r_iald 83 rfl sh_99 (inb_vp b13) dX7_judge_82 ?_
            refine r_i2l 84 rfl dX7_judge_83 ?_
            refine r_lcmp 85 rfl dX7_judge_84 ?_
            rcases if_so hf with ⟨c14, hf⟩ | ⟨c14, hf⟩
            · refine r_if_eq_t 90 dX7_judge_85 (by decide) c14 ?_
              obtain ⟨v15, e16, hf⟩ := lt_so hf
              refine r_iinc (lv' := [(3, .int v15), (0, .ref (X.1 96)), (1, .int x1), (2, .int x2)]) 93 rfl 3 dX7_judge_90 rfl (by rw [e16, ic_1]) (by decide) rfl ?_
              refine r_goto 24 dX7_judge_93 (by decide) ?_
              refine r_sub (lv' := [(0, .ref (X.1 96)), (1, .int x1), (2, .int x2), (3, .int v15)]) [1, 2, 3, 0] rfl ?_
              exact ih x1 x2 v15 hf
            · refine r_if_eq_f 88 rfl 90 dX7_judge_85 (by decide) c14 ?_
              refine r_iload_n 89 rfl 3 rfl rfl dX7_judge_88 ?_
              obtain rfl := so1 hf
              exact r_iret rfl rfl dX7_judge_89
          · refine r_icmp_le_f 59 rfl 64 dX7_judge_56 (by decide) c11 ?_
            refine r_bipush 61 rfl bp_100 dX7_judge_59 ?_
            refine r_iload_n 62 rfl 3 rfl rfl dX7_judge_61 ?_
            refine r_iadd 63 rfl dX7_judge_62 ?_
            obtain rfl := so1 hf
            exact r_iret rfl rfl dX7_judge_63
def f_X7_judge (x1 : Int32) (x2 : Int32) (h : HP) : Option Int32 := bo (f_X7_isTape x1) fun v1 => if v1 = 0 then (some (-1)) else (gd (inb x1 6) (if (h.1 141 (Int32.toNatClampNeg x1)) ≤ 0 then (f_X7_judge_L24 h FU x1 x2 0) else (some (-12))))
set_option maxHeartbeats 4000000 in
set_option maxRecDepth 100000 in
theorem A_X7_judge (X : XE) (x1 : Int32) (x2 : Int32) (h : HP) (r : Int32) (hf : f_X7_judge x1 x2 h = some r) : CC mX7_judge 3 X [.ref (X.1 96), .int x1, .int x2] h (some (.int r)) h := by
  refine CC_of rfl (Nat.le_of_ble_eq_true rfl) ?_
  show Run mX7_judge 3 X 0 [(0, .ref (X.1 96)), (1, .int x1), (2, .int x2)] [] h (some (.int r)) h
  unfold f_X7_judge at hf
  refine r_aload_n 1 rfl 0 rfl rfl dX7_judge_0 ?_
  refine r_iload_n 2 rfl 1 rfl rfl dX7_judge_1 ?_
  obtain ⟨v1, e2, hf⟩ := bo_so hf
  refine r_callVi 5 rfl (A_X7_isTape X x1 h v1 e2) (by omega) cw_X7_440 sh_96 cl_7 rfl rfl (Nat.le_of_ble_eq_true rfl) dX7_judge_2 ?_
  rcases if_so hf with ⟨c3, hf⟩ | ⟨c3, hf⟩
  · refine r_if_ne_t 8 rfl 10 dX7_judge_5 (by decide) c3 ?_
    refine r_iconst 9 rfl ic_m1 dX7_judge_8 ?_
    obtain rfl := so1 hf
    exact r_iret rfl rfl dX7_judge_9
  · refine r_if_ne_f 10 dX7_judge_5 (by decide) c3 ?_
    refine r_aload_n 11 rfl 0 rfl rfl dX7_judge_10 ?_
    refine r_getr (q := 141) 14 rfl (lq_7_83) sh_96 kd_7_83 fl_X7_263 dX7_judge_11 ?_
    refine r_iload_n 15 rfl 1 rfl rfl dX7_judge_14 ?_
    obtain ⟨b4, hf⟩ := gd_so hf
    refine r_iald 16 rfl sh_141 (inb_vp b4) dX7_judge_15 ?_
    rcases if_so hf with ⟨c5, hf⟩ | ⟨c5, hf⟩
    · refine r_if_le_t 22 dX7_judge_16 (by decide) c5 ?_
      refine r_iconst 23 rfl ic_0 dX7_judge_22 ?_
      refine r_istore_n (lv' := [(3, .int 0), (0, .ref (X.1 96)), (1, .int x1), (2, .int x2)]) 24 rfl dX7_judge_23 (by decide) rfl rfl ?_
      refine r_sub (lv' := [(0, .ref (X.1 96)), (1, .int x1), (2, .int x2), (3, .int 0)]) [1, 2, 3, 0] rfl ?_
      exact A_X7_judge_L24 X h _ FU x1 x2 0 hf
    · refine r_if_le_f 19 rfl 22 dX7_judge_16 (by decide) c5 ?_
      refine r_bipush 21 rfl bp_m12 dX7_judge_19 ?_
      obtain rfl := so1 hf
      exact r_iret rfl rfl dX7_judge_21
-- X7_image
def f_X7_image_L287 : Nat → Int32 → HP → Option (Int32 × HP)
  | 0, _, _ => none
  | n + 1, x1, h => if (8 : Int32) ≤ x1 then (some ((h.1 96 0), h)) else (gd (inb x1 8) (gd (inb x1 8) (lt (si h 138 (Int32.toNatClampNeg x1) (h.1 125 (Int32.toNatClampNeg x1))) fun g31 => gd (inb x1 8) (gd (inb x1 8) (lt (si g31 139 (Int32.toNatClampNeg x1) (g31.1 126 (Int32.toNatClampNeg x1))) fun g35 => lt (x1 + 1 : Int32) fun v37 => f_X7_image_L287 n v37 g35)))))
set_option maxHeartbeats 4000000 in
set_option maxRecDepth 100000 in
theorem A_X7_image_L287 (X : XE) (r : Int32) (h' : HP) : ∀ (n : Nat) (x1 : Int32) (h : HP), f_X7_image_L287 n x1 h = some (r, h') → Run mX7_image 1 X 287 [(0, .ref (X.1 96)), (1, .int x1)] [] h (some (.int r)) h' := by
  intro n
  induction n with
  | zero => intro x1 h hf; cases hf
  | succ n ih =>
    intro x1 h hf
    rw [f_X7_image_L287] at hf
    refine r_iload_n 288 rfl 1 rfl rfl dX7_image_287 ?_
    refine r_bipush 290 rfl bp_8 dX7_image_288 ?_
    rcases if_so hf with ⟨c28, hf⟩ | ⟨c28, hf⟩
    · refine r_icmp_ge_t 323 dX7_image_290 (by decide) c28 ?_
      refine r_aload_n 324 rfl 0 rfl rfl dX7_image_323 ?_
      refine r_geti 327 rfl sh_96 kd_7_0 fl_X7_7 dX7_image_324 ?_
      obtain ⟨rfl, rfl⟩ := so2 hf
      exact r_iret rfl rfl dX7_image_327
    · refine r_icmp_ge_f 293 rfl 323 dX7_image_290 (by decide) c28 ?_
      refine r_aload_n 294 rfl 0 rfl rfl dX7_image_293 ?_
      refine r_getr (q := 138) 297 rfl (lq_7_79) sh_96 kd_7_79 fl_X7_251 dX7_image_294 ?_
      refine r_iload_n 298 rfl 1 rfl rfl dX7_image_297 ?_
      refine r_aload_n 299 rfl 0 rfl rfl dX7_image_298 ?_
      refine r_getr (q := 125) 302 rfl (lq_7_55) sh_96 kd_7_55 fl_X7_178 dX7_image_299 ?_
      refine r_iload_n 303 rfl 1 rfl rfl dX7_image_302 ?_
      obtain ⟨b29, hf⟩ := gd_so hf
      refine r_iald 304 rfl sh_125 (inb_vp b29) dX7_image_303 ?_
      obtain ⟨b30, hf⟩ := gd_so hf
      obtain ⟨g31, e32, hf⟩ := lt_so hf
      refine r_iast 305 rfl sh_138 (inb_vp b30) dX7_image_304 ?_
      refine r_heap e32 ?_
      refine r_aload_n 306 rfl 0 rfl rfl dX7_image_305 ?_
      refine r_getr (q := 139) 309 rfl (lq_7_80) sh_96 kd_7_80 fl_X7_254 dX7_image_306 ?_
      refine r_iload_n 310 rfl 1 rfl rfl dX7_image_309 ?_
      refine r_aload_n 311 rfl 0 rfl rfl dX7_image_310 ?_
      refine r_getr (q := 126) 314 rfl (lq_7_56) sh_96 kd_7_56 fl_X7_181 dX7_image_311 ?_
      refine r_iload_n 315 rfl 1 rfl rfl dX7_image_314 ?_
      obtain ⟨b33, hf⟩ := gd_so hf
      refine r_iald 316 rfl sh_126 (inb_vp b33) dX7_image_315 ?_
      obtain ⟨b34, hf⟩ := gd_so hf
      obtain ⟨g35, e36, hf⟩ := lt_so hf
      refine r_iast 317 rfl sh_139 (inb_vp b34) dX7_image_316 ?_
      refine r_heap e36 ?_
      obtain ⟨v37, e38, hf⟩ := lt_so hf
      refine r_iinc (lv' := [(1, .int v37), (0, .ref (X.1 96))]) 320 rfl 1 dX7_image_317 rfl (by rw [e38, ic_1]) (by decide) rfl ?_
      refine r_goto 287 dX7_image_320 (by decide) ?_
      refine r_sub (lv' := [(0, .ref (X.1 96)), (1, .int v37)]) [1, 0] rfl ?_
      exact ih v37 g35 hf
def f_X7_image_L249 : Nat → Int32 → HP → Option (Int32 × HP)
  | 0, _, _ => none
  | n + 1, x1, h => if (10 : Int32) ≤ x1 then (f_X7_image_L287 FU 0 h) else (gd (inb x1 10) (gd (inb x1 10) (lt (si h 136 (Int32.toNatClampNeg x1) (h.1 123 (Int32.toNatClampNeg x1))) fun g41 => gd (inb x1 10) (gd (inb x1 10) (lt (si g41 137 (Int32.toNatClampNeg x1) (g41.1 124 (Int32.toNatClampNeg x1))) fun g45 => lt (x1 + 1 : Int32) fun v47 => f_X7_image_L249 n v47 g45)))))
set_option maxHeartbeats 4000000 in
set_option maxRecDepth 100000 in
theorem A_X7_image_L249 (X : XE) (r : Int32) (h' : HP) : ∀ (n : Nat) (x1 : Int32) (h : HP), f_X7_image_L249 n x1 h = some (r, h') → Run mX7_image 1 X 249 [(0, .ref (X.1 96)), (1, .int x1)] [] h (some (.int r)) h' := by
  intro n
  induction n with
  | zero => intro x1 h hf; cases hf
  | succ n ih =>
    intro x1 h hf
    rw [f_X7_image_L249] at hf
    refine r_iload_n 250 rfl 1 rfl rfl dX7_image_249 ?_
    refine r_bipush 252 rfl bp_10 dX7_image_250 ?_
    rcases if_so hf with ⟨c27, hf⟩ | ⟨c27, hf⟩
    · refine r_icmp_ge_t 285 dX7_image_252 (by decide) c27 ?_
      refine r_iconst 286 rfl ic_0 dX7_image_285 ?_
      refine r_istore_n (lv' := [(1, .int 0), (0, .ref (X.1 96))]) 287 rfl dX7_image_286 (by decide) rfl rfl ?_
      refine r_sub (lv' := [(0, .ref (X.1 96)), (1, .int 0)]) [1, 0] rfl ?_
      exact A_X7_image_L287 X _ _ FU 0 h hf
    · refine r_icmp_ge_f 255 rfl 285 dX7_image_252 (by decide) c27 ?_
      refine r_aload_n 256 rfl 0 rfl rfl dX7_image_255 ?_
      refine r_getr (q := 136) 259 rfl (lq_7_77) sh_96 kd_7_77 fl_X7_245 dX7_image_256 ?_
      refine r_iload_n 260 rfl 1 rfl rfl dX7_image_259 ?_
      refine r_aload_n 261 rfl 0 rfl rfl dX7_image_260 ?_
      refine r_getr (q := 123) 264 rfl (lq_7_53) sh_96 kd_7_53 fl_X7_172 dX7_image_261 ?_
      refine r_iload_n 265 rfl 1 rfl rfl dX7_image_264 ?_
      obtain ⟨b39, hf⟩ := gd_so hf
      refine r_iald 266 rfl sh_123 (inb_vp b39) dX7_image_265 ?_
      obtain ⟨b40, hf⟩ := gd_so hf
      obtain ⟨g41, e42, hf⟩ := lt_so hf
      refine r_iast 267 rfl sh_136 (inb_vp b40) dX7_image_266 ?_
      refine r_heap e42 ?_
      refine r_aload_n 268 rfl 0 rfl rfl dX7_image_267 ?_
      refine r_getr (q := 137) 271 rfl (lq_7_78) sh_96 kd_7_78 fl_X7_248 dX7_image_268 ?_
      refine r_iload_n 272 rfl 1 rfl rfl dX7_image_271 ?_
      refine r_aload_n 273 rfl 0 rfl rfl dX7_image_272 ?_
      refine r_getr (q := 124) 276 rfl (lq_7_54) sh_96 kd_7_54 fl_X7_175 dX7_image_273 ?_
      refine r_iload_n 277 rfl 1 rfl rfl dX7_image_276 ?_
      obtain ⟨b43, hf⟩ := gd_so hf
      refine r_iald 278 rfl sh_124 (inb_vp b43) dX7_image_277 ?_
      obtain ⟨b44, hf⟩ := gd_so hf
      obtain ⟨g45, e46, hf⟩ := lt_so hf
      refine r_iast 279 rfl sh_137 (inb_vp b44) dX7_image_278 ?_
      refine r_heap e46 ?_
      obtain ⟨v47, e48, hf⟩ := lt_so hf
      refine r_iinc (lv' := [(1, .int v47), (0, .ref (X.1 96))]) 282 rfl 1 dX7_image_279 rfl (by rw [e48, ic_1]) (by decide) rfl ?_
      refine r_goto 249 dX7_image_282 (by decide) ?_
      refine r_sub (lv' := [(0, .ref (X.1 96)), (1, .int v47)]) [1, 0] rfl ?_
      exact ih v47 g45 hf
def f_X7_image_L212 : Nat → Int32 → HP → Option (Int32 × HP)
  | 0, _, _ => none
  | n + 1, x1, h => if (5 : Int32) ≤ x1 then (f_X7_image_L249 FU 0 h) else (gd (inb x1 5) (gd (inb x1 5) (lt (si h 134 (Int32.toNatClampNeg x1) (h.1 121 (Int32.toNatClampNeg x1))) fun g51 => gd (inb x1 5) (gd (inb x1 5) (lt (si g51 135 (Int32.toNatClampNeg x1) (g51.1 122 (Int32.toNatClampNeg x1))) fun g55 => lt (x1 + 1 : Int32) fun v57 => f_X7_image_L212 n v57 g55)))))
set_option maxHeartbeats 4000000 in
set_option maxRecDepth 100000 in
theorem A_X7_image_L212 (X : XE) (r : Int32) (h' : HP) : ∀ (n : Nat) (x1 : Int32) (h : HP), f_X7_image_L212 n x1 h = some (r, h') → Run mX7_image 1 X 212 [(0, .ref (X.1 96)), (1, .int x1)] [] h (some (.int r)) h' := by
  intro n
  induction n with
  | zero => intro x1 h hf; cases hf
  | succ n ih =>
    intro x1 h hf
    rw [f_X7_image_L212] at hf
    refine r_iload_n 213 rfl 1 rfl rfl dX7_image_212 ?_
    refine r_iconst 214 rfl ic_5 dX7_image_213 ?_
    rcases if_so hf with ⟨c26, hf⟩ | ⟨c26, hf⟩
    · refine r_icmp_ge_t 247 dX7_image_214 (by decide) c26 ?_
      refine r_iconst 248 rfl ic_0 dX7_image_247 ?_
      refine r_istore_n (lv' := [(1, .int 0), (0, .ref (X.1 96))]) 249 rfl dX7_image_248 (by decide) rfl rfl ?_
      refine r_sub (lv' := [(0, .ref (X.1 96)), (1, .int 0)]) [1, 0] rfl ?_
      exact A_X7_image_L249 X _ _ FU 0 h hf
    · refine r_icmp_ge_f 217 rfl 247 dX7_image_214 (by decide) c26 ?_
      refine r_aload_n 218 rfl 0 rfl rfl dX7_image_217 ?_
      refine r_getr (q := 134) 221 rfl (lq_7_75) sh_96 kd_7_75 fl_X7_239 dX7_image_218 ?_
      refine r_iload_n 222 rfl 1 rfl rfl dX7_image_221 ?_
      refine r_aload_n 223 rfl 0 rfl rfl dX7_image_222 ?_
      refine r_getr (q := 121) 226 rfl (lq_7_49) sh_96 kd_7_49 fl_X7_160 dX7_image_223 ?_
      refine r_iload_n 227 rfl 1 rfl rfl dX7_image_226 ?_
      obtain ⟨b49, hf⟩ := gd_so hf
      refine r_iald 228 rfl sh_121 (inb_vp b49) dX7_image_227 ?_
      obtain ⟨b50, hf⟩ := gd_so hf
      obtain ⟨g51, e52, hf⟩ := lt_so hf
      refine r_iast 229 rfl sh_134 (inb_vp b50) dX7_image_228 ?_
      refine r_heap e52 ?_
      refine r_aload_n 230 rfl 0 rfl rfl dX7_image_229 ?_
      refine r_getr (q := 135) 233 rfl (lq_7_76) sh_96 kd_7_76 fl_X7_242 dX7_image_230 ?_
      refine r_iload_n 234 rfl 1 rfl rfl dX7_image_233 ?_
      refine r_aload_n 235 rfl 0 rfl rfl dX7_image_234 ?_
      refine r_getr (q := 122) 238 rfl (lq_7_50) sh_96 kd_7_50 fl_X7_163 dX7_image_235 ?_
      refine r_iload_n 239 rfl 1 rfl rfl dX7_image_238 ?_
      obtain ⟨b53, hf⟩ := gd_so hf
      refine r_iald 240 rfl sh_122 (inb_vp b53) dX7_image_239 ?_
      obtain ⟨b54, hf⟩ := gd_so hf
      obtain ⟨g55, e56, hf⟩ := lt_so hf
      refine r_iast 241 rfl sh_135 (inb_vp b54) dX7_image_240 ?_
      refine r_heap e56 ?_
      obtain ⟨v57, e58, hf⟩ := lt_so hf
      refine r_iinc (lv' := [(1, .int v57), (0, .ref (X.1 96))]) 244 rfl 1 dX7_image_241 rfl (by rw [e58, ic_1]) (by decide) rfl ?_
      refine r_goto 212 dX7_image_244 (by decide) ?_
      refine r_sub (lv' := [(0, .ref (X.1 96)), (1, .int v57)]) [1, 0] rfl ?_
      exact ih v57 g55 hf
def f_X7_image_L187 : Nat → Int32 → HP → Option (Int32 × HP)
  | 0, _, _ => none
  | n + 1, x1, h => if (3 : Int32) ≤ x1 then (f_X7_image_L212 FU 0 h) else (gd (inb x1 3) (gd (inb x1 3) (lt (si h 133 (Int32.toNatClampNeg x1) (h.1 103 (Int32.toNatClampNeg x1))) fun g61 => lt (x1 + 1 : Int32) fun v63 => f_X7_image_L187 n v63 g61)))
set_option maxHeartbeats 4000000 in
set_option maxRecDepth 100000 in
theorem A_X7_image_L187 (X : XE) (r : Int32) (h' : HP) : ∀ (n : Nat) (x1 : Int32) (h : HP), f_X7_image_L187 n x1 h = some (r, h') → Run mX7_image 1 X 187 [(0, .ref (X.1 96)), (1, .int x1)] [] h (some (.int r)) h' := by
  intro n
  induction n with
  | zero => intro x1 h hf; cases hf
  | succ n ih =>
    intro x1 h hf
    rw [f_X7_image_L187] at hf
    refine r_iload_n 188 rfl 1 rfl rfl dX7_image_187 ?_
    refine r_iconst 189 rfl ic_3 dX7_image_188 ?_
    rcases if_so hf with ⟨c25, hf⟩ | ⟨c25, hf⟩
    · refine r_icmp_ge_t 210 dX7_image_189 (by decide) c25 ?_
      refine r_iconst 211 rfl ic_0 dX7_image_210 ?_
      refine r_istore_n (lv' := [(1, .int 0), (0, .ref (X.1 96))]) 212 rfl dX7_image_211 (by decide) rfl rfl ?_
      refine r_sub (lv' := [(0, .ref (X.1 96)), (1, .int 0)]) [1, 0] rfl ?_
      exact A_X7_image_L212 X _ _ FU 0 h hf
    · refine r_icmp_ge_f 192 rfl 210 dX7_image_189 (by decide) c25 ?_
      refine r_aload_n 193 rfl 0 rfl rfl dX7_image_192 ?_
      refine r_getr (q := 133) 196 rfl (lq_7_74) sh_96 kd_7_74 fl_X7_236 dX7_image_193 ?_
      refine r_iload_n 197 rfl 1 rfl rfl dX7_image_196 ?_
      refine r_aload_n 198 rfl 0 rfl rfl dX7_image_197 ?_
      refine r_getr (q := 103) 201 rfl (lq_7_12) sh_96 kd_7_12 fl_X7_47 dX7_image_198 ?_
      refine r_iload_n 202 rfl 1 rfl rfl dX7_image_201 ?_
      obtain ⟨b59, hf⟩ := gd_so hf
      refine r_iald 203 rfl sh_103 (inb_vp b59) dX7_image_202 ?_
      obtain ⟨b60, hf⟩ := gd_so hf
      obtain ⟨g61, e62, hf⟩ := lt_so hf
      refine r_iast 204 rfl sh_133 (inb_vp b60) dX7_image_203 ?_
      refine r_heap e62 ?_
      obtain ⟨v63, e64, hf⟩ := lt_so hf
      refine r_iinc (lv' := [(1, .int v63), (0, .ref (X.1 96))]) 207 rfl 1 dX7_image_204 rfl (by rw [e64, ic_1]) (by decide) rfl ?_
      refine r_goto 187 dX7_image_207 (by decide) ?_
      refine r_sub (lv' := [(0, .ref (X.1 96)), (1, .int v63)]) [1, 0] rfl ?_
      exact ih v63 g61 hf
def f_X7_image_L161 : Nat → Int32 → HP → Option (Int32 × HP)
  | 0, _, _ => none
  | n + 1, x1, h => if (24 : Int32) ≤ x1 then (f_X7_image_L187 FU 0 h) else (gd (inb x1 24) (gd (inb x1 24) (lt (si h 132 (Int32.toNatClampNeg x1) (h.1 102 (Int32.toNatClampNeg x1))) fun g67 => lt (x1 + 1 : Int32) fun v69 => f_X7_image_L161 n v69 g67)))
set_option maxHeartbeats 4000000 in
set_option maxRecDepth 100000 in
theorem A_X7_image_L161 (X : XE) (r : Int32) (h' : HP) : ∀ (n : Nat) (x1 : Int32) (h : HP), f_X7_image_L161 n x1 h = some (r, h') → Run mX7_image 1 X 161 [(0, .ref (X.1 96)), (1, .int x1)] [] h (some (.int r)) h' := by
  intro n
  induction n with
  | zero => intro x1 h hf; cases hf
  | succ n ih =>
    intro x1 h hf
    rw [f_X7_image_L161] at hf
    refine r_iload_n 162 rfl 1 rfl rfl dX7_image_161 ?_
    refine r_bipush 164 rfl bp_24 dX7_image_162 ?_
    rcases if_so hf with ⟨c24, hf⟩ | ⟨c24, hf⟩
    · refine r_icmp_ge_t 185 dX7_image_164 (by decide) c24 ?_
      refine r_iconst 186 rfl ic_0 dX7_image_185 ?_
      refine r_istore_n (lv' := [(1, .int 0), (0, .ref (X.1 96))]) 187 rfl dX7_image_186 (by decide) rfl rfl ?_
      refine r_sub (lv' := [(0, .ref (X.1 96)), (1, .int 0)]) [1, 0] rfl ?_
      exact A_X7_image_L187 X _ _ FU 0 h hf
    · refine r_icmp_ge_f 167 rfl 185 dX7_image_164 (by decide) c24 ?_
      refine r_aload_n 168 rfl 0 rfl rfl dX7_image_167 ?_
      refine r_getr (q := 132) 171 rfl (lq_7_73) sh_96 kd_7_73 fl_X7_233 dX7_image_168 ?_
      refine r_iload_n 172 rfl 1 rfl rfl dX7_image_171 ?_
      refine r_aload_n 173 rfl 0 rfl rfl dX7_image_172 ?_
      refine r_getr (q := 102) 176 rfl (lq_7_11) sh_96 kd_7_11 fl_X7_44 dX7_image_173 ?_
      refine r_iload_n 177 rfl 1 rfl rfl dX7_image_176 ?_
      obtain ⟨b65, hf⟩ := gd_so hf
      refine r_iald 178 rfl sh_102 (inb_vp b65) dX7_image_177 ?_
      obtain ⟨b66, hf⟩ := gd_so hf
      obtain ⟨g67, e68, hf⟩ := lt_so hf
      refine r_iast 179 rfl sh_132 (inb_vp b66) dX7_image_178 ?_
      refine r_heap e68 ?_
      obtain ⟨v69, e70, hf⟩ := lt_so hf
      refine r_iinc (lv' := [(1, .int v69), (0, .ref (X.1 96))]) 182 rfl 1 dX7_image_179 rfl (by rw [e70, ic_1]) (by decide) rfl ?_
      refine r_goto 161 dX7_image_182 (by decide) ?_
      refine r_sub (lv' := [(0, .ref (X.1 96)), (1, .int v69)]) [1, 0] rfl ?_
      exact ih v69 g67 hf
def f_X7_image_L87 : Nat → Int32 → HP → Option (Int32 × HP)
  | 0, _, _ => none
  | n + 1, x1, h => if (6 : Int32) ≤ x1 then (f_X7_image_L161 FU 0 h) else (gd (inb x1 6) (gd (inb x1 6) (lt (si h 127 (Int32.toNatClampNeg x1) (h.1 97 (Int32.toNatClampNeg x1))) fun g73 => gd (inb x1 6) (gd (inb x1 6) (lt (si g73 128 (Int32.toNatClampNeg x1) (g73.1 98 (Int32.toNatClampNeg x1))) fun g77 => gd (inb x1 6) (gd (inb x1 6) (lt (si g77 129 (Int32.toNatClampNeg x1) (g77.1 99 (Int32.toNatClampNeg x1))) fun g81 => gd (inb x1 6) (gd (inb x1 6) (lt (si g81 130 (Int32.toNatClampNeg x1) (g81.1 100 (Int32.toNatClampNeg x1))) fun g85 => gd (inb x1 6) (gd (inb x1 6) (lt (si g85 131 (Int32.toNatClampNeg x1) (g85.1 101 (Int32.toNatClampNeg x1))) fun g89 => lt (x1 + 1 : Int32) fun v91 => f_X7_image_L87 n v91 g89)))))))))))
set_option maxHeartbeats 4000000 in
set_option maxRecDepth 100000 in
theorem A_X7_image_L87 (X : XE) (r : Int32) (h' : HP) : ∀ (n : Nat) (x1 : Int32) (h : HP), f_X7_image_L87 n x1 h = some (r, h') → Run mX7_image 1 X 87 [(0, .ref (X.1 96)), (1, .int x1)] [] h (some (.int r)) h' := by
  intro n
  induction n with
  | zero => intro x1 h hf; cases hf
  | succ n ih =>
    intro x1 h hf
    rw [f_X7_image_L87] at hf
    refine r_iload_n 88 rfl 1 rfl rfl dX7_image_87 ?_
    refine r_bipush 90 rfl bp_6 dX7_image_88 ?_
    rcases if_so hf with ⟨c23, hf⟩ | ⟨c23, hf⟩
    · refine r_icmp_ge_t 159 dX7_image_90 (by decide) c23 ?_
      refine r_iconst 160 rfl ic_0 dX7_image_159 ?_
      refine r_istore_n (lv' := [(1, .int 0), (0, .ref (X.1 96))]) 161 rfl dX7_image_160 (by decide) rfl rfl ?_
      refine r_sub (lv' := [(0, .ref (X.1 96)), (1, .int 0)]) [1, 0] rfl ?_
      exact A_X7_image_L161 X _ _ FU 0 h hf
    · refine r_icmp_ge_f 93 rfl 159 dX7_image_90 (by decide) c23 ?_
      refine r_aload_n 94 rfl 0 rfl rfl dX7_image_93 ?_
      refine r_getr (q := 127) 97 rfl (lq_7_68) sh_96 kd_7_68 fl_X7_218 dX7_image_94 ?_
      refine r_iload_n 98 rfl 1 rfl rfl dX7_image_97 ?_
      refine r_aload_n 99 rfl 0 rfl rfl dX7_image_98 ?_
      refine r_getr (q := 97) 102 rfl (lq_7_6) sh_96 kd_7_6 fl_X7_28 dX7_image_99 ?_
      refine r_iload_n 103 rfl 1 rfl rfl dX7_image_102 ?_
      obtain ⟨b71, hf⟩ := gd_so hf
      refine r_iald 104 rfl sh_97 (inb_vp b71) dX7_image_103 ?_
      obtain ⟨b72, hf⟩ := gd_so hf
      obtain ⟨g73, e74, hf⟩ := lt_so hf
      refine r_iast 105 rfl sh_127 (inb_vp b72) dX7_image_104 ?_
      refine r_heap e74 ?_
      refine r_aload_n 106 rfl 0 rfl rfl dX7_image_105 ?_
      refine r_getr (q := 128) 109 rfl (lq_7_69) sh_96 kd_7_69 fl_X7_221 dX7_image_106 ?_
      refine r_iload_n 110 rfl 1 rfl rfl dX7_image_109 ?_
      refine r_aload_n 111 rfl 0 rfl rfl dX7_image_110 ?_
      refine r_getr (q := 98) 114 rfl (lq_7_7) sh_96 kd_7_7 fl_X7_32 dX7_image_111 ?_
      refine r_iload_n 115 rfl 1 rfl rfl dX7_image_114 ?_
      obtain ⟨b75, hf⟩ := gd_so hf
      refine r_iald 116 rfl sh_98 (inb_vp b75) dX7_image_115 ?_
      obtain ⟨b76, hf⟩ := gd_so hf
      obtain ⟨g77, e78, hf⟩ := lt_so hf
      refine r_iast 117 rfl sh_128 (inb_vp b76) dX7_image_116 ?_
      refine r_heap e78 ?_
      refine r_aload_n 118 rfl 0 rfl rfl dX7_image_117 ?_
      refine r_getr (q := 129) 121 rfl (lq_7_70) sh_96 kd_7_70 fl_X7_224 dX7_image_118 ?_
      refine r_iload_n 122 rfl 1 rfl rfl dX7_image_121 ?_
      refine r_aload_n 123 rfl 0 rfl rfl dX7_image_122 ?_
      refine r_getr (q := 99) 126 rfl (lq_7_8) sh_96 kd_7_8 fl_X7_35 dX7_image_123 ?_
      refine r_iload_n 127 rfl 1 rfl rfl dX7_image_126 ?_
      obtain ⟨b79, hf⟩ := gd_so hf
      refine r_iald 128 rfl sh_99 (inb_vp b79) dX7_image_127 ?_
      obtain ⟨b80, hf⟩ := gd_so hf
      obtain ⟨g81, e82, hf⟩ := lt_so hf
      refine r_iast 129 rfl sh_129 (inb_vp b80) dX7_image_128 ?_
      refine r_heap e82 ?_
      refine r_aload_n 130 rfl 0 rfl rfl dX7_image_129 ?_
      refine r_getr (q := 130) 133 rfl (lq_7_71) sh_96 kd_7_71 fl_X7_227 dX7_image_130 ?_
      refine r_iload_n 134 rfl 1 rfl rfl dX7_image_133 ?_
      refine r_aload_n 135 rfl 0 rfl rfl dX7_image_134 ?_
      refine r_getr (q := 100) 138 rfl (lq_7_9) sh_96 kd_7_9 fl_X7_38 dX7_image_135 ?_
      refine r_iload_n 139 rfl 1 rfl rfl dX7_image_138 ?_
      obtain ⟨b83, hf⟩ := gd_so hf
      refine r_iald 140 rfl sh_100 (inb_vp b83) dX7_image_139 ?_
      obtain ⟨b84, hf⟩ := gd_so hf
      obtain ⟨g85, e86, hf⟩ := lt_so hf
      refine r_iast 141 rfl sh_130 (inb_vp b84) dX7_image_140 ?_
      refine r_heap e86 ?_
      refine r_aload_n 142 rfl 0 rfl rfl dX7_image_141 ?_
      refine r_getr (q := 131) 145 rfl (lq_7_72) sh_96 kd_7_72 fl_X7_230 dX7_image_142 ?_
      refine r_iload_n 146 rfl 1 rfl rfl dX7_image_145 ?_
      refine r_aload_n 147 rfl 0 rfl rfl dX7_image_146 ?_
      refine r_getr (q := 101) 150 rfl (lq_7_10) sh_96 kd_7_10 fl_X7_41 dX7_image_147 ?_
      refine r_iload_n 151 rfl 1 rfl rfl dX7_image_150 ?_
      obtain ⟨b87, hf⟩ := gd_so hf
      refine r_iald 152 rfl sh_101 (inb_vp b87) dX7_image_151 ?_
      obtain ⟨b88, hf⟩ := gd_so hf
      obtain ⟨g89, e90, hf⟩ := lt_so hf
      refine r_iast 153 rfl sh_131 (inb_vp b88) dX7_image_152 ?_
      refine r_heap e90 ?_
      obtain ⟨v91, e92, hf⟩ := lt_so hf
      refine r_iinc (lv' := [(1, .int v91), (0, .ref (X.1 96))]) 156 rfl 1 dX7_image_153 rfl (by rw [e92, ic_1]) (by decide) rfl ?_
      refine r_goto 87 dX7_image_156 (by decide) ?_
      refine r_sub (lv' := [(0, .ref (X.1 96)), (1, .int v91)]) [1, 0] rfl ?_
      exact ih v91 g89 hf
def f_X7_image (h : HP) : Option (Int32 × HP) := lt (si h 96 57 1) fun g1 => lt (si g1 96 58 (g1.1 96 14)) fun g3 => lt (si g3 96 59 (g3.1 96 0)) fun g5 => lt (si g5 96 60 (g5.1 96 1)) fun g7 => lt (si g7 96 61 (g7.1 96 2)) fun g9 => lt (si g9 96 62 (g9.1 96 3)) fun g11 => lt (si g11 96 63 (g11.1 96 4)) fun g13 => lt (si g13 96 64 (g13.1 96 5)) fun g15 => lt (si g15 96 65 (g15.1 96 48)) fun g17 => lt (si g17 96 66 (g17.1 96 51)) fun g19 => lt (si g19 96 67 (g19.1 96 52)) fun g21 => f_X7_image_L87 FU 0 g21
set_option maxHeartbeats 4000000 in
set_option maxRecDepth 100000 in
theorem A_X7_image (X : XE) (h : HP) (r : Int32) (h' : HP) (hf : f_X7_image h = some (r, h')) : CC mX7_image 1 X [.ref (X.1 96)] h (some (.int r)) h' := by
  refine CC_of rfl (Nat.le_of_ble_eq_true rfl) ?_
  show Run mX7_image 1 X 0 [(0, .ref (X.1 96))] [] h (some (.int r)) h'
  unfold f_X7_image at hf
  refine r_aload_n 1 rfl 0 rfl rfl dX7_image_0 ?_
  refine r_iconst 2 rfl ic_1 dX7_image_1 ?_
  obtain ⟨g1, e2, hf⟩ := lt_so hf
  refine r_puti 5 rfl sh_96 kd_7_57 fw_X7_184 rfl rfl dX7_image_2 ?_
  refine r_heap e2 ?_
  refine r_aload_n 6 rfl 0 rfl rfl dX7_image_5 ?_
  refine r_aload_n 7 rfl 0 rfl rfl dX7_image_6 ?_
  refine r_geti 10 rfl sh_96 kd_7_14 fl_X7_53 dX7_image_7 ?_
  obtain ⟨g3, e4, hf⟩ := lt_so hf
  refine r_puti 13 rfl sh_96 kd_7_58 fw_X7_188 rfl rfl dX7_image_10 ?_
  refine r_heap e4 ?_
  refine r_aload_n 14 rfl 0 rfl rfl dX7_image_13 ?_
  refine r_aload_n 15 rfl 0 rfl rfl dX7_image_14 ?_
  refine r_geti 18 rfl sh_96 kd_7_0 fl_X7_7 dX7_image_15 ?_
  obtain ⟨g5, e6, hf⟩ := lt_so hf
  refine r_puti 21 rfl sh_96 kd_7_59 fw_X7_191 rfl rfl dX7_image_18 ?_
  refine r_heap e6 ?_
  refine r_aload_n 22 rfl 0 rfl rfl dX7_image_21 ?_
  refine r_aload_n 23 rfl 0 rfl rfl dX7_image_22 ?_
  refine r_geti 26 rfl sh_96 kd_7_1 fl_X7_13 dX7_image_23 ?_
  obtain ⟨g7, e8, hf⟩ := lt_so hf
  refine r_puti 29 rfl sh_96 kd_7_60 fw_X7_194 rfl rfl dX7_image_26 ?_
  refine r_heap e8 ?_
  refine r_aload_n 30 rfl 0 rfl rfl dX7_image_29 ?_
  refine r_aload_n 31 rfl 0 rfl rfl dX7_image_30 ?_
  refine r_geti 34 rfl sh_96 kd_7_2 fl_X7_16 dX7_image_31 ?_
  obtain ⟨g9, e10, hf⟩ := lt_so hf
  refine r_puti 37 rfl sh_96 kd_7_61 fw_X7_197 rfl rfl dX7_image_34 ?_
  refine r_heap e10 ?_
  refine r_aload_n 38 rfl 0 rfl rfl dX7_image_37 ?_
  refine r_aload_n 39 rfl 0 rfl rfl dX7_image_38 ?_
  refine r_geti 42 rfl sh_96 kd_7_3 fl_X7_19 dX7_image_39 ?_
  obtain ⟨g11, e12, hf⟩ := lt_so hf
  refine r_puti 45 rfl sh_96 kd_7_62 fw_X7_200 rfl rfl dX7_image_42 ?_
  refine r_heap e12 ?_
  refine r_aload_n 46 rfl 0 rfl rfl dX7_image_45 ?_
  refine r_aload_n 47 rfl 0 rfl rfl dX7_image_46 ?_
  refine r_geti 50 rfl sh_96 kd_7_4 fl_X7_22 dX7_image_47 ?_
  obtain ⟨g13, e14, hf⟩ := lt_so hf
  refine r_puti 53 rfl sh_96 kd_7_63 fw_X7_203 rfl rfl dX7_image_50 ?_
  refine r_heap e14 ?_
  refine r_aload_n 54 rfl 0 rfl rfl dX7_image_53 ?_
  refine r_aload_n 55 rfl 0 rfl rfl dX7_image_54 ?_
  refine r_geti 58 rfl sh_96 kd_7_5 fl_X7_25 dX7_image_55 ?_
  obtain ⟨g15, e16, hf⟩ := lt_so hf
  refine r_puti 61 rfl sh_96 kd_7_64 fw_X7_206 rfl rfl dX7_image_58 ?_
  refine r_heap e16 ?_
  refine r_aload_n 62 rfl 0 rfl rfl dX7_image_61 ?_
  refine r_aload_n 63 rfl 0 rfl rfl dX7_image_62 ?_
  refine r_geti 66 rfl sh_96 kd_7_48 fl_X7_157 dX7_image_63 ?_
  obtain ⟨g17, e18, hf⟩ := lt_so hf
  refine r_puti 69 rfl sh_96 kd_7_65 fw_X7_209 rfl rfl dX7_image_66 ?_
  refine r_heap e18 ?_
  refine r_aload_n 70 rfl 0 rfl rfl dX7_image_69 ?_
  refine r_aload_n 71 rfl 0 rfl rfl dX7_image_70 ?_
  refine r_geti 74 rfl sh_96 kd_7_51 fl_X7_166 dX7_image_71 ?_
  obtain ⟨g19, e20, hf⟩ := lt_so hf
  refine r_puti 77 rfl sh_96 kd_7_66 fw_X7_212 rfl rfl dX7_image_74 ?_
  refine r_heap e20 ?_
  refine r_aload_n 78 rfl 0 rfl rfl dX7_image_77 ?_
  refine r_aload_n 79 rfl 0 rfl rfl dX7_image_78 ?_
  refine r_geti 82 rfl sh_96 kd_7_52 fl_X7_169 dX7_image_79 ?_
  obtain ⟨g21, e22, hf⟩ := lt_so hf
  refine r_puti 85 rfl sh_96 kd_7_67 fw_X7_215 rfl rfl dX7_image_82 ?_
  refine r_heap e22 ?_
  refine r_iconst 86 rfl ic_0 dX7_image_85 ?_
  refine r_istore_n (lv' := [(1, .int 0), (0, .ref (X.1 96))]) 87 rfl dX7_image_86 (by decide) rfl rfl ?_
  refine r_sub (lv' := [(0, .ref (X.1 96)), (1, .int 0)]) [1, 0] rfl ?_
  exact A_X7_image_L87 X _ _ FU 0 g21 hf
-- X7_undo
def f_X7_undo_L292 : Nat → Int32 → HP → Option (Int32 × HP)
  | 0, _, _ => none
  | n + 1, x1, h => if (8 : Int32) ≤ x1 then (some ((h.1 96 0), h)) else (gd (inb x1 8) (gd (inb x1 8) (lt (si h 125 (Int32.toNatClampNeg x1) (h.1 138 (Int32.toNatClampNeg x1))) fun g30 => gd (inb x1 8) (gd (inb x1 8) (lt (si g30 126 (Int32.toNatClampNeg x1) (g30.1 139 (Int32.toNatClampNeg x1))) fun g34 => lt (x1 + 1 : Int32) fun v36 => f_X7_undo_L292 n v36 g34)))))
set_option maxHeartbeats 4000000 in
set_option maxRecDepth 100000 in
theorem A_X7_undo_L292 (X : XE) (r : Int32) (h' : HP) : ∀ (n : Nat) (x1 : Int32) (h : HP), f_X7_undo_L292 n x1 h = some (r, h') → Run mX7_undo 1 X 292 [(0, .ref (X.1 96)), (1, .int x1)] [] h (some (.int r)) h' := by
  intro n
  induction n with
  | zero => intro x1 h hf; cases hf
  | succ n ih =>
    intro x1 h hf
    rw [f_X7_undo_L292] at hf
    refine r_iload_n 293 rfl 1 rfl rfl dX7_undo_292 ?_
    refine r_bipush 295 rfl bp_8 dX7_undo_293 ?_
    rcases if_so hf with ⟨c27, hf⟩ | ⟨c27, hf⟩
    · refine r_icmp_ge_t 328 dX7_undo_295 (by decide) c27 ?_
      refine r_aload_n 329 rfl 0 rfl rfl dX7_undo_328 ?_
      refine r_geti 332 rfl sh_96 kd_7_0 fl_X7_7 dX7_undo_329 ?_
      obtain ⟨rfl, rfl⟩ := so2 hf
      exact r_iret rfl rfl dX7_undo_332
    · refine r_icmp_ge_f 298 rfl 328 dX7_undo_295 (by decide) c27 ?_
      refine r_aload_n 299 rfl 0 rfl rfl dX7_undo_298 ?_
      refine r_getr (q := 125) 302 rfl (lq_7_55) sh_96 kd_7_55 fl_X7_178 dX7_undo_299 ?_
      refine r_iload_n 303 rfl 1 rfl rfl dX7_undo_302 ?_
      refine r_aload_n 304 rfl 0 rfl rfl dX7_undo_303 ?_
      refine r_getr (q := 138) 307 rfl (lq_7_79) sh_96 kd_7_79 fl_X7_251 dX7_undo_304 ?_
      refine r_iload_n 308 rfl 1 rfl rfl dX7_undo_307 ?_
      obtain ⟨b28, hf⟩ := gd_so hf
      refine r_iald 309 rfl sh_138 (inb_vp b28) dX7_undo_308 ?_
      obtain ⟨b29, hf⟩ := gd_so hf
      obtain ⟨g30, e31, hf⟩ := lt_so hf
      refine r_iast 310 rfl sh_125 (inb_vp b29) dX7_undo_309 ?_
      refine r_heap e31 ?_
      refine r_aload_n 311 rfl 0 rfl rfl dX7_undo_310 ?_
      refine r_getr (q := 126) 314 rfl (lq_7_56) sh_96 kd_7_56 fl_X7_181 dX7_undo_311 ?_
      refine r_iload_n 315 rfl 1 rfl rfl dX7_undo_314 ?_
      refine r_aload_n 316 rfl 0 rfl rfl dX7_undo_315 ?_
      refine r_getr (q := 139) 319 rfl (lq_7_80) sh_96 kd_7_80 fl_X7_254 dX7_undo_316 ?_
      refine r_iload_n 320 rfl 1 rfl rfl dX7_undo_319 ?_
      obtain ⟨b32, hf⟩ := gd_so hf
      refine r_iald 321 rfl sh_139 (inb_vp b32) dX7_undo_320 ?_
      obtain ⟨b33, hf⟩ := gd_so hf
      obtain ⟨g34, e35, hf⟩ := lt_so hf
      refine r_iast 322 rfl sh_126 (inb_vp b33) dX7_undo_321 ?_
      refine r_heap e35 ?_
      obtain ⟨v36, e37, hf⟩ := lt_so hf
      refine r_iinc (lv' := [(1, .int v36), (0, .ref (X.1 96))]) 325 rfl 1 dX7_undo_322 rfl (by rw [e37, ic_1]) (by decide) rfl ?_
      refine r_goto 292 dX7_undo_325 (by decide) ?_
      refine r_sub (lv' := [(0, .ref (X.1 96)), (1, .int v36)]) [1, 0] rfl ?_
      exact ih v36 g34 hf
def f_X7_undo_L254 : Nat → Int32 → HP → Option (Int32 × HP)
  | 0, _, _ => none
  | n + 1, x1, h => if (10 : Int32) ≤ x1 then (f_X7_undo_L292 FU 0 h) else (gd (inb x1 10) (gd (inb x1 10) (lt (si h 123 (Int32.toNatClampNeg x1) (h.1 136 (Int32.toNatClampNeg x1))) fun g40 => gd (inb x1 10) (gd (inb x1 10) (lt (si g40 124 (Int32.toNatClampNeg x1) (g40.1 137 (Int32.toNatClampNeg x1))) fun g44 => lt (x1 + 1 : Int32) fun v46 => f_X7_undo_L254 n v46 g44)))))
set_option maxHeartbeats 4000000 in
set_option maxRecDepth 100000 in
theorem A_X7_undo_L254 (X : XE) (r : Int32) (h' : HP) : ∀ (n : Nat) (x1 : Int32) (h : HP), f_X7_undo_L254 n x1 h = some (r, h') → Run mX7_undo 1 X 254 [(0, .ref (X.1 96)), (1, .int x1)] [] h (some (.int r)) h' := by
  intro n
  induction n with
  | zero => intro x1 h hf; cases hf
  | succ n ih =>
    intro x1 h hf
    rw [f_X7_undo_L254] at hf
    refine r_iload_n 255 rfl 1 rfl rfl dX7_undo_254 ?_
    refine r_bipush 257 rfl bp_10 dX7_undo_255 ?_
    rcases if_so hf with ⟨c26, hf⟩ | ⟨c26, hf⟩
    · refine r_icmp_ge_t 290 dX7_undo_257 (by decide) c26 ?_
      refine r_iconst 291 rfl ic_0 dX7_undo_290 ?_
      refine r_istore_n (lv' := [(1, .int 0), (0, .ref (X.1 96))]) 292 rfl dX7_undo_291 (by decide) rfl rfl ?_
      refine r_sub (lv' := [(0, .ref (X.1 96)), (1, .int 0)]) [1, 0] rfl ?_
      exact A_X7_undo_L292 X _ _ FU 0 h hf
    · refine r_icmp_ge_f 260 rfl 290 dX7_undo_257 (by decide) c26 ?_
      refine r_aload_n 261 rfl 0 rfl rfl dX7_undo_260 ?_
      refine r_getr (q := 123) 264 rfl (lq_7_53) sh_96 kd_7_53 fl_X7_172 dX7_undo_261 ?_
      refine r_iload_n 265 rfl 1 rfl rfl dX7_undo_264 ?_
      refine r_aload_n 266 rfl 0 rfl rfl dX7_undo_265 ?_
      refine r_getr (q := 136) 269 rfl (lq_7_77) sh_96 kd_7_77 fl_X7_245 dX7_undo_266 ?_
      refine r_iload_n 270 rfl 1 rfl rfl dX7_undo_269 ?_
      obtain ⟨b38, hf⟩ := gd_so hf
      refine r_iald 271 rfl sh_136 (inb_vp b38) dX7_undo_270 ?_
      obtain ⟨b39, hf⟩ := gd_so hf
      obtain ⟨g40, e41, hf⟩ := lt_so hf
      refine r_iast 272 rfl sh_123 (inb_vp b39) dX7_undo_271 ?_
      refine r_heap e41 ?_
      refine r_aload_n 273 rfl 0 rfl rfl dX7_undo_272 ?_
      refine r_getr (q := 124) 276 rfl (lq_7_54) sh_96 kd_7_54 fl_X7_175 dX7_undo_273 ?_
      refine r_iload_n 277 rfl 1 rfl rfl dX7_undo_276 ?_
      refine r_aload_n 278 rfl 0 rfl rfl dX7_undo_277 ?_
      refine r_getr (q := 137) 281 rfl (lq_7_78) sh_96 kd_7_78 fl_X7_248 dX7_undo_278 ?_
      refine r_iload_n 282 rfl 1 rfl rfl dX7_undo_281 ?_
      obtain ⟨b42, hf⟩ := gd_so hf
      refine r_iald 283 rfl sh_137 (inb_vp b42) dX7_undo_282 ?_
      obtain ⟨b43, hf⟩ := gd_so hf
      obtain ⟨g44, e45, hf⟩ := lt_so hf
      refine r_iast 284 rfl sh_124 (inb_vp b43) dX7_undo_283 ?_
      refine r_heap e45 ?_
      obtain ⟨v46, e47, hf⟩ := lt_so hf
      refine r_iinc (lv' := [(1, .int v46), (0, .ref (X.1 96))]) 287 rfl 1 dX7_undo_284 rfl (by rw [e47, ic_1]) (by decide) rfl ?_
      refine r_goto 254 dX7_undo_287 (by decide) ?_
      refine r_sub (lv' := [(0, .ref (X.1 96)), (1, .int v46)]) [1, 0] rfl ?_
      exact ih v46 g44 hf
def f_X7_undo_L217 : Nat → Int32 → HP → Option (Int32 × HP)
  | 0, _, _ => none
  | n + 1, x1, h => if (5 : Int32) ≤ x1 then (f_X7_undo_L254 FU 0 h) else (gd (inb x1 5) (gd (inb x1 5) (lt (si h 121 (Int32.toNatClampNeg x1) (h.1 134 (Int32.toNatClampNeg x1))) fun g50 => gd (inb x1 5) (gd (inb x1 5) (lt (si g50 122 (Int32.toNatClampNeg x1) (g50.1 135 (Int32.toNatClampNeg x1))) fun g54 => lt (x1 + 1 : Int32) fun v56 => f_X7_undo_L217 n v56 g54)))))
set_option maxHeartbeats 4000000 in
set_option maxRecDepth 100000 in
theorem A_X7_undo_L217 (X : XE) (r : Int32) (h' : HP) : ∀ (n : Nat) (x1 : Int32) (h : HP), f_X7_undo_L217 n x1 h = some (r, h') → Run mX7_undo 1 X 217 [(0, .ref (X.1 96)), (1, .int x1)] [] h (some (.int r)) h' := by
  intro n
  induction n with
  | zero => intro x1 h hf; cases hf
  | succ n ih =>
    intro x1 h hf
    rw [f_X7_undo_L217] at hf
    refine r_iload_n 218 rfl 1 rfl rfl dX7_undo_217 ?_
    refine r_iconst 219 rfl ic_5 dX7_undo_218 ?_
    rcases if_so hf with ⟨c25, hf⟩ | ⟨c25, hf⟩
    · refine r_icmp_ge_t 252 dX7_undo_219 (by decide) c25 ?_
      refine r_iconst 253 rfl ic_0 dX7_undo_252 ?_
      refine r_istore_n (lv' := [(1, .int 0), (0, .ref (X.1 96))]) 254 rfl dX7_undo_253 (by decide) rfl rfl ?_
      refine r_sub (lv' := [(0, .ref (X.1 96)), (1, .int 0)]) [1, 0] rfl ?_
      exact A_X7_undo_L254 X _ _ FU 0 h hf
    · refine r_icmp_ge_f 222 rfl 252 dX7_undo_219 (by decide) c25 ?_
      refine r_aload_n 223 rfl 0 rfl rfl dX7_undo_222 ?_
      refine r_getr (q := 121) 226 rfl (lq_7_49) sh_96 kd_7_49 fl_X7_160 dX7_undo_223 ?_
      refine r_iload_n 227 rfl 1 rfl rfl dX7_undo_226 ?_
      refine r_aload_n 228 rfl 0 rfl rfl dX7_undo_227 ?_
      refine r_getr (q := 134) 231 rfl (lq_7_75) sh_96 kd_7_75 fl_X7_239 dX7_undo_228 ?_
      refine r_iload_n 232 rfl 1 rfl rfl dX7_undo_231 ?_
      obtain ⟨b48, hf⟩ := gd_so hf
      refine r_iald 233 rfl sh_134 (inb_vp b48) dX7_undo_232 ?_
      obtain ⟨b49, hf⟩ := gd_so hf
      obtain ⟨g50, e51, hf⟩ := lt_so hf
      refine r_iast 234 rfl sh_121 (inb_vp b49) dX7_undo_233 ?_
      refine r_heap e51 ?_
      refine r_aload_n 235 rfl 0 rfl rfl dX7_undo_234 ?_
      refine r_getr (q := 122) 238 rfl (lq_7_50) sh_96 kd_7_50 fl_X7_163 dX7_undo_235 ?_
      refine r_iload_n 239 rfl 1 rfl rfl dX7_undo_238 ?_
      refine r_aload_n 240 rfl 0 rfl rfl dX7_undo_239 ?_
      refine r_getr (q := 135) 243 rfl (lq_7_76) sh_96 kd_7_76 fl_X7_242 dX7_undo_240 ?_
      refine r_iload_n 244 rfl 1 rfl rfl dX7_undo_243 ?_
      obtain ⟨b52, hf⟩ := gd_so hf
      refine r_iald 245 rfl sh_135 (inb_vp b52) dX7_undo_244 ?_
      obtain ⟨b53, hf⟩ := gd_so hf
      obtain ⟨g54, e55, hf⟩ := lt_so hf
      refine r_iast 246 rfl sh_122 (inb_vp b53) dX7_undo_245 ?_
      refine r_heap e55 ?_
      obtain ⟨v56, e57, hf⟩ := lt_so hf
      refine r_iinc (lv' := [(1, .int v56), (0, .ref (X.1 96))]) 249 rfl 1 dX7_undo_246 rfl (by rw [e57, ic_1]) (by decide) rfl ?_
      refine r_goto 217 dX7_undo_249 (by decide) ?_
      refine r_sub (lv' := [(0, .ref (X.1 96)), (1, .int v56)]) [1, 0] rfl ?_
      exact ih v56 g54 hf
def f_X7_undo_L192 : Nat → Int32 → HP → Option (Int32 × HP)
  | 0, _, _ => none
  | n + 1, x1, h => if (3 : Int32) ≤ x1 then (f_X7_undo_L217 FU 0 h) else (gd (inb x1 3) (gd (inb x1 3) (lt (si h 103 (Int32.toNatClampNeg x1) (h.1 133 (Int32.toNatClampNeg x1))) fun g60 => lt (x1 + 1 : Int32) fun v62 => f_X7_undo_L192 n v62 g60)))
set_option maxHeartbeats 4000000 in
set_option maxRecDepth 100000 in
theorem A_X7_undo_L192 (X : XE) (r : Int32) (h' : HP) : ∀ (n : Nat) (x1 : Int32) (h : HP), f_X7_undo_L192 n x1 h = some (r, h') → Run mX7_undo 1 X 192 [(0, .ref (X.1 96)), (1, .int x1)] [] h (some (.int r)) h' := by
  intro n
  induction n with
  | zero => intro x1 h hf; cases hf
  | succ n ih =>
    intro x1 h hf
    rw [f_X7_undo_L192] at hf
    refine r_iload_n 193 rfl 1 rfl rfl dX7_undo_192 ?_
    refine r_iconst 194 rfl ic_3 dX7_undo_193 ?_
    rcases if_so hf with ⟨c24, hf⟩ | ⟨c24, hf⟩
    · refine r_icmp_ge_t 215 dX7_undo_194 (by decide) c24 ?_
      refine r_iconst 216 rfl ic_0 dX7_undo_215 ?_
      refine r_istore_n (lv' := [(1, .int 0), (0, .ref (X.1 96))]) 217 rfl dX7_undo_216 (by decide) rfl rfl ?_
      refine r_sub (lv' := [(0, .ref (X.1 96)), (1, .int 0)]) [1, 0] rfl ?_
      exact A_X7_undo_L217 X _ _ FU 0 h hf
    · refine r_icmp_ge_f 197 rfl 215 dX7_undo_194 (by decide) c24 ?_
      refine r_aload_n 198 rfl 0 rfl rfl dX7_undo_197 ?_
      refine r_getr (q := 103) 201 rfl (lq_7_12) sh_96 kd_7_12 fl_X7_47 dX7_undo_198 ?_
      refine r_iload_n 202 rfl 1 rfl rfl dX7_undo_201 ?_
      refine r_aload_n 203 rfl 0 rfl rfl dX7_undo_202 ?_
      refine r_getr (q := 133) 206 rfl (lq_7_74) sh_96 kd_7_74 fl_X7_236 dX7_undo_203 ?_
      refine r_iload_n 207 rfl 1 rfl rfl dX7_undo_206 ?_
      obtain ⟨b58, hf⟩ := gd_so hf
      refine r_iald 208 rfl sh_133 (inb_vp b58) dX7_undo_207 ?_
      obtain ⟨b59, hf⟩ := gd_so hf
      obtain ⟨g60, e61, hf⟩ := lt_so hf
      refine r_iast 209 rfl sh_103 (inb_vp b59) dX7_undo_208 ?_
      refine r_heap e61 ?_
      obtain ⟨v62, e63, hf⟩ := lt_so hf
      refine r_iinc (lv' := [(1, .int v62), (0, .ref (X.1 96))]) 212 rfl 1 dX7_undo_209 rfl (by rw [e63, ic_1]) (by decide) rfl ?_
      refine r_goto 192 dX7_undo_212 (by decide) ?_
      refine r_sub (lv' := [(0, .ref (X.1 96)), (1, .int v62)]) [1, 0] rfl ?_
      exact ih v62 g60 hf
def f_X7_undo_L166 : Nat → Int32 → HP → Option (Int32 × HP)
  | 0, _, _ => none
  | n + 1, x1, h => if (24 : Int32) ≤ x1 then (f_X7_undo_L192 FU 0 h) else (gd (inb x1 24) (gd (inb x1 24) (lt (si h 102 (Int32.toNatClampNeg x1) (h.1 132 (Int32.toNatClampNeg x1))) fun g66 => lt (x1 + 1 : Int32) fun v68 => f_X7_undo_L166 n v68 g66)))
set_option maxHeartbeats 4000000 in
set_option maxRecDepth 100000 in
theorem A_X7_undo_L166 (X : XE) (r : Int32) (h' : HP) : ∀ (n : Nat) (x1 : Int32) (h : HP), f_X7_undo_L166 n x1 h = some (r, h') → Run mX7_undo 1 X 166 [(0, .ref (X.1 96)), (1, .int x1)] [] h (some (.int r)) h' := by
  intro n
  induction n with
  | zero => intro x1 h hf; cases hf
  | succ n ih =>
    intro x1 h hf
    rw [f_X7_undo_L166] at hf
    refine r_iload_n 167 rfl 1 rfl rfl dX7_undo_166 ?_
    refine r_bipush 169 rfl bp_24 dX7_undo_167 ?_
    rcases if_so hf with ⟨c23, hf⟩ | ⟨c23, hf⟩
    · refine r_icmp_ge_t 190 dX7_undo_169 (by decide) c23 ?_
      refine r_iconst 191 rfl ic_0 dX7_undo_190 ?_
      refine r_istore_n (lv' := [(1, .int 0), (0, .ref (X.1 96))]) 192 rfl dX7_undo_191 (by decide) rfl rfl ?_
      refine r_sub (lv' := [(0, .ref (X.1 96)), (1, .int 0)]) [1, 0] rfl ?_
      exact A_X7_undo_L192 X _ _ FU 0 h hf
    · refine r_icmp_ge_f 172 rfl 190 dX7_undo_169 (by decide) c23 ?_
      refine r_aload_n 173 rfl 0 rfl rfl dX7_undo_172 ?_
      refine r_getr (q := 102) 176 rfl (lq_7_11) sh_96 kd_7_11 fl_X7_44 dX7_undo_173 ?_
      refine r_iload_n 177 rfl 1 rfl rfl dX7_undo_176 ?_
      refine r_aload_n 178 rfl 0 rfl rfl dX7_undo_177 ?_
      refine r_getr (q := 132) 181 rfl (lq_7_73) sh_96 kd_7_73 fl_X7_233 dX7_undo_178 ?_
      refine r_iload_n 182 rfl 1 rfl rfl dX7_undo_181 ?_
      obtain ⟨b64, hf⟩ := gd_so hf
      refine r_iald 183 rfl sh_132 (inb_vp b64) dX7_undo_182 ?_
      obtain ⟨b65, hf⟩ := gd_so hf
      obtain ⟨g66, e67, hf⟩ := lt_so hf
      refine r_iast 184 rfl sh_102 (inb_vp b65) dX7_undo_183 ?_
      refine r_heap e67 ?_
      obtain ⟨v68, e69, hf⟩ := lt_so hf
      refine r_iinc (lv' := [(1, .int v68), (0, .ref (X.1 96))]) 187 rfl 1 dX7_undo_184 rfl (by rw [e69, ic_1]) (by decide) rfl ?_
      refine r_goto 166 dX7_undo_187 (by decide) ?_
      refine r_sub (lv' := [(0, .ref (X.1 96)), (1, .int v68)]) [1, 0] rfl ?_
      exact ih v68 g66 hf
def f_X7_undo_L92 : Nat → Int32 → HP → Option (Int32 × HP)
  | 0, _, _ => none
  | n + 1, x1, h => if (6 : Int32) ≤ x1 then (f_X7_undo_L166 FU 0 h) else (gd (inb x1 6) (gd (inb x1 6) (lt (si h 97 (Int32.toNatClampNeg x1) (h.1 127 (Int32.toNatClampNeg x1))) fun g72 => gd (inb x1 6) (gd (inb x1 6) (lt (si g72 98 (Int32.toNatClampNeg x1) (g72.1 128 (Int32.toNatClampNeg x1))) fun g76 => gd (inb x1 6) (gd (inb x1 6) (lt (si g76 99 (Int32.toNatClampNeg x1) (g76.1 129 (Int32.toNatClampNeg x1))) fun g80 => gd (inb x1 6) (gd (inb x1 6) (lt (si g80 100 (Int32.toNatClampNeg x1) (g80.1 130 (Int32.toNatClampNeg x1))) fun g84 => gd (inb x1 6) (gd (inb x1 6) (lt (si g84 101 (Int32.toNatClampNeg x1) (g84.1 131 (Int32.toNatClampNeg x1))) fun g88 => lt (x1 + 1 : Int32) fun v90 => f_X7_undo_L92 n v90 g88)))))))))))
set_option maxHeartbeats 4000000 in
set_option maxRecDepth 100000 in
theorem A_X7_undo_L92 (X : XE) (r : Int32) (h' : HP) : ∀ (n : Nat) (x1 : Int32) (h : HP), f_X7_undo_L92 n x1 h = some (r, h') → Run mX7_undo 1 X 92 [(0, .ref (X.1 96)), (1, .int x1)] [] h (some (.int r)) h' := by
  intro n
  induction n with
  | zero => intro x1 h hf; cases hf
  | succ n ih =>
    intro x1 h hf
    rw [f_X7_undo_L92] at hf
    refine r_iload_n 93 rfl 1 rfl rfl dX7_undo_92 ?_
    refine r_bipush 95 rfl bp_6 dX7_undo_93 ?_
    rcases if_so hf with ⟨c22, hf⟩ | ⟨c22, hf⟩
    · refine r_icmp_ge_t 164 dX7_undo_95 (by decide) c22 ?_
      refine r_iconst 165 rfl ic_0 dX7_undo_164 ?_
      refine r_istore_n (lv' := [(1, .int 0), (0, .ref (X.1 96))]) 166 rfl dX7_undo_165 (by decide) rfl rfl ?_
      refine r_sub (lv' := [(0, .ref (X.1 96)), (1, .int 0)]) [1, 0] rfl ?_
      exact A_X7_undo_L166 X _ _ FU 0 h hf
    · refine r_icmp_ge_f 98 rfl 164 dX7_undo_95 (by decide) c22 ?_
      refine r_aload_n 99 rfl 0 rfl rfl dX7_undo_98 ?_
      refine r_getr (q := 97) 102 rfl (lq_7_6) sh_96 kd_7_6 fl_X7_28 dX7_undo_99 ?_
      refine r_iload_n 103 rfl 1 rfl rfl dX7_undo_102 ?_
      refine r_aload_n 104 rfl 0 rfl rfl dX7_undo_103 ?_
      refine r_getr (q := 127) 107 rfl (lq_7_68) sh_96 kd_7_68 fl_X7_218 dX7_undo_104 ?_
      refine r_iload_n 108 rfl 1 rfl rfl dX7_undo_107 ?_
      obtain ⟨b70, hf⟩ := gd_so hf
      refine r_iald 109 rfl sh_127 (inb_vp b70) dX7_undo_108 ?_
      obtain ⟨b71, hf⟩ := gd_so hf
      obtain ⟨g72, e73, hf⟩ := lt_so hf
      refine r_iast 110 rfl sh_97 (inb_vp b71) dX7_undo_109 ?_
      refine r_heap e73 ?_
      refine r_aload_n 111 rfl 0 rfl rfl dX7_undo_110 ?_
      refine r_getr (q := 98) 114 rfl (lq_7_7) sh_96 kd_7_7 fl_X7_32 dX7_undo_111 ?_
      refine r_iload_n 115 rfl 1 rfl rfl dX7_undo_114 ?_
      refine r_aload_n 116 rfl 0 rfl rfl dX7_undo_115 ?_
      refine r_getr (q := 128) 119 rfl (lq_7_69) sh_96 kd_7_69 fl_X7_221 dX7_undo_116 ?_
      refine r_iload_n 120 rfl 1 rfl rfl dX7_undo_119 ?_
      obtain ⟨b74, hf⟩ := gd_so hf
      refine r_iald 121 rfl sh_128 (inb_vp b74) dX7_undo_120 ?_
      obtain ⟨b75, hf⟩ := gd_so hf
      obtain ⟨g76, e77, hf⟩ := lt_so hf
      refine r_iast 122 rfl sh_98 (inb_vp b75) dX7_undo_121 ?_
      refine r_heap e77 ?_
      refine r_aload_n 123 rfl 0 rfl rfl dX7_undo_122 ?_
      refine r_getr (q := 99) 126 rfl (lq_7_8) sh_96 kd_7_8 fl_X7_35 dX7_undo_123 ?_
      refine r_iload_n 127 rfl 1 rfl rfl dX7_undo_126 ?_
      refine r_aload_n 128 rfl 0 rfl rfl dX7_undo_127 ?_
      refine r_getr (q := 129) 131 rfl (lq_7_70) sh_96 kd_7_70 fl_X7_224 dX7_undo_128 ?_
      refine r_iload_n 132 rfl 1 rfl rfl dX7_undo_131 ?_
      obtain ⟨b78, hf⟩ := gd_so hf
      refine r_iald 133 rfl sh_129 (inb_vp b78) dX7_undo_132 ?_
      obtain ⟨b79, hf⟩ := gd_so hf
      obtain ⟨g80, e81, hf⟩ := lt_so hf
      refine r_iast 134 rfl sh_99 (inb_vp b79) dX7_undo_133 ?_
      refine r_heap e81 ?_
      refine r_aload_n 135 rfl 0 rfl rfl dX7_undo_134 ?_
      refine r_getr (q := 100) 138 rfl (lq_7_9) sh_96 kd_7_9 fl_X7_38 dX7_undo_135 ?_
      refine r_iload_n 139 rfl 1 rfl rfl dX7_undo_138 ?_
      refine r_aload_n 140 rfl 0 rfl rfl dX7_undo_139 ?_
      refine r_getr (q := 130) 143 rfl (lq_7_71) sh_96 kd_7_71 fl_X7_227 dX7_undo_140 ?_
      refine r_iload_n 144 rfl 1 rfl rfl dX7_undo_143 ?_
      obtain ⟨b82, hf⟩ := gd_so hf
      refine r_iald 145 rfl sh_130 (inb_vp b82) dX7_undo_144 ?_
      obtain ⟨b83, hf⟩ := gd_so hf
      obtain ⟨g84, e85, hf⟩ := lt_so hf
      refine r_iast 146 rfl sh_100 (inb_vp b83) dX7_undo_145 ?_
      refine r_heap e85 ?_
      refine r_aload_n 147 rfl 0 rfl rfl dX7_undo_146 ?_
      refine r_getr (q := 101) 150 rfl (lq_7_10) sh_96 kd_7_10 fl_X7_41 dX7_undo_147 ?_
      refine r_iload_n 151 rfl 1 rfl rfl dX7_undo_150 ?_
      refine r_aload_n 152 rfl 0 rfl rfl dX7_undo_151 ?_
      refine r_getr (q := 131) 155 rfl (lq_7_72) sh_96 kd_7_72 fl_X7_230 dX7_undo_152 ?_
      refine r_iload_n 156 rfl 1 rfl rfl dX7_undo_155 ?_
      obtain ⟨b86, hf⟩ := gd_so hf
      refine r_iald 157 rfl sh_131 (inb_vp b86) dX7_undo_156 ?_
      obtain ⟨b87, hf⟩ := gd_so hf
      obtain ⟨g88, e89, hf⟩ := lt_so hf
      refine r_iast 158 rfl sh_101 (inb_vp b87) dX7_undo_157 ?_
      refine r_heap e89 ?_
      obtain ⟨v90, e91, hf⟩ := lt_so hf
      refine r_iinc (lv' := [(1, .int v90), (0, .ref (X.1 96))]) 161 rfl 1 dX7_undo_158 rfl (by rw [e91, ic_1]) (by decide) rfl ?_
      refine r_goto 92 dX7_undo_161 (by decide) ?_
      refine r_sub (lv' := [(0, .ref (X.1 96)), (1, .int v90)]) [1, 0] rfl ?_
      exact ih v90 g88 hf
def f_X7_undo (h : HP) : Option (Int32 × HP) := if (h.1 96 57) = 0 then (some ((-3), h)) else (lt (si h 96 14 (h.1 96 58)) fun g2 => lt (si g2 96 0 (g2.1 96 59)) fun g4 => lt (si g4 96 1 (g4.1 96 60)) fun g6 => lt (si g6 96 2 (g6.1 96 61)) fun g8 => lt (si g8 96 3 (g8.1 96 62)) fun g10 => lt (si g10 96 4 (g10.1 96 63)) fun g12 => lt (si g12 96 5 (g12.1 96 64)) fun g14 => lt (si g14 96 48 (g14.1 96 65)) fun g16 => lt (si g16 96 51 (g16.1 96 66)) fun g18 => lt (si g18 96 52 (g18.1 96 67)) fun g20 => f_X7_undo_L92 FU 0 g20)
set_option maxHeartbeats 4000000 in
set_option maxRecDepth 100000 in
theorem A_X7_undo (X : XE) (h : HP) (r : Int32) (h' : HP) (hf : f_X7_undo h = some (r, h')) : CC mX7_undo 1 X [.ref (X.1 96)] h (some (.int r)) h' := by
  refine CC_of rfl (Nat.le_of_ble_eq_true rfl) ?_
  show Run mX7_undo 1 X 0 [(0, .ref (X.1 96))] [] h (some (.int r)) h'
  unfold f_X7_undo at hf
  refine r_aload_n 1 rfl 0 rfl rfl dX7_undo_0 ?_
  refine r_geti 4 rfl sh_96 kd_7_57 fl_X7_184 dX7_undo_1 ?_
  rcases if_so hf with ⟨c1, hf⟩ | ⟨c1, hf⟩
  · refine r_if_ne_t 7 rfl 10 dX7_undo_4 (by decide) c1 ?_
    refine r_bipush 9 rfl bp_m3 dX7_undo_7 ?_
    obtain ⟨rfl, rfl⟩ := so2 hf
    exact r_iret rfl rfl dX7_undo_9
  · refine r_if_ne_f 10 dX7_undo_4 (by decide) c1 ?_
    refine r_aload_n 11 rfl 0 rfl rfl dX7_undo_10 ?_
    refine r_aload_n 12 rfl 0 rfl rfl dX7_undo_11 ?_
    refine r_geti 15 rfl sh_96 kd_7_58 fl_X7_188 dX7_undo_12 ?_
    obtain ⟨g2, e3, hf⟩ := lt_so hf
    refine r_puti 18 rfl sh_96 kd_7_14 fw_X7_53 rfl rfl dX7_undo_15 ?_
    refine r_heap e3 ?_
    refine r_aload_n 19 rfl 0 rfl rfl dX7_undo_18 ?_
    refine r_aload_n 20 rfl 0 rfl rfl dX7_undo_19 ?_
    refine r_geti 23 rfl sh_96 kd_7_59 fl_X7_191 dX7_undo_20 ?_
    obtain ⟨g4, e5, hf⟩ := lt_so hf
    refine r_puti 26 rfl sh_96 kd_7_0 fw_X7_7 rfl rfl dX7_undo_23 ?_
    refine r_heap e5 ?_
    refine r_aload_n 27 rfl 0 rfl rfl dX7_undo_26 ?_
    refine r_aload_n 28 rfl 0 rfl rfl dX7_undo_27 ?_
    refine r_geti 31 rfl sh_96 kd_7_60 fl_X7_194 dX7_undo_28 ?_
    obtain ⟨g6, e7, hf⟩ := lt_so hf
    refine r_puti 34 rfl sh_96 kd_7_1 fw_X7_13 rfl rfl dX7_undo_31 ?_
    refine r_heap e7 ?_
    refine r_aload_n 35 rfl 0 rfl rfl dX7_undo_34 ?_
    refine r_aload_n 36 rfl 0 rfl rfl dX7_undo_35 ?_
    refine r_geti 39 rfl sh_96 kd_7_61 fl_X7_197 dX7_undo_36 ?_
    obtain ⟨g8, e9, hf⟩ := lt_so hf
    refine r_puti 42 rfl sh_96 kd_7_2 fw_X7_16 rfl rfl dX7_undo_39 ?_
    refine r_heap e9 ?_
    refine r_aload_n 43 rfl 0 rfl rfl dX7_undo_42 ?_
    refine r_aload_n 44 rfl 0 rfl rfl dX7_undo_43 ?_
    refine r_geti 47 rfl sh_96 kd_7_62 fl_X7_200 dX7_undo_44 ?_
    obtain ⟨g10, e11, hf⟩ := lt_so hf
    refine r_puti 50 rfl sh_96 kd_7_3 fw_X7_19 rfl rfl dX7_undo_47 ?_
    refine r_heap e11 ?_
    refine r_aload_n 51 rfl 0 rfl rfl dX7_undo_50 ?_
    refine r_aload_n 52 rfl 0 rfl rfl dX7_undo_51 ?_
    refine r_geti 55 rfl sh_96 kd_7_63 fl_X7_203 dX7_undo_52 ?_
    obtain ⟨g12, e13, hf⟩ := lt_so hf
    refine r_puti 58 rfl sh_96 kd_7_4 fw_X7_22 rfl rfl dX7_undo_55 ?_
    refine r_heap e13 ?_
    refine r_aload_n 59 rfl 0 rfl rfl dX7_undo_58 ?_
    refine r_aload_n 60 rfl 0 rfl rfl dX7_undo_59 ?_
    refine r_geti 63 rfl sh_96 kd_7_64 fl_X7_206 dX7_undo_60 ?_
    obtain ⟨g14, e15, hf⟩ := lt_so hf
    refine r_puti 66 rfl sh_96 kd_7_5 fw_X7_25 rfl rfl dX7_undo_63 ?_
    refine r_heap e15 ?_
    refine r_aload_n 67 rfl 0 rfl rfl dX7_undo_66 ?_
    refine r_aload_n 68 rfl 0 rfl rfl dX7_undo_67 ?_
    refine r_geti 71 rfl sh_96 kd_7_65 fl_X7_209 dX7_undo_68 ?_
    obtain ⟨g16, e17, hf⟩ := lt_so hf
    refine r_puti 74 rfl sh_96 kd_7_48 fw_X7_157 rfl rfl dX7_undo_71 ?_
    refine r_heap e17 ?_
    refine r_aload_n 75 rfl 0 rfl rfl dX7_undo_74 ?_
    refine r_aload_n 76 rfl 0 rfl rfl dX7_undo_75 ?_
    refine r_geti 79 rfl sh_96 kd_7_66 fl_X7_212 dX7_undo_76 ?_
    obtain ⟨g18, e19, hf⟩ := lt_so hf
    refine r_puti 82 rfl sh_96 kd_7_51 fw_X7_166 rfl rfl dX7_undo_79 ?_
    refine r_heap e19 ?_
    refine r_aload_n 83 rfl 0 rfl rfl dX7_undo_82 ?_
    refine r_aload_n 84 rfl 0 rfl rfl dX7_undo_83 ?_
    refine r_geti 87 rfl sh_96 kd_7_67 fl_X7_215 dX7_undo_84 ?_
    obtain ⟨g20, e21, hf⟩ := lt_so hf
    refine r_puti 90 rfl sh_96 kd_7_52 fw_X7_169 rfl rfl dX7_undo_87 ?_
    refine r_heap e21 ?_
    refine r_iconst 91 rfl ic_0 dX7_undo_90 ?_
    refine r_istore_n (lv' := [(1, .int 0), (0, .ref (X.1 96))]) 92 rfl dX7_undo_91 (by decide) rfl rfl ?_
    refine r_sub (lv' := [(0, .ref (X.1 96)), (1, .int 0)]) [1, 0] rfl ?_
    exact A_X7_undo_L92 X _ _ FU 0 g20 hf
-- X7_body
def f_X7_body (x1 : Int32) (h : HP) : Option HP := if (20 : Int32) ≤ (h.1 96 81) then (lt (si h 96 81 ((h.1 96 81) + 1)) fun g2 => some g2) else (gd (inb (h.1 96 81) 20) (lt (si h 140 (Int32.toNatClampNeg (h.1 96 81)) x1) fun g5 => lt (si g5 96 81 ((g5.1 96 81) + 1)) fun g7 => some g7))
set_option maxHeartbeats 4000000 in
set_option maxRecDepth 100000 in
theorem A_X7_body (X : XE) (x1 : Int32) (h : HP) (h' : HP) (hf : f_X7_body x1 h = some h') : CC mX7_body 1 X [.ref (X.1 96), .int x1] h none h' := by
  refine CC_of rfl (Nat.le_of_ble_eq_true rfl) ?_
  show Run mX7_body 1 X 0 [(0, .ref (X.1 96)), (1, .int x1)] [] h none h'
  unfold f_X7_body at hf
  refine r_aload_n 1 rfl 0 rfl rfl dX7_body_0 ?_
  refine r_geti 4 rfl sh_96 kd_7_81 fl_X7_257 dX7_body_1 ?_
  refine r_bipush 6 rfl bp_20 dX7_body_4 ?_
  rcases if_so hf with ⟨c1, hf⟩ | ⟨c1, hf⟩
  · refine r_icmp_ge_t 19 dX7_body_6 (by decide) c1 ?_
    refine r_aload_n 20 rfl 0 rfl rfl dX7_body_19 ?_
    refine r_dup 21 rfl rfl dX7_body_20 ?_
    refine r_geti 24 rfl sh_96 kd_7_81 fl_X7_257 dX7_body_21 ?_
    refine r_iconst 25 rfl ic_1 dX7_body_24 ?_
    refine r_iadd 26 rfl dX7_body_25 ?_
    obtain ⟨g2, e3, hf⟩ := lt_so hf
    refine r_puti 29 rfl sh_96 kd_7_81 fw_X7_257 rfl rfl dX7_body_26 ?_
    refine r_heap e3 ?_
    obtain rfl := so1 hf
    exact r_vret rfl dX7_body_29
  · refine r_icmp_ge_f 9 rfl 19 dX7_body_6 (by decide) c1 ?_
    refine r_aload_n 10 rfl 0 rfl rfl dX7_body_9 ?_
    refine r_getr (q := 140) 13 rfl (lq_7_82) sh_96 kd_7_82 fl_X7_260 dX7_body_10 ?_
    refine r_aload_n 14 rfl 0 rfl rfl dX7_body_13 ?_
    refine r_geti 17 rfl sh_96 kd_7_81 fl_X7_257 dX7_body_14 ?_
    refine r_iload_n 18 rfl 1 rfl rfl dX7_body_17 ?_
    obtain ⟨b4, hf⟩ := gd_so hf
    obtain ⟨g5, e6, hf⟩ := lt_so hf
    refine r_iast 19 rfl sh_140 (inb_vp b4) dX7_body_18 ?_
    refine r_heap e6 ?_
    refine r_aload_n 20 rfl 0 rfl rfl dX7_body_19 ?_
    refine r_dup 21 rfl rfl dX7_body_20 ?_
    refine r_geti 24 rfl sh_96 kd_7_81 fl_X7_257 dX7_body_21 ?_
    refine r_iconst 25 rfl ic_1 dX7_body_24 ?_
    refine r_iadd 26 rfl dX7_body_25 ?_
    obtain ⟨g7, e8, hf⟩ := lt_so hf
    refine r_puti 29 rfl sh_96 kd_7_81 fw_X7_257 rfl rfl dX7_body_26 ?_
    refine r_heap e8 ?_
    obtain rfl := so1 hf
    exact r_vret rfl dX7_body_29
-- X7_pieceBends
def f_X7_pieceBends (x1 : Int32) (x2 : Int32) (h : HP) : Option (Int32 × HP) := bo (f_X7_body 10 h) fun g1 => some ((x2 + x1), g1)
set_option maxHeartbeats 4000000 in
set_option maxRecDepth 100000 in
theorem A_X7_pieceBends (X : XE) (x1 : Int32) (x2 : Int32) (h : HP) (r : Int32) (h' : HP) (hf : f_X7_pieceBends x1 x2 h = some (r, h')) : CC mX7_pieceBends 2 X [.ref (X.1 96), .int x1, .int x2] h (some (.int r)) h' := by
  refine CC_of rfl (Nat.le_of_ble_eq_true rfl) ?_
  show Run mX7_pieceBends 2 X 0 [(0, .ref (X.1 96)), (1, .int x1), (2, .int x2)] [] h (some (.int r)) h'
  unfold f_X7_pieceBends at hf
  refine r_aload_n 1 rfl 0 rfl rfl dX7_pieceBends_0 ?_
  refine r_bipush 3 rfl bp_10 dX7_pieceBends_1 ?_
  obtain ⟨g1, e2, hf⟩ := bo_so hf
  refine r_callVv 6 rfl (A_X7_body X 10 h g1 e2) (by omega) cw_X7_443 sh_96 cl_7 rfl rfl (Nat.le_of_ble_eq_true rfl) dX7_pieceBends_3 ?_
  refine r_iload_n 7 rfl 2 rfl rfl dX7_pieceBends_6 ?_
  refine r_iload_n 8 rfl 1 rfl rfl dX7_pieceBends_7 ?_
  refine r_iadd 9 rfl dX7_pieceBends_8 ?_
  obtain ⟨rfl, rfl⟩ := so2 hf
  exact r_iret rfl rfl dX7_pieceBends_9
-- X7_bendsAct
def f_X7_bendsAct (x1 : Int32) (x2 : Int32) (h : HP) : Option (Int32 × HP) := gd (inb x1 6) (lt ((h.1 97 (Int32.toNatClampNeg x1)) : Int32) fun v2 => if v2 = 2 then (bo (f_X7_body 30 h) fun g5 => bd (f_X7_pieceBends x1 (x2 * 3) g5) fun v9 g7 => some (v9, g7)) else (if v2 = 3 then (bd (f_X7_pieceBends x1 x2 h) fun v13 g11 => some (v13, g11)) else (if v2 = 4 then (bo (f_X7_body 50 h) fun g15 => bd (f_X7_pieceBends x1 x2 g15) fun v19 g17 => some ((-v19), g17)) else (if v2 = 5 then (bo (f_X7_body 30 h) fun g21 => bd (f_X7_pieceBends x1 (x2 * 3) g21) fun v25 g23 => some (v25, g23)) else (if v2 = 6 then (bo (f_X7_body 71 h) fun g27 => bd (f_X7_pieceBends x1 x2 g27) fun v31 g29 => gd (inb x1 6) (some ((v31 ^^^ (g29.1 98 (Int32.toNatClampNeg x1))), g29))) else ((bd (f_X7_pieceBends x1 x2 h) fun v35 g33 => some (v35, g33))))))))
set_option maxHeartbeats 4000000 in
set_option maxRecDepth 100000 in
theorem A_X7_bendsAct (X : XE) (x1 : Int32) (x2 : Int32) (h : HP) (r : Int32) (h' : HP) (hf : f_X7_bendsAct x1 x2 h = some (r, h')) : CC mX7_bendsAct 3 X [.ref (X.1 96), .int x1, .int x2] h (some (.int r)) h' := by
  refine CC_of rfl (Nat.le_of_ble_eq_true rfl) ?_
  show Run mX7_bendsAct 3 X 0 [(0, .ref (X.1 96)), (1, .int x1), (2, .int x2)] [] h (some (.int r)) h'
  unfold f_X7_bendsAct at hf
  refine r_aload_n 1 rfl 0 rfl rfl dX7_bendsAct_0 ?_
  refine r_getr (q := 97) 4 rfl (lq_7_6) sh_96 kd_7_6 fl_X7_28 dX7_bendsAct_1 ?_
  refine r_iload_n 5 rfl 1 rfl rfl dX7_bendsAct_4 ?_
  obtain ⟨b1, hf⟩ := gd_so hf
  refine r_iald 6 rfl sh_97 (inb_vp b1) dX7_bendsAct_5 ?_
  obtain ⟨v2, e3, hf⟩ := lt_so hf
  refine r_top e3 ?_
  rcases if_so hf with ⟨c4, hf⟩ | ⟨c4, hf⟩
  · refine r_tsw_in (v := 2) 40 dX7_bendsAct_6 c4 (by decide) (by decide) rfl (by decide) ?_
    refine r_aload_n 41 rfl 0 rfl rfl dX7_bendsAct_40 ?_
    refine r_bipush 43 rfl bp_30 dX7_bendsAct_41 ?_
    obtain ⟨g5, e6, hf⟩ := bo_so hf
    refine r_callVv 46 rfl (A_X7_body X 30 h g5 e6) (by omega) cw_X7_443 sh_96 cl_7 rfl rfl (Nat.le_of_ble_eq_true rfl) dX7_bendsAct_43 ?_
    refine r_aload_n 47 rfl 0 rfl rfl dX7_bendsAct_46 ?_
    refine r_iload_n 48 rfl 1 rfl rfl dX7_bendsAct_47 ?_
    refine r_iload_n 49 rfl 2 rfl rfl dX7_bendsAct_48 ?_
    refine r_iconst 50 rfl ic_3 dX7_bendsAct_49 ?_
    refine r_imul 51 rfl dX7_bendsAct_50 ?_
    obtain ⟨v9, g7, e8, hf⟩ := bd_so hf
    refine r_callVi 54 rfl (A_X7_pieceBends X x1 (x2 * 3) g5 v9 g7 e8) (by omega) cw_X7_446 sh_96 cl_7 rfl rfl (Nat.le_of_ble_eq_true rfl) dX7_bendsAct_51 ?_
    obtain ⟨rfl, rfl⟩ := so2 hf
    exact r_iret rfl rfl dX7_bendsAct_54
  · skip
    rcases if_so hf with ⟨c10, hf⟩ | ⟨c10, hf⟩
    · refine r_tsw_in (v := 3) 89 dX7_bendsAct_6 c10 (by decide) (by decide) rfl (by decide) ?_
      refine r_aload_n 90 rfl 0 rfl rfl dX7_bendsAct_89 ?_
      refine r_iload_n 91 rfl 1 rfl rfl dX7_bendsAct_90 ?_
      refine r_iload_n 92 rfl 2 rfl rfl dX7_bendsAct_91 ?_
      obtain ⟨v13, g11, e12, hf⟩ := bd_so hf
      refine r_callVi 95 rfl (A_X7_pieceBends X x1 x2 h v13 g11 e12) (by omega) cw_X7_446 sh_96 cl_7 rfl rfl (Nat.le_of_ble_eq_true rfl) dX7_bendsAct_92 ?_
      obtain ⟨rfl, rfl⟩ := so2 hf
      exact r_iret rfl rfl dX7_bendsAct_95
    · skip
      rcases if_so hf with ⟨c14, hf⟩ | ⟨c14, hf⟩
      · refine r_tsw_in (v := 4) 55 dX7_bendsAct_6 c14 (by decide) (by decide) rfl (by decide) ?_
        refine r_aload_n 56 rfl 0 rfl rfl dX7_bendsAct_55 ?_
        refine r_bipush 58 rfl bp_50 dX7_bendsAct_56 ?_
        obtain ⟨g15, e16, hf⟩ := bo_so hf
        refine r_callVv 61 rfl (A_X7_body X 50 h g15 e16) (by omega) cw_X7_443 sh_96 cl_7 rfl rfl (Nat.le_of_ble_eq_true rfl) dX7_bendsAct_58 ?_
        refine r_aload_n 62 rfl 0 rfl rfl dX7_bendsAct_61 ?_
        refine r_iload_n 63 rfl 1 rfl rfl dX7_bendsAct_62 ?_
        refine r_iload_n 64 rfl 2 rfl rfl dX7_bendsAct_63 ?_
        obtain ⟨v19, g17, e18, hf⟩ := bd_so hf
        refine r_callVi 67 rfl (A_X7_pieceBends X x1 x2 g15 v19 g17 e18) (by omega) cw_X7_446 sh_96 cl_7 rfl rfl (Nat.le_of_ble_eq_true rfl) dX7_bendsAct_64 ?_
        refine r_ineg 68 rfl dX7_bendsAct_67 ?_
        obtain ⟨rfl, rfl⟩ := so2 hf
        exact r_iret rfl rfl dX7_bendsAct_68
      · skip
        rcases if_so hf with ⟨c20, hf⟩ | ⟨c20, hf⟩
        · refine r_tsw_in (v := 5) 40 dX7_bendsAct_6 c20 (by decide) (by decide) rfl (by decide) ?_
          refine r_aload_n 41 rfl 0 rfl rfl dX7_bendsAct_40 ?_
          refine r_bipush 43 rfl bp_30 dX7_bendsAct_41 ?_
          obtain ⟨g21, e22, hf⟩ := bo_so hf
          refine r_callVv 46 rfl (A_X7_body X 30 h g21 e22) (by omega) cw_X7_443 sh_96 cl_7 rfl rfl (Nat.le_of_ble_eq_true rfl) dX7_bendsAct_43 ?_
          refine r_aload_n 47 rfl 0 rfl rfl dX7_bendsAct_46 ?_
          refine r_iload_n 48 rfl 1 rfl rfl dX7_bendsAct_47 ?_
          refine r_iload_n 49 rfl 2 rfl rfl dX7_bendsAct_48 ?_
          refine r_iconst 50 rfl ic_3 dX7_bendsAct_49 ?_
          refine r_imul 51 rfl dX7_bendsAct_50 ?_
          obtain ⟨v25, g23, e24, hf⟩ := bd_so hf
          refine r_callVi 54 rfl (A_X7_pieceBends X x1 (x2 * 3) g21 v25 g23 e24) (by omega) cw_X7_446 sh_96 cl_7 rfl rfl (Nat.le_of_ble_eq_true rfl) dX7_bendsAct_51 ?_
          obtain ⟨rfl, rfl⟩ := so2 hf
          exact r_iret rfl rfl dX7_bendsAct_54
        · skip
          rcases if_so hf with ⟨c26, hf⟩ | ⟨c26, hf⟩
          · refine r_tsw_in (v := 6) 69 dX7_bendsAct_6 c26 (by decide) (by decide) rfl (by decide) ?_
            refine r_aload_n 70 rfl 0 rfl rfl dX7_bendsAct_69 ?_
            refine r_bipush 72 rfl bp_71 dX7_bendsAct_70 ?_
            obtain ⟨g27, e28, hf⟩ := bo_so hf
            refine r_callVv 75 rfl (A_X7_body X 71 h g27 e28) (by omega) cw_X7_443 sh_96 cl_7 rfl rfl (Nat.le_of_ble_eq_true rfl) dX7_bendsAct_72 ?_
            refine r_aload_n 76 rfl 0 rfl rfl dX7_bendsAct_75 ?_
            refine r_iload_n 77 rfl 1 rfl rfl dX7_bendsAct_76 ?_
            refine r_iload_n 78 rfl 2 rfl rfl dX7_bendsAct_77 ?_
            obtain ⟨v31, g29, e30, hf⟩ := bd_so hf
            refine r_callVi 81 rfl (A_X7_pieceBends X x1 x2 g27 v31 g29 e30) (by omega) cw_X7_446 sh_96 cl_7 rfl rfl (Nat.le_of_ble_eq_true rfl) dX7_bendsAct_78 ?_
            refine r_aload_n 82 rfl 0 rfl rfl dX7_bendsAct_81 ?_
            refine r_getr (q := 98) 85 rfl (lq_7_7) sh_96 kd_7_7 fl_X7_32 dX7_bendsAct_82 ?_
            refine r_iload_n 86 rfl 1 rfl rfl dX7_bendsAct_85 ?_
            obtain ⟨b32, hf⟩ := gd_so hf
            refine r_iald 87 rfl sh_98 (inb_vp b32) dX7_bendsAct_86 ?_
            refine r_ixor 88 rfl dX7_bendsAct_87 ?_
            obtain ⟨rfl, rfl⟩ := so2 hf
            exact r_iret rfl rfl dX7_bendsAct_88
          · skip
            have hx9 : v2.toInt < 2 ∨ (6 : Int) < v2.toInt := by
              have h8 := tsw_o (x := v2) 2 5 (fun k hk => by
                match k, hk with
                | 0, _ => exact ne_int c4
                | 1, _ => exact ne_int c10
                | 2, _ => exact ne_int c14
                | 3, _ => exact ne_int c20
                | 4, _ => exact ne_int c26
                | k + 5, hk => exact absurd hk (by omega))
              exact h8
            refine r_tsw_out 89 dX7_bendsAct_6 hx9 (by decide) ?_
            refine r_aload_n 90 rfl 0 rfl rfl dX7_bendsAct_89 ?_
            refine r_iload_n 91 rfl 1 rfl rfl dX7_bendsAct_90 ?_
            refine r_iload_n 92 rfl 2 rfl rfl dX7_bendsAct_91 ?_
            obtain ⟨v35, g33, e34, hf⟩ := bd_so hf
            refine r_callVi 95 rfl (A_X7_pieceBends X x1 x2 h v35 g33 e34) (by omega) cw_X7_446 sh_96 cl_7 rfl rfl (Nat.le_of_ble_eq_true rfl) dX7_bendsAct_92 ?_
            obtain ⟨rfl, rfl⟩ := so2 hf
            exact r_iret rfl rfl dX7_bendsAct_95
-- X7_pieceHolds
def f_X7_pieceHolds (x1 : Int32) (x2 : Int32) (h : HP) : Option (Int32 × HP) := bo (f_X7_body 11 h) fun g1 => bd (f_X7_bendsAct x1 x2 g1) fun v5 g3 => gd (inb x1 6) (some ((v5 - (g3.1 98 (Int32.toNatClampNeg x1))), g3))
set_option maxHeartbeats 4000000 in
set_option maxRecDepth 100000 in
theorem A_X7_pieceHolds (X : XE) (x1 : Int32) (x2 : Int32) (h : HP) (r : Int32) (h' : HP) (hf : f_X7_pieceHolds x1 x2 h = some (r, h')) : CC mX7_pieceHolds 4 X [.ref (X.1 96), .int x1, .int x2] h (some (.int r)) h' := by
  refine CC_of rfl (Nat.le_of_ble_eq_true rfl) ?_
  show Run mX7_pieceHolds 4 X 0 [(0, .ref (X.1 96)), (1, .int x1), (2, .int x2)] [] h (some (.int r)) h'
  unfold f_X7_pieceHolds at hf
  refine r_aload_n 1 rfl 0 rfl rfl dX7_pieceHolds_0 ?_
  refine r_bipush 3 rfl bp_11 dX7_pieceHolds_1 ?_
  obtain ⟨g1, e2, hf⟩ := bo_so hf
  refine r_callVv 6 rfl (A_X7_body X 11 h g1 e2) (by omega) cw_X7_443 sh_96 cl_7 rfl rfl (Nat.le_of_ble_eq_true rfl) dX7_pieceHolds_3 ?_
  refine r_aload_n 7 rfl 0 rfl rfl dX7_pieceHolds_6 ?_
  refine r_iload_n 8 rfl 1 rfl rfl dX7_pieceHolds_7 ?_
  refine r_iload_n 9 rfl 2 rfl rfl dX7_pieceHolds_8 ?_
  obtain ⟨v5, g3, e4, hf⟩ := bd_so hf
  refine r_callVi 12 rfl (A_X7_bendsAct X x1 x2 g1 v5 g3 e4) (by omega) cw_X7_449 sh_96 cl_7 rfl rfl (Nat.le_of_ble_eq_true rfl) dX7_pieceHolds_9 ?_
  refine r_aload_n 13 rfl 0 rfl rfl dX7_pieceHolds_12 ?_
  refine r_getr (q := 98) 16 rfl (lq_7_7) sh_96 kd_7_7 fl_X7_32 dX7_pieceHolds_13 ?_
  refine r_iload_n 17 rfl 1 rfl rfl dX7_pieceHolds_16 ?_
  obtain ⟨b6, hf⟩ := gd_so hf
  refine r_iald 18 rfl sh_98 (inb_vp b6) dX7_pieceHolds_17 ?_
  refine r_isub 19 rfl dX7_pieceHolds_18 ?_
  obtain ⟨rfl, rfl⟩ := so2 hf
  exact r_iret rfl rfl dX7_pieceHolds_19
-- X7_oarHolds
def f_X7_oarHolds (x1 : Int32) (x2 : Int32) (h : HP) : Option (Int32 × HP) := bo (f_X7_body 20 h) fun g1 => bd (f_X7_pieceHolds x1 x2 g1) fun v5 g3 => some ((v5 ^^^ 6), g3)
set_option maxHeartbeats 4000000 in
set_option maxRecDepth 100000 in
theorem A_X7_oarHolds (X : XE) (x1 : Int32) (x2 : Int32) (h : HP) (r : Int32) (h' : HP) (hf : f_X7_oarHolds x1 x2 h = some (r, h')) : CC mX7_oarHolds 5 X [.ref (X.1 96), .int x1, .int x2] h (some (.int r)) h' := by
  refine CC_of rfl (Nat.le_of_ble_eq_true rfl) ?_
  show Run mX7_oarHolds 5 X 0 [(0, .ref (X.1 96)), (1, .int x1), (2, .int x2)] [] h (some (.int r)) h'
  unfold f_X7_oarHolds at hf
  refine r_aload_n 1 rfl 0 rfl rfl dX7_oarHolds_0 ?_
  refine r_bipush 3 rfl bp_20 dX7_oarHolds_1 ?_
  obtain ⟨g1, e2, hf⟩ := bo_so hf
  refine r_callVv 6 rfl (A_X7_body X 20 h g1 e2) (by omega) cw_X7_443 sh_96 cl_7 rfl rfl (Nat.le_of_ble_eq_true rfl) dX7_oarHolds_3 ?_
  refine r_aload_n 7 rfl 0 rfl rfl dX7_oarHolds_6 ?_
  refine r_iload_n 8 rfl 1 rfl rfl dX7_oarHolds_7 ?_
  refine r_iload_n 9 rfl 2 rfl rfl dX7_oarHolds_8 ?_
  obtain ⟨v5, g3, e4, hf⟩ := bd_so hf
  refine r_callVi 12 rfl (A_X7_pieceHolds X x1 x2 g1 v5 g3 e4) (by omega) cw_X7_452 sh_96 cl_7 rfl rfl (Nat.le_of_ble_eq_true rfl) dX7_oarHolds_9 ?_
  refine r_bipush 14 rfl bp_6 dX7_oarHolds_12 ?_
  refine r_ixor 15 rfl dX7_oarHolds_14 ?_
  obtain ⟨rfl, rfl⟩ := so2 hf
  exact r_iret rfl rfl dX7_oarHolds_15
-- X7_holdsAct
def f_X7_holdsAct (x1 : Int32) (x2 : Int32) (h : HP) : Option (Int32 × HP) := gd (inb x1 6) (lt ((h.1 97 (Int32.toNatClampNeg x1)) : Int32) fun v2 => if v2 = 1 then (bd (f_X7_oarHolds x1 x2 h) fun v7 g5 => some (v7, g5)) else (if v2 = 4 then (bo (f_X7_body 51 h) fun g9 => bd (f_X7_oarHolds x1 (x2 + 1) g9) fun v13 g11 => some (v13, g11)) else (if v2 = 6 then (bo (f_X7_body 70 h) fun g15 => bd (f_X7_pieceHolds x1 x2 g15) fun v19 g17 => bd (f_X7_pieceBends x1 2 g17) fun v22 g20 => some ((v19 + v22), g20)) else ((bd (f_X7_pieceHolds x1 x2 h) fun v25 g23 => some (v25, g23))))))
set_option maxHeartbeats 4000000 in
set_option maxRecDepth 100000 in
theorem A_X7_holdsAct (X : XE) (x1 : Int32) (x2 : Int32) (h : HP) (r : Int32) (h' : HP) (hf : f_X7_holdsAct x1 x2 h = some (r, h')) : CC mX7_holdsAct 6 X [.ref (X.1 96), .int x1, .int x2] h (some (.int r)) h' := by
  refine CC_of rfl (Nat.le_of_ble_eq_true rfl) ?_
  show Run mX7_holdsAct 6 X 0 [(0, .ref (X.1 96)), (1, .int x1), (2, .int x2)] [] h (some (.int r)) h'
  unfold f_X7_holdsAct at hf
  refine r_aload_n 1 rfl 0 rfl rfl dX7_holdsAct_0 ?_
  refine r_getr (q := 97) 4 rfl (lq_7_6) sh_96 kd_7_6 fl_X7_28 dX7_holdsAct_1 ?_
  refine r_iload_n 5 rfl 1 rfl rfl dX7_holdsAct_4 ?_
  obtain ⟨b1, hf⟩ := gd_so hf
  refine r_iald 6 rfl sh_97 (inb_vp b1) dX7_holdsAct_5 ?_
  obtain ⟨v2, e3, hf⟩ := lt_so hf
  refine r_top e3 ?_
  rcases if_so hf with ⟨c4, hf⟩ | ⟨c4, hf⟩
  · refine r_lsw 40 dX7_holdsAct_6 (by decide) (by rw [c4] <;> decide) (by decide) ?_
    refine r_aload_n 41 rfl 0 rfl rfl dX7_holdsAct_40 ?_
    refine r_iload_n 42 rfl 1 rfl rfl dX7_holdsAct_41 ?_
    refine r_iload_n 43 rfl 2 rfl rfl dX7_holdsAct_42 ?_
    obtain ⟨v7, g5, e6, hf⟩ := bd_so hf
    refine r_callVi 46 rfl (A_X7_oarHolds X x1 x2 h v7 g5 e6) (by omega) cw_X7_455 sh_96 cl_7 rfl rfl (Nat.le_of_ble_eq_true rfl) dX7_holdsAct_43 ?_
    obtain ⟨rfl, rfl⟩ := so2 hf
    exact r_iret rfl rfl dX7_holdsAct_46
  · skip
    rcases if_so hf with ⟨c8, hf⟩ | ⟨c8, hf⟩
    · refine r_lsw 47 dX7_holdsAct_6 (by decide) (by rw [c8] <;> decide) (by decide) ?_
      refine r_aload_n 48 rfl 0 rfl rfl dX7_holdsAct_47 ?_
      refine r_bipush 50 rfl bp_51 dX7_holdsAct_48 ?_
      obtain ⟨g9, e10, hf⟩ := bo_so hf
      refine r_callVv 53 rfl (A_X7_body X 51 h g9 e10) (by omega) cw_X7_443 sh_96 cl_7 rfl rfl (Nat.le_of_ble_eq_true rfl) dX7_holdsAct_50 ?_
      refine r_aload_n 54 rfl 0 rfl rfl dX7_holdsAct_53 ?_
      refine r_iload_n 55 rfl 1 rfl rfl dX7_holdsAct_54 ?_
      refine r_iload_n 56 rfl 2 rfl rfl dX7_holdsAct_55 ?_
      refine r_iconst 57 rfl ic_1 dX7_holdsAct_56 ?_
      refine r_iadd 58 rfl dX7_holdsAct_57 ?_
      obtain ⟨v13, g11, e12, hf⟩ := bd_so hf
      refine r_callVi 61 rfl (A_X7_oarHolds X x1 (x2 + 1) g9 v13 g11 e12) (by omega) cw_X7_455 sh_96 cl_7 rfl rfl (Nat.le_of_ble_eq_true rfl) dX7_holdsAct_58 ?_
      obtain ⟨rfl, rfl⟩ := so2 hf
      exact r_iret rfl rfl dX7_holdsAct_61
    · skip
      rcases if_so hf with ⟨c14, hf⟩ | ⟨c14, hf⟩
      · refine r_lsw 62 dX7_holdsAct_6 (by decide) (by rw [c14] <;> decide) (by decide) ?_
        refine r_aload_n 63 rfl 0 rfl rfl dX7_holdsAct_62 ?_
        refine r_bipush 65 rfl bp_70 dX7_holdsAct_63 ?_
        obtain ⟨g15, e16, hf⟩ := bo_so hf
        refine r_callVv 68 rfl (A_X7_body X 70 h g15 e16) (by omega) cw_X7_443 sh_96 cl_7 rfl rfl (Nat.le_of_ble_eq_true rfl) dX7_holdsAct_65 ?_
        refine r_aload_n 69 rfl 0 rfl rfl dX7_holdsAct_68 ?_
        refine r_iload_n 70 rfl 1 rfl rfl dX7_holdsAct_69 ?_
        refine r_iload_n 71 rfl 2 rfl rfl dX7_holdsAct_70 ?_
        obtain ⟨v19, g17, e18, hf⟩ := bd_so hf
        refine r_callVi 74 rfl (A_X7_pieceHolds X x1 x2 g15 v19 g17 e18) (by omega) cw_X7_452 sh_96 cl_7 rfl rfl (Nat.le_of_ble_eq_true rfl) dX7_holdsAct_71 ?_
        refine r_istore_n (lv' := [(3, .int v19), (0, .ref (X.1 96)), (1, .int x1), (2, .int x2)]) 75 rfl dX7_holdsAct_74 (by decide) rfl rfl ?_
        refine r_iload_n 76 rfl 0 rfl rfl dX7_holdsAct_75 ?_
        refine r_aload_n 77 rfl 1 rfl rfl dX7_holdsAct_76 ?_
        refine r_iload_n 78 rfl 2 rfl rfl dX7_holdsAct_77 ?_
        refine r_iconst 79 rfl ic_2 dX7_holdsAct_78 ?_
        obtain ⟨v22, g20, e21, hf⟩ := bd_so hf
        refine r_callVi 82 rfl (A_X7_pieceBends X x1 2 g17 v22 g20 e21) (by omega) cw_X7_446 sh_96 cl_7 rfl rfl (Nat.le_of_ble_eq_true rfl) dX7_holdsAct_79 ?_
        refine r_iadd 83 rfl dX7_holdsAct_82 ?_
        obtain ⟨rfl, rfl⟩ := so2 hf
        exact r_iret rfl rfl dX7_holdsAct_83
      · skip
        refine r_lsw 84 dX7_holdsAct_6 (by decide) (lsw_d (by intro q hq; simp at hq; rcases hq with rfl | rfl | rfl <;> first | exact ne_int c4 | exact ne_int c8 | exact ne_int c14)) (by decide) ?_
        refine r_aload_n 85 rfl 0 rfl rfl dX7_holdsAct_84 ?_
        refine r_iload_n 86 rfl 1 rfl rfl dX7_holdsAct_85 ?_
        refine r_iload_n 87 rfl 2 rfl rfl dX7_holdsAct_86 ?_
        obtain ⟨v25, g23, e24, hf⟩ := bd_so hf
        refine r_callVi 90 rfl (A_X7_pieceHolds X x1 x2 h v25 g23 e24) (by omega) cw_X7_452 sh_96 cl_7 rfl rfl (Nat.le_of_ble_eq_true rfl) dX7_holdsAct_87 ?_
        obtain ⟨rfl, rfl⟩ := so2 hf
        exact r_iret rfl rfl dX7_holdsAct_90
-- X7_pieceTells
def f_X7_pieceTells (x1 : Int32) (x2 : Int32) (h : HP) : Option (Int32 × HP) := bo (f_X7_body 12 h) fun g1 => bd (f_X7_holdsAct x1 x2 g1) fun v5 g3 => some ((v5 * 2), g3)
set_option maxHeartbeats 4000000 in
set_option maxRecDepth 100000 in
theorem A_X7_pieceTells (X : XE) (x1 : Int32) (x2 : Int32) (h : HP) (r : Int32) (h' : HP) (hf : f_X7_pieceTells x1 x2 h = some (r, h')) : CC mX7_pieceTells 7 X [.ref (X.1 96), .int x1, .int x2] h (some (.int r)) h' := by
  refine CC_of rfl (Nat.le_of_ble_eq_true rfl) ?_
  show Run mX7_pieceTells 7 X 0 [(0, .ref (X.1 96)), (1, .int x1), (2, .int x2)] [] h (some (.int r)) h'
  unfold f_X7_pieceTells at hf
  refine r_aload_n 1 rfl 0 rfl rfl dX7_pieceTells_0 ?_
  refine r_bipush 3 rfl bp_12 dX7_pieceTells_1 ?_
  obtain ⟨g1, e2, hf⟩ := bo_so hf
  refine r_callVv 6 rfl (A_X7_body X 12 h g1 e2) (by omega) cw_X7_443 sh_96 cl_7 rfl rfl (Nat.le_of_ble_eq_true rfl) dX7_pieceTells_3 ?_
  refine r_aload_n 7 rfl 0 rfl rfl dX7_pieceTells_6 ?_
  refine r_iload_n 8 rfl 1 rfl rfl dX7_pieceTells_7 ?_
  refine r_iload_n 9 rfl 2 rfl rfl dX7_pieceTells_8 ?_
  obtain ⟨v5, g3, e4, hf⟩ := bd_so hf
  refine r_callVi 12 rfl (A_X7_holdsAct X x1 x2 g1 v5 g3 e4) (by omega) cw_X7_458 sh_96 cl_7 rfl rfl (Nat.le_of_ble_eq_true rfl) dX7_pieceTells_9 ?_
  refine r_iconst 13 rfl ic_2 dX7_pieceTells_12 ?_
  refine r_imul 14 rfl dX7_pieceTells_13 ?_
  obtain ⟨rfl, rfl⟩ := so2 hf
  exact r_iret rfl rfl dX7_pieceTells_14
-- X7_tellsAct
def f_X7_tellsAct_J36 (x1 : Int32) (x2 : Int32) (h : HP) : Option (Int32 × HP) := bo (f_X7_body 40 h) fun g5 => bd (f_X7_pieceTells x1 x2 g5) fun v9 g7 => bd (f_X7_holdsAct x1 1 g7) fun v12 g10 => some ((v9 + v12), g10)
set_option maxHeartbeats 4000000 in
set_option maxRecDepth 100000 in
theorem A_X7_tellsAct_J36 (X : XE) (r : Int32) (h' : HP) (x1 : Int32) (x2 : Int32) (h : HP) (hf : f_X7_tellsAct_J36 x1 x2 h = some (r, h')) : Run mX7_tellsAct 8 X 36 [(0, .ref (X.1 96)), (1, .int x1), (2, .int x2)] [] h (some (.int r)) h' := by
  unfold f_X7_tellsAct_J36 at hf
  refine r_aload_n 37 rfl 0 rfl rfl dX7_tellsAct_36 ?_
  refine r_bipush 39 rfl bp_40 dX7_tellsAct_37 ?_
  obtain ⟨g5, e6, hf⟩ := bo_so hf
  refine r_callVv 42 rfl (A_X7_body X 40 h g5 e6) (by omega) cw_X7_443 sh_96 cl_7 rfl rfl (Nat.le_of_ble_eq_true rfl) dX7_tellsAct_39 ?_
  refine r_aload_n 43 rfl 0 rfl rfl dX7_tellsAct_42 ?_
  refine r_iload_n 44 rfl 1 rfl rfl dX7_tellsAct_43 ?_
  refine r_iload_n 45 rfl 2 rfl rfl dX7_tellsAct_44 ?_
  obtain ⟨v9, g7, e8, hf⟩ := bd_so hf
  refine r_callVi 48 rfl (A_X7_pieceTells X x1 x2 g5 v9 g7 e8) (by omega) cw_X7_461 sh_96 cl_7 rfl rfl (Nat.le_of_ble_eq_true rfl) dX7_tellsAct_45 ?_
  refine r_istore_n (lv' := [(3, .int v9), (0, .ref (X.1 96)), (1, .int x1), (2, .int x2)]) 49 rfl dX7_tellsAct_48 (by decide) rfl rfl ?_
  refine r_iload_n 50 rfl 0 rfl rfl dX7_tellsAct_49 ?_
  refine r_aload_n 51 rfl 1 rfl rfl dX7_tellsAct_50 ?_
  refine r_iload_n 52 rfl 2 rfl rfl dX7_tellsAct_51 ?_
  refine r_iconst 53 rfl ic_1 dX7_tellsAct_52 ?_
  obtain ⟨v12, g10, e11, hf⟩ := bd_so hf
  refine r_callVi 56 rfl (A_X7_holdsAct X x1 1 g7 v12 g10 e11) (by omega) cw_X7_458 sh_96 cl_7 rfl rfl (Nat.le_of_ble_eq_true rfl) dX7_tellsAct_53 ?_
  refine r_iadd 57 rfl dX7_tellsAct_56 ?_
  obtain ⟨rfl, rfl⟩ := so2 hf
  exact r_iret rfl rfl dX7_tellsAct_57
def f_X7_tellsAct (x1 : Int32) (x2 : Int32) (h : HP) : Option (Int32 × HP) := gd (inb x1 6) (lt ((h.1 97 (Int32.toNatClampNeg x1)) : Int32) fun v2 => if v2 = 3 then (f_X7_tellsAct_J36 x1 x2 h) else (if v2 = 4 then (bd (f_X7_pieceTells x1 x2 h) fun v16 g14 => some (v16, g14)) else (if v2 = 5 then (bo (f_X7_body 60 h) fun g18 => bd (f_X7_pieceTells x1 (x2 - x1) g18) fun v22 g20 => some (v22, g20)) else (if v2 = 6 then (f_X7_tellsAct_J36 x1 x2 h) else ((bd (f_X7_pieceTells x1 x2 h) fun v26 g24 => some (v26, g24)))))))
set_option maxHeartbeats 4000000 in
set_option maxRecDepth 100000 in
theorem A_X7_tellsAct (X : XE) (x1 : Int32) (x2 : Int32) (h : HP) (r : Int32) (h' : HP) (hf : f_X7_tellsAct x1 x2 h = some (r, h')) : CC mX7_tellsAct 8 X [.ref (X.1 96), .int x1, .int x2] h (some (.int r)) h' := by
  refine CC_of rfl (Nat.le_of_ble_eq_true rfl) ?_
  show Run mX7_tellsAct 8 X 0 [(0, .ref (X.1 96)), (1, .int x1), (2, .int x2)] [] h (some (.int r)) h'
  unfold f_X7_tellsAct at hf
  refine r_aload_n 1 rfl 0 rfl rfl dX7_tellsAct_0 ?_
  refine r_getr (q := 97) 4 rfl (lq_7_6) sh_96 kd_7_6 fl_X7_28 dX7_tellsAct_1 ?_
  refine r_iload_n 5 rfl 1 rfl rfl dX7_tellsAct_4 ?_
  obtain ⟨b1, hf⟩ := gd_so hf
  refine r_iald 6 rfl sh_97 (inb_vp b1) dX7_tellsAct_5 ?_
  obtain ⟨v2, e3, hf⟩ := lt_so hf
  refine r_top e3 ?_
  rcases if_so hf with ⟨c4, hf⟩ | ⟨c4, hf⟩
  · refine r_tsw_in (v := 3) 36 dX7_tellsAct_6 c4 (by decide) (by decide) rfl (by decide) ?_
    refine r_sub (lv' := [(0, .ref (X.1 96)), (1, .int x1), (2, .int x2)]) [0, 1, 2] rfl ?_
    exact A_X7_tellsAct_J36 X _ _ x1 x2 h hf
  · skip
    rcases if_so hf with ⟨c13, hf⟩ | ⟨c13, hf⟩
    · refine r_tsw_in (v := 4) 73 dX7_tellsAct_6 c13 (by decide) (by decide) rfl (by decide) ?_
      refine r_aload_n 74 rfl 0 rfl rfl dX7_tellsAct_73 ?_
      refine r_iload_n 75 rfl 1 rfl rfl dX7_tellsAct_74 ?_
      refine r_iload_n 76 rfl 2 rfl rfl dX7_tellsAct_75 ?_
      obtain ⟨v16, g14, e15, hf⟩ := bd_so hf
      refine r_callVi 79 rfl (A_X7_pieceTells X x1 x2 h v16 g14 e15) (by omega) cw_X7_461 sh_96 cl_7 rfl rfl (Nat.le_of_ble_eq_true rfl) dX7_tellsAct_76 ?_
      obtain ⟨rfl, rfl⟩ := so2 hf
      exact r_iret rfl rfl dX7_tellsAct_79
    · skip
      rcases if_so hf with ⟨c17, hf⟩ | ⟨c17, hf⟩
      · refine r_tsw_in (v := 5) 58 dX7_tellsAct_6 c17 (by decide) (by decide) rfl (by decide) ?_
        refine r_aload_n 59 rfl 0 rfl rfl dX7_tellsAct_58 ?_
        refine r_bipush 61 rfl bp_60 dX7_tellsAct_59 ?_
        obtain ⟨g18, e19, hf⟩ := bo_so hf
        refine r_callVv 64 rfl (A_X7_body X 60 h g18 e19) (by omega) cw_X7_443 sh_96 cl_7 rfl rfl (Nat.le_of_ble_eq_true rfl) dX7_tellsAct_61 ?_
        refine r_aload_n 65 rfl 0 rfl rfl dX7_tellsAct_64 ?_
        refine r_iload_n 66 rfl 1 rfl rfl dX7_tellsAct_65 ?_
        refine r_iload_n 67 rfl 2 rfl rfl dX7_tellsAct_66 ?_
        refine r_iload_n 68 rfl 1 rfl rfl dX7_tellsAct_67 ?_
        refine r_isub 69 rfl dX7_tellsAct_68 ?_
        obtain ⟨v22, g20, e21, hf⟩ := bd_so hf
        refine r_callVi 72 rfl (A_X7_pieceTells X x1 (x2 - x1) g18 v22 g20 e21) (by omega) cw_X7_461 sh_96 cl_7 rfl rfl (Nat.le_of_ble_eq_true rfl) dX7_tellsAct_69 ?_
        obtain ⟨rfl, rfl⟩ := so2 hf
        exact r_iret rfl rfl dX7_tellsAct_72
      · skip
        rcases if_so hf with ⟨c23, hf⟩ | ⟨c23, hf⟩
        · refine r_tsw_in (v := 6) 36 dX7_tellsAct_6 c23 (by decide) (by decide) rfl (by decide) ?_
          refine r_sub (lv' := [(0, .ref (X.1 96)), (1, .int x1), (2, .int x2)]) [0, 1, 2] rfl ?_
          exact A_X7_tellsAct_J36 X _ _ x1 x2 h hf
        · skip
          have hx9 : v2.toInt < 3 ∨ (6 : Int) < v2.toInt := by
            have h8 := tsw_o (x := v2) 3 4 (fun k hk => by
              match k, hk with
              | 0, _ => exact ne_int c4
              | 1, _ => exact ne_int c13
              | 2, _ => exact ne_int c17
              | 3, _ => exact ne_int c23
              | k + 4, hk => exact absurd hk (by omega))
            exact h8
          refine r_tsw_out 73 dX7_tellsAct_6 hx9 (by decide) ?_
          refine r_aload_n 74 rfl 0 rfl rfl dX7_tellsAct_73 ?_
          refine r_iload_n 75 rfl 1 rfl rfl dX7_tellsAct_74 ?_
          refine r_iload_n 76 rfl 2 rfl rfl dX7_tellsAct_75 ?_
          obtain ⟨v26, g24, e25, hf⟩ := bd_so hf
          refine r_callVi 79 rfl (A_X7_pieceTells X x1 x2 h v26 g24 e25) (by omega) cw_X7_461 sh_96 cl_7 rfl rfl (Nat.le_of_ble_eq_true rfl) dX7_tellsAct_76 ?_
          obtain ⟨rfl, rfl⟩ := so2 hf
          exact r_iret rfl rfl dX7_tellsAct_79
-- X7_act
def f_X7_act (x1 : Int32) (x2 : Int32) (x3 : Int32) (h : HP) : Option (Int32 × HP) := lt (si h 96 81 0) fun g1 => bo (f_X7_isPiece x1 g1) fun v3 => if v3 = 0 then (some (0, g1)) else (bo (f_X7_in x2 0 2) fun v6 => if v6 = 0 then (some (0, g1)) else (if x2 = 0 then (bd (f_X7_bendsAct x1 x3 g1) fun v12 g10 => some (v12, g10)) else (if x2 = 1 then (bd (f_X7_holdsAct x1 x3 g1) fun v16 g14 => some (v16, g14)) else (bd (f_X7_tellsAct x1 x3 g1) fun v19 g17 => some (v19, g17)))))
set_option maxHeartbeats 4000000 in
set_option maxRecDepth 100000 in
theorem A_X7_act (X : XE) (x1 : Int32) (x2 : Int32) (x3 : Int32) (h : HP) (r : Int32) (h' : HP) (hf : f_X7_act x1 x2 x3 h = some (r, h')) : CC mX7_act 9 X [.ref (X.1 96), .int x1, .int x2, .int x3] h (some (.int r)) h' := by
  refine CC_of rfl (Nat.le_of_ble_eq_true rfl) ?_
  show Run mX7_act 9 X 0 [(0, .ref (X.1 96)), (1, .int x1), (2, .int x2), (3, .int x3)] [] h (some (.int r)) h'
  unfold f_X7_act at hf
  refine r_aload_n 1 rfl 0 rfl rfl dX7_act_0 ?_
  refine r_iconst 2 rfl ic_0 dX7_act_1 ?_
  obtain ⟨g1, e2, hf⟩ := lt_so hf
  refine r_puti 5 rfl sh_96 kd_7_81 fw_X7_257 rfl rfl dX7_act_2 ?_
  refine r_heap e2 ?_
  refine r_aload_n 6 rfl 0 rfl rfl dX7_act_5 ?_
  refine r_iload_n 7 rfl 1 rfl rfl dX7_act_6 ?_
  obtain ⟨v3, e4, hf⟩ := bo_so hf
  refine r_callVi 10 rfl (A_X7_isPiece X x1 g1 v3 e4) (by omega) cw_X7_280 sh_96 cl_7 rfl rfl (Nat.le_of_ble_eq_true rfl) dX7_act_7 ?_
  rcases if_so hf with ⟨c5, hf⟩ | ⟨c5, hf⟩
  · refine r_if_eq_t 23 dX7_act_10 (by decide) c5 ?_
    refine r_iconst 24 rfl ic_0 dX7_act_23 ?_
    obtain ⟨rfl, rfl⟩ := so2 hf
    exact r_iret rfl rfl dX7_act_24
  · refine r_if_eq_f 13 rfl 23 dX7_act_10 (by decide) c5 ?_
    refine r_aload_n 14 rfl 0 rfl rfl dX7_act_13 ?_
    refine r_iload_n 15 rfl 2 rfl rfl dX7_act_14 ?_
    refine r_iconst 16 rfl ic_0 dX7_act_15 ?_
    refine r_iconst 17 rfl ic_2 dX7_act_16 ?_
    obtain ⟨v6, e7, hf⟩ := bo_so hf
    refine r_callVi 20 rfl (A_X7_in X x2 0 2 g1 v6 e7) (by omega) cw_X7_276 sh_96 cl_7 rfl rfl (Nat.le_of_ble_eq_true rfl) dX7_act_17 ?_
    rcases if_so hf with ⟨c8, hf⟩ | ⟨c8, hf⟩
    · refine r_if_ne_t 23 rfl 25 dX7_act_20 (by decide) c8 ?_
      refine r_iconst 24 rfl ic_0 dX7_act_23 ?_
      obtain ⟨rfl, rfl⟩ := so2 hf
      exact r_iret rfl rfl dX7_act_24
    · refine r_if_ne_f 25 dX7_act_20 (by decide) c8 ?_
      refine r_iload_n 26 rfl 2 rfl rfl dX7_act_25 ?_
      rcases if_so hf with ⟨c9, hf⟩ | ⟨c9, hf⟩
      · refine r_if_ne_t 29 rfl 38 dX7_act_26 (by decide) c9 ?_
        refine r_aload_n 30 rfl 0 rfl rfl dX7_act_29 ?_
        refine r_iload_n 31 rfl 1 rfl rfl dX7_act_30 ?_
        refine r_iload_n 32 rfl 3 rfl rfl dX7_act_31 ?_
        obtain ⟨v12, g10, e11, hf⟩ := bd_so hf
        refine r_callVi 35 rfl (A_X7_bendsAct X x1 x3 g1 v12 g10 e11) (by omega) cw_X7_449 sh_96 cl_7 rfl rfl (Nat.le_of_ble_eq_true rfl) dX7_act_32 ?_
        refine r_goto 58 dX7_act_35 (by decide) ?_
        obtain ⟨rfl, rfl⟩ := so2 hf
        exact r_iret rfl rfl dX7_act_58
      · refine r_if_ne_f 38 dX7_act_26 (by decide) c9 ?_
        refine r_iload_n 39 rfl 2 rfl rfl dX7_act_38 ?_
        refine r_iconst 40 rfl ic_1 dX7_act_39 ?_
        rcases if_so hf with ⟨c13, hf⟩ | ⟨c13, hf⟩
        · refine r_icmp_ne_t 43 rfl 52 dX7_act_40 (by decide) c13 ?_
          refine r_aload_n 44 rfl 0 rfl rfl dX7_act_43 ?_
          refine r_iload_n 45 rfl 1 rfl rfl dX7_act_44 ?_
          refine r_iload_n 46 rfl 3 rfl rfl dX7_act_45 ?_
          obtain ⟨v16, g14, e15, hf⟩ := bd_so hf
          refine r_callVi 49 rfl (A_X7_holdsAct X x1 x3 g1 v16 g14 e15) (by omega) cw_X7_458 sh_96 cl_7 rfl rfl (Nat.le_of_ble_eq_true rfl) dX7_act_46 ?_
          refine r_goto 58 dX7_act_49 (by decide) ?_
          obtain ⟨rfl, rfl⟩ := so2 hf
          exact r_iret rfl rfl dX7_act_58
        · refine r_icmp_ne_f 52 dX7_act_40 (by decide) c13 ?_
          refine r_aload_n 53 rfl 0 rfl rfl dX7_act_52 ?_
          refine r_iload_n 54 rfl 1 rfl rfl dX7_act_53 ?_
          refine r_iload_n 55 rfl 3 rfl rfl dX7_act_54 ?_
          obtain ⟨v19, g17, e18, hf⟩ := bd_so hf
          refine r_callVi 58 rfl (A_X7_tellsAct X x1 x3 g1 v19 g17 e18) (by omega) cw_X7_464 sh_96 cl_7 rfl rfl (Nat.le_of_ble_eq_true rfl) dX7_act_55 ?_
          obtain ⟨rfl, rfl⟩ := so2 hf
          exact r_iret rfl rfl dX7_act_58
-- X7_trace
def f_X7_trace (x1 : Int32) (h : HP) : Option Int32 := bo (f_X7_in x1 0 19) fun v1 => if v1 = 0 then (some (-1)) else (if (h.1 96 81) ≤ x1 then (some (-1)) else (gd (inb x1 20) (some (h.1 140 (Int32.toNatClampNeg x1)))))
set_option maxHeartbeats 4000000 in
set_option maxRecDepth 100000 in
theorem A_X7_trace (X : XE) (x1 : Int32) (h : HP) (r : Int32) (hf : f_X7_trace x1 h = some r) : CC mX7_trace 2 X [.ref (X.1 96), .int x1] h (some (.int r)) h := by
  refine CC_of rfl (Nat.le_of_ble_eq_true rfl) ?_
  show Run mX7_trace 2 X 0 [(0, .ref (X.1 96)), (1, .int x1)] [] h (some (.int r)) h
  unfold f_X7_trace at hf
  refine r_aload_n 1 rfl 0 rfl rfl dX7_trace_0 ?_
  refine r_iload_n 2 rfl 1 rfl rfl dX7_trace_1 ?_
  refine r_iconst 3 rfl ic_0 dX7_trace_2 ?_
  refine r_bipush 5 rfl bp_19 dX7_trace_3 ?_
  obtain ⟨v1, e2, hf⟩ := bo_so hf
  refine r_callVi 8 rfl (A_X7_in X x1 0 19 h v1 e2) (by omega) cw_X7_276 sh_96 cl_7 rfl rfl (Nat.le_of_ble_eq_true rfl) dX7_trace_5 ?_
  rcases if_so hf with ⟨c3, hf⟩ | ⟨c3, hf⟩
  · refine r_if_eq_t 28 dX7_trace_8 (by decide) c3 ?_
    refine r_iconst 29 rfl ic_m1 dX7_trace_28 ?_
    obtain rfl := so1 hf
    exact r_iret rfl rfl dX7_trace_29
  · refine r_if_eq_f 11 rfl 28 dX7_trace_8 (by decide) c3 ?_
    refine r_iload_n 12 rfl 1 rfl rfl dX7_trace_11 ?_
    refine r_aload_n 13 rfl 0 rfl rfl dX7_trace_12 ?_
    refine r_geti 16 rfl sh_96 kd_7_81 fl_X7_257 dX7_trace_13 ?_
    rcases if_so hf with ⟨c4, hf⟩ | ⟨c4, hf⟩
    · refine r_icmp_ge_t 28 dX7_trace_16 (by decide) c4 ?_
      refine r_iconst 29 rfl ic_m1 dX7_trace_28 ?_
      obtain rfl := so1 hf
      exact r_iret rfl rfl dX7_trace_29
    · refine r_icmp_ge_f 19 rfl 28 dX7_trace_16 (by decide) c4 ?_
      refine r_aload_n 20 rfl 0 rfl rfl dX7_trace_19 ?_
      refine r_getr (q := 140) 23 rfl (lq_7_82) sh_96 kd_7_82 fl_X7_260 dX7_trace_20 ?_
      refine r_iload_n 24 rfl 1 rfl rfl dX7_trace_23 ?_
      obtain ⟨b5, hf⟩ := gd_so hf
      refine r_iald 25 rfl sh_140 (inb_vp b5) dX7_trace_24 ?_
      refine r_goto 29 dX7_trace_25 (by decide) ?_
      obtain rfl := so1 hf
      exact r_iret rfl rfl dX7_trace_29
-- X7_taken
def f_X7_taken_J51 (h : HP) (x2 : Int32) (x3 : Int32) : Option Int32 := if x2 = 2 then (if x3 = 5 then (some x3) else (if x2 = 3 then (if x3 = 6 then (some x3) else (some (-12))) else (some (-12)))) else (if x2 = 3 then (if x3 = 6 then (some x3) else (some (-12))) else (some (-12)))
set_option maxHeartbeats 4000000 in
set_option maxRecDepth 100000 in
theorem A_X7_taken_J51 (X : XE) (h : HP) (r : Int32) (x2 : Int32) (x3 : Int32) (hf : f_X7_taken_J51 h x2 x3 = some r) : Run mX7_taken 3 X 51 [(2, .int x2), (3, .int x3)] [] h (some (.int r)) h := by
  unfold f_X7_taken_J51 at hf
  refine r_iload_n 52 rfl 0 rfl rfl dX7_taken_51 ?_
  refine r_iconst 53 rfl ic_2 dX7_taken_52 ?_
  rcases if_so hf with ⟨c14, hf⟩ | ⟨c14, hf⟩
  · refine r_icmp_ne_t 56 rfl 61 dX7_taken_53 (by decide) c14 ?_
    refine r_iload_n 57 rfl 1 rfl rfl dX7_taken_56 ?_
    refine r_iconst 58 rfl ic_5 dX7_taken_57 ?_
    rcases if_so hf with ⟨c15, hf⟩ | ⟨c15, hf⟩
    · refine r_icmp_eq_t 72 dX7_taken_58 (by decide) c15 ?_
      refine r_iload_n 73 rfl 1 rfl rfl dX7_taken_72 ?_
      refine r_goto 78 dX7_taken_73 (by decide) ?_
      obtain rfl := so1 hf
      exact r_iret rfl rfl dX7_taken_78
    · refine r_icmp_eq_f 61 rfl 72 dX7_taken_58 (by decide) c15 ?_
      refine r_iload_n 62 rfl 0 rfl rfl dX7_taken_61 ?_
      refine r_iconst 63 rfl ic_3 dX7_taken_62 ?_
      rcases if_so hf with ⟨c16, hf⟩ | ⟨c16, hf⟩
      · refine r_icmp_ne_t 66 rfl 76 dX7_taken_63 (by decide) c16 ?_
        refine r_iload_n 67 rfl 1 rfl rfl dX7_taken_66 ?_
        refine r_bipush 69 rfl bp_6 dX7_taken_67 ?_
        rcases if_so hf with ⟨c17, hf⟩ | ⟨c17, hf⟩
        · refine r_icmp_ne_t 72 rfl 76 dX7_taken_69 (by decide) c17 ?_
          refine r_iload_n 73 rfl 1 rfl rfl dX7_taken_72 ?_
          refine r_goto 78 dX7_taken_73 (by decide) ?_
          obtain rfl := so1 hf
          exact r_iret rfl rfl dX7_taken_78
        · refine r_icmp_ne_f 76 dX7_taken_69 (by decide) c17 ?_
          refine r_bipush 78 rfl bp_m12 dX7_taken_76 ?_
          obtain rfl := so1 hf
          exact r_iret rfl rfl dX7_taken_78
      · refine r_icmp_ne_f 76 dX7_taken_63 (by decide) c16 ?_
        refine r_bipush 78 rfl bp_m12 dX7_taken_76 ?_
        obtain rfl := so1 hf
        exact r_iret rfl rfl dX7_taken_78
  · refine r_icmp_ne_f 61 dX7_taken_53 (by decide) c14 ?_
    refine r_iload_n 62 rfl 0 rfl rfl dX7_taken_61 ?_
    refine r_iconst 63 rfl ic_3 dX7_taken_62 ?_
    rcases if_so hf with ⟨c18, hf⟩ | ⟨c18, hf⟩
    · refine r_icmp_ne_t 66 rfl 76 dX7_taken_63 (by decide) c18 ?_
      refine r_iload_n 67 rfl 1 rfl rfl dX7_taken_66 ?_
      refine r_bipush 69 rfl bp_6 dX7_taken_67 ?_
      rcases if_so hf with ⟨c19, hf⟩ | ⟨c19, hf⟩
      · refine r_icmp_ne_t 72 rfl 76 dX7_taken_69 (by decide) c19 ?_
        refine r_iload_n 73 rfl 1 rfl rfl dX7_taken_72 ?_
        refine r_goto 78 dX7_taken_73 (by decide) ?_
        obtain rfl := so1 hf
        exact r_iret rfl rfl dX7_taken_78
      · refine r_icmp_ne_f 76 dX7_taken_69 (by decide) c19 ?_
        refine r_bipush 78 rfl bp_m12 dX7_taken_76 ?_
        obtain rfl := so1 hf
        exact r_iret rfl rfl dX7_taken_78
    · refine r_icmp_ne_f 76 dX7_taken_63 (by decide) c18 ?_
      refine r_bipush 78 rfl bp_m12 dX7_taken_76 ?_
      obtain rfl := so1 hf
      exact r_iret rfl rfl dX7_taken_78
def f_X7_taken (x1 : Int32) (x2 : Int32) (h : HP) : Option Int32 := bo (f_X7_in x2 0 6) fun v1 => if v1 = 0 then (some (-2)) else (bo (f_X7_isPiece x1 h) fun v4 => if v4 = 0 then (some (-11)) else (gd (inb x1 6) (lt ((h.1 97 (Int32.toNatClampNeg x1)) : Int32) fun v8 => if x2 = 0 then (some v8) else (if v8 = x2 then (some v8) else (if x2 = 1 then (if v8 = 4 then (some v8) else (f_X7_taken_J51 h x2 v8)) else (f_X7_taken_J51 h x2 v8))))))
set_option maxHeartbeats 4000000 in
set_option maxRecDepth 100000 in
theorem A_X7_taken (X : XE) (x1 : Int32) (x2 : Int32) (h : HP) (r : Int32) (hf : f_X7_taken x1 x2 h = some r) : CC mX7_taken 3 X [.ref (X.1 96), .int x1, .int x2] h (some (.int r)) h := by
  refine CC_of rfl (Nat.le_of_ble_eq_true rfl) ?_
  show Run mX7_taken 3 X 0 [(0, .ref (X.1 96)), (1, .int x1), (2, .int x2)] [] h (some (.int r)) h
  unfold f_X7_taken at hf
  refine r_aload_n 1 rfl 0 rfl rfl dX7_taken_0 ?_
  refine r_iload_n 2 rfl 2 rfl rfl dX7_taken_1 ?_
  refine r_iconst 3 rfl ic_0 dX7_taken_2 ?_
  refine r_bipush 5 rfl bp_6 dX7_taken_3 ?_
  obtain ⟨v1, e2, hf⟩ := bo_so hf
  refine r_callVi 8 rfl (A_X7_in X x2 0 6 h v1 e2) (by omega) cw_X7_276 sh_96 cl_7 rfl rfl (Nat.le_of_ble_eq_true rfl) dX7_taken_5 ?_
  rcases if_so hf with ⟨c3, hf⟩ | ⟨c3, hf⟩
  · refine r_if_ne_t 11 rfl 14 dX7_taken_8 (by decide) c3 ?_
    refine r_bipush 13 rfl bp_m2 dX7_taken_11 ?_
    obtain rfl := so1 hf
    exact r_iret rfl rfl dX7_taken_13
  · refine r_if_ne_f 14 dX7_taken_8 (by decide) c3 ?_
    refine r_aload_n 15 rfl 0 rfl rfl dX7_taken_14 ?_
    refine r_iload_n 16 rfl 1 rfl rfl dX7_taken_15 ?_
    obtain ⟨v4, e5, hf⟩ := bo_so hf
    refine r_callVi 19 rfl (A_X7_isPiece X x1 h v4 e5) (by omega) cw_X7_280 sh_96 cl_7 rfl rfl (Nat.le_of_ble_eq_true rfl) dX7_taken_16 ?_
    rcases if_so hf with ⟨c6, hf⟩ | ⟨c6, hf⟩
    · refine r_if_ne_t 22 rfl 25 dX7_taken_19 (by decide) c6 ?_
      refine r_bipush 24 rfl bp_m11 dX7_taken_22 ?_
      obtain rfl := so1 hf
      exact r_iret rfl rfl dX7_taken_24
    · refine r_if_ne_f 25 dX7_taken_19 (by decide) c6 ?_
      refine r_aload_n 26 rfl 0 rfl rfl dX7_taken_25 ?_
      refine r_getr (q := 97) 29 rfl (lq_7_6) sh_96 kd_7_6 fl_X7_28 dX7_taken_26 ?_
      refine r_iload_n 30 rfl 1 rfl rfl dX7_taken_29 ?_
      obtain ⟨b7, hf⟩ := gd_so hf
      refine r_iald 31 rfl sh_97 (inb_vp b7) dX7_taken_30 ?_
      obtain ⟨v8, e9, hf⟩ := lt_so hf
      refine r_top e9 ?_
      refine r_istore_n (lv' := [(3, .int v8), (0, .ref (X.1 96)), (1, .int x1), (2, .int x2)]) 32 rfl dX7_taken_31 (by decide) rfl rfl ?_
      refine r_iload_n 33 rfl 3 rfl rfl dX7_taken_32 ?_
      rcases if_so hf with ⟨c10, hf⟩ | ⟨c10, hf⟩
      · refine r_if_eq_t 72 dX7_taken_33 (by decide) c10 ?_
        refine r_iload_n 73 rfl 0 rfl rfl dX7_taken_72 ?_
        refine r_goto 78 dX7_taken_73 (by decide) ?_
        obtain rfl := so1 hf
        exact r_iret rfl rfl dX7_taken_78
      · refine r_if_eq_f 36 rfl 72 dX7_taken_33 (by decide) c10 ?_
        refine r_iload_n 37 rfl 0 rfl rfl dX7_taken_36 ?_
        refine r_iload_n 38 rfl 3 rfl rfl dX7_taken_37 ?_
        rcases if_so hf with ⟨c11, hf⟩ | ⟨c11, hf⟩
        · refine r_icmp_eq_t 72 dX7_taken_38 (by decide) c11 ?_
          refine r_iload_n 73 rfl 0 rfl rfl dX7_taken_72 ?_
          refine r_goto 78 dX7_taken_73 (by decide) ?_
          obtain rfl := so1 hf
          exact r_iret rfl rfl dX7_taken_78
        · refine r_icmp_eq_f 41 rfl 72 dX7_taken_38 (by decide) c11 ?_
          refine r_iload_n 42 rfl 3 rfl rfl dX7_taken_41 ?_
          refine r_iconst 43 rfl ic_1 dX7_taken_42 ?_
          rcases if_so hf with ⟨c12, hf⟩ | ⟨c12, hf⟩
          · refine r_icmp_ne_t 46 rfl 51 dX7_taken_43 (by decide) c12 ?_
            refine r_iload_n 47 rfl 0 rfl rfl dX7_taken_46 ?_
            refine r_iconst 48 rfl ic_4 dX7_taken_47 ?_
            rcases if_so hf with ⟨c13, hf⟩ | ⟨c13, hf⟩
            · refine r_icmp_eq_t 72 dX7_taken_48 (by decide) c13 ?_
              refine r_iload_n 73 rfl 0 rfl rfl dX7_taken_72 ?_
              refine r_goto 78 dX7_taken_73 (by decide) ?_
              obtain rfl := so1 hf
              exact r_iret rfl rfl dX7_taken_78
            · refine r_icmp_eq_f 51 rfl 72 dX7_taken_48 (by decide) c13 ?_
              refine r_sub (lv' := [(2, .int x2), (3, .int v8)]) [3, 0] rfl ?_
              exact A_X7_taken_J51 X h _ x2 v8 hf
          · refine r_icmp_ne_f 51 dX7_taken_43 (by decide) c12 ?_
            refine r_sub (lv' := [(2, .int x2), (3, .int v8)]) [3, 0] rfl ?_
            exact A_X7_taken_J51 X h _ x2 v8 hf
-- X7_count
def f_X7_count (x1 : Int32) (h : HP) : Option Int32 := if x1 = 0 then (some (h.1 96 0)) else (if x1 = 1 then (some (h.1 96 13)) else (if x1 = 2 then (some (h.1 96 1)) else (if x1 = 3 then (some (h.1 96 48)) else (if x1 = 4 then (some (h.1 96 51)) else (if x1 = 5 then (some (h.1 96 52)) else (if x1 = 6 then (some (h.1 96 15)) else (if x1 = 7 then (some (h.1 96 81)) else ((some (-2))))))))))
set_option maxHeartbeats 4000000 in
set_option maxRecDepth 100000 in
theorem A_X7_count (X : XE) (x1 : Int32) (h : HP) (r : Int32) (hf : f_X7_count x1 h = some r) : CC mX7_count 1 X [.ref (X.1 96), .int x1] h (some (.int r)) h := by
  refine CC_of rfl (Nat.le_of_ble_eq_true rfl) ?_
  show Run mX7_count 1 X 0 [(0, .ref (X.1 96)), (1, .int x1)] [] h (some (.int r)) h
  unfold f_X7_count at hf
  refine r_iload_n 1 rfl 1 rfl rfl dX7_count_0 ?_
  rcases if_so hf with ⟨c1, hf⟩ | ⟨c1, hf⟩
  · refine r_tsw_in (v := 0) 48 dX7_count_1 c1 (by decide) (by decide) rfl (by decide) ?_
    refine r_aload_n 49 rfl 0 rfl rfl dX7_count_48 ?_
    refine r_geti 52 rfl sh_96 kd_7_0 fl_X7_7 dX7_count_49 ?_
    obtain rfl := so1 hf
    exact r_iret rfl rfl dX7_count_52
  · skip
    rcases if_so hf with ⟨c2, hf⟩ | ⟨c2, hf⟩
    · refine r_tsw_in (v := 1) 53 dX7_count_1 c2 (by decide) (by decide) rfl (by decide) ?_
      refine r_aload_n 54 rfl 0 rfl rfl dX7_count_53 ?_
      refine r_geti 57 rfl sh_96 kd_7_13 fl_X7_50 dX7_count_54 ?_
      obtain rfl := so1 hf
      exact r_iret rfl rfl dX7_count_57
    · skip
      rcases if_so hf with ⟨c3, hf⟩ | ⟨c3, hf⟩
      · refine r_tsw_in (v := 2) 58 dX7_count_1 c3 (by decide) (by decide) rfl (by decide) ?_
        refine r_aload_n 59 rfl 0 rfl rfl dX7_count_58 ?_
        refine r_geti 62 rfl sh_96 kd_7_1 fl_X7_13 dX7_count_59 ?_
        obtain rfl := so1 hf
        exact r_iret rfl rfl dX7_count_62
      · skip
        rcases if_so hf with ⟨c4, hf⟩ | ⟨c4, hf⟩
        · refine r_tsw_in (v := 3) 63 dX7_count_1 c4 (by decide) (by decide) rfl (by decide) ?_
          refine r_aload_n 64 rfl 0 rfl rfl dX7_count_63 ?_
          refine r_geti 67 rfl sh_96 kd_7_48 fl_X7_157 dX7_count_64 ?_
          obtain rfl := so1 hf
          exact r_iret rfl rfl dX7_count_67
        · skip
          rcases if_so hf with ⟨c5, hf⟩ | ⟨c5, hf⟩
          · refine r_tsw_in (v := 4) 68 dX7_count_1 c5 (by decide) (by decide) rfl (by decide) ?_
            refine r_aload_n 69 rfl 0 rfl rfl dX7_count_68 ?_
            refine r_geti 72 rfl sh_96 kd_7_51 fl_X7_166 dX7_count_69 ?_
            obtain rfl := so1 hf
            exact r_iret rfl rfl dX7_count_72
          · skip
            rcases if_so hf with ⟨c6, hf⟩ | ⟨c6, hf⟩
            · refine r_tsw_in (v := 5) 73 dX7_count_1 c6 (by decide) (by decide) rfl (by decide) ?_
              refine r_aload_n 74 rfl 0 rfl rfl dX7_count_73 ?_
              refine r_geti 77 rfl sh_96 kd_7_52 fl_X7_169 dX7_count_74 ?_
              obtain rfl := so1 hf
              exact r_iret rfl rfl dX7_count_77
            · skip
              rcases if_so hf with ⟨c7, hf⟩ | ⟨c7, hf⟩
              · refine r_tsw_in (v := 6) 78 dX7_count_1 c7 (by decide) (by decide) rfl (by decide) ?_
                refine r_aload_n 79 rfl 0 rfl rfl dX7_count_78 ?_
                refine r_geti 82 rfl sh_96 kd_7_15 fl_X7_56 dX7_count_79 ?_
                obtain rfl := so1 hf
                exact r_iret rfl rfl dX7_count_82
              · skip
                rcases if_so hf with ⟨c8, hf⟩ | ⟨c8, hf⟩
                · refine r_tsw_in (v := 7) 83 dX7_count_1 c8 (by decide) (by decide) rfl (by decide) ?_
                  refine r_aload_n 84 rfl 0 rfl rfl dX7_count_83 ?_
                  refine r_geti 87 rfl sh_96 kd_7_81 fl_X7_257 dX7_count_84 ?_
                  obtain rfl := so1 hf
                  exact r_iret rfl rfl dX7_count_87
                · skip
                  have hx9 : x1.toInt < 0 ∨ (7 : Int) < x1.toInt := by
                    have h8 := tsw_o (x := x1) 0 8 (fun k hk => by
                      match k, hk with
                      | 0, _ => exact ne_int c1
                      | 1, _ => exact ne_int c2
                      | 2, _ => exact ne_int c3
                      | 3, _ => exact ne_int c4
                      | 4, _ => exact ne_int c5
                      | 5, _ => exact ne_int c6
                      | 6, _ => exact ne_int c7
                      | 7, _ => exact ne_int c8
                      | k + 8, hk => exact absurd hk (by omega))
                    exact h8
                  refine r_tsw_out 88 dX7_count_1 hx9 (by decide) ?_
                  refine r_bipush 90 rfl bp_m2 dX7_count_88 ?_
                  obtain rfl := so1 hf
                  exact r_iret rfl rfl dX7_count_90
-- X7_tape
def f_X7_tape_L69 : Nat → Int32 → Int32 → HP → Option (Int32 × HP)
  | 0, _, _, _ => none
  | n + 1, x1, x4, h => if (60 : Int32) ≤ x4 then (some (1, h)) else (gd (inb ((60 * x1) + x4) 360) (lt (sl h 143 (Int32.toNatClampNeg ((60 * x1) + x4)) 0) fun g18 => lt (x4 + 1 : Int32) fun v20 => f_X7_tape_L69 n x1 v20 g18))
set_option maxHeartbeats 4000000 in
set_option maxRecDepth 100000 in
theorem A_X7_tape_L69 (X : XE) (r : Int32) (h' : HP) : ∀ (n : Nat) (x1 : Int32) (x4 : Int32) (h : HP), f_X7_tape_L69 n x1 x4 h = some (r, h') → Run mX7_tape 3 X 69 [(0, .ref (X.1 96)), (1, .int x1), (4, .int x4)] [] h (some (.int r)) h' := by
  intro n
  induction n with
  | zero => intro x1 x4 h hf; cases hf
  | succ n ih =>
    intro x1 x4 h hf
    rw [f_X7_tape_L69] at hf
    refine r_iload 71 rfl 2 rfl dX7_tape_69 ?_
    refine r_bipush 73 rfl bp_60 dX7_tape_71 ?_
    rcases if_so hf with ⟨c16, hf⟩ | ⟨c16, hf⟩
    · refine r_icmp_ge_t 95 dX7_tape_73 (by decide) c16 ?_
      refine r_iconst 96 rfl ic_1 dX7_tape_95 ?_
      obtain ⟨rfl, rfl⟩ := so2 hf
      exact r_iret rfl rfl dX7_tape_96
    · refine r_icmp_ge_f 76 rfl 95 dX7_tape_73 (by decide) c16 ?_
      refine r_aload_n 77 rfl 0 rfl rfl dX7_tape_76 ?_
      refine r_getr (q := 143) 80 rfl (lq_7_85) sh_96 kd_7_85 fl_X7_269 dX7_tape_77 ?_
      refine r_bipush 82 rfl bp_60 dX7_tape_80 ?_
      refine r_iload_n 83 rfl 1 rfl rfl dX7_tape_82 ?_
      refine r_imul 84 rfl dX7_tape_83 ?_
      refine r_iload 86 rfl 2 rfl dX7_tape_84 ?_
      refine r_iadd 87 rfl dX7_tape_86 ?_
      refine r_lconst (v := 0) 88 rfl rfl dX7_tape_87 ?_
      obtain ⟨b17, hf⟩ := gd_so hf
      obtain ⟨g18, e19, hf⟩ := lt_so hf
      refine r_last 89 rfl sh_143 (inb_vp b17) dX7_tape_88 ?_
      refine r_heap e19 ?_
      obtain ⟨v20, e21, hf⟩ := lt_so hf
      refine r_iinc (lv' := [(4, .int v20), (0, .ref (X.1 96)), (1, .int x1)]) 92 rfl 2 dX7_tape_89 rfl (by rw [e21, ic_1]) (by decide) rfl ?_
      refine r_goto 69 dX7_tape_92 (by decide) ?_
      refine r_sub (lv' := [(0, .ref (X.1 96)), (1, .int x1), (4, .int v20)]) [1, 2, 0] rfl ?_
      exact ih x1 v20 g18 hf
def f_X7_tape_J44 (x1 : Int32) (x2 : Int32) (x3 : Int32) (h : HP) : Option (Int32 × HP) := gd (inb x1 6) (lt (si h 141 (Int32.toNatClampNeg x1) x2) fun g10 => if (0 : Int32) ≤ x2 then (gd (inb x1 6) (lt (si g10 142 (Int32.toNatClampNeg x1) x3) fun g14 => f_X7_tape_L69 FU x1 0 g14)) else (gd (inb x1 6) (lt (si g10 142 (Int32.toNatClampNeg x1) 0) fun g23 => f_X7_tape_L69 FU x1 0 g23)))
set_option maxHeartbeats 4000000 in
set_option maxRecDepth 100000 in
theorem A_X7_tape_J44 (X : XE) (r : Int32) (h' : HP) (x1 : Int32) (x2 : Int32) (x3 : Int32) (h : HP) (hf : f_X7_tape_J44 x1 x2 x3 h = some (r, h')) : Run mX7_tape 3 X 44 [(0, .ref (X.1 96)), (1, .int x1), (2, .int x2), (3, .int x3)] [] h (some (.int r)) h' := by
  unfold f_X7_tape_J44 at hf
  refine r_aload_n 45 rfl 0 rfl rfl dX7_tape_44 ?_
  refine r_getr (q := 141) 48 rfl (lq_7_83) sh_96 kd_7_83 fl_X7_263 dX7_tape_45 ?_
  refine r_iload_n 49 rfl 1 rfl rfl dX7_tape_48 ?_
  refine r_iload_n 50 rfl 2 rfl rfl dX7_tape_49 ?_
  obtain ⟨b9, hf⟩ := gd_so hf
  obtain ⟨g10, e11, hf⟩ := lt_so hf
  refine r_iast 51 rfl sh_141 (inb_vp b9) dX7_tape_50 ?_
  refine r_heap e11 ?_
  refine r_aload_n 52 rfl 0 rfl rfl dX7_tape_51 ?_
  refine r_getr (q := 142) 55 rfl (lq_7_84) sh_96 kd_7_84 fl_X7_266 dX7_tape_52 ?_
  refine r_iload_n 56 rfl 1 rfl rfl dX7_tape_55 ?_
  refine r_iload_n 57 rfl 2 rfl rfl dX7_tape_56 ?_
  rcases if_so hf with ⟨c12, hf⟩ | ⟨c12, hf⟩
  · refine r_if_ge_t 64 dX7_tape_57 (by decide) c12 ?_
    refine r_iload_n 65 rfl 3 rfl rfl dX7_tape_64 ?_
    obtain ⟨b13, hf⟩ := gd_so hf
    obtain ⟨g14, e15, hf⟩ := lt_so hf
    refine r_iast 66 rfl sh_142 (inb_vp b13) dX7_tape_65 ?_
    refine r_heap e15 ?_
    refine r_iconst 67 rfl ic_0 dX7_tape_66 ?_
    refine r_istore (lv' := [(4, .int 0), (0, .ref (X.1 96)), (1, .int x1), (2, .int x2), (3, .int x3)]) 69 rfl dX7_tape_67 (by decide) rfl ?_
    refine r_sub (lv' := [(0, .ref (X.1 96)), (1, .int x1), (4, .int 0)]) [1, 2, 0] rfl ?_
    exact A_X7_tape_L69 X _ _ FU x1 0 g14 hf
  · refine r_if_ge_f 60 rfl 64 dX7_tape_57 (by decide) c12 ?_
    refine r_iconst 61 rfl ic_0 dX7_tape_60 ?_
    refine r_goto 65 dX7_tape_61 (by decide) ?_
    obtain ⟨b22, hf⟩ := gd_so hf
    obtain ⟨g23, e24, hf⟩ := lt_so hf
    refine r_iast 66 rfl sh_142 (inb_vp b22) dX7_tape_65 ?_
    refine r_heap e24 ?_
    refine r_iconst 67 rfl ic_0 dX7_tape_66 ?_
    refine r_istore (lv' := [(4, .int 0), (0, .ref (X.1 96)), (1, .int x1), (2, .int x2), (3, .int x3)]) 69 rfl dX7_tape_67 (by decide) rfl ?_
    refine r_sub (lv' := [(0, .ref (X.1 96)), (1, .int x1), (4, .int 0)]) [1, 2, 0] rfl ?_
    exact A_X7_tape_L69 X _ _ FU x1 0 g23 hf
def f_X7_tape (x1 : Int32) (x2 : Int32) (x3 : Int32) (h : HP) : Option (Int32 × HP) := bo (f_X7_isTape x1) fun v1 => if v1 = 0 then (some ((-1), h)) else (bo (f_X7_in x2 (-1) 4) fun v4 => if v4 = 0 then (some ((-2), h)) else (if x2 < 0 then (if x2 < 0 then (f_X7_tape_J44 x1 x2 x3 h) else (if (0 : Int32) ≤ x3 then (f_X7_tape_J44 x1 x2 x3 h) else (some ((-14), h)))) else (if x3 ≤ 60 then (if x2 < 0 then (f_X7_tape_J44 x1 x2 x3 h) else (if (0 : Int32) ≤ x3 then (f_X7_tape_J44 x1 x2 x3 h) else (some ((-14), h)))) else (some ((-2), h)))))
set_option maxHeartbeats 4000000 in
set_option maxRecDepth 100000 in
theorem A_X7_tape (X : XE) (x1 : Int32) (x2 : Int32) (x3 : Int32) (h : HP) (r : Int32) (h' : HP) (hf : f_X7_tape x1 x2 x3 h = some (r, h')) : CC mX7_tape 3 X [.ref (X.1 96), .int x1, .int x2, .int x3] h (some (.int r)) h' := by
  refine CC_of rfl (Nat.le_of_ble_eq_true rfl) ?_
  show Run mX7_tape 3 X 0 [(0, .ref (X.1 96)), (1, .int x1), (2, .int x2), (3, .int x3)] [] h (some (.int r)) h'
  unfold f_X7_tape at hf
  refine r_aload_n 1 rfl 0 rfl rfl dX7_tape_0 ?_
  refine r_iload_n 2 rfl 1 rfl rfl dX7_tape_1 ?_
  obtain ⟨v1, e2, hf⟩ := bo_so hf
  refine r_callVi 5 rfl (A_X7_isTape X x1 h v1 e2) (by omega) cw_X7_440 sh_96 cl_7 rfl rfl (Nat.le_of_ble_eq_true rfl) dX7_tape_2 ?_
  rcases if_so hf with ⟨c3, hf⟩ | ⟨c3, hf⟩
  · refine r_if_ne_t 8 rfl 10 dX7_tape_5 (by decide) c3 ?_
    refine r_iconst 9 rfl ic_m1 dX7_tape_8 ?_
    obtain ⟨rfl, rfl⟩ := so2 hf
    exact r_iret rfl rfl dX7_tape_9
  · refine r_if_ne_f 10 dX7_tape_5 (by decide) c3 ?_
    refine r_aload_n 11 rfl 0 rfl rfl dX7_tape_10 ?_
    refine r_iload_n 12 rfl 2 rfl rfl dX7_tape_11 ?_
    refine r_iconst 13 rfl ic_m1 dX7_tape_12 ?_
    refine r_iconst 14 rfl ic_4 dX7_tape_13 ?_
    obtain ⟨v4, e5, hf⟩ := bo_so hf
    refine r_callVi 17 rfl (A_X7_in X x2 (-1) 4 h v4 e5) (by omega) cw_X7_276 sh_96 cl_7 rfl rfl (Nat.le_of_ble_eq_true rfl) dX7_tape_14 ?_
    rcases if_so hf with ⟨c6, hf⟩ | ⟨c6, hf⟩
    · refine r_if_eq_t 30 dX7_tape_17 (by decide) c6 ?_
      refine r_bipush 32 rfl bp_m2 dX7_tape_30 ?_
      obtain ⟨rfl, rfl⟩ := so2 hf
      exact r_iret rfl rfl dX7_tape_32
    · refine r_if_eq_f 20 rfl 30 dX7_tape_17 (by decide) c6 ?_
      refine r_iload_n 21 rfl 2 rfl rfl dX7_tape_20 ?_
      rcases if_so hf with ⟨c7, hf⟩ | ⟨c7, hf⟩
      · refine r_if_lt_t 33 dX7_tape_21 (by decide) c7 ?_
        refine r_iload_n 34 rfl 2 rfl rfl dX7_tape_33 ?_
        rcases if_so hf with ⟨c8, hf⟩ | ⟨c8, hf⟩
        · refine r_if_lt_t 44 dX7_tape_34 (by decide) c8 ?_
          refine r_sub (lv' := [(0, .ref (X.1 96)), (1, .int x1), (2, .int x2), (3, .int x3)]) [0, 1, 2, 3] rfl ?_
          exact A_X7_tape_J44 X _ _ x1 x2 x3 h hf
        · refine r_if_lt_f 37 rfl 44 dX7_tape_34 (by decide) c8 ?_
          refine r_iload_n 38 rfl 3 rfl rfl dX7_tape_37 ?_
          rcases if_so hf with ⟨c25, hf⟩ | ⟨c25, hf⟩
          · refine r_if_ge_t 44 dX7_tape_38 (by decide) c25 ?_
            refine r_sub (lv' := [(0, .ref (X.1 96)), (1, .int x1), (2, .int x2), (3, .int x3)]) [0, 1, 2, 3] rfl ?_
            exact A_X7_tape_J44 X _ _ x1 x2 x3 h hf
          · refine r_if_ge_f 41 rfl 44 dX7_tape_38 (by decide) c25 ?_
            refine r_bipush 43 rfl bp_m14 dX7_tape_41 ?_
            obtain ⟨rfl, rfl⟩ := so2 hf
            exact r_iret rfl rfl dX7_tape_43
      · refine r_if_lt_f 24 rfl 33 dX7_tape_21 (by decide) c7 ?_
        refine r_iload_n 25 rfl 3 rfl rfl dX7_tape_24 ?_
        refine r_bipush 27 rfl bp_60 dX7_tape_25 ?_
        rcases if_so hf with ⟨c26, hf⟩ | ⟨c26, hf⟩
        · refine r_icmp_le_t 33 dX7_tape_27 (by decide) c26 ?_
          refine r_iload_n 34 rfl 2 rfl rfl dX7_tape_33 ?_
          rcases if_so hf with ⟨c27, hf⟩ | ⟨c27, hf⟩
          · refine r_if_lt_t 44 dX7_tape_34 (by decide) c27 ?_
            refine r_sub (lv' := [(0, .ref (X.1 96)), (1, .int x1), (2, .int x2), (3, .int x3)]) [0, 1, 2, 3] rfl ?_
            exact A_X7_tape_J44 X _ _ x1 x2 x3 h hf
          · refine r_if_lt_f 37 rfl 44 dX7_tape_34 (by decide) c27 ?_
            refine r_iload_n 38 rfl 3 rfl rfl dX7_tape_37 ?_
            rcases if_so hf with ⟨c28, hf⟩ | ⟨c28, hf⟩
            · refine r_if_ge_t 44 dX7_tape_38 (by decide) c28 ?_
              refine r_sub (lv' := [(0, .ref (X.1 96)), (1, .int x1), (2, .int x2), (3, .int x3)]) [0, 1, 2, 3] rfl ?_
              exact A_X7_tape_J44 X _ _ x1 x2 x3 h hf
            · refine r_if_ge_f 41 rfl 44 dX7_tape_38 (by decide) c28 ?_
              refine r_bipush 43 rfl bp_m14 dX7_tape_41 ?_
              obtain ⟨rfl, rfl⟩ := so2 hf
              exact r_iret rfl rfl dX7_tape_43
        · refine r_icmp_le_f 30 rfl 33 dX7_tape_27 (by decide) c26 ?_
          refine r_bipush 32 rfl bp_m2 dX7_tape_30 ?_
          obtain ⟨rfl, rfl⟩ := so2 hf
          exact r_iret rfl rfl dX7_tape_32
-- X7_narrow
def f_X7_narrow (x1 : Int32) (y2 : Int64) : Option Int64 := if x1 = 0 then (some (Int32.toInt64 (Int8.toInt32 (Int32.toInt8 (Int64.toInt32 y2))))) else (if x1 = 1 then (some (Int32.toInt64 (Int16.toInt32 (Int32.toInt16 (Int64.toInt32 y2))))) else (if x1 = 2 then (some (Int32.toInt64 (Int64.toInt32 y2))) else (if x1 = 4 then (if (lg_cmp y2 0) = 0 then (some 0) else (some 1)) else (some y2))))
set_option maxHeartbeats 4000000 in
set_option maxRecDepth 100000 in
theorem A_X7_narrow (X : XE) (x1 : Int32) (y2 : Int64) (h : HP) (r : Int64) (hf : f_X7_narrow x1 y2 = some r) : CC mX7_narrow 1 X [.ref (X.1 96), .int x1, .long y2] h (some (.long r)) h := by
  refine CC_of rfl (Nat.le_of_ble_eq_true rfl) ?_
  show Run mX7_narrow 1 X 0 [(0, .ref (X.1 96)), (1, .int x1), (2, .long y2)] [] h (some (.long r)) h
  unfold f_X7_narrow at hf
  refine r_iload_n 1 rfl 1 rfl rfl dX7_narrow_0 ?_
  rcases if_so hf with ⟨c1, hf⟩ | ⟨c1, hf⟩
  · refine r_if_ne_t 4 rfl 11 dX7_narrow_1 (by decide) c1 ?_
    refine r_lload_n 5 rfl 2 rfl rfl dX7_narrow_4 ?_
    refine r_l2i 6 rfl dX7_narrow_5 ?_
    refine r_i2b 7 rfl dX7_narrow_6 ?_
    refine r_i2l 8 rfl dX7_narrow_7 ?_
    refine r_goto 54 dX7_narrow_8 (by decide) ?_
    obtain rfl := so1 hf
    exact r_lret rfl dX7_narrow_54
  · refine r_if_ne_f 11 dX7_narrow_1 (by decide) c1 ?_
    refine r_iload_n 12 rfl 1 rfl rfl dX7_narrow_11 ?_
    refine r_iconst 13 rfl ic_1 dX7_narrow_12 ?_
    rcases if_so hf with ⟨c2, hf⟩ | ⟨c2, hf⟩
    · refine r_icmp_ne_t 16 rfl 23 dX7_narrow_13 (by decide) c2 ?_
      refine r_lload_n 17 rfl 2 rfl rfl dX7_narrow_16 ?_
      refine r_l2i 18 rfl dX7_narrow_17 ?_
      refine r_i2s 19 rfl dX7_narrow_18 ?_
      refine r_i2l 20 rfl dX7_narrow_19 ?_
      refine r_goto 54 dX7_narrow_20 (by decide) ?_
      obtain rfl := so1 hf
      exact r_lret rfl dX7_narrow_54
    · refine r_icmp_ne_f 23 dX7_narrow_13 (by decide) c2 ?_
      refine r_iload_n 24 rfl 1 rfl rfl dX7_narrow_23 ?_
      refine r_iconst 25 rfl ic_2 dX7_narrow_24 ?_
      rcases if_so hf with ⟨c3, hf⟩ | ⟨c3, hf⟩
      · refine r_icmp_ne_t 28 rfl 34 dX7_narrow_25 (by decide) c3 ?_
        refine r_lload_n 29 rfl 2 rfl rfl dX7_narrow_28 ?_
        refine r_l2i 30 rfl dX7_narrow_29 ?_
        refine r_i2l 31 rfl dX7_narrow_30 ?_
        refine r_goto 54 dX7_narrow_31 (by decide) ?_
        obtain rfl := so1 hf
        exact r_lret rfl dX7_narrow_54
      · refine r_icmp_ne_f 34 dX7_narrow_25 (by decide) c3 ?_
        refine r_iload_n 35 rfl 1 rfl rfl dX7_narrow_34 ?_
        refine r_iconst 36 rfl ic_4 dX7_narrow_35 ?_
        rcases if_so hf with ⟨c4, hf⟩ | ⟨c4, hf⟩
        · refine r_icmp_ne_t 39 rfl 53 dX7_narrow_36 (by decide) c4 ?_
          refine r_lload_n 40 rfl 2 rfl rfl dX7_narrow_39 ?_
          refine r_lconst (v := 0) 41 rfl rfl dX7_narrow_40 ?_
          refine r_lcmp 42 rfl dX7_narrow_41 ?_
          rcases if_so hf with ⟨c5, hf⟩ | ⟨c5, hf⟩
          · refine r_if_eq_t 49 dX7_narrow_42 (by decide) c5 ?_
            refine r_lconst (v := 0) 50 rfl rfl dX7_narrow_49 ?_
            refine r_goto 54 dX7_narrow_50 (by decide) ?_
            obtain rfl := so1 hf
            exact r_lret rfl dX7_narrow_54
          · refine r_if_eq_f 45 rfl 49 dX7_narrow_42 (by decide) c5 ?_
            refine r_lconst (v := 1) 46 rfl rfl dX7_narrow_45 ?_
            refine r_goto 54 dX7_narrow_46 (by decide) ?_
            obtain rfl := so1 hf
            exact r_lret rfl dX7_narrow_54
        · refine r_icmp_ne_f 53 dX7_narrow_36 (by decide) c4 ?_
          refine r_lload_n 54 rfl 2 rfl rfl dX7_narrow_53 ?_
          obtain rfl := so1 hf
          exact r_lret rfl dX7_narrow_54
-- X7_item
def f_X7_item (x1 : Int32) (x2 : Int32) (y3 : Int64) (h : HP) : Option (Int32 × HP) := bo (f_X7_isTape x1) fun v1 => if v1 = 0 then (some ((-1), h)) else (gd (inb x1 6) (if (0 : Int32) ≤ (h.1 141 (Int32.toNatClampNeg x1)) then (gd (inb x1 6) (bo (f_X7_in x2 0 ((h.1 142 (Int32.toNatClampNeg x1)) - 1)) fun v7 => if v7 = 0 then (some ((-13), h)) else (gd (inb x1 6) (bo (f_X7_narrow (h.1 141 (Int32.toNatClampNeg x1)) y3) fun v11 => gd (inb ((60 * x1) + x2) 360) (lt (sl h 143 (Int32.toNatClampNeg ((60 * x1) + x2)) v11) fun g14 => some (1, g14)))))) else (some ((-11), h))))
set_option maxHeartbeats 4000000 in
set_option maxRecDepth 100000 in
theorem A_X7_item (X : XE) (x1 : Int32) (x2 : Int32) (y3 : Int64) (h : HP) (r : Int32) (h' : HP) (hf : f_X7_item x1 x2 y3 h = some (r, h')) : CC mX7_item 3 X [.ref (X.1 96), .int x1, .int x2, .long y3] h (some (.int r)) h' := by
  refine CC_of rfl (Nat.le_of_ble_eq_true rfl) ?_
  show Run mX7_item 3 X 0 [(0, .ref (X.1 96)), (1, .int x1), (2, .int x2), (3, .long y3)] [] h (some (.int r)) h'
  unfold f_X7_item at hf
  refine r_aload_n 1 rfl 0 rfl rfl dX7_item_0 ?_
  refine r_iload_n 2 rfl 1 rfl rfl dX7_item_1 ?_
  obtain ⟨v1, e2, hf⟩ := bo_so hf
  refine r_callVi 5 rfl (A_X7_isTape X x1 h v1 e2) (by omega) cw_X7_440 sh_96 cl_7 rfl rfl (Nat.le_of_ble_eq_true rfl) dX7_item_2 ?_
  rcases if_so hf with ⟨c3, hf⟩ | ⟨c3, hf⟩
  · refine r_if_ne_t 8 rfl 10 dX7_item_5 (by decide) c3 ?_
    refine r_iconst 9 rfl ic_m1 dX7_item_8 ?_
    obtain ⟨rfl, rfl⟩ := so2 hf
    exact r_iret rfl rfl dX7_item_9
  · refine r_if_ne_f 10 dX7_item_5 (by decide) c3 ?_
    refine r_aload_n 11 rfl 0 rfl rfl dX7_item_10 ?_
    refine r_getr (q := 141) 14 rfl (lq_7_83) sh_96 kd_7_83 fl_X7_263 dX7_item_11 ?_
    refine r_iload_n 15 rfl 1 rfl rfl dX7_item_14 ?_
    obtain ⟨b4, hf⟩ := gd_so hf
    refine r_iald 16 rfl sh_141 (inb_vp b4) dX7_item_15 ?_
    rcases if_so hf with ⟨c5, hf⟩ | ⟨c5, hf⟩
    · refine r_if_ge_t 22 dX7_item_16 (by decide) c5 ?_
      refine r_aload_n 23 rfl 0 rfl rfl dX7_item_22 ?_
      refine r_iload_n 24 rfl 2 rfl rfl dX7_item_23 ?_
      refine r_iconst 25 rfl ic_0 dX7_item_24 ?_
      refine r_aload_n 26 rfl 0 rfl rfl dX7_item_25 ?_
      refine r_getr (q := 142) 29 rfl (lq_7_84) sh_96 kd_7_84 fl_X7_266 dX7_item_26 ?_
      refine r_iload_n 30 rfl 1 rfl rfl dX7_item_29 ?_
      obtain ⟨b6, hf⟩ := gd_so hf
      refine r_iald 31 rfl sh_142 (inb_vp b6) dX7_item_30 ?_
      refine r_iconst 32 rfl ic_1 dX7_item_31 ?_
      refine r_isub 33 rfl dX7_item_32 ?_
      obtain ⟨v7, e8, hf⟩ := bo_so hf
      refine r_callVi 36 rfl (A_X7_in X x2 0 ((h.1 142 (Int32.toNatClampNeg x1)) - 1) h v7 e8) (by omega) cw_X7_276 sh_96 cl_7 rfl rfl (Nat.le_of_ble_eq_true rfl) dX7_item_33 ?_
      rcases if_so hf with ⟨c9, hf⟩ | ⟨c9, hf⟩
      · refine r_if_ne_t 39 rfl 42 dX7_item_36 (by decide) c9 ?_
        refine r_bipush 41 rfl bp_m13 dX7_item_39 ?_
        obtain ⟨rfl, rfl⟩ := so2 hf
        exact r_iret rfl rfl dX7_item_41
      · refine r_if_ne_f 42 dX7_item_36 (by decide) c9 ?_
        refine r_aload_n 43 rfl 0 rfl rfl dX7_item_42 ?_
        refine r_getr (q := 143) 46 rfl (lq_7_85) sh_96 kd_7_85 fl_X7_269 dX7_item_43 ?_
        refine r_bipush 48 rfl bp_60 dX7_item_46 ?_
        refine r_iload_n 49 rfl 1 rfl rfl dX7_item_48 ?_
        refine r_imul 50 rfl dX7_item_49 ?_
        refine r_iload_n 51 rfl 2 rfl rfl dX7_item_50 ?_
        refine r_iadd 52 rfl dX7_item_51 ?_
        refine r_aload_n 53 rfl 0 rfl rfl dX7_item_52 ?_
        refine r_aload_n 54 rfl 0 rfl rfl dX7_item_53 ?_
        refine r_getr (q := 141) 57 rfl (lq_7_83) sh_96 kd_7_83 fl_X7_263 dX7_item_54 ?_
        refine r_iload_n 58 rfl 1 rfl rfl dX7_item_57 ?_
        obtain ⟨b10, hf⟩ := gd_so hf
        refine r_iald 59 rfl sh_141 (inb_vp b10) dX7_item_58 ?_
        refine r_lload_n 60 rfl 3 rfl rfl dX7_item_59 ?_
        obtain ⟨v11, e12, hf⟩ := bo_so hf
        refine r_callVl 63 rfl (A_X7_narrow X (h.1 141 (Int32.toNatClampNeg x1)) y3 h v11 e12) (by omega) cw_X7_467 sh_96 cl_7 rfl rfl (Nat.le_of_ble_eq_true rfl) dX7_item_60 ?_
        obtain ⟨b13, hf⟩ := gd_so hf
        obtain ⟨g14, e15, hf⟩ := lt_so hf
        refine r_last 64 rfl sh_143 (inb_vp b13) dX7_item_63 ?_
        refine r_heap e15 ?_
        refine r_iconst 65 rfl ic_1 dX7_item_64 ?_
        obtain ⟨rfl, rfl⟩ := so2 hf
        exact r_iret rfl rfl dX7_item_65
    · refine r_if_ge_f 19 rfl 22 dX7_item_16 (by decide) c5 ?_
      refine r_bipush 21 rfl bp_m11 dX7_item_19 ?_
      obtain ⟨rfl, rfl⟩ := so2 hf
      exact r_iret rfl rfl dX7_item_21
-- X7_read
def f_X7_read (x1 : Int32) (x2 : Int32) (h : HP) : Option Int64 := bo (f_X7_isTape x1) fun v1 => if v1 = 0 then (some (-9223372036854775808)) else (gd (inb x1 6) (if (h.1 141 (Int32.toNatClampNeg x1)) < 0 then (some (-9223372036854775808)) else (gd (inb x1 6) (bo (f_X7_in x2 0 ((h.1 142 (Int32.toNatClampNeg x1)) - 1)) fun v7 => if v7 = 0 then (some (-9223372036854775808)) else (gd (inb ((60 * x1) + x2) 360) (some (h.2.1 143 (Int32.toNatClampNeg ((60 * x1) + x2)))))))))
set_option maxHeartbeats 4000000 in
set_option maxRecDepth 100000 in
theorem A_X7_read (X : XE) (x1 : Int32) (x2 : Int32) (h : HP) (r : Int64) (hf : f_X7_read x1 x2 h = some r) : CC mX7_read 3 X [.ref (X.1 96), .int x1, .int x2] h (some (.long r)) h := by
  refine CC_of rfl (Nat.le_of_ble_eq_true rfl) ?_
  show Run mX7_read 3 X 0 [(0, .ref (X.1 96)), (1, .int x1), (2, .int x2)] [] h (some (.long r)) h
  unfold f_X7_read at hf
  refine r_aload_n 1 rfl 0 rfl rfl dX7_read_0 ?_
  refine r_iload_n 2 rfl 1 rfl rfl dX7_read_1 ?_
  obtain ⟨v1, e2, hf⟩ := bo_so hf
  refine r_callVi 5 rfl (A_X7_isTape X x1 h v1 e2) (by omega) cw_X7_440 sh_96 cl_7 rfl rfl (Nat.le_of_ble_eq_true rfl) dX7_read_2 ?_
  rcases if_so hf with ⟨c3, hf⟩ | ⟨c3, hf⟩
  · refine r_if_eq_t 34 dX7_read_5 (by decide) c3 ?_
    refine r_ldc2 37 rfl cn_X7_430 dX7_read_34 ?_
    refine r_goto 51 dX7_read_37 (by decide) ?_
    obtain rfl := so1 hf
    exact r_lret rfl dX7_read_51
  · refine r_if_eq_f 8 rfl 34 dX7_read_5 (by decide) c3 ?_
    refine r_aload_n 9 rfl 0 rfl rfl dX7_read_8 ?_
    refine r_getr (q := 141) 12 rfl (lq_7_83) sh_96 kd_7_83 fl_X7_263 dX7_read_9 ?_
    refine r_iload_n 13 rfl 1 rfl rfl dX7_read_12 ?_
    obtain ⟨b4, hf⟩ := gd_so hf
    refine r_iald 14 rfl sh_141 (inb_vp b4) dX7_read_13 ?_
    rcases if_so hf with ⟨c5, hf⟩ | ⟨c5, hf⟩
    · refine r_if_lt_t 34 dX7_read_14 (by decide) c5 ?_
      refine r_ldc2 37 rfl cn_X7_430 dX7_read_34 ?_
      refine r_goto 51 dX7_read_37 (by decide) ?_
      obtain rfl := so1 hf
      exact r_lret rfl dX7_read_51
    · refine r_if_lt_f 17 rfl 34 dX7_read_14 (by decide) c5 ?_
      refine r_aload_n 18 rfl 0 rfl rfl dX7_read_17 ?_
      refine r_iload_n 19 rfl 2 rfl rfl dX7_read_18 ?_
      refine r_iconst 20 rfl ic_0 dX7_read_19 ?_
      refine r_aload_n 21 rfl 0 rfl rfl dX7_read_20 ?_
      refine r_getr (q := 142) 24 rfl (lq_7_84) sh_96 kd_7_84 fl_X7_266 dX7_read_21 ?_
      refine r_iload_n 25 rfl 1 rfl rfl dX7_read_24 ?_
      obtain ⟨b6, hf⟩ := gd_so hf
      refine r_iald 26 rfl sh_142 (inb_vp b6) dX7_read_25 ?_
      refine r_iconst 27 rfl ic_1 dX7_read_26 ?_
      refine r_isub 28 rfl dX7_read_27 ?_
      obtain ⟨v7, e8, hf⟩ := bo_so hf
      refine r_callVi 31 rfl (A_X7_in X x2 0 ((h.1 142 (Int32.toNatClampNeg x1)) - 1) h v7 e8) (by omega) cw_X7_276 sh_96 cl_7 rfl rfl (Nat.le_of_ble_eq_true rfl) dX7_read_28 ?_
      rcases if_so hf with ⟨c9, hf⟩ | ⟨c9, hf⟩
      · refine r_if_ne_t 34 rfl 40 dX7_read_31 (by decide) c9 ?_
        refine r_ldc2 37 rfl cn_X7_430 dX7_read_34 ?_
        refine r_goto 51 dX7_read_37 (by decide) ?_
        obtain rfl := so1 hf
        exact r_lret rfl dX7_read_51
      · refine r_if_ne_f 40 dX7_read_31 (by decide) c9 ?_
        refine r_aload_n 41 rfl 0 rfl rfl dX7_read_40 ?_
        refine r_getr (q := 143) 44 rfl (lq_7_85) sh_96 kd_7_85 fl_X7_269 dX7_read_41 ?_
        refine r_bipush 46 rfl bp_60 dX7_read_44 ?_
        refine r_iload_n 47 rfl 1 rfl rfl dX7_read_46 ?_
        refine r_imul 48 rfl dX7_read_47 ?_
        refine r_iload_n 49 rfl 2 rfl rfl dX7_read_48 ?_
        refine r_iadd 50 rfl dX7_read_49 ?_
        obtain ⟨b10, hf⟩ := gd_so hf
        refine r_lald 51 rfl sh_143 (inb_vp b10) dX7_read_50 ?_
        obtain rfl := so1 hf
        exact r_lret rfl dX7_read_51
-- X7_shift
def f_X7_shift_L141 : Nat → Int32 → Int32 → Int32 → Int32 → HP → Option (Int32 × HP)
  | 0, _, _, _, _, _ => none
  | n + 1, x3, x4, x5, x6, h => if x5 ≤ x6 then (some (x5, h)) else (gd (inb x6 60) (gd (inb (((60 * x3) + x4) + x6) 360) (lt (sl h 143 (Int32.toNatClampNeg (((60 * x3) + x4) + x6)) (h.2.1 144 (Int32.toNatClampNeg x6))) fun g25 => lt (x6 + 1 : Int32) fun v27 => f_X7_shift_L141 n x3 x4 x5 v27 g25)))
set_option maxHeartbeats 4000000 in
set_option maxRecDepth 100000 in
theorem A_X7_shift_L141 (X : XE) (r : Int32) (h' : HP) : ∀ (n : Nat) (x3 : Int32) (x4 : Int32) (x5 : Int32) (x6 : Int32) (h : HP), f_X7_shift_L141 n x3 x4 x5 x6 h = some (r, h') → Run mX7_shift 3 X 141 [(0, .ref (X.1 96)), (3, .int x3), (4, .int x4), (5, .int x5), (6, .int x6)] [] h (some (.int r)) h' := by
  intro n
  induction n with
  | zero => intro x3 x4 x5 x6 h hf; cases hf
  | succ n ih =>
    intro x3 x4 x5 x6 h hf
    rw [f_X7_shift_L141] at hf
    refine r_iload 143 rfl 4 rfl dX7_shift_141 ?_
    refine r_iload 145 rfl 3 rfl dX7_shift_143 ?_
    rcases if_so hf with ⟨c22, hf⟩ | ⟨c22, hf⟩
    · refine r_icmp_ge_t 176 dX7_shift_145 (by decide) c22 ?_
      refine r_iload 178 rfl 3 rfl dX7_shift_176 ?_
      obtain ⟨rfl, rfl⟩ := so2 hf
      exact r_iret rfl rfl dX7_shift_178
    · refine r_icmp_ge_f 148 rfl 176 dX7_shift_145 (by decide) c22 ?_
      refine r_aload_n 149 rfl 0 rfl rfl dX7_shift_148 ?_
      refine r_getr (q := 143) 152 rfl (lq_7_85) sh_96 kd_7_85 fl_X7_269 dX7_shift_149 ?_
      refine r_bipush 154 rfl bp_60 dX7_shift_152 ?_
      refine r_iload_n 155 rfl 1 rfl rfl dX7_shift_154 ?_
      refine r_imul 156 rfl dX7_shift_155 ?_
      refine r_iload 158 rfl 2 rfl dX7_shift_156 ?_
      refine r_iadd 159 rfl dX7_shift_158 ?_
      refine r_iload 161 rfl 4 rfl dX7_shift_159 ?_
      refine r_iadd 162 rfl dX7_shift_161 ?_
      refine r_aload_n 163 rfl 0 rfl rfl dX7_shift_162 ?_
      refine r_getr (q := 144) 166 rfl (lq_7_86) sh_96 kd_7_86 fl_X7_273 dX7_shift_163 ?_
      refine r_iload 168 rfl 4 rfl dX7_shift_166 ?_
      obtain ⟨b23, hf⟩ := gd_so hf
      refine r_lald 169 rfl sh_144 (inb_vp b23) dX7_shift_168 ?_
      obtain ⟨b24, hf⟩ := gd_so hf
      obtain ⟨g25, e26, hf⟩ := lt_so hf
      refine r_last 170 rfl sh_143 (inb_vp b24) dX7_shift_169 ?_
      refine r_heap e26 ?_
      obtain ⟨v27, e28, hf⟩ := lt_so hf
      refine r_iinc (lv' := [(6, .int v27), (0, .ref (X.1 96)), (3, .int x3), (4, .int x4), (5, .int x5)]) 173 rfl 4 dX7_shift_170 rfl (by rw [e28, ic_1]) (by decide) rfl ?_
      refine r_goto 141 dX7_shift_173 (by decide) ?_
      refine r_sub (lv' := [(0, .ref (X.1 96)), (3, .int x3), (4, .int x4), (5, .int x5), (6, .int v27)]) [1, 2, 3, 4, 0] rfl ?_
      exact ih x3 x4 x5 v27 g25 hf
def f_X7_shift_L104 : Nat → Int32 → Int32 → Int32 → Int32 → Int32 → Int32 → HP → Option (Int32 × HP)
  | 0, _, _, _, _, _, _, _ => none
  | n + 1, x1, x2, x3, x4, x5, x6, h => if x5 ≤ x6 then (f_X7_shift_L141 FU x3 x4 x5 0 h) else (gd (inb (((60 * x1) + x2) + x6) 360) (gd (inb x6 60) (lt (sl h 144 (Int32.toNatClampNeg x6) (h.2.1 143 (Int32.toNatClampNeg (((60 * x1) + x2) + x6)))) fun g31 => lt (x6 + 1 : Int32) fun v33 => f_X7_shift_L104 n x1 x2 x3 x4 x5 v33 g31)))
set_option maxHeartbeats 4000000 in
set_option maxRecDepth 100000 in
theorem A_X7_shift_L104 (X : XE) (r : Int32) (h' : HP) : ∀ (n : Nat) (x1 : Int32) (x2 : Int32) (x3 : Int32) (x4 : Int32) (x5 : Int32) (x6 : Int32) (h : HP), f_X7_shift_L104 n x1 x2 x3 x4 x5 x6 h = some (r, h') → Run mX7_shift 3 X 104 [(0, .ref (X.1 96)), (1, .int x1), (2, .int x2), (3, .int x3), (4, .int x4), (5, .int x5), (6, .int x6)] [] h (some (.int r)) h' := by
  intro n
  induction n with
  | zero => intro x1 x2 x3 x4 x5 x6 h hf; cases hf
  | succ n ih =>
    intro x1 x2 x3 x4 x5 x6 h hf
    rw [f_X7_shift_L104] at hf
    refine r_iload 106 rfl 6 rfl dX7_shift_104 ?_
    refine r_iload 108 rfl 5 rfl dX7_shift_106 ?_
    rcases if_so hf with ⟨c21, hf⟩ | ⟨c21, hf⟩
    · refine r_icmp_ge_t 138 dX7_shift_108 (by decide) c21 ?_
      refine r_iconst 139 rfl ic_0 dX7_shift_138 ?_
      refine r_istore (lv' := [(6, .int 0), (0, .ref (X.1 96)), (1, .int x1), (2, .int x2), (3, .int x3), (4, .int x4), (5, .int x5)]) 141 rfl dX7_shift_139 (by decide) rfl ?_
      refine r_sub (lv' := [(0, .ref (X.1 96)), (3, .int x3), (4, .int x4), (5, .int x5), (6, .int 0)]) [1, 4, 5, 6, 0] rfl ?_
      exact A_X7_shift_L141 X _ _ FU x3 x4 x5 0 h hf
    · refine r_icmp_ge_f 111 rfl 138 dX7_shift_108 (by decide) c21 ?_
      refine r_aload_n 112 rfl 0 rfl rfl dX7_shift_111 ?_
      refine r_getr (q := 144) 115 rfl (lq_7_86) sh_96 kd_7_86 fl_X7_273 dX7_shift_112 ?_
      refine r_iload 117 rfl 6 rfl dX7_shift_115 ?_
      refine r_aload_n 118 rfl 0 rfl rfl dX7_shift_117 ?_
      refine r_getr (q := 143) 121 rfl (lq_7_85) sh_96 kd_7_85 fl_X7_269 dX7_shift_118 ?_
      refine r_bipush 123 rfl bp_60 dX7_shift_121 ?_
      refine r_iload_n 124 rfl 1 rfl rfl dX7_shift_123 ?_
      refine r_imul 125 rfl dX7_shift_124 ?_
      refine r_iload_n 126 rfl 2 rfl rfl dX7_shift_125 ?_
      refine r_iadd 127 rfl dX7_shift_126 ?_
      refine r_iload 129 rfl 6 rfl dX7_shift_127 ?_
      refine r_iadd 130 rfl dX7_shift_129 ?_
      obtain ⟨b29, hf⟩ := gd_so hf
      refine r_lald 131 rfl sh_143 (inb_vp b29) dX7_shift_130 ?_
      obtain ⟨b30, hf⟩ := gd_so hf
      obtain ⟨g31, e32, hf⟩ := lt_so hf
      refine r_last 132 rfl sh_144 (inb_vp b30) dX7_shift_131 ?_
      refine r_heap e32 ?_
      obtain ⟨v33, e34, hf⟩ := lt_so hf
      refine r_iinc (lv' := [(6, .int v33), (0, .ref (X.1 96)), (1, .int x1), (2, .int x2), (3, .int x3), (4, .int x4), (5, .int x5)]) 135 rfl 6 dX7_shift_132 rfl (by rw [e34, ic_1]) (by decide) rfl ?_
      refine r_goto 104 dX7_shift_135 (by decide) ?_
      refine r_sub (lv' := [(0, .ref (X.1 96)), (1, .int x1), (2, .int x2), (3, .int x3), (4, .int x4), (5, .int x5), (6, .int v33)]) [1, 2, 3, 4, 5, 6, 0] rfl ?_
      exact ih x1 x2 x3 x4 x5 v33 g31 hf
def f_X7_shift (x1 : Int32) (x2 : Int32) (x3 : Int32) (x4 : Int32) (x5 : Int32) (h : HP) : Option (Int32 × HP) := bo (f_X7_isTape x1) fun v1 => if v1 = 0 then (some ((-1), h)) else (bo (f_X7_isTape x3) fun v4 => if v4 = 0 then (some ((-1), h)) else (gd (inb x1 6) (if (h.1 141 (Int32.toNatClampNeg x1)) < 0 then (some ((-11), h)) else (gd (inb x3 6) (if (0 : Int32) ≤ (h.1 141 (Int32.toNatClampNeg x3)) then (gd (inb x1 6) (gd (inb x3 6) (if (h.1 141 (Int32.toNatClampNeg x1)) = (h.1 141 (Int32.toNatClampNeg x3)) then (if x5 < 0 then (some ((-13), h)) else (if x2 < 0 then (some ((-13), h)) else (if x4 < 0 then (some ((-13), h)) else (gd (inb x1 6) (if ((h.1 142 (Int32.toNatClampNeg x1)) - x5) < x2 then (some ((-13), h)) else (gd (inb x3 6) (if x4 ≤ ((h.1 142 (Int32.toNatClampNeg x3)) - x5) then (f_X7_shift_L104 FU x1 x2 x3 x4 x5 0 h) else (some ((-13), h))))))))) else (some ((-12), h))))) else (some ((-11), h)))))))
set_option maxHeartbeats 4000000 in
set_option maxRecDepth 100000 in
theorem A_X7_shift (X : XE) (x1 : Int32) (x2 : Int32) (x3 : Int32) (x4 : Int32) (x5 : Int32) (h : HP) (r : Int32) (h' : HP) (hf : f_X7_shift x1 x2 x3 x4 x5 h = some (r, h')) : CC mX7_shift 3 X [.ref (X.1 96), .int x1, .int x2, .int x3, .int x4, .int x5] h (some (.int r)) h' := by
  refine CC_of rfl (Nat.le_of_ble_eq_true rfl) ?_
  show Run mX7_shift 3 X 0 [(0, .ref (X.1 96)), (1, .int x1), (2, .int x2), (3, .int x3), (4, .int x4), (5, .int x5)] [] h (some (.int r)) h'
  unfold f_X7_shift at hf
  refine r_aload_n 1 rfl 0 rfl rfl dX7_shift_0 ?_
  refine r_iload_n 2 rfl 1 rfl rfl dX7_shift_1 ?_
  obtain ⟨v1, e2, hf⟩ := bo_so hf
  refine r_callVi 5 rfl (A_X7_isTape X x1 h v1 e2) (by omega) cw_X7_440 sh_96 cl_7 rfl rfl (Nat.le_of_ble_eq_true rfl) dX7_shift_2 ?_
  rcases if_so hf with ⟨c3, hf⟩ | ⟨c3, hf⟩
  · refine r_if_eq_t 16 dX7_shift_5 (by decide) c3 ?_
    refine r_iconst 17 rfl ic_m1 dX7_shift_16 ?_
    obtain ⟨rfl, rfl⟩ := so2 hf
    exact r_iret rfl rfl dX7_shift_17
  · refine r_if_eq_f 8 rfl 16 dX7_shift_5 (by decide) c3 ?_
    refine r_aload_n 9 rfl 0 rfl rfl dX7_shift_8 ?_
    refine r_iload_n 10 rfl 3 rfl rfl dX7_shift_9 ?_
    obtain ⟨v4, e5, hf⟩ := bo_so hf
    refine r_callVi 13 rfl (A_X7_isTape X x3 h v4 e5) (by omega) cw_X7_440 sh_96 cl_7 rfl rfl (Nat.le_of_ble_eq_true rfl) dX7_shift_10 ?_
    rcases if_so hf with ⟨c6, hf⟩ | ⟨c6, hf⟩
    · refine r_if_ne_t 16 rfl 18 dX7_shift_13 (by decide) c6 ?_
      refine r_iconst 17 rfl ic_m1 dX7_shift_16 ?_
      obtain ⟨rfl, rfl⟩ := so2 hf
      exact r_iret rfl rfl dX7_shift_17
    · refine r_if_ne_f 18 dX7_shift_13 (by decide) c6 ?_
      refine r_aload_n 19 rfl 0 rfl rfl dX7_shift_18 ?_
      refine r_getr (q := 141) 22 rfl (lq_7_83) sh_96 kd_7_83 fl_X7_263 dX7_shift_19 ?_
      refine r_iload_n 23 rfl 1 rfl rfl dX7_shift_22 ?_
      obtain ⟨b7, hf⟩ := gd_so hf
      refine r_iald 24 rfl sh_141 (inb_vp b7) dX7_shift_23 ?_
      rcases if_so hf with ⟨c8, hf⟩ | ⟨c8, hf⟩
      · refine r_if_lt_t 36 dX7_shift_24 (by decide) c8 ?_
        refine r_bipush 38 rfl bp_m11 dX7_shift_36 ?_
        obtain ⟨rfl, rfl⟩ := so2 hf
        exact r_iret rfl rfl dX7_shift_38
      · refine r_if_lt_f 27 rfl 36 dX7_shift_24 (by decide) c8 ?_
        refine r_aload_n 28 rfl 0 rfl rfl dX7_shift_27 ?_
        refine r_getr (q := 141) 31 rfl (lq_7_83) sh_96 kd_7_83 fl_X7_263 dX7_shift_28 ?_
        refine r_iload_n 32 rfl 3 rfl rfl dX7_shift_31 ?_
        obtain ⟨b9, hf⟩ := gd_so hf
        refine r_iald 33 rfl sh_141 (inb_vp b9) dX7_shift_32 ?_
        rcases if_so hf with ⟨c10, hf⟩ | ⟨c10, hf⟩
        · refine r_if_ge_t 39 dX7_shift_33 (by decide) c10 ?_
          refine r_aload_n 40 rfl 0 rfl rfl dX7_shift_39 ?_
          refine r_getr (q := 141) 43 rfl (lq_7_83) sh_96 kd_7_83 fl_X7_263 dX7_shift_40 ?_
          refine r_iload_n 44 rfl 1 rfl rfl dX7_shift_43 ?_
          obtain ⟨b11, hf⟩ := gd_so hf
          refine r_iald 45 rfl sh_141 (inb_vp b11) dX7_shift_44 ?_
          refine r_aload_n 46 rfl 0 rfl rfl dX7_shift_45 ?_
          refine r_getr (q := 141) 49 rfl (lq_7_83) sh_96 kd_7_83 fl_X7_263 dX7_shift_46 ?_
          refine r_iload_n 50 rfl 3 rfl rfl dX7_shift_49 ?_
          obtain ⟨b12, hf⟩ := gd_so hf
          refine r_iald 51 rfl sh_141 (inb_vp b12) dX7_shift_50 ?_
          rcases if_so hf with ⟨c13, hf⟩ | ⟨c13, hf⟩
          · refine r_icmp_eq_t 57 dX7_shift_51 (by decide) c13 ?_
            refine r_iload 59 rfl 5 rfl dX7_shift_57 ?_
            rcases if_so hf with ⟨c14, hf⟩ | ⟨c14, hf⟩
            · refine r_if_lt_t 98 dX7_shift_59 (by decide) c14 ?_
              refine r_bipush 100 rfl bp_m13 dX7_shift_98 ?_
              obtain ⟨rfl, rfl⟩ := so2 hf
              exact r_iret rfl rfl dX7_shift_100
            · refine r_if_lt_f 62 rfl 98 dX7_shift_59 (by decide) c14 ?_
              refine r_iload_n 63 rfl 2 rfl rfl dX7_shift_62 ?_
              rcases if_so hf with ⟨c15, hf⟩ | ⟨c15, hf⟩
              · refine r_if_lt_t 98 dX7_shift_63 (by decide) c15 ?_
                refine r_bipush 100 rfl bp_m13 dX7_shift_98 ?_
                obtain ⟨rfl, rfl⟩ := so2 hf
                exact r_iret rfl rfl dX7_shift_100
              · refine r_if_lt_f 66 rfl 98 dX7_shift_63 (by decide) c15 ?_
                refine r_iload 68 rfl 4 rfl dX7_shift_66 ?_
                rcases if_so hf with ⟨c16, hf⟩ | ⟨c16, hf⟩
                · refine r_if_lt_t 98 dX7_shift_68 (by decide) c16 ?_
                  refine r_bipush 100 rfl bp_m13 dX7_shift_98 ?_
                  obtain ⟨rfl, rfl⟩ := so2 hf
                  exact r_iret rfl rfl dX7_shift_100
                · refine r_if_lt_f 71 rfl 98 dX7_shift_68 (by decide) c16 ?_
                  refine r_iload_n 72 rfl 2 rfl rfl dX7_shift_71 ?_
                  refine r_aload_n 73 rfl 0 rfl rfl dX7_shift_72 ?_
                  refine r_getr (q := 142) 76 rfl (lq_7_84) sh_96 kd_7_84 fl_X7_266 dX7_shift_73 ?_
                  refine r_iload_n 77 rfl 1 rfl rfl dX7_shift_76 ?_
                  obtain ⟨b17, hf⟩ := gd_so hf
                  refine r_iald 78 rfl sh_142 (inb_vp b17) dX7_shift_77 ?_
                  refine r_iload 80 rfl 5 rfl dX7_shift_78 ?_
                  refine r_isub 81 rfl dX7_shift_80 ?_
                  rcases if_so hf with ⟨c18, hf⟩ | ⟨c18, hf⟩
                  · refine r_icmp_gt_t 98 dX7_shift_81 (by decide) c18 ?_
                    refine r_bipush 100 rfl bp_m13 dX7_shift_98 ?_
                    obtain ⟨rfl, rfl⟩ := so2 hf
                    exact r_iret rfl rfl dX7_shift_100
                  · refine r_icmp_gt_f 84 rfl 98 dX7_shift_81 (by decide) c18 ?_
                    refine r_iload 86 rfl 4 rfl dX7_shift_84 ?_
                    refine r_aload_n 87 rfl 0 rfl rfl dX7_shift_86 ?_
                    refine r_getr (q := 142) 90 rfl (lq_7_84) sh_96 kd_7_84 fl_X7_266 dX7_shift_87 ?_
                    refine r_iload_n 91 rfl 3 rfl rfl dX7_shift_90 ?_
                    obtain ⟨b19, hf⟩ := gd_so hf
                    refine r_iald 92 rfl sh_142 (inb_vp b19) dX7_shift_91 ?_
                    refine r_iload 94 rfl 5 rfl dX7_shift_92 ?_
                    refine r_isub 95 rfl dX7_shift_94 ?_
                    rcases if_so hf with ⟨c20, hf⟩ | ⟨c20, hf⟩
                    · refine r_icmp_le_t 101 dX7_shift_95 (by decide) c20 ?_
                      refine r_iconst 102 rfl ic_0 dX7_shift_101 ?_
                      refine r_istore (lv' := [(6, .int 0), (0, .ref (X.1 96)), (1, .int x1), (2, .int x2), (3, .int x3), (4, .int x4), (5, .int x5)]) 104 rfl dX7_shift_102 (by decide) rfl ?_
                      refine r_sub (lv' := [(0, .ref (X.1 96)), (1, .int x1), (2, .int x2), (3, .int x3), (4, .int x4), (5, .int x5), (6, .int 0)]) [1, 2, 3, 4, 5, 6, 0] rfl ?_
                      exact A_X7_shift_L104 X _ _ FU x1 x2 x3 x4 x5 0 h hf
                    · refine r_icmp_le_f 98 rfl 101 dX7_shift_95 (by decide) c20 ?_
                      refine r_bipush 100 rfl bp_m13 dX7_shift_98 ?_
                      obtain ⟨rfl, rfl⟩ := so2 hf
                      exact r_iret rfl rfl dX7_shift_100
          · refine r_icmp_eq_f 54 rfl 57 dX7_shift_51 (by decide) c13 ?_
            refine r_bipush 56 rfl bp_m12 dX7_shift_54 ?_
            obtain ⟨rfl, rfl⟩ := so2 hf
            exact r_iret rfl rfl dX7_shift_56
        · refine r_if_ge_f 36 rfl 39 dX7_shift_33 (by decide) c10 ?_
          refine r_bipush 38 rfl bp_m11 dX7_shift_36 ?_
          obtain ⟨rfl, rfl⟩ := so2 hf
          exact r_iret rfl rfl dX7_shift_38
