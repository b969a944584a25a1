-- X1_copyFrom
def f_X1_copyFrom (o : Nat) (q1 : Nat) (h : HP) : Option HP := gd (cpk 0 6 6) (gd (cpk 0 6 6) (lt (ci h (q1 + 1) (o + 1) 0 0 6) fun g3 => gd (cpk 0 6 6) (gd (cpk 0 6 6) (lt (ci g3 (q1 + 2) (o + 2) 0 0 6) fun g7 => gd (cpk 0 6 6) (gd (cpk 0 6 6) (lt (ci g7 (q1 + 3) (o + 3) 0 0 6) fun g11 => gd (cpk 0 6 6) (gd (cpk 0 6 6) (lt (ci g11 (q1 + 4) (o + 4) 0 0 6) fun g15 => gd (cpk 0 6 6) (gd (cpk 0 6 6) (lt (ci g15 (q1 + 5) (o + 5) 0 0 6) fun g19 => gd (cpk 0 24 24) (gd (cpk 0 24 24) (lt (ci g19 (q1 + 6) (o + 6) 0 0 24) fun g23 => gd (cpk 0 3 3) (gd (cpk 0 3 3) (lt (ci g23 (q1 + 7) (o + 7) 0 0 3) fun g27 => lt (si g27 o 7 (g27.1 q1 7)) fun g29 => lt (si g29 o 8 (g29.1 q1 8)) fun g31 => lt (si g31 o 9 (g31.1 q1 9)) fun g33 => lt (si g33 o 10 (g33.1 q1 10)) fun g35 => lt (si g35 o 11 (g35.1 q1 11)) fun g37 => lt (si g37 o 12 (g37.1 q1 12)) fun g39 => bo (g39.2.2 q1) fun w41 => gd (isOc w41) (lt (sr g39 o (some w41)) fun g44 => some g44)))))))))))))))
set_option maxHeartbeats 4000000 in
set_option maxRecDepth 100000 in
theorem A_X1_copyFrom (X : XE) (o : Nat) (ho : DK o) (q1 : Nat) (hq1 : DK q1) (h : HP) (h' : HP) (hf : f_X1_copyFrom o q1 h = some h') : CC mX1_copyFrom 1 X [.ref (X.1 o), .ref (X.1 q1)] h none h' := by
  refine CC_of rfl (Nat.le_of_ble_eq_true rfl) ?_
  show Run mX1_copyFrom 1 X 0 [(0, .ref (X.1 o)), (1, .ref (X.1 q1))] [] h none h'
  unfold f_X1_copyFrom at hf
  refine r_aload_n 1 rfl 1 rfl rfl dX1_copyFrom_0 ?_
  refine r_getr (q := q1 + 1) 4 rfl (lq_1_0 q1) hq1.1 kd_1_0 fl_X1_9 dX1_copyFrom_1 ?_
  refine r_iconst 5 rfl ic_0 dX1_copyFrom_4 ?_
  refine r_aload_n 6 rfl 0 rfl rfl dX1_copyFrom_5 ?_
  refine r_getr (q := o + 1) 9 rfl (lq_1_0 o) ho.1 kd_1_0 fl_X1_9 dX1_copyFrom_6 ?_
  refine r_iconst 10 rfl ic_0 dX1_copyFrom_9 ?_
  refine r_bipush 12 rfl bp_6 dX1_copyFrom_10 ?_
  obtain ⟨b1, hf⟩ := gd_so hf
  obtain ⟨b2, hf⟩ := gd_so hf
  obtain ⟨g3, e4, hf⟩ := lt_so hf
  refine r_copyi 15 rfl (by decide) hq1.2.1 ho.2.1 b1 b2 ml_X1_41 ac_nat ac_st ini_Sys (Nat.le_of_ble_eq_true rfl) dX1_copyFrom_12 ?_
  refine r_heap e4 ?_
  refine r_aload_n 16 rfl 1 rfl rfl dX1_copyFrom_15 ?_
  refine r_getr (q := q1 + 2) 19 rfl (lq_1_1 q1) hq1.1 kd_1_1 fl_X1_15 dX1_copyFrom_16 ?_
  refine r_iconst 20 rfl ic_0 dX1_copyFrom_19 ?_
  refine r_aload_n 21 rfl 0 rfl rfl dX1_copyFrom_20 ?_
  refine r_getr (q := o + 2) 24 rfl (lq_1_1 o) ho.1 kd_1_1 fl_X1_15 dX1_copyFrom_21 ?_
  refine r_iconst 25 rfl ic_0 dX1_copyFrom_24 ?_
  refine r_bipush 27 rfl bp_6 dX1_copyFrom_25 ?_
  obtain ⟨b5, hf⟩ := gd_so hf
  obtain ⟨b6, hf⟩ := gd_so hf
  obtain ⟨g7, e8, hf⟩ := lt_so hf
  refine r_copyi 30 rfl (by decide) hq1.2.2.1 ho.2.2.1 b5 b6 ml_X1_41 ac_nat ac_st ini_Sys (Nat.le_of_ble_eq_true rfl) dX1_copyFrom_27 ?_
  refine r_heap e8 ?_
  refine r_aload_n 31 rfl 1 rfl rfl dX1_copyFrom_30 ?_
  refine r_getr (q := q1 + 3) 34 rfl (lq_1_2 q1) hq1.1 kd_1_2 fl_X1_18 dX1_copyFrom_31 ?_
  refine r_iconst 35 rfl ic_0 dX1_copyFrom_34 ?_
  refine r_aload_n 36 rfl 0 rfl rfl dX1_copyFrom_35 ?_
  refine r_getr (q := o + 3) 39 rfl (lq_1_2 o) ho.1 kd_1_2 fl_X1_18 dX1_copyFrom_36 ?_
  refine r_iconst 40 rfl ic_0 dX1_copyFrom_39 ?_
  refine r_bipush 42 rfl bp_6 dX1_copyFrom_40 ?_
  obtain ⟨b9, hf⟩ := gd_so hf
  obtain ⟨b10, hf⟩ := gd_so hf
  obtain ⟨g11, e12, hf⟩ := lt_so hf
  refine r_copyi 45 rfl (by decide) hq1.2.2.2.1 ho.2.2.2.1 b9 b10 ml_X1_41 ac_nat ac_st ini_Sys (Nat.le_of_ble_eq_true rfl) dX1_copyFrom_42 ?_
  refine r_heap e12 ?_
  refine r_aload_n 46 rfl 1 rfl rfl dX1_copyFrom_45 ?_
  refine r_getr (q := q1 + 4) 49 rfl (lq_1_3 q1) hq1.1 kd_1_3 fl_X1_21 dX1_copyFrom_46 ?_
  refine r_iconst 50 rfl ic_0 dX1_copyFrom_49 ?_
  refine r_aload_n 51 rfl 0 rfl rfl dX1_copyFrom_50 ?_
  refine r_getr (q := o + 4) 54 rfl (lq_1_3 o) ho.1 kd_1_3 fl_X1_21 dX1_copyFrom_51 ?_
  refine r_iconst 55 rfl ic_0 dX1_copyFrom_54 ?_
  refine r_bipush 57 rfl bp_6 dX1_copyFrom_55 ?_
  obtain ⟨b13, hf⟩ := gd_so hf
  obtain ⟨b14, hf⟩ := gd_so hf
  obtain ⟨g15, e16, hf⟩ := lt_so hf
  refine r_copyi 60 rfl (by decide) hq1.2.2.2.2.1 ho.2.2.2.2.1 b13 b14 ml_X1_41 ac_nat ac_st ini_Sys (Nat.le_of_ble_eq_true rfl) dX1_copyFrom_57 ?_
  refine r_heap e16 ?_
  refine r_aload_n 61 rfl 1 rfl rfl dX1_copyFrom_60 ?_
  refine r_getr (q := q1 + 5) 64 rfl (lq_1_4 q1) hq1.1 kd_1_4 fl_X1_24 dX1_copyFrom_61 ?_
  refine r_iconst 65 rfl ic_0 dX1_copyFrom_64 ?_
  refine r_aload_n 66 rfl 0 rfl rfl dX1_copyFrom_65 ?_
  refine r_getr (q := o + 5) 69 rfl (lq_1_4 o) ho.1 kd_1_4 fl_X1_24 dX1_copyFrom_66 ?_
  refine r_iconst 70 rfl ic_0 dX1_copyFrom_69 ?_
  refine r_bipush 72 rfl bp_6 dX1_copyFrom_70 ?_
  obtain ⟨b17, hf⟩ := gd_so hf
  obtain ⟨b18, hf⟩ := gd_so hf
  obtain ⟨g19, e20, hf⟩ := lt_so hf
  refine r_copyi 75 rfl (by decide) hq1.2.2.2.2.2.1 ho.2.2.2.2.2.1 b17 b18 ml_X1_41 ac_nat ac_st ini_Sys (Nat.le_of_ble_eq_true rfl) dX1_copyFrom_72 ?_
  refine r_heap e20 ?_
  refine r_aload_n 76 rfl 1 rfl rfl dX1_copyFrom_75 ?_
  refine r_getr (q := q1 + 6) 79 rfl (lq_1_5 q1) hq1.1 kd_1_5 fl_X1_27 dX1_copyFrom_76 ?_
  refine r_iconst 80 rfl ic_0 dX1_copyFrom_79 ?_
  refine r_aload_n 81 rfl 0 rfl rfl dX1_copyFrom_80 ?_
  refine r_getr (q := o + 6) 84 rfl (lq_1_5 o) ho.1 kd_1_5 fl_X1_27 dX1_copyFrom_81 ?_
  refine r_iconst 85 rfl ic_0 dX1_copyFrom_84 ?_
  refine r_bipush 87 rfl bp_24 dX1_copyFrom_85 ?_
  obtain ⟨b21, hf⟩ := gd_so hf
  obtain ⟨b22, hf⟩ := gd_so hf
  obtain ⟨g23, e24, hf⟩ := lt_so hf
  refine r_copyi 90 rfl (by decide) hq1.2.2.2.2.2.2.1 ho.2.2.2.2.2.2.1 b21 b22 ml_X1_41 ac_nat ac_st ini_Sys (Nat.le_of_ble_eq_true rfl) dX1_copyFrom_87 ?_
  refine r_heap e24 ?_
  refine r_aload_n 91 rfl 1 rfl rfl dX1_copyFrom_90 ?_
  refine r_getr (q := q1 + 7) 94 rfl (lq_1_6 q1) hq1.1 kd_1_6 fl_X1_30 dX1_copyFrom_91 ?_
  refine r_iconst 95 rfl ic_0 dX1_copyFrom_94 ?_
  refine r_aload_n 96 rfl 0 rfl rfl dX1_copyFrom_95 ?_
  refine r_getr (q := o + 7) 99 rfl (lq_1_6 o) ho.1 kd_1_6 fl_X1_30 dX1_copyFrom_96 ?_
  refine r_iconst 100 rfl ic_0 dX1_copyFrom_99 ?_
  refine r_iconst 101 rfl ic_3 dX1_copyFrom_100 ?_
  obtain ⟨b25, hf⟩ := gd_so hf
  obtain ⟨b26, hf⟩ := gd_so hf
  obtain ⟨g27, e28, hf⟩ := lt_so hf
  refine r_copyi 104 rfl (by decide) hq1.2.2.2.2.2.2.2 ho.2.2.2.2.2.2.2 b25 b26 ml_X1_41 ac_nat ac_st ini_Sys (Nat.le_of_ble_eq_true rfl) dX1_copyFrom_101 ?_
  refine r_heap e28 ?_
  refine r_aload_n 105 rfl 0 rfl rfl dX1_copyFrom_104 ?_
  refine r_aload_n 106 rfl 1 rfl rfl dX1_copyFrom_105 ?_
  refine r_geti 109 rfl hq1.1 kd_1_7 fl_X1_47 dX1_copyFrom_106 ?_
  obtain ⟨g29, e30, hf⟩ := lt_so hf
  refine r_puti 112 rfl ho.1 kd_1_7 fw_X1_47 rfl rfl dX1_copyFrom_109 ?_
  refine r_heap e30 ?_
  refine r_aload_n 113 rfl 0 rfl rfl dX1_copyFrom_112 ?_
  refine r_aload_n 114 rfl 1 rfl rfl dX1_copyFrom_113 ?_
  refine r_geti 117 rfl hq1.1 kd_1_8 fl_X1_50 dX1_copyFrom_114 ?_
  obtain ⟨g31, e32, hf⟩ := lt_so hf
  refine r_puti 120 rfl ho.1 kd_1_8 fw_X1_50 rfl rfl dX1_copyFrom_117 ?_
  refine r_heap e32 ?_
  refine r_aload_n 121 rfl 0 rfl rfl dX1_copyFrom_120 ?_
  refine r_aload_n 122 rfl 1 rfl rfl dX1_copyFrom_121 ?_
  refine r_geti 125 rfl hq1.1 kd_1_9 fl_X1_37 dX1_copyFrom_122 ?_
  obtain ⟨g33, e34, hf⟩ := lt_so hf
  refine r_puti 128 rfl ho.1 kd_1_9 fw_X1_37 rfl rfl dX1_copyFrom_125 ?_
  refine r_heap e34 ?_
  refine r_aload_n 129 rfl 0 rfl rfl dX1_copyFrom_128 ?_
  refine r_aload_n 130 rfl 1 rfl rfl dX1_copyFrom_129 ?_
  refine r_geti 133 rfl hq1.1 kd_1_10 fl_X1_53 dX1_copyFrom_130 ?_
  obtain ⟨g35, e36, hf⟩ := lt_so hf
  refine r_puti 136 rfl ho.1 kd_1_10 fw_X1_53 rfl rfl dX1_copyFrom_133 ?_
  refine r_heap e36 ?_
  refine r_aload_n 137 rfl 0 rfl rfl dX1_copyFrom_136 ?_
  refine r_aload_n 138 rfl 1 rfl rfl dX1_copyFrom_137 ?_
  refine r_geti 141 rfl hq1.1 kd_1_11 fl_X1_56 dX1_copyFrom_138 ?_
  obtain ⟨g37, e38, hf⟩ := lt_so hf
  refine r_puti 144 rfl ho.1 kd_1_11 fw_X1_56 rfl rfl dX1_copyFrom_141 ?_
  refine r_heap e38 ?_
  refine r_aload_n 145 rfl 0 rfl rfl dX1_copyFrom_144 ?_
  refine r_aload_n 146 rfl 1 rfl rfl dX1_copyFrom_145 ?_
  refine r_geti 149 rfl hq1.1 kd_1_12 fl_X1_59 dX1_copyFrom_146 ?_
  obtain ⟨g39, e40, hf⟩ := lt_so hf
  refine r_puti 152 rfl ho.1 kd_1_12 fw_X1_59 rfl rfl dX1_copyFrom_149 ?_
  refine r_heap e40 ?_
  refine r_aload_n 153 rfl 0 rfl rfl dX1_copyFrom_152 ?_
  refine r_aload_n 154 rfl 1 rfl rfl dX1_copyFrom_153 ?_
  obtain ⟨w41, e42, hf⟩ := bo_so hf
  obtain ⟨b43, hf⟩ := gd_so hf
  have ow41 := oc_of b43
  refine r_gets 157 rfl e42 hq1.1 kd_1_13 fl_X1_33 dX1_copyFrom_154 ?_
  obtain ⟨g44, e45, hf⟩ := lt_so hf
  refine r_puts 160 rfl ho.1 kd_1_13 ho_D fw_X1_33 rfl rfl dX1_copyFrom_157 ?_
  refine r_heap e45 ?_
  obtain rfl := so1 hf
  exact r_vret rfl dX1_copyFrom_160
-- X1_startFrom
def f_X1_startFrom (o : Nat) (q1 : Nat) (h : HP) : Option HP := bo (f_X1_copyFrom o q1 h) fun g1 => lt (si g1 o 11 0) fun g3 => some g3
set_option maxHeartbeats 4000000 in
set_option maxRecDepth 100000 in
theorem A_X1_startFrom (X : XE) (o : Nat) (ho : DK o) (q1 : Nat) (hq1 : DK q1) (h : HP) (h' : HP) (hf : f_X1_startFrom o q1 h = some h') : CC mX1_startFrom 2 X [.ref (X.1 o), .ref (X.1 q1)] h none h' := by
  refine CC_of rfl (Nat.le_of_ble_eq_true rfl) ?_
  show Run mX1_startFrom 2 X 0 [(0, .ref (X.1 o)), (1, .ref (X.1 q1))] [] h none h'
  unfold f_X1_startFrom at hf
  refine r_aload_n 1 rfl 0 rfl rfl dX1_startFrom_0 ?_
  refine r_aload_n 2 rfl 1 rfl rfl dX1_startFrom_1 ?_
  obtain ⟨g1, e2, hf⟩ := bo_so hf
  refine r_callVv 5 rfl (A_X1_copyFrom X o ho q1 hq1 h g1 e2) (by omega) cw_X1_62 ho.1 cl_1 rfl rfl (Nat.le_of_ble_eq_true rfl) dX1_startFrom_2 ?_
  refine r_aload_n 6 rfl 0 rfl rfl dX1_startFrom_5 ?_
  refine r_iconst 7 rfl ic_0 dX1_startFrom_6 ?_
  obtain ⟨g3, e4, hf⟩ := lt_so hf
  refine r_puti 10 rfl ho.1 kd_1_11 fw_X1_56 rfl rfl dX1_startFrom_7 ?_
  refine r_heap e4 ?_
  obtain rfl := so1 hf
  exact r_vret rfl dX1_startFrom_10
-- X1_take
def f_X1_take_L49 (o : Nat) : Nat → Int32 → Int32 → HP → Option (Int32 × HP)
  | 0, _, _, _ => none
  | n + 1, x4, x5, h => if (4 : Int32) ≤ x5 then (lt (si h o 7 ((h.1 o 7) + 1)) fun g19 => some (x4, g19)) else (gd (inb ((4 * x4) + x5) 24) (lt (si h (o + 6) (Int32.toNatClampNeg ((4 * x4) + x5)) 0) fun g22 => lt (x5 + 1 : Int32) fun v24 => f_X1_take_L49 o n x4 v24 g22))
set_option maxHeartbeats 4000000 in
set_option maxRecDepth 100000 in
theorem A_X1_take_L49 (X : XE) (o : Nat) (ho : DK o) (r : Int32) (h' : HP) : ∀ (n : Nat) (x4 : Int32) (x5 : Int32) (h : HP), f_X1_take_L49 o n x4 x5 h = some (r, h') → Run mX1_take 1 X 49 [(0, .ref (X.1 o)), (4, .int x4), (5, .int x5)] [] h (some (.int r)) h' := by
  intro n
  induction n with
  | zero => intro x4 x5 h hf; cases hf
  | succ n ih =>
    intro x4 x5 h hf
    rw [f_X1_take_L49] at hf
    refine r_iload 51 rfl 2 rfl dX1_take_49 ?_
    refine r_iconst 52 rfl ic_4 dX1_take_51 ?_
    rcases if_so hf with ⟨c18, hf⟩ | ⟨c18, hf⟩
    · refine r_icmp_ge_t 74 dX1_take_52 (by decide) c18 ?_
      refine r_aload_n 75 rfl 0 rfl rfl dX1_take_74 ?_
      refine r_dup 76 rfl rfl dX1_take_75 ?_
      refine r_geti 79 rfl ho.1 kd_1_7 fl_X1_47 dX1_take_76 ?_
      refine r_iconst 80 rfl ic_1 dX1_take_79 ?_
      refine r_iadd 81 rfl dX1_take_80 ?_
      obtain ⟨g19, e20, hf⟩ := lt_so hf
      refine r_puti 84 rfl ho.1 kd_1_7 fw_X1_47 rfl rfl dX1_take_81 ?_
      refine r_heap e20 ?_
      refine r_iload 86 rfl 1 rfl dX1_take_84 ?_
      obtain ⟨rfl, rfl⟩ := so2 hf
      exact r_iret rfl rfl dX1_take_86
    · refine r_icmp_ge_f 55 rfl 74 dX1_take_52 (by decide) c18 ?_
      refine r_aload_n 56 rfl 0 rfl rfl dX1_take_55 ?_
      refine r_getr (q := o + 6) 59 rfl (lq_1_5 o) ho.1 kd_1_5 fl_X1_27 dX1_take_56 ?_
      refine r_iconst 60 rfl ic_4 dX1_take_59 ?_
      refine r_iload 62 rfl 1 rfl dX1_take_60 ?_
      refine r_imul 63 rfl dX1_take_62 ?_
      refine r_iload 65 rfl 2 rfl dX1_take_63 ?_
      refine r_iadd 66 rfl dX1_take_65 ?_
      refine r_iconst 67 rfl ic_0 dX1_take_66 ?_
      obtain ⟨b21, hf⟩ := gd_so hf
      obtain ⟨g22, e23, hf⟩ := lt_so hf
      refine r_iast 68 rfl ho.2.2.2.2.2.2.1 (inb_vp b21) dX1_take_67 ?_
      refine r_heap e23 ?_
      obtain ⟨v24, e25, hf⟩ := lt_so hf
      refine r_iinc (lv' := [(5, .int v24), (0, .ref (X.1 o)), (4, .int x4)]) 71 rfl 2 dX1_take_68 rfl (by rw [e25, ic_1]) (by decide) rfl ?_
      refine r_goto 49 dX1_take_71 (by decide) ?_
      refine r_sub (lv' := [(0, .ref (X.1 o)), (4, .int x4), (5, .int v24)]) [1, 2, 0] rfl ?_
      exact ih x4 v24 g22 hf
def f_X1_take (o : Nat) (x1 : Int32) (x2 : Int32) (x3 : Int32) (h : HP) : Option (Int32 × HP) := lt ((h.1 o 7) : Int32) fun v1 => gd (inb v1 6) (lt (si h (o + 1) (Int32.toNatClampNeg v1) x1) fun g4 => gd (inb v1 6) (lt (si g4 (o + 2) (Int32.toNatClampNeg v1) x2) fun g7 => gd (inb v1 6) (lt (si g7 (o + 3) (Int32.toNatClampNeg v1) x3) fun g10 => gd (inb v1 6) (lt (si g10 (o + 4) (Int32.toNatClampNeg v1) 0) fun g13 => gd (inb v1 6) (lt (si g13 (o + 5) (Int32.toNatClampNeg v1) 0) fun g16 => f_X1_take_L49 o FU v1 0 g16)))))
set_option maxHeartbeats 4000000 in
set_option maxRecDepth 100000 in
theorem A_X1_take (X : XE) (o : Nat) (ho : DK o) (x1 : Int32) (x2 : Int32) (x3 : Int32) (h : HP) (r : Int32) (h' : HP) (hf : f_X1_take o x1 x2 x3 h = some (r, h')) : CC mX1_take 1 X [.ref (X.1 o), .int x1, .int x2, .int x3] h (some (.int r)) h' := by
  refine CC_of rfl (Nat.le_of_ble_eq_true rfl) ?_
  show Run mX1_take 1 X 0 [(0, .ref (X.1 o)), (1, .int x1), (2, .int x2), (3, .int x3)] [] h (some (.int r)) h'
  unfold f_X1_take at hf
  refine r_aload_n 1 rfl 0 rfl rfl dX1_take_0 ?_
  refine r_geti 4 rfl ho.1 kd_1_7 fl_X1_47 dX1_take_1 ?_
  obtain ⟨v1, e2, hf⟩ := lt_so hf
  refine r_top e2 ?_
  refine r_istore (lv' := [(4, .int v1), (0, .ref (X.1 o)), (1, .int x1), (2, .int x2), (3, .int x3)]) 6 rfl dX1_take_4 (by decide) rfl ?_
  refine r_aload_n 7 rfl 1 rfl rfl dX1_take_6 ?_
  refine r_getr (q := o + 1) 10 rfl (lq_1_0 o) ho.1 kd_1_0 fl_X1_9 dX1_take_7 ?_
  refine r_iload 12 rfl 0 rfl dX1_take_10 ?_
  refine r_iload_n 13 rfl 2 rfl rfl dX1_take_12 ?_
  obtain ⟨b3, hf⟩ := gd_so hf
  obtain ⟨g4, e5, hf⟩ := lt_so hf
  refine r_iast 14 rfl ho.2.1 (inb_vp b3) dX1_take_13 ?_
  refine r_heap e5 ?_
  refine r_aload_n 15 rfl 1 rfl rfl dX1_take_14 ?_
  refine r_getr (q := o + 2) 18 rfl (lq_1_1 o) ho.1 kd_1_1 fl_X1_15 dX1_take_15 ?_
  refine r_iload 20 rfl 0 rfl dX1_take_18 ?_
  refine r_iload_n 21 rfl 3 rfl rfl dX1_take_20 ?_
  obtain ⟨b6, hf⟩ := gd_so hf
  obtain ⟨g7, e8, hf⟩ := lt_so hf
  refine r_iast 22 rfl ho.2.2.1 (inb_vp b6) dX1_take_21 ?_
  refine r_heap e8 ?_
  refine r_aload_n 23 rfl 1 rfl rfl dX1_take_22 ?_
  refine r_getr (q := o + 3) 26 rfl (lq_1_2 o) ho.1 kd_1_2 fl_X1_18 dX1_take_23 ?_
  refine r_iload 28 rfl 0 rfl dX1_take_26 ?_
  refine r_iload_n 29 rfl 4 rfl rfl dX1_take_28 ?_
  obtain ⟨b9, hf⟩ := gd_so hf
  obtain ⟨g10, e11, hf⟩ := lt_so hf
  refine r_iast 30 rfl ho.2.2.2.1 (inb_vp b9) dX1_take_29 ?_
  refine r_heap e11 ?_
  refine r_aload_n 31 rfl 1 rfl rfl dX1_take_30 ?_
  refine r_getr (q := o + 4) 34 rfl (lq_1_3 o) ho.1 kd_1_3 fl_X1_21 dX1_take_31 ?_
  refine r_iload 36 rfl 0 rfl dX1_take_34 ?_
  refine r_iconst 37 rfl ic_0 dX1_take_36 ?_
  obtain ⟨b12, hf⟩ := gd_so hf
  obtain ⟨g13, e14, hf⟩ := lt_so hf
  refine r_iast 38 rfl ho.2.2.2.2.1 (inb_vp b12) dX1_take_37 ?_
  refine r_heap e14 ?_
  refine r_aload_n 39 rfl 1 rfl rfl dX1_take_38 ?_
  refine r_getr (q := o + 5) 42 rfl (lq_1_4 o) ho.1 kd_1_4 fl_X1_24 dX1_take_39 ?_
  refine r_iload 44 rfl 0 rfl dX1_take_42 ?_
  refine r_iconst 45 rfl ic_0 dX1_take_44 ?_
  obtain ⟨b15, hf⟩ := gd_so hf
  obtain ⟨g16, e17, hf⟩ := lt_so hf
  refine r_iast 46 rfl ho.2.2.2.2.2.1 (inb_vp b15) dX1_take_45 ?_
  refine r_heap e17 ?_
  refine r_iconst 47 rfl ic_0 dX1_take_46 ?_
  refine r_istore (lv' := [(5, .int 0), (4, .int v1), (0, .ref (X.1 o)), (1, .int x1), (2, .int x2), (3, .int x3)]) 49 rfl dX1_take_47 (by decide) rfl ?_
  refine r_sub (lv' := [(0, .ref (X.1 o)), (4, .int v1), (5, .int 0)]) [2, 1, 0] rfl ?_
  exact A_X1_take_L49 X o ho _ _ FU v1 0 g16 hf
-- X1_has
def f_X1_has (o : Nat) (x1 : Int32) (h : HP) : Option Int32 := if x1 < 0 then (some 0) else (if (h.1 o 7) ≤ x1 then (some 0) else (some 1))
set_option maxHeartbeats 4000000 in
set_option maxRecDepth 100000 in
theorem A_X1_has (X : XE) (o : Nat) (ho : DK o) (x1 : Int32) (h : HP) (r : Int32) (hf : f_X1_has o x1 h = some r) : CC mX1_has 1 X [.ref (X.1 o), .int x1] h (some (.int r)) h := by
  refine CC_of rfl (Nat.le_of_ble_eq_true rfl) ?_
  show Run mX1_has 1 X 0 [(0, .ref (X.1 o)), (1, .int x1)] [] h (some (.int r)) h
  unfold f_X1_has at hf
  refine r_iload_n 1 rfl 1 rfl rfl dX1_has_0 ?_
  rcases if_so hf with ⟨c1, hf⟩ | ⟨c1, hf⟩
  · refine r_if_lt_t 16 dX1_has_1 (by decide) c1 ?_
    refine r_iconst 17 rfl ic_0 dX1_has_16 ?_
    obtain rfl := so1 hf
    exact r_iret rfl rfl dX1_has_17
  · refine r_if_lt_f 4 rfl 16 dX1_has_1 (by decide) c1 ?_
    refine r_iload_n 5 rfl 1 rfl rfl dX1_has_4 ?_
    refine r_aload_n 6 rfl 0 rfl rfl dX1_has_5 ?_
    refine r_geti 9 rfl ho.1 kd_1_7 fl_X1_47 dX1_has_6 ?_
    rcases if_so hf with ⟨c2, hf⟩ | ⟨c2, hf⟩
    · refine r_icmp_ge_t 16 dX1_has_9 (by decide) c2 ?_
      refine r_iconst 17 rfl ic_0 dX1_has_16 ?_
      obtain rfl := so1 hf
      exact r_iret rfl rfl dX1_has_17
    · refine r_icmp_ge_f 12 rfl 16 dX1_has_9 (by decide) c2 ?_
      refine r_iconst 13 rfl ic_1 dX1_has_12 ?_
      refine r_goto 17 dX1_has_13 (by decide) ?_
      obtain rfl := so1 hf
      exact r_iret rfl rfl dX1_has_17
-- X1_placeOf
def f_X1_placeOf_L2 (o : Nat) (h : HP) : Nat → Int32 → Int32 → Option Int32
  | 0, _, _ => none
  | n + 1, x1, x2 => if (h.1 o 8) ≤ x2 then (some (-1)) else (gd (inb x2 3) (if (h.1 (o + 7) (Int32.toNatClampNeg x2)) = x1 then (some x2) else (lt (x2 + 1 : Int32) fun v4 => f_X1_placeOf_L2 o h n x1 v4)))
set_option maxHeartbeats 4000000 in
set_option maxRecDepth 100000 in
theorem A_X1_placeOf_L2 (X : XE) (o : Nat) (ho : DK o) (h : HP) (r : Int32) : ∀ (n : Nat) (x1 : Int32) (x2 : Int32), f_X1_placeOf_L2 o h n x1 x2 = some r → Run mX1_placeOf 1 X 2 [(0, .ref (X.1 o)), (1, .int x1), (2, .int x2)] [] h (some (.int r)) h := by
  intro n
  induction n with
  | zero => intro x1 x2 hf; cases hf
  | succ n ih =>
    intro x1 x2 hf
    rw [f_X1_placeOf_L2] at hf
    refine r_iload_n 3 rfl 2 rfl rfl dX1_placeOf_2 ?_
    refine r_aload_n 4 rfl 0 rfl rfl dX1_placeOf_3 ?_
    refine r_geti 7 rfl ho.1 kd_1_8 fl_X1_50 dX1_placeOf_4 ?_
    rcases if_so hf with ⟨c1, hf⟩ | ⟨c1, hf⟩
    · refine r_icmp_ge_t 28 dX1_placeOf_7 (by decide) c1 ?_
      refine r_iconst 29 rfl ic_m1 dX1_placeOf_28 ?_
      obtain rfl := so1 hf
      exact r_iret rfl rfl dX1_placeOf_29
    · refine r_icmp_ge_f 10 rfl 28 dX1_placeOf_7 (by decide) c1 ?_
      refine r_aload_n 11 rfl 0 rfl rfl dX1_placeOf_10 ?_
      refine r_getr (q := o + 7) 14 rfl (lq_1_6 o) ho.1 kd_1_6 fl_X1_30 dX1_placeOf_11 ?_
      refine r_iload_n 15 rfl 2 rfl rfl dX1_placeOf_14 ?_
      obtain ⟨b2, hf⟩ := gd_so hf
      refine r_iald 16 rfl ho.2.2.2.2.2.2.2 (inb_vp b2) dX1_placeOf_15 ?_
      refine r_iload_n 17 rfl 1 rfl rfl dX1_placeOf_16 ?_
      rcases if_so hf with ⟨c3, hf⟩ | ⟨c3, hf⟩
      · refine r_icmp_ne_t 20 rfl 22 dX1_placeOf_17 (by decide) c3 ?_
        refine r_iload_n 21 rfl 2 rfl rfl dX1_placeOf_20 ?_
        obtain rfl := so1 hf
        exact r_iret rfl rfl dX1_placeOf_21
      · refine r_icmp_ne_f 22 dX1_placeOf_17 (by decide) c3 ?_
        obtain ⟨v4, e5, hf⟩ := lt_so hf
        refine r_iinc (lv' := [(2, .int v4), (0, .ref (X.1 o)), (1, .int x1)]) 25 rfl 2 dX1_placeOf_22 rfl (by rw [e5, ic_1]) (by decide) rfl ?_
        refine r_goto 2 dX1_placeOf_25 (by decide) ?_
        refine r_sub (lv' := [(0, .ref (X.1 o)), (1, .int x1), (2, .int v4)]) [1, 2, 0] rfl ?_
        exact ih x1 v4 hf
def f_X1_placeOf (o : Nat) (x1 : Int32) (h : HP) : Option Int32 := f_X1_placeOf_L2 o h FU x1 0
set_option maxHeartbeats 4000000 in
set_option maxRecDepth 100000 in
theorem A_X1_placeOf (X : XE) (o : Nat) (ho : DK o) (x1 : Int32) (h : HP) (r : Int32) (hf : f_X1_placeOf o x1 h = some r) : CC mX1_placeOf 1 X [.ref (X.1 o), .int x1] h (some (.int r)) h := by
  refine CC_of rfl (Nat.le_of_ble_eq_true rfl) ?_
  show Run mX1_placeOf 1 X 0 [(0, .ref (X.1 o)), (1, .int x1)] [] h (some (.int r)) h
  unfold f_X1_placeOf at hf
  refine r_iconst 1 rfl ic_0 dX1_placeOf_0 ?_
  refine r_istore_n (lv' := [(2, .int 0), (0, .ref (X.1 o)), (1, .int x1)]) 2 rfl dX1_placeOf_1 (by decide) rfl rfl ?_
  refine r_sub (lv' := [(0, .ref (X.1 o)), (1, .int x1), (2, .int 0)]) [1, 2, 0] rfl ?_
  exact A_X1_placeOf_L2 X o ho h _ FU x1 0 hf
-- X1_putUpon
def f_X1_putUpon (o : Nat) (x1 : Int32) (h : HP) : Option HP := if (3 : Int32) ≤ (h.1 o 8) then (some h) else (gd (inb (h.1 o 8) 3) (lt (si h (o + 7) (Int32.toNatClampNeg (h.1 o 8)) x1) fun g3 => lt (si g3 o 8 ((g3.1 o 8) + 1)) fun g5 => some g5))
set_option maxHeartbeats 4000000 in
set_option maxRecDepth 100000 in
theorem A_X1_putUpon (X : XE) (o : Nat) (ho : DK o) (x1 : Int32) (h : HP) (h' : HP) (hf : f_X1_putUpon o x1 h = some h') : CC mX1_putUpon 1 X [.ref (X.1 o), .int x1] h none h' := by
  refine CC_of rfl (Nat.le_of_ble_eq_true rfl) ?_
  show Run mX1_putUpon 1 X 0 [(0, .ref (X.1 o)), (1, .int x1)] [] h none h'
  unfold f_X1_putUpon at hf
  refine r_aload_n 1 rfl 0 rfl rfl dX1_putUpon_0 ?_
  refine r_geti 4 rfl ho.1 kd_1_8 fl_X1_50 dX1_putUpon_1 ?_
  refine r_iconst 5 rfl ic_3 dX1_putUpon_4 ?_
  rcases if_so hf with ⟨c1, hf⟩ | ⟨c1, hf⟩
  · refine r_icmp_ge_t 28 dX1_putUpon_5 (by decide) c1 ?_
    obtain rfl := so1 hf
    exact r_vret rfl dX1_putUpon_28
  · refine r_icmp_ge_f 8 rfl 28 dX1_putUpon_5 (by decide) c1 ?_
    refine r_aload_n 9 rfl 0 rfl rfl dX1_putUpon_8 ?_
    refine r_getr (q := o + 7) 12 rfl (lq_1_6 o) ho.1 kd_1_6 fl_X1_30 dX1_putUpon_9 ?_
    refine r_aload_n 13 rfl 0 rfl rfl dX1_putUpon_12 ?_
    refine r_geti 16 rfl ho.1 kd_1_8 fl_X1_50 dX1_putUpon_13 ?_
    refine r_iload_n 17 rfl 1 rfl rfl dX1_putUpon_16 ?_
    obtain ⟨b2, hf⟩ := gd_so hf
    obtain ⟨g3, e4, hf⟩ := lt_so hf
    refine r_iast 18 rfl ho.2.2.2.2.2.2.2 (inb_vp b2) dX1_putUpon_17 ?_
    refine r_heap e4 ?_
    refine r_aload_n 19 rfl 0 rfl rfl dX1_putUpon_18 ?_
    refine r_dup 20 rfl rfl dX1_putUpon_19 ?_
    refine r_geti 23 rfl ho.1 kd_1_8 fl_X1_50 dX1_putUpon_20 ?_
    refine r_iconst 24 rfl ic_1 dX1_putUpon_23 ?_
    refine r_iadd 25 rfl dX1_putUpon_24 ?_
    obtain ⟨g5, e6, hf⟩ := lt_so hf
    refine r_puti 28 rfl ho.1 kd_1_8 fw_X1_50 rfl rfl dX1_putUpon_25 ?_
    refine r_heap e6 ?_
    obtain rfl := so1 hf
    exact r_vret rfl dX1_putUpon_28
-- X1_lashRow
def f_X1_lashRow_J122 (o : Nat) (x2 : Int32) (x3 : Int32) (x4 : Int32) (x5 : Int32) (s0 : Int32) (h : HP) : Option (Int32 × HP) := if x5 = 0 then (if s0 = 0 then (if (h.1 o 7) ≤ x2 then (some (0, h)) else (if (h.1 o 7) ≤ x3 then (some (0, h)) else (if (h.1 o 7) ≤ x4 then (some (0, h)) else (some (1, h))))) else (some (0, h))) else (some (0, h))
set_option maxHeartbeats 4000000 in
set_option maxRecDepth 100000 in
theorem A_X1_lashRow_J122 (X : XE) (o : Nat) (ho : DK o) (r : Int32) (h' : HP) (x2 : Int32) (x3 : Int32) (x4 : Int32) (x5 : Int32) (s0 : Int32) (h : HP) (hf : f_X1_lashRow_J122 o x2 x3 x4 x5 s0 h = some (r, h')) : Run mX1_lashRow 1 X 122 [(0, .ref (X.1 o)), (2, .int x2), (3, .int x3), (4, .int x4), (5, .int x5)] [.int s0] h (some (.int r)) h' := by
  unfold f_X1_lashRow_J122 at hf
  refine r_istore (lv' := [(6, .int s0), (0, .ref (X.1 o)), (2, .int x2), (3, .int x3), (4, .int x4), (5, .int x5)]) 124 rfl dX1_lashRow_122 (by decide) rfl ?_
  refine r_iload 126 rfl 5 rfl dX1_lashRow_124 ?_
  rcases if_so hf with ⟨c24, hf⟩ | ⟨c24, hf⟩
  · refine r_if_ne_t 129 rfl 163 dX1_lashRow_126 (by decide) c24 ?_
    refine r_iload 131 rfl 0 rfl dX1_lashRow_129 ?_
    rcases if_so hf with ⟨c25, hf⟩ | ⟨c25, hf⟩
    · refine r_if_ne_t 134 rfl 163 dX1_lashRow_131 (by decide) c25 ?_
      refine r_iload_n 135 rfl 2 rfl rfl dX1_lashRow_134 ?_
      refine r_aload_n 136 rfl 1 rfl rfl dX1_lashRow_135 ?_
      refine r_geti 139 rfl ho.1 kd_1_7 fl_X1_47 dX1_lashRow_136 ?_
      rcases if_so hf with ⟨c26, hf⟩ | ⟨c26, hf⟩
      · refine r_icmp_ge_t 163 dX1_lashRow_139 (by decide) c26 ?_
        refine r_iconst 164 rfl ic_0 dX1_lashRow_163 ?_
        obtain ⟨rfl, rfl⟩ := so2 hf
        exact r_iret rfl rfl dX1_lashRow_164
      · refine r_icmp_ge_f 142 rfl 163 dX1_lashRow_139 (by decide) c26 ?_
        refine r_iload_n 143 rfl 3 rfl rfl dX1_lashRow_142 ?_
        refine r_aload_n 144 rfl 1 rfl rfl dX1_lashRow_143 ?_
        refine r_geti 147 rfl ho.1 kd_1_7 fl_X1_47 dX1_lashRow_144 ?_
        rcases if_so hf with ⟨c27, hf⟩ | ⟨c27, hf⟩
        · refine r_icmp_ge_t 163 dX1_lashRow_147 (by decide) c27 ?_
          refine r_iconst 164 rfl ic_0 dX1_lashRow_163 ?_
          obtain ⟨rfl, rfl⟩ := so2 hf
          exact r_iret rfl rfl dX1_lashRow_164
        · refine r_icmp_ge_f 150 rfl 163 dX1_lashRow_147 (by decide) c27 ?_
          refine r_iload 152 rfl 4 rfl dX1_lashRow_150 ?_
          refine r_aload_n 153 rfl 1 rfl rfl dX1_lashRow_152 ?_
          refine r_geti 156 rfl ho.1 kd_1_7 fl_X1_47 dX1_lashRow_153 ?_
          rcases if_so hf with ⟨c28, hf⟩ | ⟨c28, hf⟩
          · refine r_icmp_ge_t 163 dX1_lashRow_156 (by decide) c28 ?_
            refine r_iconst 164 rfl ic_0 dX1_lashRow_163 ?_
            obtain ⟨rfl, rfl⟩ := so2 hf
            exact r_iret rfl rfl dX1_lashRow_164
          · refine r_icmp_ge_f 159 rfl 163 dX1_lashRow_156 (by decide) c28 ?_
            refine r_iconst 160 rfl ic_1 dX1_lashRow_159 ?_
            refine r_goto 164 dX1_lashRow_160 (by decide) ?_
            obtain ⟨rfl, rfl⟩ := so2 hf
            exact r_iret rfl rfl dX1_lashRow_164
    · refine r_if_ne_f 163 dX1_lashRow_131 (by decide) c25 ?_
      refine r_iconst 164 rfl ic_0 dX1_lashRow_163 ?_
      obtain ⟨rfl, rfl⟩ := so2 hf
      exact r_iret rfl rfl dX1_lashRow_164
  · refine r_if_ne_f 163 dX1_lashRow_126 (by decide) c24 ?_
    refine r_iconst 164 rfl ic_0 dX1_lashRow_163 ?_
    obtain ⟨rfl, rfl⟩ := so2 hf
    exact r_iret rfl rfl dX1_lashRow_164
def f_X1_lashRow_J94 (o : Nat) (x2 : Int32) (x3 : Int32) (x4 : Int32) (s0 : Int32) (h : HP) : Option (Int32 × HP) := if x2 = x3 then (f_X1_lashRow_J122 o x2 x3 x4 s0 1 h) else (if x2 = x4 then (f_X1_lashRow_J122 o x2 x3 x4 s0 1 h) else (if x3 < 0 then (f_X1_lashRow_J122 o x2 x3 x4 s0 0 h) else (if x3 = x4 then (f_X1_lashRow_J122 o x2 x3 x4 s0 1 h) else (f_X1_lashRow_J122 o x2 x3 x4 s0 0 h))))
set_option maxHeartbeats 4000000 in
set_option maxRecDepth 100000 in
theorem A_X1_lashRow_J94 (X : XE) (o : Nat) (ho : DK o) (r : Int32) (h' : HP) (x2 : Int32) (x3 : Int32) (x4 : Int32) (s0 : Int32) (h : HP) (hf : f_X1_lashRow_J94 o x2 x3 x4 s0 h = some (r, h')) : Run mX1_lashRow 1 X 94 [(0, .ref (X.1 o)), (2, .int x2), (3, .int x3), (4, .int x4)] [.int s0] h (some (.int r)) h' := by
  unfold f_X1_lashRow_J94 at hf
  refine r_istore (lv' := [(5, .int s0), (0, .ref (X.1 o)), (2, .int x2), (3, .int x3), (4, .int x4)]) 96 rfl dX1_lashRow_94 (by decide) rfl ?_
  refine r_iload_n 97 rfl 2 rfl rfl dX1_lashRow_96 ?_
  refine r_iload_n 98 rfl 3 rfl rfl dX1_lashRow_97 ?_
  rcases if_so hf with ⟨c23, hf⟩ | ⟨c23, hf⟩
  · refine r_icmp_eq_t 117 dX1_lashRow_98 (by decide) c23 ?_
    refine r_iconst 118 rfl ic_1 dX1_lashRow_117 ?_
    refine r_goto 122 dX1_lashRow_118 (by decide) ?_
    refine r_sub (lv' := [(0, .ref (X.1 o)), (2, .int x2), (3, .int x3), (4, .int x4), (5, .int s0)]) [1, 2, 3, 4, 0] rfl ?_
    exact A_X1_lashRow_J122 X o ho _ _ x2 x3 x4 s0 1 h hf
  · refine r_icmp_eq_f 101 rfl 117 dX1_lashRow_98 (by decide) c23 ?_
    refine r_iload_n 102 rfl 2 rfl rfl dX1_lashRow_101 ?_
    refine r_iload 104 rfl 4 rfl dX1_lashRow_102 ?_
    rcases if_so hf with ⟨c29, hf⟩ | ⟨c29, hf⟩
    · refine r_icmp_eq_t 117 dX1_lashRow_104 (by decide) c29 ?_
      refine r_iconst 118 rfl ic_1 dX1_lashRow_117 ?_
      refine r_goto 122 dX1_lashRow_118 (by decide) ?_
      refine r_sub (lv' := [(0, .ref (X.1 o)), (2, .int x2), (3, .int x3), (4, .int x4), (5, .int s0)]) [1, 2, 3, 4, 0] rfl ?_
      exact A_X1_lashRow_J122 X o ho _ _ x2 x3 x4 s0 1 h hf
    · refine r_icmp_eq_f 107 rfl 117 dX1_lashRow_104 (by decide) c29 ?_
      refine r_iload_n 108 rfl 3 rfl rfl dX1_lashRow_107 ?_
      rcases if_so hf with ⟨c30, hf⟩ | ⟨c30, hf⟩
      · refine r_if_lt_t 121 dX1_lashRow_108 (by decide) c30 ?_
        refine r_iconst 122 rfl ic_0 dX1_lashRow_121 ?_
        refine r_sub (lv' := [(0, .ref (X.1 o)), (2, .int x2), (3, .int x3), (4, .int x4), (5, .int s0)]) [1, 2, 3, 4, 0] rfl ?_
        exact A_X1_lashRow_J122 X o ho _ _ x2 x3 x4 s0 0 h hf
      · refine r_if_lt_f 111 rfl 121 dX1_lashRow_108 (by decide) c30 ?_
        refine r_iload_n 112 rfl 3 rfl rfl dX1_lashRow_111 ?_
        refine r_iload 114 rfl 4 rfl dX1_lashRow_112 ?_
        rcases if_so hf with ⟨c31, hf⟩ | ⟨c31, hf⟩
        · refine r_icmp_ne_t 117 rfl 121 dX1_lashRow_114 (by decide) c31 ?_
          refine r_iconst 118 rfl ic_1 dX1_lashRow_117 ?_
          refine r_goto 122 dX1_lashRow_118 (by decide) ?_
          refine r_sub (lv' := [(0, .ref (X.1 o)), (2, .int x2), (3, .int x3), (4, .int x4), (5, .int s0)]) [1, 2, 3, 4, 0] rfl ?_
          exact A_X1_lashRow_J122 X o ho _ _ x2 x3 x4 s0 1 h hf
        · refine r_icmp_ne_f 121 dX1_lashRow_114 (by decide) c31 ?_
          refine r_iconst 122 rfl ic_0 dX1_lashRow_121 ?_
          refine r_sub (lv' := [(0, .ref (X.1 o)), (2, .int x2), (3, .int x3), (4, .int x4), (5, .int s0)]) [1, 2, 3, 4, 0] rfl ?_
          exact A_X1_lashRow_J122 X o ho _ _ x2 x3 x4 s0 0 h hf
def f_X1_lashRow (o : Nat) (x1 : Int32) (h : HP) : Option (Int32 × HP) := if x1 < 0 then (some (0, h)) else (if x1 < 294 then (lt ((x1 / 49) : Int32) fun v3 => lt ((((x1 / 7) - (x1 / 7) / 7 * 7) - 1) : Int32) fun v5 => lt (((x1 - x1 / 7 * 7) - 1) : Int32) fun v7 => gd (inb 0 3) (lt (si h (o + 7) (Int32.toNatClampNeg 0) v3) fun g10 => gd (inb 1 3) (lt (si g10 (o + 7) (Int32.toNatClampNeg 1) v5) fun g13 => gd (inb 2 3) (lt (si g13 (o + 7) (Int32.toNatClampNeg 2) v7) fun g16 => if (0 : Int32) ≤ v5 then (if (0 : Int32) ≤ v7 then (lt (si g16 o 8 3) fun g20 => if (0 : Int32) ≤ v5 then (f_X1_lashRow_J94 o v3 v5 v7 0 g20) else (if v7 < 0 then (f_X1_lashRow_J94 o v3 v5 v7 0 g20) else (f_X1_lashRow_J94 o v3 v5 v7 1 g20))) else (lt (si g16 o 8 2) fun g33 => if (0 : Int32) ≤ v5 then (f_X1_lashRow_J94 o v3 v5 v7 0 g33) else (if v7 < 0 then (f_X1_lashRow_J94 o v3 v5 v7 0 g33) else (f_X1_lashRow_J94 o v3 v5 v7 1 g33)))) else (lt (si g16 o 8 1) fun g37 => if (0 : Int32) ≤ v5 then (f_X1_lashRow_J94 o v3 v5 v7 0 g37) else (if v7 < 0 then (f_X1_lashRow_J94 o v3 v5 v7 0 g37) else (f_X1_lashRow_J94 o v3 v5 v7 1 g37))))))) else (some (0, h)))
set_option maxHeartbeats 4000000 in
set_option maxRecDepth 100000 in
theorem A_X1_lashRow (X : XE) (o : Nat) (ho : DK o) (x1 : Int32) (h : HP) (r : Int32) (h' : HP) (hf : f_X1_lashRow o x1 h = some (r, h')) : CC mX1_lashRow 1 X [.ref (X.1 o), .int x1] h (some (.int r)) h' := by
  refine CC_of rfl (Nat.le_of_ble_eq_true rfl) ?_
  show Run mX1_lashRow 1 X 0 [(0, .ref (X.1 o)), (1, .int x1)] [] h (some (.int r)) h'
  unfold f_X1_lashRow at hf
  refine r_iload_n 1 rfl 1 rfl rfl dX1_lashRow_0 ?_
  rcases if_so hf with ⟨c1, hf⟩ | ⟨c1, hf⟩
  · refine r_if_lt_t 11 dX1_lashRow_1 (by decide) c1 ?_
    refine r_iconst 12 rfl ic_0 dX1_lashRow_11 ?_
    obtain ⟨rfl, rfl⟩ := so2 hf
    exact r_iret rfl rfl dX1_lashRow_12
  · refine r_if_lt_f 4 rfl 11 dX1_lashRow_1 (by decide) c1 ?_
    refine r_iload_n 5 rfl 1 rfl rfl dX1_lashRow_4 ?_
    refine r_sipush 8 rfl sp_294 dX1_lashRow_5 ?_
    rcases if_so hf with ⟨c2, hf⟩ | ⟨c2, hf⟩
    · refine r_icmp_lt_t 13 dX1_lashRow_8 (by decide) c2 ?_
      refine r_iload_n 14 rfl 1 rfl rfl dX1_lashRow_13 ?_
      refine r_bipush 16 rfl bp_49 dX1_lashRow_14 ?_
      refine r_idiv 17 rfl (by decide) dX1_lashRow_16 ?_
      obtain ⟨v3, e4, hf⟩ := lt_so hf
      refine r_top e4 ?_
      refine r_istore_n (lv' := [(2, .int v3), (0, .ref (X.1 o)), (1, .int x1)]) 18 rfl dX1_lashRow_17 (by decide) rfl rfl ?_
      refine r_iload_n 19 rfl 2 rfl rfl dX1_lashRow_18 ?_
      refine r_bipush 21 rfl bp_7 dX1_lashRow_19 ?_
      refine r_idiv 22 rfl (by decide) dX1_lashRow_21 ?_
      refine r_bipush 24 rfl bp_7 dX1_lashRow_22 ?_
      refine r_irem 25 rfl (by decide) dX1_lashRow_24 ?_
      refine r_iconst 26 rfl ic_1 dX1_lashRow_25 ?_
      refine r_isub 27 rfl dX1_lashRow_26 ?_
      obtain ⟨v5, e6, hf⟩ := lt_so hf
      refine r_top e6 ?_
      refine r_istore_n (lv' := [(3, .int v5), (2, .int v3), (0, .ref (X.1 o)), (1, .int x1)]) 28 rfl dX1_lashRow_27 (by decide) rfl rfl ?_
      refine r_iload_n 29 rfl 3 rfl rfl dX1_lashRow_28 ?_
      refine r_bipush 31 rfl bp_7 dX1_lashRow_29 ?_
      refine r_irem 32 rfl (by decide) dX1_lashRow_31 ?_
      refine r_iconst 33 rfl ic_1 dX1_lashRow_32 ?_
      refine r_isub 34 rfl dX1_lashRow_33 ?_
      obtain ⟨v7, e8, hf⟩ := lt_so hf
      refine r_top e8 ?_
      refine r_istore (lv' := [(4, .int v7), (3, .int v5), (2, .int v3), (0, .ref (X.1 o)), (1, .int x1)]) 36 rfl dX1_lashRow_34 (by decide) rfl ?_
      refine r_aload_n 37 rfl 3 rfl rfl dX1_lashRow_36 ?_
      refine r_getr (q := o + 7) 40 rfl (lq_1_6 o) ho.1 kd_1_6 fl_X1_30 dX1_lashRow_37 ?_
      refine r_iconst 41 rfl ic_0 dX1_lashRow_40 ?_
      refine r_iload_n 42 rfl 2 rfl rfl dX1_lashRow_41 ?_
      obtain ⟨b9, hf⟩ := gd_so hf
      obtain ⟨g10, e11, hf⟩ := lt_so hf
      refine r_iast 43 rfl ho.2.2.2.2.2.2.2 (inb_vp b9) dX1_lashRow_42 ?_
      refine r_heap e11 ?_
      refine r_aload_n 44 rfl 3 rfl rfl dX1_lashRow_43 ?_
      refine r_getr (q := o + 7) 47 rfl (lq_1_6 o) ho.1 kd_1_6 fl_X1_30 dX1_lashRow_44 ?_
      refine r_iconst 48 rfl ic_1 dX1_lashRow_47 ?_
      refine r_iload_n 49 rfl 1 rfl rfl dX1_lashRow_48 ?_
      obtain ⟨b12, hf⟩ := gd_so hf
      obtain ⟨g13, e14, hf⟩ := lt_so hf
      refine r_iast 50 rfl ho.2.2.2.2.2.2.2 (inb_vp b12) dX1_lashRow_49 ?_
      refine r_heap e14 ?_
      refine r_aload_n 51 rfl 3 rfl rfl dX1_lashRow_50 ?_
      refine r_getr (q := o + 7) 54 rfl (lq_1_6 o) ho.1 kd_1_6 fl_X1_30 dX1_lashRow_51 ?_
      refine r_iconst 55 rfl ic_2 dX1_lashRow_54 ?_
      refine r_iload 57 rfl 0 rfl dX1_lashRow_55 ?_
      obtain ⟨b15, hf⟩ := gd_so hf
      obtain ⟨g16, e17, hf⟩ := lt_so hf
      refine r_iast 58 rfl ho.2.2.2.2.2.2.2 (inb_vp b15) dX1_lashRow_57 ?_
      refine r_heap e17 ?_
      refine r_aload_n 59 rfl 3 rfl rfl dX1_lashRow_58 ?_
      refine r_iload_n 60 rfl 1 rfl rfl dX1_lashRow_59 ?_
      rcases if_so hf with ⟨c18, hf⟩ | ⟨c18, hf⟩
      · refine r_if_ge_t 67 dX1_lashRow_60 (by decide) c18 ?_
        refine r_iload 69 rfl 0 rfl dX1_lashRow_67 ?_
        rcases if_so hf with ⟨c19, hf⟩ | ⟨c19, hf⟩
        · refine r_if_ge_t 76 dX1_lashRow_69 (by decide) c19 ?_
          refine r_iconst 77 rfl ic_3 dX1_lashRow_76 ?_
          obtain ⟨g20, e21, hf⟩ := lt_so hf
          refine r_puti 80 rfl ho.1 kd_1_8 fw_X1_50 rfl rfl dX1_lashRow_77 ?_
          refine r_heap e21 ?_
          refine r_iload_n 81 rfl 1 rfl rfl dX1_lashRow_80 ?_
          rcases if_so hf with ⟨c22, hf⟩ | ⟨c22, hf⟩
          · refine r_if_ge_t 93 dX1_lashRow_81 (by decide) c22 ?_
            refine r_iconst 94 rfl ic_0 dX1_lashRow_93 ?_
            refine r_sub (lv' := [(0, .ref (X.1 o)), (2, .int v3), (3, .int v5), (4, .int v7)]) [3, 2, 1, 0] rfl ?_
            exact A_X1_lashRow_J94 X o ho _ _ v3 v5 v7 0 g20 hf
          · refine r_if_ge_f 84 rfl 93 dX1_lashRow_81 (by decide) c22 ?_
            refine r_iload 86 rfl 0 rfl dX1_lashRow_84 ?_
            rcases if_so hf with ⟨c32, hf⟩ | ⟨c32, hf⟩
            · refine r_if_lt_t 93 dX1_lashRow_86 (by decide) c32 ?_
              refine r_iconst 94 rfl ic_0 dX1_lashRow_93 ?_
              refine r_sub (lv' := [(0, .ref (X.1 o)), (2, .int v3), (3, .int v5), (4, .int v7)]) [3, 2, 1, 0] rfl ?_
              exact A_X1_lashRow_J94 X o ho _ _ v3 v5 v7 0 g20 hf
            · refine r_if_lt_f 89 rfl 93 dX1_lashRow_86 (by decide) c32 ?_
              refine r_iconst 90 rfl ic_1 dX1_lashRow_89 ?_
              refine r_goto 94 dX1_lashRow_90 (by decide) ?_
              refine r_sub (lv' := [(0, .ref (X.1 o)), (2, .int v3), (3, .int v5), (4, .int v7)]) [3, 2, 1, 0] rfl ?_
              exact A_X1_lashRow_J94 X o ho _ _ v3 v5 v7 1 g20 hf
        · refine r_if_ge_f 72 rfl 76 dX1_lashRow_69 (by decide) c19 ?_
          refine r_iconst 73 rfl ic_2 dX1_lashRow_72 ?_
          refine r_goto 77 dX1_lashRow_73 (by decide) ?_
          obtain ⟨g33, e34, hf⟩ := lt_so hf
          refine r_puti 80 rfl ho.1 kd_1_8 fw_X1_50 rfl rfl dX1_lashRow_77 ?_
          refine r_heap e34 ?_
          refine r_iload_n 81 rfl 1 rfl rfl dX1_lashRow_80 ?_
          rcases if_so hf with ⟨c35, hf⟩ | ⟨c35, hf⟩
          · refine r_if_ge_t 93 dX1_lashRow_81 (by decide) c35 ?_
            refine r_iconst 94 rfl ic_0 dX1_lashRow_93 ?_
            refine r_sub (lv' := [(0, .ref (X.1 o)), (2, .int v3), (3, .int v5), (4, .int v7)]) [3, 2, 1, 0] rfl ?_
            exact A_X1_lashRow_J94 X o ho _ _ v3 v5 v7 0 g33 hf
          · refine r_if_ge_f 84 rfl 93 dX1_lashRow_81 (by decide) c35 ?_
            refine r_iload 86 rfl 0 rfl dX1_lashRow_84 ?_
            rcases if_so hf with ⟨c36, hf⟩ | ⟨c36, hf⟩
            · refine r_if_lt_t 93 dX1_lashRow_86 (by decide) c36 ?_
              refine r_iconst 94 rfl ic_0 dX1_lashRow_93 ?_
              refine r_sub (lv' := [(0, .ref (X.1 o)), (2, .int v3), (3, .int v5), (4, .int v7)]) [3, 2, 1, 0] rfl ?_
              exact A_X1_lashRow_J94 X o ho _ _ v3 v5 v7 0 g33 hf
            · refine r_if_lt_f 89 rfl 93 dX1_lashRow_86 (by decide) c36 ?_
              refine r_iconst 90 rfl ic_1 dX1_lashRow_89 ?_
              refine r_goto 94 dX1_lashRow_90 (by decide) ?_
              refine r_sub (lv' := [(0, .ref (X.1 o)), (2, .int v3), (3, .int v5), (4, .int v7)]) [3, 2, 1, 0] rfl ?_
              exact A_X1_lashRow_J94 X o ho _ _ v3 v5 v7 1 g33 hf
      · refine r_if_ge_f 63 rfl 67 dX1_lashRow_60 (by decide) c18 ?_
        refine r_iconst 64 rfl ic_1 dX1_lashRow_63 ?_
        refine r_goto 77 dX1_lashRow_64 (by decide) ?_
        obtain ⟨g37, e38, hf⟩ := lt_so hf
        refine r_puti 80 rfl ho.1 kd_1_8 fw_X1_50 rfl rfl dX1_lashRow_77 ?_
        refine r_heap e38 ?_
        refine r_iload_n 81 rfl 1 rfl rfl dX1_lashRow_80 ?_
        rcases if_so hf with ⟨c39, hf⟩ | ⟨c39, hf⟩
        · refine r_if_ge_t 93 dX1_lashRow_81 (by decide) c39 ?_
          refine r_iconst 94 rfl ic_0 dX1_lashRow_93 ?_
          refine r_sub (lv' := [(0, .ref (X.1 o)), (2, .int v3), (3, .int v5), (4, .int v7)]) [3, 2, 1, 0] rfl ?_
          exact A_X1_lashRow_J94 X o ho _ _ v3 v5 v7 0 g37 hf
        · refine r_if_ge_f 84 rfl 93 dX1_lashRow_81 (by decide) c39 ?_
          refine r_iload 86 rfl 0 rfl dX1_lashRow_84 ?_
          rcases if_so hf with ⟨c40, hf⟩ | ⟨c40, hf⟩
          · refine r_if_lt_t 93 dX1_lashRow_86 (by decide) c40 ?_
            refine r_iconst 94 rfl ic_0 dX1_lashRow_93 ?_
            refine r_sub (lv' := [(0, .ref (X.1 o)), (2, .int v3), (3, .int v5), (4, .int v7)]) [3, 2, 1, 0] rfl ?_
            exact A_X1_lashRow_J94 X o ho _ _ v3 v5 v7 0 g37 hf
          · refine r_if_lt_f 89 rfl 93 dX1_lashRow_86 (by decide) c40 ?_
            refine r_iconst 90 rfl ic_1 dX1_lashRow_89 ?_
            refine r_goto 94 dX1_lashRow_90 (by decide) ?_
            refine r_sub (lv' := [(0, .ref (X.1 o)), (2, .int v3), (3, .int v5), (4, .int v7)]) [3, 2, 1, 0] rfl ?_
            exact A_X1_lashRow_J94 X o ho _ _ v3 v5 v7 1 g37 hf
    · refine r_icmp_lt_f 11 rfl 13 dX1_lashRow_8 (by decide) c2 ?_
      refine r_iconst 12 rfl ic_0 dX1_lashRow_11 ?_
      obtain ⟨rfl, rfl⟩ := so2 hf
      exact r_iret rfl rfl dX1_lashRow_12
-- X1_standsOfTheSame
def f_X1_standsOfTheSame_L2 (o : Nat) (q1 : Nat) (h : HP) : Nat → Int32 → Option Int32
  | 0, _ => none
  | n + 1, x2 => if (h.1 o 8) ≤ x2 then (if (h.1 o 8) = (h.1 q1 8) then (some 1) else (some 0)) else (gd (inb x2 3) (bo (f_X1_placeOf q1 (h.1 (o + 7) (Int32.toNatClampNeg x2)) h) fun v4 => if (0 : Int32) ≤ v4 then (lt (x2 + 1 : Int32) fun v7 => f_X1_standsOfTheSame_L2 o q1 h n v7) else (some 0)))
set_option maxHeartbeats 4000000 in
set_option maxRecDepth 100000 in
theorem A_X1_standsOfTheSame_L2 (X : XE) (o : Nat) (ho : DK o) (q1 : Nat) (hq1 : DK q1) (h : HP) (r : Int32) : ∀ (n : Nat) (x2 : Int32), f_X1_standsOfTheSame_L2 o q1 h n x2 = some r → Run mX1_standsOfTheSame 2 X 2 [(0, .ref (X.1 o)), (1, .ref (X.1 q1)), (2, .int x2)] [] h (some (.int r)) h := by
  intro n
  induction n with
  | zero => intro x2 hf; cases hf
  | succ n ih =>
    intro x2 hf
    rw [f_X1_standsOfTheSame_L2] at hf
    refine r_iload_n 3 rfl 2 rfl rfl dX1_standsOfTheSame_2 ?_
    refine r_aload_n 4 rfl 0 rfl rfl dX1_standsOfTheSame_3 ?_
    refine r_geti 7 rfl ho.1 kd_1_8 fl_X1_50 dX1_standsOfTheSame_4 ?_
    rcases if_so hf with ⟨c1, hf⟩ | ⟨c1, hf⟩
    · refine r_icmp_ge_t 31 dX1_standsOfTheSame_7 (by decide) c1 ?_
      refine r_aload_n 32 rfl 0 rfl rfl dX1_standsOfTheSame_31 ?_
      refine r_geti 35 rfl ho.1 kd_1_8 fl_X1_50 dX1_standsOfTheSame_32 ?_
      refine r_aload_n 36 rfl 1 rfl rfl dX1_standsOfTheSame_35 ?_
      refine r_geti 39 rfl hq1.1 kd_1_8 fl_X1_50 dX1_standsOfTheSame_36 ?_
      rcases if_so hf with ⟨c2, hf⟩ | ⟨c2, hf⟩
      · refine r_icmp_ne_t 42 rfl 46 dX1_standsOfTheSame_39 (by decide) c2 ?_
        refine r_iconst 43 rfl ic_1 dX1_standsOfTheSame_42 ?_
        refine r_goto 47 dX1_standsOfTheSame_43 (by decide) ?_
        obtain rfl := so1 hf
        exact r_iret rfl rfl dX1_standsOfTheSame_47
      · refine r_icmp_ne_f 46 dX1_standsOfTheSame_39 (by decide) c2 ?_
        refine r_iconst 47 rfl ic_0 dX1_standsOfTheSame_46 ?_
        obtain rfl := so1 hf
        exact r_iret rfl rfl dX1_standsOfTheSame_47
    · refine r_icmp_ge_f 10 rfl 31 dX1_standsOfTheSame_7 (by decide) c1 ?_
      refine r_aload_n 11 rfl 1 rfl rfl dX1_standsOfTheSame_10 ?_
      refine r_aload_n 12 rfl 0 rfl rfl dX1_standsOfTheSame_11 ?_
      refine r_getr (q := o + 7) 15 rfl (lq_1_6 o) ho.1 kd_1_6 fl_X1_30 dX1_standsOfTheSame_12 ?_
      refine r_iload_n 16 rfl 2 rfl rfl dX1_standsOfTheSame_15 ?_
      obtain ⟨b3, hf⟩ := gd_so hf
      refine r_iald 17 rfl ho.2.2.2.2.2.2.2 (inb_vp b3) dX1_standsOfTheSame_16 ?_
      obtain ⟨v4, e5, hf⟩ := bo_so hf
      refine r_callVi 20 rfl (A_X1_placeOf X q1 hq1 (h.1 (o + 7) (Int32.toNatClampNeg x2)) h v4 e5) (by omega) cw_X1_66 hq1.1 cl_1 rfl rfl (Nat.le_of_ble_eq_true rfl) dX1_standsOfTheSame_17 ?_
      rcases if_so hf with ⟨c6, hf⟩ | ⟨c6, hf⟩
      · refine r_if_ge_t 25 dX1_standsOfTheSame_20 (by decide) c6 ?_
        obtain ⟨v7, e8, hf⟩ := lt_so hf
        refine r_iinc (lv' := [(2, .int v7), (0, .ref (X.1 o)), (1, .ref (X.1 q1))]) 28 rfl 2 dX1_standsOfTheSame_25 rfl (by rw [e8, ic_1]) (by decide) rfl ?_
        refine r_goto 2 dX1_standsOfTheSame_28 (by decide) ?_
        refine r_sub (lv' := [(0, .ref (X.1 o)), (1, .ref (X.1 q1)), (2, .int v7)]) [1, 2, 0] rfl ?_
        exact ih v7 hf
      · refine r_if_ge_f 23 rfl 25 dX1_standsOfTheSame_20 (by decide) c6 ?_
        refine r_iconst 24 rfl ic_0 dX1_standsOfTheSame_23 ?_
        obtain rfl := so1 hf
        exact r_iret rfl rfl dX1_standsOfTheSame_24
def f_X1_standsOfTheSame (o : Nat) (q1 : Nat) (h : HP) : Option Int32 := f_X1_standsOfTheSame_L2 o q1 h FU 0
set_option maxHeartbeats 4000000 in
set_option maxRecDepth 100000 in
theorem A_X1_standsOfTheSame (X : XE) (o : Nat) (ho : DK o) (q1 : Nat) (hq1 : DK q1) (h : HP) (r : Int32) (hf : f_X1_standsOfTheSame o q1 h = some r) : CC mX1_standsOfTheSame 2 X [.ref (X.1 o), .ref (X.1 q1)] h (some (.int r)) h := by
  refine CC_of rfl (Nat.le_of_ble_eq_true rfl) ?_
  show Run mX1_standsOfTheSame 2 X 0 [(0, .ref (X.1 o)), (1, .ref (X.1 q1))] [] h (some (.int r)) h
  unfold f_X1_standsOfTheSame at hf
  refine r_iconst 1 rfl ic_0 dX1_standsOfTheSame_0 ?_
  refine r_istore_n (lv' := [(2, .int 0), (0, .ref (X.1 o)), (1, .ref (X.1 q1))]) 2 rfl dX1_standsOfTheSame_1 (by decide) rfl rfl ?_
  refine r_sub (lv' := [(0, .ref (X.1 o)), (1, .ref (X.1 q1)), (2, .int 0)]) [1, 2, 0] rfl ?_
  exact A_X1_standsOfTheSame_L2 X o ho q1 hq1 h _ FU 0 hf
-- X1_above
def f_X1_above_L4 (o : Nat) (h : HP) : Nat → Int32 → Int32 → Int32 → Option Int32
  | 0, _, _, _ => none
  | n + 1, x1, x2, x3 => if (h.1 o 8) ≤ x3 then (bo (h.2.2 o) fun w2 => gd (isOc w2) (lt (((h.1 w2 6) * (((h.1 o 8) - 1) - x1)) : Int32) fun v5 => if x2 ≤ v5 then (some 0) else (some (x2 - v5)))) else (gd (inb x3 3) (gd (inb (h.1 (o + 7) (Int32.toNatClampNeg x3)) 6) (lt ((x2 + (h.1 (o + 3) (Int32.toNatClampNeg (h.1 (o + 7) (Int32.toNatClampNeg x3))))) : Int32) fun v10 => lt (x3 + 1 : Int32) fun v12 => f_X1_above_L4 o h n x1 v10 v12)))
set_option maxHeartbeats 4000000 in
set_option maxRecDepth 100000 in
theorem A_X1_above_L4 (X : XE) (o : Nat) (ho : DK o) (h : HP) (r : Int32) : ∀ (n : Nat) (x1 : Int32) (x2 : Int32) (x3 : Int32), f_X1_above_L4 o h n x1 x2 x3 = some r → Run mX1_above 1 X 4 [(0, .ref (X.1 o)), (1, .int x1), (2, .int x2), (3, .int x3)] [] h (some (.int r)) h := by
  intro n
  induction n with
  | zero => intro x1 x2 x3 hf; cases hf
  | succ n ih =>
    intro x1 x2 x3 hf
    rw [f_X1_above_L4] at hf
    refine r_iload_n 5 rfl 3 rfl rfl dX1_above_4 ?_
    refine r_aload_n 6 rfl 0 rfl rfl dX1_above_5 ?_
    refine r_geti 9 rfl ho.1 kd_1_8 fl_X1_50 dX1_above_6 ?_
    rcases if_so hf with ⟨c1, hf⟩ | ⟨c1, hf⟩
    · refine r_icmp_ge_t 32 dX1_above_9 (by decide) c1 ?_
      refine r_aload_n 33 rfl 0 rfl rfl dX1_above_32 ?_
      obtain ⟨w2, e3, hf⟩ := bo_so hf
      obtain ⟨b4, hf⟩ := gd_so hf
      have ow2 := oc_of b4
      refine r_gets 36 rfl e3 ho.1 kd_1_13 fl_X1_33 dX1_above_33 ?_
      refine r_geti 39 rfl ow2.1 kd_2_6 fl_X1_70 dX1_above_36 ?_
      refine r_aload_n 40 rfl 0 rfl rfl dX1_above_39 ?_
      refine r_geti 43 rfl ho.1 kd_1_8 fl_X1_50 dX1_above_40 ?_
      refine r_iconst 44 rfl ic_1 dX1_above_43 ?_
      refine r_isub 45 rfl dX1_above_44 ?_
      refine r_iload_n 46 rfl 1 rfl rfl dX1_above_45 ?_
      refine r_isub 47 rfl dX1_above_46 ?_
      refine r_imul 48 rfl dX1_above_47 ?_
      obtain ⟨v5, e6, hf⟩ := lt_so hf
      refine r_top e6 ?_
      refine r_istore_n (lv' := [(3, .int v5), (0, .ref (X.1 o)), (1, .int x1), (2, .int x2)]) 49 rfl dX1_above_48 (by decide) rfl rfl ?_
      refine r_iload_n 50 rfl 3 rfl rfl dX1_above_49 ?_
      refine r_iload_n 51 rfl 0 rfl rfl dX1_above_50 ?_
      rcases if_so hf with ⟨c7, hf⟩ | ⟨c7, hf⟩
      · refine r_icmp_le_t 60 dX1_above_51 (by decide) c7 ?_
        refine r_iconst 61 rfl ic_0 dX1_above_60 ?_
        obtain rfl := so1 hf
        exact r_iret rfl rfl dX1_above_61
      · refine r_icmp_le_f 54 rfl 60 dX1_above_51 (by decide) c7 ?_
        refine r_iload_n 55 rfl 3 rfl rfl dX1_above_54 ?_
        refine r_iload_n 56 rfl 0 rfl rfl dX1_above_55 ?_
        refine r_isub 57 rfl dX1_above_56 ?_
        refine r_goto 61 dX1_above_57 (by decide) ?_
        obtain rfl := so1 hf
        exact r_iret rfl rfl dX1_above_61
    · refine r_icmp_ge_f 12 rfl 32 dX1_above_9 (by decide) c1 ?_
      refine r_iload_n 13 rfl 2 rfl rfl dX1_above_12 ?_
      refine r_aload_n 14 rfl 0 rfl rfl dX1_above_13 ?_
      refine r_getr (q := o + 3) 17 rfl (lq_1_2 o) ho.1 kd_1_2 fl_X1_18 dX1_above_14 ?_
      refine r_aload_n 18 rfl 0 rfl rfl dX1_above_17 ?_
      refine r_getr (q := o + 7) 21 rfl (lq_1_6 o) ho.1 kd_1_6 fl_X1_30 dX1_above_18 ?_
      refine r_iload_n 22 rfl 3 rfl rfl dX1_above_21 ?_
      obtain ⟨b8, hf⟩ := gd_so hf
      refine r_iald 23 rfl ho.2.2.2.2.2.2.2 (inb_vp b8) dX1_above_22 ?_
      obtain ⟨b9, hf⟩ := gd_so hf
      refine r_iald 24 rfl ho.2.2.2.1 (inb_vp b9) dX1_above_23 ?_
      refine r_iadd 25 rfl dX1_above_24 ?_
      obtain ⟨v10, e11, hf⟩ := lt_so hf
      refine r_top e11 ?_
      refine r_istore_n (lv' := [(2, .int v10), (0, .ref (X.1 o)), (1, .int x1), (3, .int x3)]) 26 rfl dX1_above_25 (by decide) rfl rfl ?_
      obtain ⟨v12, e13, hf⟩ := lt_so hf
      refine r_iinc (lv' := [(3, .int v12), (2, .int v10), (0, .ref (X.1 o)), (1, .int x1)]) 29 rfl 3 dX1_above_26 rfl (by rw [e13, ic_1]) (by decide) rfl ?_
      refine r_goto 4 dX1_above_29 (by decide) ?_
      refine r_sub (lv' := [(0, .ref (X.1 o)), (1, .int x1), (2, .int v10), (3, .int v12)]) [2, 3, 1, 0] rfl ?_
      exact ih x1 v10 v12 hf
def f_X1_above (o : Nat) (x1 : Int32) (h : HP) : Option Int32 := f_X1_above_L4 o h FU x1 0 x1
set_option maxHeartbeats 4000000 in
set_option maxRecDepth 100000 in
theorem A_X1_above (X : XE) (o : Nat) (ho : DK o) (x1 : Int32) (h : HP) (r : Int32) (hf : f_X1_above o x1 h = some r) : CC mX1_above 1 X [.ref (X.1 o), .int x1] h (some (.int r)) h := by
  refine CC_of rfl (Nat.le_of_ble_eq_true rfl) ?_
  show Run mX1_above 1 X 0 [(0, .ref (X.1 o)), (1, .int x1)] [] h (some (.int r)) h
  unfold f_X1_above at hf
  refine r_iconst 1 rfl ic_0 dX1_above_0 ?_
  refine r_istore_n (lv' := [(2, .int 0), (0, .ref (X.1 o)), (1, .int x1)]) 2 rfl dX1_above_1 (by decide) rfl rfl ?_
  refine r_iload_n 3 rfl 2 rfl rfl dX1_above_2 ?_
  refine r_istore_n (lv' := [(3, .int x1), (2, .int 0), (0, .ref (X.1 o)), (1, .int x1)]) 4 rfl dX1_above_3 (by decide) rfl rfl ?_
  refine r_sub (lv' := [(0, .ref (X.1 o)), (1, .int x1), (2, .int 0), (3, .int x1)]) [2, 3, 1, 0] rfl ?_
  exact A_X1_above_L4 X o ho h _ FU x1 0 x1 hf
-- X1_height
def f_X1_height (o : Nat) (h : HP) : Option Int32 := if (h.1 o 8) = 0 then (some 0) else (bo (f_X1_above o 0 h) fun v2 => some v2)
set_option maxHeartbeats 4000000 in
set_option maxRecDepth 100000 in
theorem A_X1_height (X : XE) (o : Nat) (ho : DK o) (h : HP) (r : Int32) (hf : f_X1_height o h = some r) : CC mX1_height 2 X [.ref (X.1 o)] h (some (.int r)) h := by
  refine CC_of rfl (Nat.le_of_ble_eq_true rfl) ?_
  show Run mX1_height 2 X 0 [(0, .ref (X.1 o))] [] h (some (.int r)) h
  unfold f_X1_height at hf
  refine r_aload_n 1 rfl 0 rfl rfl dX1_height_0 ?_
  refine r_geti 4 rfl ho.1 kd_1_8 fl_X1_50 dX1_height_1 ?_
  rcases if_so hf with ⟨c1, hf⟩ | ⟨c1, hf⟩
  · refine r_if_ne_t 7 rfl 11 dX1_height_4 (by decide) c1 ?_
    refine r_iconst 8 rfl ic_0 dX1_height_7 ?_
    refine r_goto 16 dX1_height_8 (by decide) ?_
    obtain rfl := so1 hf
    exact r_iret rfl rfl dX1_height_16
  · refine r_if_ne_f 11 dX1_height_4 (by decide) c1 ?_
    refine r_aload_n 12 rfl 0 rfl rfl dX1_height_11 ?_
    refine r_iconst 13 rfl ic_0 dX1_height_12 ?_
    obtain ⟨v2, e3, hf⟩ := bo_so hf
    refine r_callVi 16 rfl (A_X1_above X o ho 0 h v2 e3) (by omega) cw_X1_75 ho.1 cl_1 rfl rfl (Nat.le_of_ble_eq_true rfl) dX1_height_13 ?_
    obtain rfl := so1 hf
    exact r_iret rfl rfl dX1_height_16
-- X1_load
def f_X1_load (o : Nat) (x1 : Int32) (h : HP) : Option Int32 := bo (f_X1_above o x1 h) fun v1 => bo (h.2.2 o) fun w3 => gd (isOc w3) (some (if (0 : Int32) < ((((v1 * (h.1 o 9)) / 5) + (h.1 w3 5)) - (3 * (h.1 o 10))) then ((((v1 * (h.1 o 9)) / 5) + (h.1 w3 5)) - (3 * (h.1 o 10))) else 0))
set_option maxHeartbeats 4000000 in
set_option maxRecDepth 100000 in
theorem A_X1_load (X : XE) (o : Nat) (ho : DK o) (x1 : Int32) (h : HP) (r : Int32) (hf : f_X1_load o x1 h = some r) : CC mX1_load 2 X [.ref (X.1 o), .int x1] h (some (.int r)) h := by
  refine CC_of rfl (Nat.le_of_ble_eq_true rfl) ?_
  show Run mX1_load 2 X 0 [(0, .ref (X.1 o)), (1, .int x1)] [] h (some (.int r)) h
  unfold f_X1_load at hf
  refine r_iconst 1 rfl ic_0 dX1_load_0 ?_
  refine r_aload_n 2 rfl 0 rfl rfl dX1_load_1 ?_
  refine r_iload_n 3 rfl 1 rfl rfl dX1_load_2 ?_
  obtain ⟨v1, e2, hf⟩ := bo_so hf
  refine r_callVi 6 rfl (A_X1_above X o ho x1 h v1 e2) (by omega) cw_X1_75 ho.1 cl_1 rfl rfl (Nat.le_of_ble_eq_true rfl) dX1_load_3 ?_
  refine r_aload_n 7 rfl 0 rfl rfl dX1_load_6 ?_
  refine r_geti 10 rfl ho.1 kd_1_9 fl_X1_37 dX1_load_7 ?_
  refine r_imul 11 rfl dX1_load_10 ?_
  refine r_iconst 12 rfl ic_5 dX1_load_11 ?_
  refine r_idiv 13 rfl (by decide) dX1_load_12 ?_
  refine r_aload_n 14 rfl 0 rfl rfl dX1_load_13 ?_
  obtain ⟨w3, e4, hf⟩ := bo_so hf
  obtain ⟨b5, hf⟩ := gd_so hf
  have ow3 := oc_of b5
  refine r_gets 17 rfl e4 ho.1 kd_1_13 fl_X1_33 dX1_load_14 ?_
  refine r_geti 20 rfl ow3.1 kd_2_5 fl_X1_78 dX1_load_17 ?_
  refine r_iadd 21 rfl dX1_load_20 ?_
  refine r_iconst 22 rfl ic_3 dX1_load_21 ?_
  refine r_aload_n 23 rfl 0 rfl rfl dX1_load_22 ?_
  refine r_geti 26 rfl ho.1 kd_1_10 fl_X1_53 dX1_load_23 ?_
  refine r_imul 27 rfl dX1_load_26 ?_
  refine r_isub 28 rfl dX1_load_27 ?_
  refine r_max 31 rfl (by decide) ml_X1_81 ms_max ini_Math mc_max (Nat.le_of_ble_eq_true rfl) dX1_load_28 ?_
  obtain rfl := so1 hf
  exact r_iret rfl rfl dX1_load_31
-- X1_miles
def f_X1_miles (o : Nat) (h : HP) : Option Int32 := bo (f_X1_height o h) fun v1 => some ((v1 * (h.1 o 9)) / 10)
set_option maxHeartbeats 4000000 in
set_option maxRecDepth 100000 in
theorem A_X1_miles (X : XE) (o : Nat) (ho : DK o) (h : HP) (r : Int32) (hf : f_X1_miles o h = some r) : CC mX1_miles 3 X [.ref (X.1 o)] h (some (.int r)) h := by
  refine CC_of rfl (Nat.le_of_ble_eq_true rfl) ?_
  show Run mX1_miles 3 X 0 [(0, .ref (X.1 o))] [] h (some (.int r)) h
  unfold f_X1_miles at hf
  refine r_aload_n 1 rfl 0 rfl rfl dX1_miles_0 ?_
  obtain ⟨v1, e2, hf⟩ := bo_so hf
  refine r_callVi 4 rfl (A_X1_height X o ho h v1 e2) (by omega) cw_X1_87 ho.1 cl_1 rfl rfl (Nat.le_of_ble_eq_true rfl) dX1_miles_1 ?_
  refine r_aload_n 5 rfl 0 rfl rfl dX1_miles_4 ?_
  refine r_geti 8 rfl ho.1 kd_1_9 fl_X1_37 dX1_miles_5 ?_
  refine r_imul 9 rfl dX1_miles_8 ?_
  refine r_bipush 11 rfl bp_10 dX1_miles_9 ?_
  refine r_idiv 12 rfl (by decide) dX1_miles_11 ?_
  obtain rfl := so1 hf
  exact r_iret rfl rfl dX1_miles_12
-- X1_strength
def f_X1_strength (o : Nat) (x1 : Int32) (h : HP) : Option (Int32 × HP) := bo (h.2.2 o) fun w1 => gd (isOc w1) (bd (f_X2_heart w1 o x1 h) fun v6 g4 => gd (inb x1 6) (lt ((v6 - (g4.1 (o + 4) (Int32.toNatClampNeg x1))) : Int32) fun v8 => gd (inb x1 6) (lt ((g4.1 (o + 1) (Int32.toNatClampNeg x1)) : Int32) fun v11 => if v11 = 1 then (gd (inb x1 6) (lt (((v6 / 2) - (g4.1 (o + 4) (Int32.toNatClampNeg x1))) : Int32) fun v15 => some ((if (0 : Int32) < v15 then v15 else 0), g4))) else (if v11 = 2 then (lt (v8 + 10 : Int32) fun v18 => some ((if (0 : Int32) < v18 then v18 else 0), g4)) else (if v11 = 3 then (gd (inb x1 6) (lt ((v8 + (g4.1 (o + 2) (Int32.toNatClampNeg x1))) : Int32) fun v22 => some ((if (0 : Int32) < v22 then v22 else 0), g4))) else (if v11 = 4 then (gd (inb x1 6) (lt ((((v6 / 2) - (g4.1 (o + 4) (Int32.toNatClampNeg x1))) + (2 * (g4.1 o 10))) : Int32) fun v26 => some ((if (0 : Int32) < v26 then v26 else 0), g4))) else (if v11 = 5 then (gd (inb x1 6) (lt ((v8 + (10 - (g4.1 (o + 4) (Int32.toNatClampNeg x1)))) : Int32) fun v30 => some ((if (0 : Int32) < v30 then v30 else 0), g4))) else (if v11 = 6 then (gd (inb x1 6) (gd (inb ((4 * x1) + ((g4.1 o 12) - (g4.1 o 12) / 4 * 4)) 24) (lt ((v8 + ((g4.1 (o + 2) (Int32.toNatClampNeg x1)) + (g4.1 (o + 6) (Int32.toNatClampNeg ((4 * x1) + ((g4.1 o 12) - (g4.1 o 12) / 4 * 4)))))) : Int32) fun v35 => some ((if (0 : Int32) < v35 then v35 else 0), g4)))) else ((some ((if (0 : Int32) < v8 then v8 else 0), g4)))))))))))
set_option maxHeartbeats 4000000 in
set_option maxRecDepth 100000 in
theorem A_X1_strength (X : XE) (o : Nat) (ho : DK o) (x1 : Int32) (h : HP) (r : Int32) (h' : HP) (hf : f_X1_strength o x1 h = some (r, h')) : CC mX1_strength 2 X [.ref (X.1 o), .int x1] h (some (.int r)) h' := by
  refine CC_of rfl (Nat.le_of_ble_eq_true rfl) ?_
  show Run mX1_strength 2 X 0 [(0, .ref (X.1 o)), (1, .int x1)] [] h (some (.int r)) h'
  unfold f_X1_strength at hf
  refine r_aload_n 1 rfl 0 rfl rfl dX1_strength_0 ?_
  obtain ⟨w1, e2, hf⟩ := bo_so hf
  obtain ⟨b3, hf⟩ := gd_so hf
  have ow1 := oc_of b3
  refine r_gets 4 rfl e2 ho.1 kd_1_13 fl_X1_33 dX1_strength_1 ?_
  refine r_aload_n 5 rfl 0 rfl rfl dX1_strength_4 ?_
  refine r_iload_n 6 rfl 1 rfl rfl dX1_strength_5 ?_
  obtain ⟨v6, g4, e5, hf⟩ := bd_so hf
  refine r_callVi 9 rfl (A_X2_heart X w1 ow1 o ho x1 h v6 g4 e5) (by omega) cw_X1_91 ow1.1 cl_2 rfl rfl (Nat.le_of_ble_eq_true rfl) dX1_strength_6 ?_
  refine r_istore_n (lv' := [(2, .int v6), (0, .ref (X.1 o)), (1, .int x1)]) 10 rfl dX1_strength_9 (by decide) rfl rfl ?_
  refine r_iload_n 11 rfl 0 rfl rfl dX1_strength_10 ?_
  refine r_aload_n 12 rfl 1 rfl rfl dX1_strength_11 ?_
  refine r_getr (q := o + 4) 15 rfl (lq_1_3 o) ho.1 kd_1_3 fl_X1_21 dX1_strength_12 ?_
  refine r_iload_n 16 rfl 2 rfl rfl dX1_strength_15 ?_
  obtain ⟨b7, hf⟩ := gd_so hf
  refine r_iald 17 rfl ho.2.2.2.2.1 (inb_vp b7) dX1_strength_16 ?_
  refine r_isub 18 rfl dX1_strength_17 ?_
  obtain ⟨v8, e9, hf⟩ := lt_so hf
  refine r_top e9 ?_
  refine r_istore_n (lv' := [(3, .int v8), (2, .int v6), (0, .ref (X.1 o)), (1, .int x1)]) 19 rfl dX1_strength_18 (by decide) rfl rfl ?_
  refine r_aload_n 20 rfl 2 rfl rfl dX1_strength_19 ?_
  refine r_getr (q := o + 1) 23 rfl (lq_1_0 o) ho.1 kd_1_0 fl_X1_9 dX1_strength_20 ?_
  refine r_iload_n 24 rfl 3 rfl rfl dX1_strength_23 ?_
  obtain ⟨b10, hf⟩ := gd_so hf
  refine r_iald 25 rfl ho.2.1 (inb_vp b10) dX1_strength_24 ?_
  obtain ⟨v11, e12, hf⟩ := lt_so hf
  refine r_top e12 ?_
  rcases if_so hf with ⟨c13, hf⟩ | ⟨c13, hf⟩
  · refine r_tsw_in (v := 1) 64 dX1_strength_25 c13 (by decide) (by decide) rfl (by decide) ?_
    refine r_iload_n 65 rfl 1 rfl rfl dX1_strength_64 ?_
    refine r_iconst 66 rfl ic_2 dX1_strength_65 ?_
    refine r_idiv 67 rfl (by decide) dX1_strength_66 ?_
    refine r_aload_n 68 rfl 2 rfl rfl dX1_strength_67 ?_
    refine r_getr (q := o + 4) 71 rfl (lq_1_3 o) ho.1 kd_1_3 fl_X1_21 dX1_strength_68 ?_
    refine r_iload_n 72 rfl 3 rfl rfl dX1_strength_71 ?_
    obtain ⟨b14, hf⟩ := gd_so hf
    refine r_iald 73 rfl ho.2.2.2.2.1 (inb_vp b14) dX1_strength_72 ?_
    refine r_isub 74 rfl dX1_strength_73 ?_
    obtain ⟨v15, e16, hf⟩ := lt_so hf
    refine r_top e16 ?_
    refine r_istore_n (lv' := [(3, .int v15), (2, .int v6), (0, .ref (X.1 o)), (1, .int x1)]) 75 rfl dX1_strength_74 (by decide) rfl rfl ?_
    refine r_goto 160 dX1_strength_75 (by decide) ?_
    refine r_iconst 161 rfl ic_0 dX1_strength_160 ?_
    refine r_iload_n 162 rfl 0 rfl rfl dX1_strength_161 ?_
    refine r_max 165 rfl (by decide) ml_X1_81 ms_max ini_Math mc_max (Nat.le_of_ble_eq_true rfl) dX1_strength_162 ?_
    obtain ⟨rfl, rfl⟩ := so2 hf
    exact r_iret rfl rfl dX1_strength_165
  · skip
    rcases if_so hf with ⟨c17, hf⟩ | ⟨c17, hf⟩
    · refine r_tsw_in (v := 2) 78 dX1_strength_25 c17 (by decide) (by decide) rfl (by decide) ?_
      obtain ⟨v18, e19, hf⟩ := lt_so hf
      refine r_iinc (lv' := [(3, .int v18), (2, .int v6), (0, .ref (X.1 o)), (1, .int x1)]) 81 rfl 0 dX1_strength_78 rfl (by rw [e19, ic_10]) (by decide) rfl ?_
      refine r_goto 160 dX1_strength_81 (by decide) ?_
      refine r_iconst 161 rfl ic_0 dX1_strength_160 ?_
      refine r_iload_n 162 rfl 0 rfl rfl dX1_strength_161 ?_
      refine r_max 165 rfl (by decide) ml_X1_81 ms_max ini_Math mc_max (Nat.le_of_ble_eq_true rfl) dX1_strength_162 ?_
      obtain ⟨rfl, rfl⟩ := so2 hf
      exact r_iret rfl rfl dX1_strength_165
    · skip
      rcases if_so hf with ⟨c20, hf⟩ | ⟨c20, hf⟩
      · refine r_tsw_in (v := 3) 84 dX1_strength_25 c20 (by decide) (by decide) rfl (by decide) ?_
        refine r_iload_n 85 rfl 0 rfl rfl dX1_strength_84 ?_
        refine r_aload_n 86 rfl 2 rfl rfl dX1_strength_85 ?_
        refine r_getr (q := o + 2) 89 rfl (lq_1_1 o) ho.1 kd_1_1 fl_X1_15 dX1_strength_86 ?_
        refine r_iload_n 90 rfl 3 rfl rfl dX1_strength_89 ?_
        obtain ⟨b21, hf⟩ := gd_so hf
        refine r_iald 91 rfl ho.2.2.1 (inb_vp b21) dX1_strength_90 ?_
        refine r_iadd 92 rfl dX1_strength_91 ?_
        obtain ⟨v22, e23, hf⟩ := lt_so hf
        refine r_top e23 ?_
        refine r_istore_n (lv' := [(3, .int v22), (2, .int v6), (0, .ref (X.1 o)), (1, .int x1)]) 93 rfl dX1_strength_92 (by decide) rfl rfl ?_
        refine r_goto 160 dX1_strength_93 (by decide) ?_
        refine r_iconst 161 rfl ic_0 dX1_strength_160 ?_
        refine r_iload_n 162 rfl 0 rfl rfl dX1_strength_161 ?_
        refine r_max 165 rfl (by decide) ml_X1_81 ms_max ini_Math mc_max (Nat.le_of_ble_eq_true rfl) dX1_strength_162 ?_
        obtain ⟨rfl, rfl⟩ := so2 hf
        exact r_iret rfl rfl dX1_strength_165
      · skip
        rcases if_so hf with ⟨c24, hf⟩ | ⟨c24, hf⟩
        · refine r_tsw_in (v := 4) 96 dX1_strength_25 c24 (by decide) (by decide) rfl (by decide) ?_
          refine r_iload_n 97 rfl 1 rfl rfl dX1_strength_96 ?_
          refine r_iconst 98 rfl ic_2 dX1_strength_97 ?_
          refine r_idiv 99 rfl (by decide) dX1_strength_98 ?_
          refine r_aload_n 100 rfl 2 rfl rfl dX1_strength_99 ?_
          refine r_getr (q := o + 4) 103 rfl (lq_1_3 o) ho.1 kd_1_3 fl_X1_21 dX1_strength_100 ?_
          refine r_iload_n 104 rfl 3 rfl rfl dX1_strength_103 ?_
          obtain ⟨b25, hf⟩ := gd_so hf
          refine r_iald 105 rfl ho.2.2.2.2.1 (inb_vp b25) dX1_strength_104 ?_
          refine r_isub 106 rfl dX1_strength_105 ?_
          refine r_iconst 107 rfl ic_2 dX1_strength_106 ?_
          refine r_aload_n 108 rfl 2 rfl rfl dX1_strength_107 ?_
          refine r_geti 111 rfl ho.1 kd_1_10 fl_X1_53 dX1_strength_108 ?_
          refine r_imul 112 rfl dX1_strength_111 ?_
          refine r_iadd 113 rfl dX1_strength_112 ?_
          obtain ⟨v26, e27, hf⟩ := lt_so hf
          refine r_top e27 ?_
          refine r_istore_n (lv' := [(3, .int v26), (2, .int v6), (0, .ref (X.1 o)), (1, .int x1)]) 114 rfl dX1_strength_113 (by decide) rfl rfl ?_
          refine r_goto 160 dX1_strength_114 (by decide) ?_
          refine r_iconst 161 rfl ic_0 dX1_strength_160 ?_
          refine r_iload_n 162 rfl 0 rfl rfl dX1_strength_161 ?_
          refine r_max 165 rfl (by decide) ml_X1_81 ms_max ini_Math mc_max (Nat.le_of_ble_eq_true rfl) dX1_strength_162 ?_
          obtain ⟨rfl, rfl⟩ := so2 hf
          exact r_iret rfl rfl dX1_strength_165
        · skip
          rcases if_so hf with ⟨c28, hf⟩ | ⟨c28, hf⟩
          · refine r_tsw_in (v := 5) 117 dX1_strength_25 c28 (by decide) (by decide) rfl (by decide) ?_
            refine r_iload_n 118 rfl 0 rfl rfl dX1_strength_117 ?_
            refine r_bipush 120 rfl bp_10 dX1_strength_118 ?_
            refine r_aload_n 121 rfl 2 rfl rfl dX1_strength_120 ?_
            refine r_getr (q := o + 4) 124 rfl (lq_1_3 o) ho.1 kd_1_3 fl_X1_21 dX1_strength_121 ?_
            refine r_iload_n 125 rfl 3 rfl rfl dX1_strength_124 ?_
            obtain ⟨b29, hf⟩ := gd_so hf
            refine r_iald 126 rfl ho.2.2.2.2.1 (inb_vp b29) dX1_strength_125 ?_
            refine r_isub 127 rfl dX1_strength_126 ?_
            refine r_iadd 128 rfl dX1_strength_127 ?_
            obtain ⟨v30, e31, hf⟩ := lt_so hf
            refine r_top e31 ?_
            refine r_istore_n (lv' := [(3, .int v30), (2, .int v6), (0, .ref (X.1 o)), (1, .int x1)]) 129 rfl dX1_strength_128 (by decide) rfl rfl ?_
            refine r_goto 160 dX1_strength_129 (by decide) ?_
            refine r_iconst 161 rfl ic_0 dX1_strength_160 ?_
            refine r_iload_n 162 rfl 0 rfl rfl dX1_strength_161 ?_
            refine r_max 165 rfl (by decide) ml_X1_81 ms_max ini_Math mc_max (Nat.le_of_ble_eq_true rfl) dX1_strength_162 ?_
            obtain ⟨rfl, rfl⟩ := so2 hf
            exact r_iret rfl rfl dX1_strength_165
          · skip
            rcases if_so hf with ⟨c32, hf⟩ | ⟨c32, hf⟩
            · refine r_tsw_in (v := 6) 132 dX1_strength_25 c32 (by decide) (by decide) rfl (by decide) ?_
              refine r_iload_n 133 rfl 0 rfl rfl dX1_strength_132 ?_
              refine r_aload_n 134 rfl 2 rfl rfl dX1_strength_133 ?_
              refine r_getr (q := o + 2) 137 rfl (lq_1_1 o) ho.1 kd_1_1 fl_X1_15 dX1_strength_134 ?_
              refine r_iload_n 138 rfl 3 rfl rfl dX1_strength_137 ?_
              obtain ⟨b33, hf⟩ := gd_so hf
              refine r_iald 139 rfl ho.2.2.1 (inb_vp b33) dX1_strength_138 ?_
              refine r_aload_n 140 rfl 2 rfl rfl dX1_strength_139 ?_
              refine r_getr (q := o + 6) 143 rfl (lq_1_5 o) ho.1 kd_1_5 fl_X1_27 dX1_strength_140 ?_
              refine r_iconst 144 rfl ic_4 dX1_strength_143 ?_
              refine r_iload_n 145 rfl 3 rfl rfl dX1_strength_144 ?_
              refine r_imul 146 rfl dX1_strength_145 ?_
              refine r_aload_n 147 rfl 2 rfl rfl dX1_strength_146 ?_
              refine r_geti 150 rfl ho.1 kd_1_12 fl_X1_59 dX1_strength_147 ?_
              refine r_iconst 151 rfl ic_4 dX1_strength_150 ?_
              refine r_irem 152 rfl (by decide) dX1_strength_151 ?_
              refine r_iadd 153 rfl dX1_strength_152 ?_
              obtain ⟨b34, hf⟩ := gd_so hf
              refine r_iald 154 rfl ho.2.2.2.2.2.2.1 (inb_vp b34) dX1_strength_153 ?_
              refine r_iadd 155 rfl dX1_strength_154 ?_
              refine r_iadd 156 rfl dX1_strength_155 ?_
              obtain ⟨v35, e36, hf⟩ := lt_so hf
              refine r_top e36 ?_
              refine r_istore_n (lv' := [(3, .int v35), (2, .int v6), (0, .ref (X.1 o)), (1, .int x1)]) 157 rfl dX1_strength_156 (by decide) rfl rfl ?_
              refine r_goto 160 dX1_strength_157 (by decide) ?_
              refine r_iconst 161 rfl ic_0 dX1_strength_160 ?_
              refine r_iload_n 162 rfl 0 rfl rfl dX1_strength_161 ?_
              refine r_max 165 rfl (by decide) ml_X1_81 ms_max ini_Math mc_max (Nat.le_of_ble_eq_true rfl) dX1_strength_162 ?_
              obtain ⟨rfl, rfl⟩ := so2 hf
              exact r_iret rfl rfl dX1_strength_165
            · skip
              have hx9 : v11.toInt < 1 ∨ (6 : Int) < v11.toInt := by
                have h8 := tsw_o (x := v11) 1 6 (fun k hk => by
                  match k, hk with
                  | 0, _ => exact ne_int c13
                  | 1, _ => exact ne_int c17
                  | 2, _ => exact ne_int c20
                  | 3, _ => exact ne_int c24
                  | 4, _ => exact ne_int c28
                  | 5, _ => exact ne_int c32
                  | k + 6, hk => exact absurd hk (by omega))
                exact h8
              refine r_tsw_out 160 dX1_strength_25 hx9 (by decide) ?_
              refine r_iconst 161 rfl ic_0 dX1_strength_160 ?_
              refine r_iload_n 162 rfl 0 rfl rfl dX1_strength_161 ?_
              refine r_max 165 rfl (by decide) ml_X1_81 ms_max ini_Math mc_max (Nat.le_of_ble_eq_true rfl) dX1_strength_162 ?_
              obtain ⟨rfl, rfl⟩ := so2 hf
              exact r_iret rfl rfl dX1_strength_165
-- X1_breaking
def f_X1_breaking_L2 (o : Nat) : Nat → Int32 → HP → Option (Int32 × HP)
  | 0, _, _ => none
  | n + 1, x1, h => if (h.1 o 8) ≤ x1 then (some ((-1), h)) else (bo (f_X1_load o x1 h) fun v2 => gd (inb x1 3) (bd (f_X1_strength o (h.1 (o + 7) (Int32.toNatClampNeg x1)) h) fun v7 g5 => if v2 ≤ v7 then (lt (x1 + 1 : Int32) fun v9 => f_X1_breaking_L2 o n v9 g5) else (some (x1, g5))))
set_option maxHeartbeats 4000000 in
set_option maxRecDepth 100000 in
theorem A_X1_breaking_L2 (X : XE) (o : Nat) (ho : DK o) (r : Int32) (h' : HP) : ∀ (n : Nat) (x1 : Int32) (h : HP), f_X1_breaking_L2 o n x1 h = some (r, h') → Run mX1_breaking 3 X 2 [(0, .ref (X.1 o)), (1, .int x1)] [] h (some (.int r)) h' := by
  intro n
  induction n with
  | zero => intro x1 h hf; cases hf
  | succ n ih =>
    intro x1 h hf
    rw [f_X1_breaking_L2] at hf
    refine r_iload_n 3 rfl 1 rfl rfl dX1_breaking_2 ?_
    refine r_aload_n 4 rfl 0 rfl rfl dX1_breaking_3 ?_
    refine r_geti 7 rfl ho.1 kd_1_8 fl_X1_50 dX1_breaking_4 ?_
    rcases if_so hf with ⟨c1, hf⟩ | ⟨c1, hf⟩
    · refine r_icmp_ge_t 36 dX1_breaking_7 (by decide) c1 ?_
      refine r_iconst 37 rfl ic_m1 dX1_breaking_36 ?_
      obtain ⟨rfl, rfl⟩ := so2 hf
      exact r_iret rfl rfl dX1_breaking_37
    · refine r_icmp_ge_f 10 rfl 36 dX1_breaking_7 (by decide) c1 ?_
      refine r_aload_n 11 rfl 0 rfl rfl dX1_breaking_10 ?_
      refine r_iload_n 12 rfl 1 rfl rfl dX1_breaking_11 ?_
      obtain ⟨v2, e3, hf⟩ := bo_so hf
      refine r_callVi 15 rfl (A_X1_load X o ho x1 h v2 e3) (by omega) cw_X1_95 ho.1 cl_1 rfl rfl (Nat.le_of_ble_eq_true rfl) dX1_breaking_12 ?_
      refine r_aload_n 16 rfl 0 rfl rfl dX1_breaking_15 ?_
      refine r_aload_n 17 rfl 0 rfl rfl dX1_breaking_16 ?_
      refine r_getr (q := o + 7) 20 rfl (lq_1_6 o) ho.1 kd_1_6 fl_X1_30 dX1_breaking_17 ?_
      refine r_iload_n 21 rfl 1 rfl rfl dX1_breaking_20 ?_
      obtain ⟨b4, hf⟩ := gd_so hf
      refine r_iald 22 rfl ho.2.2.2.2.2.2.2 (inb_vp b4) dX1_breaking_21 ?_
      obtain ⟨v7, g5, e6, hf⟩ := bd_so hf
      refine r_callVi 25 rfl (A_X1_strength X o ho (h.1 (o + 7) (Int32.toNatClampNeg x1)) h v7 g5 e6) (by omega) cw_X1_98 ho.1 cl_1 rfl rfl (Nat.le_of_ble_eq_true rfl) dX1_breaking_22 ?_
      rcases if_so hf with ⟨c8, hf⟩ | ⟨c8, hf⟩
      · refine r_icmp_le_t 30 dX1_breaking_25 (by decide) c8 ?_
        obtain ⟨v9, e10, hf⟩ := lt_so hf
        refine r_iinc (lv' := [(1, .int v9), (0, .ref (X.1 o))]) 33 rfl 1 dX1_breaking_30 rfl (by rw [e10, ic_1]) (by decide) rfl ?_
        refine r_goto 2 dX1_breaking_33 (by decide) ?_
        refine r_sub (lv' := [(0, .ref (X.1 o)), (1, .int v9)]) [1, 0] rfl ?_
        exact ih v9 g5 hf
      · refine r_icmp_le_f 28 rfl 30 dX1_breaking_25 (by decide) c8 ?_
        refine r_iload_n 29 rfl 1 rfl rfl dX1_breaking_28 ?_
        obtain ⟨rfl, rfl⟩ := so2 hf
        exact r_iret rfl rfl dX1_breaking_29
def f_X1_breaking (o : Nat) (h : HP) : Option (Int32 × HP) := f_X1_breaking_L2 o FU 0 h
set_option maxHeartbeats 4000000 in
set_option maxRecDepth 100000 in
theorem A_X1_breaking (X : XE) (o : Nat) (ho : DK o) (h : HP) (r : Int32) (h' : HP) (hf : f_X1_breaking o h = some (r, h')) : CC mX1_breaking 3 X [.ref (X.1 o)] h (some (.int r)) h' := by
  refine CC_of rfl (Nat.le_of_ble_eq_true rfl) ?_
  show Run mX1_breaking 3 X 0 [(0, .ref (X.1 o))] [] h (some (.int r)) h'
  unfold f_X1_breaking at hf
  refine r_iconst 1 rfl ic_0 dX1_breaking_0 ?_
  refine r_istore_n (lv' := [(1, .int 0), (0, .ref (X.1 o))]) 2 rfl dX1_breaking_1 (by decide) rfl rfl ?_
  refine r_sub (lv' := [(0, .ref (X.1 o)), (1, .int 0)]) [1, 0] rfl ?_
  exact A_X1_breaking_L2 X o ho _ _ FU 0 h hf
-- X1_dayGoes
def f_X1_dayGoes_L94 (o : Nat) : Nat → Int32 → HP → Option (Int32 × HP)
  | 0, _, _ => none
  | n + 1, x2, h => if (h.1 o 8) ≤ x2 then (some ((-1), h)) else (gd (inb x2 3) (lt ((h.1 (o + 7) (Int32.toNatClampNeg x2)) : Int32) fun v13 => gd (inb v13 6) (bo (f_X1_load o x2 h) fun v16 => gd (inb v13 6) (lt (si h (o + 4) (Int32.toNatClampNeg v13) (if ((h.1 (o + 4) (Int32.toNatClampNeg v13)) + (v16 / 10)) < 99 then ((h.1 (o + 4) (Int32.toNatClampNeg v13)) + (v16 / 10)) else 99)) fun g19 => lt (x2 + 1 : Int32) fun v21 => f_X1_dayGoes_L94 o n v21 g19))))
set_option maxHeartbeats 4000000 in
set_option maxRecDepth 100000 in
theorem A_X1_dayGoes_L94 (X : XE) (o : Nat) (ho : DK o) (r : Int32) (h' : HP) : ∀ (n : Nat) (x2 : Int32) (h : HP), f_X1_dayGoes_L94 o n x2 h = some (r, h') → Run mX1_dayGoes 4 X 94 [(0, .ref (X.1 o)), (2, .int x2)] [] h (some (.int r)) h' := by
  intro n
  induction n with
  | zero => intro x2 h hf; cases hf
  | succ n ih =>
    intro x2 h hf
    rw [f_X1_dayGoes_L94] at hf
    refine r_iload_n 95 rfl 1 rfl rfl dX1_dayGoes_94 ?_
    refine r_aload_n 96 rfl 0 rfl rfl dX1_dayGoes_95 ?_
    refine r_geti 99 rfl ho.1 kd_1_8 fl_X1_50 dX1_dayGoes_96 ?_
    rcases if_so hf with ⟨c11, hf⟩ | ⟨c11, hf⟩
    · refine r_icmp_ge_t 141 dX1_dayGoes_99 (by decide) c11 ?_
      refine r_iconst 142 rfl ic_m1 dX1_dayGoes_141 ?_
      obtain ⟨rfl, rfl⟩ := so2 hf
      exact r_iret rfl rfl dX1_dayGoes_142
    · refine r_icmp_ge_f 102 rfl 141 dX1_dayGoes_99 (by decide) c11 ?_
      refine r_aload_n 103 rfl 0 rfl rfl dX1_dayGoes_102 ?_
      refine r_getr (q := o + 7) 106 rfl (lq_1_6 o) ho.1 kd_1_6 fl_X1_30 dX1_dayGoes_103 ?_
      refine r_iload_n 107 rfl 1 rfl rfl dX1_dayGoes_106 ?_
      obtain ⟨b12, hf⟩ := gd_so hf
      refine r_iald 108 rfl ho.2.2.2.2.2.2.2 (inb_vp b12) dX1_dayGoes_107 ?_
      obtain ⟨v13, e14, hf⟩ := lt_so hf
      refine r_top e14 ?_
      refine r_istore_n (lv' := [(3, .int v13), (0, .ref (X.1 o)), (2, .int x2)]) 109 rfl dX1_dayGoes_108 (by decide) rfl rfl ?_
      refine r_aload_n 110 rfl 1 rfl rfl dX1_dayGoes_109 ?_
      refine r_getr (q := o + 4) 113 rfl (lq_1_3 o) ho.1 kd_1_3 fl_X1_21 dX1_dayGoes_110 ?_
      refine r_iload_n 114 rfl 0 rfl rfl dX1_dayGoes_113 ?_
      refine r_bipush 116 rfl bp_99 dX1_dayGoes_114 ?_
      refine r_aload_n 117 rfl 1 rfl rfl dX1_dayGoes_116 ?_
      refine r_getr (q := o + 4) 120 rfl (lq_1_3 o) ho.1 kd_1_3 fl_X1_21 dX1_dayGoes_117 ?_
      refine r_iload_n 121 rfl 0 rfl rfl dX1_dayGoes_120 ?_
      obtain ⟨b15, hf⟩ := gd_so hf
      refine r_iald 122 rfl ho.2.2.2.2.1 (inb_vp b15) dX1_dayGoes_121 ?_
      refine r_aload_n 123 rfl 1 rfl rfl dX1_dayGoes_122 ?_
      refine r_iload_n 124 rfl 2 rfl rfl dX1_dayGoes_123 ?_
      obtain ⟨v16, e17, hf⟩ := bo_so hf
      refine r_callVi 127 rfl (A_X1_load X o ho x2 h v16 e17) (by omega) cw_X1_95 ho.1 cl_1 rfl rfl (Nat.le_of_ble_eq_true rfl) dX1_dayGoes_124 ?_
      refine r_bipush 129 rfl bp_10 dX1_dayGoes_127 ?_
      refine r_idiv 130 rfl (by decide) dX1_dayGoes_129 ?_
      refine r_iadd 131 rfl dX1_dayGoes_130 ?_
      refine r_min 134 rfl (by decide) ml_X1_104 ms_min ini_Math mc_min (Nat.le_of_ble_eq_true rfl) dX1_dayGoes_131 ?_
      obtain ⟨b18, hf⟩ := gd_so hf
      obtain ⟨g19, e20, hf⟩ := lt_so hf
      refine r_iast 135 rfl ho.2.2.2.2.1 (inb_vp b18) dX1_dayGoes_134 ?_
      refine r_heap e20 ?_
      obtain ⟨v21, e22, hf⟩ := lt_so hf
      refine r_iinc (lv' := [(2, .int v21), (3, .int v13), (0, .ref (X.1 o))]) 138 rfl 2 dX1_dayGoes_135 rfl (by rw [e22, ic_1]) (by decide) rfl ?_
      refine r_goto 94 dX1_dayGoes_138 (by decide) ?_
      refine r_sub (lv' := [(0, .ref (X.1 o)), (2, .int v21)]) [2, 0] rfl ?_
      exact ih v21 g19 hf
def f_X1_dayGoes (o : Nat) (h : HP) : Option (Int32 × HP) := bd (f_X1_breaking o h) fun v3 g1 => lt (si g1 o 12 ((g1.1 o 12) + 1)) fun g4 => if v3 < 0 then (bo (f_X1_miles o g4) fun v7 => lt (si g4 o 11 (if ((g4.1 o 11) + v7) < 99999 then ((g4.1 o 11) + v7) else 99999)) fun g9 => f_X1_dayGoes_L94 o FU 0 g9) else (gd (inb v3 3) (lt ((g4.1 (o + 7) (Int32.toNatClampNeg v3)) : Int32) fun v24 => gd (inb v24 6) (gd (inb v24 6) (lt (si g4 (o + 3) (Int32.toNatClampNeg v24) ((g4.1 (o + 3) (Int32.toNatClampNeg v24)) / 2)) fun g28 => gd (inb v24 6) (lt (si g28 (o + 4) (Int32.toNatClampNeg v24) 0) fun g31 => gd (inb v24 6) (gd (inb v24 6) (lt (si g31 (o + 5) (Int32.toNatClampNeg v24) (if ((g31.1 (o + 5) (Int32.toNatClampNeg v24)) + 1) < 9999 then ((g31.1 (o + 5) (Int32.toNatClampNeg v24)) + 1) else 9999)) fun g35 => lt (si g35 o 8 v3) fun g37 => some (v24, g37))))))))
set_option maxHeartbeats 4000000 in
set_option maxRecDepth 100000 in
theorem A_X1_dayGoes (X : XE) (o : Nat) (ho : DK o) (h : HP) (r : Int32) (h' : HP) (hf : f_X1_dayGoes o h = some (r, h')) : CC mX1_dayGoes 4 X [.ref (X.1 o)] h (some (.int r)) h' := by
  refine CC_of rfl (Nat.le_of_ble_eq_true rfl) ?_
  show Run mX1_dayGoes 4 X 0 [(0, .ref (X.1 o))] [] h (some (.int r)) h'
  unfold f_X1_dayGoes at hf
  refine r_aload_n 1 rfl 0 rfl rfl dX1_dayGoes_0 ?_
  obtain ⟨v3, g1, e2, hf⟩ := bd_so hf
  refine r_callVi 4 rfl (A_X1_breaking X o ho h v3 g1 e2) (by omega) cw_X1_101 ho.1 cl_1 rfl rfl (Nat.le_of_ble_eq_true rfl) dX1_dayGoes_1 ?_
  refine r_istore_n (lv' := [(1, .int v3), (0, .ref (X.1 o))]) 5 rfl dX1_dayGoes_4 (by decide) rfl rfl ?_
  refine r_aload_n 6 rfl 1 rfl rfl dX1_dayGoes_5 ?_
  refine r_dup 7 rfl rfl dX1_dayGoes_6 ?_
  refine r_geti 10 rfl ho.1 kd_1_12 fl_X1_59 dX1_dayGoes_7 ?_
  refine r_iconst 11 rfl ic_1 dX1_dayGoes_10 ?_
  refine r_iadd 12 rfl dX1_dayGoes_11 ?_
  obtain ⟨g4, e5, hf⟩ := lt_so hf
  refine r_puti 15 rfl ho.1 kd_1_12 fw_X1_59 rfl rfl dX1_dayGoes_12 ?_
  refine r_heap e5 ?_
  refine r_iload_n 16 rfl 0 rfl rfl dX1_dayGoes_15 ?_
  rcases if_so hf with ⟨c6, hf⟩ | ⟨c6, hf⟩
  · refine r_if_lt_t 74 dX1_dayGoes_16 (by decide) c6 ?_
    refine r_aload_n 75 rfl 1 rfl rfl dX1_dayGoes_74 ?_
    refine r_ldc 77 rfl cn_X1_107 dX1_dayGoes_75 ?_
    refine r_aload_n 78 rfl 1 rfl rfl dX1_dayGoes_77 ?_
    refine r_geti 81 rfl ho.1 kd_1_11 fl_X1_56 dX1_dayGoes_78 ?_
    refine r_aload_n 82 rfl 1 rfl rfl dX1_dayGoes_81 ?_
    obtain ⟨v7, e8, hf⟩ := bo_so hf
    refine r_callVi 85 rfl (A_X1_miles X o ho g4 v7 e8) (by omega) cw_X1_108 ho.1 cl_1 rfl rfl (Nat.le_of_ble_eq_true rfl) dX1_dayGoes_82 ?_
    refine r_iadd 86 rfl dX1_dayGoes_85 ?_
    refine r_min 89 rfl (by decide) ml_X1_104 ms_min ini_Math mc_min (Nat.le_of_ble_eq_true rfl) dX1_dayGoes_86 ?_
    obtain ⟨g9, e10, hf⟩ := lt_so hf
    refine r_puti 92 rfl ho.1 kd_1_11 fw_X1_56 rfl rfl dX1_dayGoes_89 ?_
    refine r_heap e10 ?_
    refine r_iconst 93 rfl ic_0 dX1_dayGoes_92 ?_
    refine r_istore_n (lv' := [(2, .int 0), (1, .int v3), (0, .ref (X.1 o))]) 94 rfl dX1_dayGoes_93 (by decide) rfl rfl ?_
    refine r_sub (lv' := [(0, .ref (X.1 o)), (2, .int 0)]) [2, 0] rfl ?_
    exact A_X1_dayGoes_L94 X o ho _ _ FU 0 g9 hf
  · refine r_if_lt_f 19 rfl 74 dX1_dayGoes_16 (by decide) c6 ?_
    refine r_aload_n 20 rfl 1 rfl rfl dX1_dayGoes_19 ?_
    refine r_getr (q := o + 7) 23 rfl (lq_1_6 o) ho.1 kd_1_6 fl_X1_30 dX1_dayGoes_20 ?_
    refine r_iload_n 24 rfl 0 rfl rfl dX1_dayGoes_23 ?_
    obtain ⟨b23, hf⟩ := gd_so hf
    refine r_iald 25 rfl ho.2.2.2.2.2.2.2 (inb_vp b23) dX1_dayGoes_24 ?_
    obtain ⟨v24, e25, hf⟩ := lt_so hf
    refine r_top e25 ?_
    refine r_istore_n (lv' := [(2, .int v24), (1, .int v3), (0, .ref (X.1 o))]) 26 rfl dX1_dayGoes_25 (by decide) rfl rfl ?_
    refine r_aload_n 27 rfl 2 rfl rfl dX1_dayGoes_26 ?_
    refine r_getr (q := o + 3) 30 rfl (lq_1_2 o) ho.1 kd_1_2 fl_X1_18 dX1_dayGoes_27 ?_
    refine r_iload_n 31 rfl 0 rfl rfl dX1_dayGoes_30 ?_
    refine r_aload_n 32 rfl 2 rfl rfl dX1_dayGoes_31 ?_
    refine r_getr (q := o + 3) 35 rfl (lq_1_2 o) ho.1 kd_1_2 fl_X1_18 dX1_dayGoes_32 ?_
    refine r_iload_n 36 rfl 0 rfl rfl dX1_dayGoes_35 ?_
    obtain ⟨b26, hf⟩ := gd_so hf
    refine r_iald 37 rfl ho.2.2.2.1 (inb_vp b26) dX1_dayGoes_36 ?_
    refine r_iconst 38 rfl ic_2 dX1_dayGoes_37 ?_
    refine r_idiv 39 rfl (by decide) dX1_dayGoes_38 ?_
    obtain ⟨b27, hf⟩ := gd_so hf
    obtain ⟨g28, e29, hf⟩ := lt_so hf
    refine r_iast 40 rfl ho.2.2.2.1 (inb_vp b27) dX1_dayGoes_39 ?_
    refine r_heap e29 ?_
    refine r_aload_n 41 rfl 2 rfl rfl dX1_dayGoes_40 ?_
    refine r_getr (q := o + 4) 44 rfl (lq_1_3 o) ho.1 kd_1_3 fl_X1_21 dX1_dayGoes_41 ?_
    refine r_iload_n 45 rfl 0 rfl rfl dX1_dayGoes_44 ?_
    refine r_iconst 46 rfl ic_0 dX1_dayGoes_45 ?_
    obtain ⟨b30, hf⟩ := gd_so hf
    obtain ⟨g31, e32, hf⟩ := lt_so hf
    refine r_iast 47 rfl ho.2.2.2.2.1 (inb_vp b30) dX1_dayGoes_46 ?_
    refine r_heap e32 ?_
    refine r_aload_n 48 rfl 2 rfl rfl dX1_dayGoes_47 ?_
    refine r_getr (q := o + 5) 51 rfl (lq_1_4 o) ho.1 kd_1_4 fl_X1_24 dX1_dayGoes_48 ?_
    refine r_iload_n 52 rfl 0 rfl rfl dX1_dayGoes_51 ?_
    refine r_sipush 55 rfl sp_9999 dX1_dayGoes_52 ?_
    refine r_aload_n 56 rfl 2 rfl rfl dX1_dayGoes_55 ?_
    refine r_getr (q := o + 5) 59 rfl (lq_1_4 o) ho.1 kd_1_4 fl_X1_24 dX1_dayGoes_56 ?_
    refine r_iload_n 60 rfl 0 rfl rfl dX1_dayGoes_59 ?_
    obtain ⟨b33, hf⟩ := gd_so hf
    refine r_iald 61 rfl ho.2.2.2.2.2.1 (inb_vp b33) dX1_dayGoes_60 ?_
    refine r_iconst 62 rfl ic_1 dX1_dayGoes_61 ?_
    refine r_iadd 63 rfl dX1_dayGoes_62 ?_
    refine r_min 66 rfl (by decide) ml_X1_104 ms_min ini_Math mc_min (Nat.le_of_ble_eq_true rfl) dX1_dayGoes_63 ?_
    obtain ⟨b34, hf⟩ := gd_so hf
    obtain ⟨g35, e36, hf⟩ := lt_so hf
    refine r_iast 67 rfl ho.2.2.2.2.2.1 (inb_vp b34) dX1_dayGoes_66 ?_
    refine r_heap e36 ?_
    refine r_aload_n 68 rfl 2 rfl rfl dX1_dayGoes_67 ?_
    refine r_iload_n 69 rfl 1 rfl rfl dX1_dayGoes_68 ?_
    obtain ⟨g37, e38, hf⟩ := lt_so hf
    refine r_puti 72 rfl ho.1 kd_1_8 fw_X1_50 rfl rfl dX1_dayGoes_69 ?_
    refine r_heap e38 ?_
    refine r_iload_n 73 rfl 0 rfl rfl dX1_dayGoes_72 ?_
    obtain ⟨rfl, rfl⟩ := so2 hf
    exact r_iret rfl rfl dX1_dayGoes_73
-- X1_nothingBreaksIn
def f_X1_nothingBreaksIn_L2 (o : Nat) : Nat → Int32 → Int32 → HP → Option (Int32 × HP)
  | 0, _, _, _ => none
  | n + 1, x1, x2, h => if x1 ≤ x2 then (some (1, h)) else (bd (f_X1_dayGoes o h) fun v4 g2 => if v4 < 0 then (lt (x2 + 1 : Int32) fun v6 => f_X1_nothingBreaksIn_L2 o n x1 v6 g2) else (some (0, g2)))
set_option maxHeartbeats 4000000 in
set_option maxRecDepth 100000 in
theorem A_X1_nothingBreaksIn_L2 (X : XE) (o : Nat) (ho : DK o) (r : Int32) (h' : HP) : ∀ (n : Nat) (x1 : Int32) (x2 : Int32) (h : HP), f_X1_nothingBreaksIn_L2 o n x1 x2 h = some (r, h') → Run mX1_nothingBreaksIn 5 X 2 [(0, .ref (X.1 o)), (1, .int x1), (2, .int x2)] [] h (some (.int r)) h' := by
  intro n
  induction n with
  | zero => intro x1 x2 h hf; cases hf
  | succ n ih =>
    intro x1 x2 h hf
    rw [f_X1_nothingBreaksIn_L2] at hf
    refine r_iload_n 3 rfl 2 rfl rfl dX1_nothingBreaksIn_2 ?_
    refine r_iload_n 4 rfl 1 rfl rfl dX1_nothingBreaksIn_3 ?_
    rcases if_so hf with ⟨c1, hf⟩ | ⟨c1, hf⟩
    · refine r_icmp_ge_t 22 dX1_nothingBreaksIn_4 (by decide) c1 ?_
      refine r_iconst 23 rfl ic_1 dX1_nothingBreaksIn_22 ?_
      obtain ⟨rfl, rfl⟩ := so2 hf
      exact r_iret rfl rfl dX1_nothingBreaksIn_23
    · refine r_icmp_ge_f 7 rfl 22 dX1_nothingBreaksIn_4 (by decide) c1 ?_
      refine r_aload_n 8 rfl 0 rfl rfl dX1_nothingBreaksIn_7 ?_
      obtain ⟨v4, g2, e3, hf⟩ := bd_so hf
      refine r_callVi 11 rfl (A_X1_dayGoes X o ho h v4 g2 e3) (by omega) cw_X1_111 ho.1 cl_1 rfl rfl (Nat.le_of_ble_eq_true rfl) dX1_nothingBreaksIn_8 ?_
      rcases if_so hf with ⟨c5, hf⟩ | ⟨c5, hf⟩
      · refine r_if_lt_t 16 dX1_nothingBreaksIn_11 (by decide) c5 ?_
        obtain ⟨v6, e7, hf⟩ := lt_so hf
        refine r_iinc (lv' := [(2, .int v6), (0, .ref (X.1 o)), (1, .int x1)]) 19 rfl 2 dX1_nothingBreaksIn_16 rfl (by rw [e7, ic_1]) (by decide) rfl ?_
        refine r_goto 2 dX1_nothingBreaksIn_19 (by decide) ?_
        refine r_sub (lv' := [(0, .ref (X.1 o)), (1, .int x1), (2, .int v6)]) [1, 2, 0] rfl ?_
        exact ih x1 v6 g2 hf
      · refine r_if_lt_f 14 rfl 16 dX1_nothingBreaksIn_11 (by decide) c5 ?_
        refine r_iconst 15 rfl ic_0 dX1_nothingBreaksIn_14 ?_
        obtain ⟨rfl, rfl⟩ := so2 hf
        exact r_iret rfl rfl dX1_nothingBreaksIn_15
def f_X1_nothingBreaksIn (o : Nat) (x1 : Int32) (h : HP) : Option (Int32 × HP) := f_X1_nothingBreaksIn_L2 o FU x1 0 h
set_option maxHeartbeats 4000000 in
set_option maxRecDepth 100000 in
theorem A_X1_nothingBreaksIn (X : XE) (o : Nat) (ho : DK o) (x1 : Int32) (h : HP) (r : Int32) (h' : HP) (hf : f_X1_nothingBreaksIn o x1 h = some (r, h')) : CC mX1_nothingBreaksIn 5 X [.ref (X.1 o), .int x1] h (some (.int r)) h' := by
  refine CC_of rfl (Nat.le_of_ble_eq_true rfl) ?_
  show Run mX1_nothingBreaksIn 5 X 0 [(0, .ref (X.1 o)), (1, .int x1)] [] h (some (.int r)) h'
  unfold f_X1_nothingBreaksIn at hf
  refine r_iconst 1 rfl ic_0 dX1_nothingBreaksIn_0 ?_
  refine r_istore_n (lv' := [(2, .int 0), (0, .ref (X.1 o)), (1, .int x1)]) 2 rfl dX1_nothingBreaksIn_1 (by decide) rfl rfl ?_
  refine r_sub (lv' := [(0, .ref (X.1 o)), (1, .int x1), (2, .int 0)]) [1, 2, 0] rfl ?_
  exact A_X1_nothingBreaksIn_L2 X o ho _ _ FU x1 0 h hf
