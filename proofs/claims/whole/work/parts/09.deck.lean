noncomputable section
-- X1_copyFrom
def f_X1_copyFrom (o : Nat) (q1 : Nat) (h : HP) : Option HP := gd (cpk 0 6 6) (gd (cpk 0 6 6) (lt (ci h (q1 + 1) (o + 1) 0 0 6) fun g3 => gd (cpk 0 6 6) (gd (cpk 0 6 6) (lt (ci g3 (q1 + 2) (o + 2) 0 0 6) fun g7 => gd (cpk 0 6 6) (gd (cpk 0 6 6) (lt (ci g7 (q1 + 3) (o + 3) 0 0 6) fun g11 => gd (cpk 0 6 6) (gd (cpk 0 6 6) (lt (ci g11 (q1 + 4) (o + 4) 0 0 6) fun g15 => gd (cpk 0 6 6) (gd (cpk 0 6 6) (lt (ci g15 (q1 + 5) (o + 5) 0 0 6) fun g19 => gd (cpk 0 24 24) (gd (cpk 0 24 24) (lt (ci g19 (q1 + 6) (o + 6) 0 0 24) fun g23 => gd (cpk 0 3 3) (gd (cpk 0 3 3) (lt (ci g23 (q1 + 7) (o + 7) 0 0 3) fun g27 => lt (si g27 o 7 (g27.1 q1 7)) fun g29 => lt (si g29 o 8 (g29.1 q1 8)) fun g31 => lt (si g31 o 9 (g31.1 q1 9)) fun g33 => lt (si g33 o 10 (g33.1 q1 10)) fun g35 => lt (si g35 o 11 (g35.1 q1 11)) fun g37 => lt (si g37 o 12 (g37.1 q1 12)) fun g39 => bo (g39.2.2 q1) fun w41 => gd (isOc w41) (lt (sr g39 o (some w41)) fun g44 => some g44)))))))))))))))
set_option maxHeartbeats 4000000 in
set_option maxRecDepth 100000 in
theorem A_X1_copyFrom (X : XE) (o : Nat) (ho : DK o) (q1 : Nat) (hq1 : DK q1) (h : HP) (h' : HP) (hf : f_X1_copyFrom o q1 h = some h') : CC mX1_copyFrom 1 X [.ref (X.1 o), .ref (X.1 q1)] h none h' := by
  refine CC_of rfl (Nat.le_of_ble_eq_true rfl) ?_
  show Run mX1_copyFrom 1 X 0 [(0, .ref (X.1 o)), (1, .ref (X.1 q1))] [] h none h'
  unfold f_X1_copyFrom at hf
  refine r_aload_n 1 rfl 1 rfl rfl (ck DX1_copyFrom_0 0 rfl) ?_
  refine r_getr (q := q1 + 1) 4 rfl (lq_1_0 q1) hq1.1 kd_1_0 fl_X1_9 (ck DX1_copyFrom_0 1 rfl) ?_
  refine r_iconst 5 rfl ic_0 (ck DX1_copyFrom_0 2 rfl) ?_
  refine r_aload_n 6 rfl 0 rfl rfl (ck DX1_copyFrom_0 3 rfl) ?_
  refine r_getr (q := o + 1) 9 rfl (lq_1_0 o) ho.1 kd_1_0 fl_X1_9 (ck DX1_copyFrom_0 4 rfl) ?_
  refine r_iconst 10 rfl ic_0 (ck DX1_copyFrom_0 5 rfl) ?_
  refine r_bipush 12 rfl bp_6 (ck DX1_copyFrom_0 6 rfl) ?_
  obtain ⟨b1, hf⟩ := gd_so hf
  obtain ⟨b2, hf⟩ := gd_so hf
  obtain ⟨g3, e4, hf⟩ := lt_so hf
  refine r_copyi 15 rfl (by decide) hq1.2.1 ho.2.1 b1 b2 ml_X1_41 ac_nat ac_st ini_Sys (Nat.le_of_ble_eq_true rfl) (ck DX1_copyFrom_0 7 rfl) ?_
  refine r_heap e4 ?_
  refine r_aload_n 16 rfl 1 rfl rfl (ck DX1_copyFrom_0 8 rfl) ?_
  refine r_getr (q := q1 + 2) 19 rfl (lq_1_1 q1) hq1.1 kd_1_1 fl_X1_15 (ck DX1_copyFrom_0 9 rfl) ?_
  refine r_iconst 20 rfl ic_0 (ck DX1_copyFrom_0 10 rfl) ?_
  refine r_aload_n 21 rfl 0 rfl rfl (ck DX1_copyFrom_0 11 rfl) ?_
  refine r_getr (q := o + 2) 24 rfl (lq_1_1 o) ho.1 kd_1_1 fl_X1_15 (ck DX1_copyFrom_0 12 rfl) ?_
  refine r_iconst 25 rfl ic_0 (ck DX1_copyFrom_0 13 rfl) ?_
  refine r_bipush 27 rfl bp_6 (ck DX1_copyFrom_0 14 rfl) ?_
  obtain ⟨b5, hf⟩ := gd_so hf
  obtain ⟨b6, hf⟩ := gd_so hf
  obtain ⟨g7, e8, hf⟩ := lt_so hf
  refine r_copyi 30 rfl (by decide) hq1.2.2.1 ho.2.2.1 b5 b6 ml_X1_41 ac_nat ac_st ini_Sys (Nat.le_of_ble_eq_true rfl) (ck DX1_copyFrom_0 15 rfl) ?_
  refine r_heap e8 ?_
  refine r_aload_n 31 rfl 1 rfl rfl (ck DX1_copyFrom_0 16 rfl) ?_
  refine r_getr (q := q1 + 3) 34 rfl (lq_1_2 q1) hq1.1 kd_1_2 fl_X1_18 (ck DX1_copyFrom_0 17 rfl) ?_
  refine r_iconst 35 rfl ic_0 (ck DX1_copyFrom_0 18 rfl) ?_
  refine r_aload_n 36 rfl 0 rfl rfl (ck DX1_copyFrom_0 19 rfl) ?_
  refine r_getr (q := o + 3) 39 rfl (lq_1_2 o) ho.1 kd_1_2 fl_X1_18 (ck DX1_copyFrom_0 20 rfl) ?_
  refine r_iconst 40 rfl ic_0 (ck DX1_copyFrom_0 21 rfl) ?_
  refine r_bipush 42 rfl bp_6 (ck DX1_copyFrom_0 22 rfl) ?_
  obtain ⟨b9, hf⟩ := gd_so hf
  obtain ⟨b10, hf⟩ := gd_so hf
  obtain ⟨g11, e12, hf⟩ := lt_so hf
  refine r_copyi 45 rfl (by decide) hq1.2.2.2.1 ho.2.2.2.1 b9 b10 ml_X1_41 ac_nat ac_st ini_Sys (Nat.le_of_ble_eq_true rfl) (ck DX1_copyFrom_0 23 rfl) ?_
  refine r_heap e12 ?_
  refine r_aload_n 46 rfl 1 rfl rfl (ck DX1_copyFrom_0 24 rfl) ?_
  refine r_getr (q := q1 + 4) 49 rfl (lq_1_3 q1) hq1.1 kd_1_3 fl_X1_21 (ck DX1_copyFrom_0 25 rfl) ?_
  refine r_iconst 50 rfl ic_0 (ck DX1_copyFrom_0 26 rfl) ?_
  refine r_aload_n 51 rfl 0 rfl rfl (ck DX1_copyFrom_0 27 rfl) ?_
  refine r_getr (q := o + 4) 54 rfl (lq_1_3 o) ho.1 kd_1_3 fl_X1_21 (ck DX1_copyFrom_0 28 rfl) ?_
  refine r_iconst 55 rfl ic_0 (ck DX1_copyFrom_0 29 rfl) ?_
  refine r_bipush 57 rfl bp_6 (ck DX1_copyFrom_0 30 rfl) ?_
  obtain ⟨b13, hf⟩ := gd_so hf
  obtain ⟨b14, hf⟩ := gd_so hf
  obtain ⟨g15, e16, hf⟩ := lt_so hf
  refine r_copyi 60 rfl (by decide) hq1.2.2.2.2.1 ho.2.2.2.2.1 b13 b14 ml_X1_41 ac_nat ac_st ini_Sys (Nat.le_of_ble_eq_true rfl) (ck DX1_copyFrom_0 31 rfl) ?_
  refine r_heap e16 ?_
  refine r_aload_n 61 rfl 1 rfl rfl (ck DX1_copyFrom_0 32 rfl) ?_
  refine r_getr (q := q1 + 5) 64 rfl (lq_1_4 q1) hq1.1 kd_1_4 fl_X1_24 (ck DX1_copyFrom_0 33 rfl) ?_
  refine r_iconst 65 rfl ic_0 (ck DX1_copyFrom_0 34 rfl) ?_
  refine r_aload_n 66 rfl 0 rfl rfl (ck DX1_copyFrom_0 35 rfl) ?_
  refine r_getr (q := o + 5) 69 rfl (lq_1_4 o) ho.1 kd_1_4 fl_X1_24 (ck DX1_copyFrom_0 36 rfl) ?_
  refine r_iconst 70 rfl ic_0 (ck DX1_copyFrom_0 37 rfl) ?_
  refine r_bipush 72 rfl bp_6 (ck DX1_copyFrom_0 38 rfl) ?_
  obtain ⟨b17, hf⟩ := gd_so hf
  obtain ⟨b18, hf⟩ := gd_so hf
  obtain ⟨g19, e20, hf⟩ := lt_so hf
  refine r_copyi 75 rfl (by decide) hq1.2.2.2.2.2.1 ho.2.2.2.2.2.1 b17 b18 ml_X1_41 ac_nat ac_st ini_Sys (Nat.le_of_ble_eq_true rfl) (ck DX1_copyFrom_0 39 rfl) ?_
  refine r_heap e20 ?_
  refine r_aload_n 76 rfl 1 rfl rfl (ck DX1_copyFrom_0 40 rfl) ?_
  refine r_getr (q := q1 + 6) 79 rfl (lq_1_5 q1) hq1.1 kd_1_5 fl_X1_27 (ck DX1_copyFrom_0 41 rfl) ?_
  refine r_iconst 80 rfl ic_0 (ck DX1_copyFrom_0 42 rfl) ?_
  refine r_aload_n 81 rfl 0 rfl rfl (ck DX1_copyFrom_0 43 rfl) ?_
  refine r_getr (q := o + 6) 84 rfl (lq_1_5 o) ho.1 kd_1_5 fl_X1_27 (ck DX1_copyFrom_0 44 rfl) ?_
  refine r_iconst 85 rfl ic_0 (ck DX1_copyFrom_0 45 rfl) ?_
  refine r_bipush 87 rfl bp_24 (ck DX1_copyFrom_0 46 rfl) ?_
  obtain ⟨b21, hf⟩ := gd_so hf
  obtain ⟨b22, hf⟩ := gd_so hf
  obtain ⟨g23, e24, hf⟩ := lt_so hf
  refine r_copyi 90 rfl (by decide) hq1.2.2.2.2.2.2.1 ho.2.2.2.2.2.2.1 b21 b22 ml_X1_41 ac_nat ac_st ini_Sys (Nat.le_of_ble_eq_true rfl) (ck DX1_copyFrom_0 47 rfl) ?_
  refine r_heap e24 ?_
  refine r_aload_n 91 rfl 1 rfl rfl (ck DX1_copyFrom_0 48 rfl) ?_
  refine r_getr (q := q1 + 7) 94 rfl (lq_1_6 q1) hq1.1 kd_1_6 fl_X1_30 (ck DX1_copyFrom_0 49 rfl) ?_
  refine r_iconst 95 rfl ic_0 (ck DX1_copyFrom_1 0 rfl) ?_
  refine r_aload_n 96 rfl 0 rfl rfl (ck DX1_copyFrom_1 1 rfl) ?_
  refine r_getr (q := o + 7) 99 rfl (lq_1_6 o) ho.1 kd_1_6 fl_X1_30 (ck DX1_copyFrom_1 2 rfl) ?_
  refine r_iconst 100 rfl ic_0 (ck DX1_copyFrom_1 3 rfl) ?_
  refine r_iconst 101 rfl ic_3 (ck DX1_copyFrom_1 4 rfl) ?_
  obtain ⟨b25, hf⟩ := gd_so hf
  obtain ⟨b26, hf⟩ := gd_so hf
  obtain ⟨g27, e28, hf⟩ := lt_so hf
  refine r_copyi 104 rfl (by decide) hq1.2.2.2.2.2.2.2 ho.2.2.2.2.2.2.2 b25 b26 ml_X1_41 ac_nat ac_st ini_Sys (Nat.le_of_ble_eq_true rfl) (ck DX1_copyFrom_1 5 rfl) ?_
  refine r_heap e28 ?_
  refine r_aload_n 105 rfl 0 rfl rfl (ck DX1_copyFrom_1 6 rfl) ?_
  refine r_aload_n 106 rfl 1 rfl rfl (ck DX1_copyFrom_1 7 rfl) ?_
  refine r_geti 109 rfl hq1.1 kd_1_7 fl_X1_47 (ck DX1_copyFrom_1 8 rfl) ?_
  obtain ⟨g29, e30, hf⟩ := lt_so hf
  refine r_puti 112 rfl ho.1 kd_1_7 fw_X1_47 rfl rfl (ck DX1_copyFrom_1 9 rfl) ?_
  refine r_heap e30 ?_
  refine r_aload_n 113 rfl 0 rfl rfl (ck DX1_copyFrom_1 10 rfl) ?_
  refine r_aload_n 114 rfl 1 rfl rfl (ck DX1_copyFrom_1 11 rfl) ?_
  refine r_geti 117 rfl hq1.1 kd_1_8 fl_X1_50 (ck DX1_copyFrom_1 12 rfl) ?_
  obtain ⟨g31, e32, hf⟩ := lt_so hf
  refine r_puti 120 rfl ho.1 kd_1_8 fw_X1_50 rfl rfl (ck DX1_copyFrom_1 13 rfl) ?_
  refine r_heap e32 ?_
  refine r_aload_n 121 rfl 0 rfl rfl (ck DX1_copyFrom_1 14 rfl) ?_
  refine r_aload_n 122 rfl 1 rfl rfl (ck DX1_copyFrom_1 15 rfl) ?_
  refine r_geti 125 rfl hq1.1 kd_1_9 fl_X1_37 (ck DX1_copyFrom_1 16 rfl) ?_
  obtain ⟨g33, e34, hf⟩ := lt_so hf
  refine r_puti 128 rfl ho.1 kd_1_9 fw_X1_37 rfl rfl (ck DX1_copyFrom_1 17 rfl) ?_
  refine r_heap e34 ?_
  refine r_aload_n 129 rfl 0 rfl rfl (ck DX1_copyFrom_1 18 rfl) ?_
  refine r_aload_n 130 rfl 1 rfl rfl (ck DX1_copyFrom_1 19 rfl) ?_
  refine r_geti 133 rfl hq1.1 kd_1_10 fl_X1_53 (ck DX1_copyFrom_1 20 rfl) ?_
  obtain ⟨g35, e36, hf⟩ := lt_so hf
  refine r_puti 136 rfl ho.1 kd_1_10 fw_X1_53 rfl rfl (ck DX1_copyFrom_1 21 rfl) ?_
  refine r_heap e36 ?_
  refine r_aload_n 137 rfl 0 rfl rfl (ck DX1_copyFrom_1 22 rfl) ?_
  refine r_aload_n 138 rfl 1 rfl rfl (ck DX1_copyFrom_1 23 rfl) ?_
  refine r_geti 141 rfl hq1.1 kd_1_11 fl_X1_56 (ck DX1_copyFrom_1 24 rfl) ?_
  obtain ⟨g37, e38, hf⟩ := lt_so hf
  refine r_puti 144 rfl ho.1 kd_1_11 fw_X1_56 rfl rfl (ck DX1_copyFrom_1 25 rfl) ?_
  refine r_heap e38 ?_
  refine r_aload_n 145 rfl 0 rfl rfl (ck DX1_copyFrom_1 26 rfl) ?_
  refine r_aload_n 146 rfl 1 rfl rfl (ck DX1_copyFrom_1 27 rfl) ?_
  refine r_geti 149 rfl hq1.1 kd_1_12 fl_X1_59 (ck DX1_copyFrom_1 28 rfl) ?_
  obtain ⟨g39, e40, hf⟩ := lt_so hf
  refine r_puti 152 rfl ho.1 kd_1_12 fw_X1_59 rfl rfl (ck DX1_copyFrom_1 29 rfl) ?_
  refine r_heap e40 ?_
  refine r_aload_n 153 rfl 0 rfl rfl (ck DX1_copyFrom_1 30 rfl) ?_
  refine r_aload_n 154 rfl 1 rfl rfl (ck DX1_copyFrom_1 31 rfl) ?_
  obtain ⟨w41, e42, hf⟩ := bo_so hf
  obtain ⟨b43, hf⟩ := gd_so hf
  have ow41 := oc_of b43
  refine r_gets 157 rfl e42 hq1.1 kd_1_13 fl_X1_33 (ck DX1_copyFrom_1 32 rfl) ?_
  obtain ⟨g44, e45, hf⟩ := lt_so hf
  refine r_puts 160 rfl ho.1 kd_1_13 ho_D fw_X1_33 rfl rfl (ck DX1_copyFrom_1 33 rfl) ?_
  refine r_heap e45 ?_
  obtain rfl := so1 hf
  exact r_vret rfl (ck DX1_copyFrom_1 34 rfl)
-- X1_startFrom
def f_X1_startFrom (o : Nat) (q1 : Nat) (h : HP) : Option HP := bo (f_X1_copyFrom o q1 h) fun g1 => lt (si g1 o 11 0) fun g3 => some g3
set_option maxHeartbeats 4000000 in
set_option maxRecDepth 100000 in
theorem A_X1_startFrom (X : XE) (o : Nat) (ho : DK o) (q1 : Nat) (hq1 : DK q1) (h : HP) (h' : HP) (hf : f_X1_startFrom o q1 h = some h') : CC mX1_startFrom 2 X [.ref (X.1 o), .ref (X.1 q1)] h none h' := by
  refine CC_of rfl (Nat.le_of_ble_eq_true rfl) ?_
  show Run mX1_startFrom 2 X 0 [(0, .ref (X.1 o)), (1, .ref (X.1 q1))] [] h none h'
  unfold f_X1_startFrom at hf
  refine r_aload_n 1 rfl 0 rfl rfl (ck DX1_startFrom_0 0 rfl) ?_
  refine r_aload_n 2 rfl 1 rfl rfl (ck DX1_startFrom_0 1 rfl) ?_
  obtain ⟨g1, e2, hf⟩ := bo_so hf
  refine r_callVv 5 rfl (A_X1_copyFrom X o ho q1 hq1 h g1 e2) (by omega) cw_X1_62 ho.1 cl_1 rfl rfl (Nat.le_of_ble_eq_true rfl) (ck DX1_startFrom_0 2 rfl) ?_
  refine r_aload_n 6 rfl 0 rfl rfl (ck DX1_startFrom_0 3 rfl) ?_
  refine r_iconst 7 rfl ic_0 (ck DX1_startFrom_0 4 rfl) ?_
  obtain ⟨g3, e4, hf⟩ := lt_so hf
  refine r_puti 10 rfl ho.1 kd_1_11 fw_X1_56 rfl rfl (ck DX1_startFrom_0 5 rfl) ?_
  refine r_heap e4 ?_
  obtain rfl := so1 hf
  exact r_vret rfl (ck DX1_startFrom_0 6 rfl)
-- X1_take
def f_X1_take_L49 (o : Nat) : Nat → Int32 → Int32 → HP → Option (Int32 × HP)
  | 0, _, _, _ => none
  | n + 1, x4, x5, h => if (4 : Int32) ≤ x5 then (lt (si h o 7 ((h.1 o 7) + 1)) fun g19 => some (x4, g19)) else (gd (inb ((4 * x4) + x5) 24) (lt (si h (o + 6) (Int32.toNatClampNeg ((4 * x4) + x5)) 0) fun g22 => lt (x5 + 1 : Int32) fun v24 => f_X1_take_L49 o n x4 v24 g22))
set_option maxHeartbeats 4000000 in
set_option maxRecDepth 100000 in
theorem A_X1_take_L49 (X : XE) (o : Nat) (ho : DK o) (r : Int32) (h' : HP) : ∀ (n : Nat) (x4 : Int32) (x5 : Int32) (h : HP), f_X1_take_L49 o n x4 x5 h = some (r, h') → Run mX1_take 1 X 49 [(0, .ref (X.1 o)), (4, .int x4), (5, .int x5)] [] h (some (.int r)) h' := by
  intro n
  induction n with
  | zero => intro x4 x5 h hf; cases hf
  | succ n ih =>
    intro x4 x5 h hf
    rw [f_X1_take_L49] at hf
    refine r_iload 51 rfl 2 rfl (ck DX1_take_0 30 rfl) ?_
    refine r_iconst 52 rfl ic_4 (ck DX1_take_0 31 rfl) ?_
    rcases if_so hf with ⟨c18, hf⟩ | ⟨c18, hf⟩
    · refine r_icmp_ge_t 74 (ck DX1_take_0 32 rfl) (by decide) c18 ?_
      refine r_aload_n 75 rfl 0 rfl rfl (ck DX1_take_0 44 rfl) ?_
      refine r_dup 76 rfl rfl (ck DX1_take_0 45 rfl) ?_
      refine r_geti 79 rfl ho.1 kd_1_7 fl_X1_47 (ck DX1_take_0 46 rfl) ?_
      refine r_iconst 80 rfl ic_1 (ck DX1_take_0 47 rfl) ?_
      refine r_iadd 81 rfl (ck DX1_take_0 48 rfl) ?_
      obtain ⟨g19, e20, hf⟩ := lt_so hf
      refine r_puti 84 rfl ho.1 kd_1_7 fw_X1_47 rfl rfl (ck DX1_take_0 49 rfl) ?_
      refine r_heap e20 ?_
      refine r_iload 86 rfl 1 rfl (ck DX1_take_1 0 rfl) ?_
      obtain ⟨rfl, rfl⟩ := so2 hf
      exact r_iret rfl rfl (ck DX1_take_1 1 rfl)
    · refine r_icmp_ge_f 55 rfl 74 (ck DX1_take_0 32 rfl) (by decide) c18 ?_
      refine r_aload_n 56 rfl 0 rfl rfl (ck DX1_take_0 33 rfl) ?_
      refine r_getr (q := o + 6) 59 rfl (lq_1_5 o) ho.1 kd_1_5 fl_X1_27 (ck DX1_take_0 34 rfl) ?_
      refine r_iconst 60 rfl ic_4 (ck DX1_take_0 35 rfl) ?_
      refine r_iload 62 rfl 1 rfl (ck DX1_take_0 36 rfl) ?_
      refine r_imul 63 rfl (ck DX1_take_0 37 rfl) ?_
      refine r_iload 65 rfl 2 rfl (ck DX1_take_0 38 rfl) ?_
      refine r_iadd 66 rfl (ck DX1_take_0 39 rfl) ?_
      refine r_iconst 67 rfl ic_0 (ck DX1_take_0 40 rfl) ?_
      obtain ⟨b21, hf⟩ := gd_so hf
      obtain ⟨g22, e23, hf⟩ := lt_so hf
      refine r_iast 68 rfl ho.2.2.2.2.2.2.1 (inb_vp b21) (ck DX1_take_0 41 rfl) ?_
      refine r_heap e23 ?_
      obtain ⟨v24, e25, hf⟩ := lt_so hf
      refine r_iinc (lv' := [(5, .int v24), (0, .ref (X.1 o)), (4, .int x4)]) 71 rfl 2 (ck DX1_take_0 42 rfl) rfl (by rw [e25, ic_1]) (by decide) rfl ?_
      refine r_goto 49 (ck DX1_take_0 43 rfl) (by decide) ?_
      refine r_sub (lv' := [(0, .ref (X.1 o)), (4, .int x4), (5, .int v24)]) [1, 2, 0] rfl ?_
      exact ih x4 v24 g22 hf
def f_X1_take (o : Nat) (x1 : Int32) (x2 : Int32) (x3 : Int32) (h : HP) : Option (Int32 × HP) := lt ((h.1 o 7) : Int32) fun v1 => gd (inb v1 6) (lt (si h (o + 1) (Int32.toNatClampNeg v1) x1) fun g4 => gd (inb v1 6) (lt (si g4 (o + 2) (Int32.toNatClampNeg v1) x2) fun g7 => gd (inb v1 6) (lt (si g7 (o + 3) (Int32.toNatClampNeg v1) x3) fun g10 => gd (inb v1 6) (lt (si g10 (o + 4) (Int32.toNatClampNeg v1) 0) fun g13 => gd (inb v1 6) (lt (si g13 (o + 5) (Int32.toNatClampNeg v1) 0) fun g16 => f_X1_take_L49 o FZ v1 0 g16)))))
set_option maxHeartbeats 4000000 in
set_option maxRecDepth 100000 in
theorem A_X1_take (X : XE) (o : Nat) (ho : DK o) (x1 : Int32) (x2 : Int32) (x3 : Int32) (h : HP) (r : Int32) (h' : HP) (hf : f_X1_take o x1 x2 x3 h = some (r, h')) : CC mX1_take 1 X [.ref (X.1 o), .int x1, .int x2, .int x3] h (some (.int r)) h' := by
  refine CC_of rfl (Nat.le_of_ble_eq_true rfl) ?_
  show Run mX1_take 1 X 0 [(0, .ref (X.1 o)), (1, .int x1), (2, .int x2), (3, .int x3)] [] h (some (.int r)) h'
  unfold f_X1_take at hf
  refine r_aload_n 1 rfl 0 rfl rfl (ck DX1_take_0 0 rfl) ?_
  refine r_geti 4 rfl ho.1 kd_1_7 fl_X1_47 (ck DX1_take_0 1 rfl) ?_
  obtain ⟨v1, e2, hf⟩ := lt_so hf
  refine r_top e2 ?_
  refine r_istore (lv' := [(4, .int v1), (0, .ref (X.1 o)), (1, .int x1), (2, .int x2), (3, .int x3)]) 6 rfl (ck DX1_take_0 2 rfl) (by decide) rfl ?_
  refine r_aload_n 7 rfl 1 rfl rfl (ck DX1_take_0 3 rfl) ?_
  refine r_getr (q := o + 1) 10 rfl (lq_1_0 o) ho.1 kd_1_0 fl_X1_9 (ck DX1_take_0 4 rfl) ?_
  refine r_iload 12 rfl 0 rfl (ck DX1_take_0 5 rfl) ?_
  refine r_iload_n 13 rfl 2 rfl rfl (ck DX1_take_0 6 rfl) ?_
  obtain ⟨b3, hf⟩ := gd_so hf
  obtain ⟨g4, e5, hf⟩ := lt_so hf
  refine r_iast 14 rfl ho.2.1 (inb_vp b3) (ck DX1_take_0 7 rfl) ?_
  refine r_heap e5 ?_
  refine r_aload_n 15 rfl 1 rfl rfl (ck DX1_take_0 8 rfl) ?_
  refine r_getr (q := o + 2) 18 rfl (lq_1_1 o) ho.1 kd_1_1 fl_X1_15 (ck DX1_take_0 9 rfl) ?_
  refine r_iload 20 rfl 0 rfl (ck DX1_take_0 10 rfl) ?_
  refine r_iload_n 21 rfl 3 rfl rfl (ck DX1_take_0 11 rfl) ?_
  obtain ⟨b6, hf⟩ := gd_so hf
  obtain ⟨g7, e8, hf⟩ := lt_so hf
  refine r_iast 22 rfl ho.2.2.1 (inb_vp b6) (ck DX1_take_0 12 rfl) ?_
  refine r_heap e8 ?_
  refine r_aload_n 23 rfl 1 rfl rfl (ck DX1_take_0 13 rfl) ?_
  refine r_getr (q := o + 3) 26 rfl (lq_1_2 o) ho.1 kd_1_2 fl_X1_18 (ck DX1_take_0 14 rfl) ?_
  refine r_iload 28 rfl 0 rfl (ck DX1_take_0 15 rfl) ?_
  refine r_iload_n 29 rfl 4 rfl rfl (ck DX1_take_0 16 rfl) ?_
  obtain ⟨b9, hf⟩ := gd_so hf
  obtain ⟨g10, e11, hf⟩ := lt_so hf
  refine r_iast 30 rfl ho.2.2.2.1 (inb_vp b9) (ck DX1_take_0 17 rfl) ?_
  refine r_heap e11 ?_
  refine r_aload_n 31 rfl 1 rfl rfl (ck DX1_take_0 18 rfl) ?_
  refine r_getr (q := o + 4) 34 rfl (lq_1_3 o) ho.1 kd_1_3 fl_X1_21 (ck DX1_take_0 19 rfl) ?_
  refine r_iload 36 rfl 0 rfl (ck DX1_take_0 20 rfl) ?_
  refine r_iconst 37 rfl ic_0 (ck DX1_take_0 21 rfl) ?_
  obtain ⟨b12, hf⟩ := gd_so hf
  obtain ⟨g13, e14, hf⟩ := lt_so hf
  refine r_iast 38 rfl ho.2.2.2.2.1 (inb_vp b12) (ck DX1_take_0 22 rfl) ?_
  refine r_heap e14 ?_
  refine r_aload_n 39 rfl 1 rfl rfl (ck DX1_take_0 23 rfl) ?_
  refine r_getr (q := o + 5) 42 rfl (lq_1_4 o) ho.1 kd_1_4 fl_X1_24 (ck DX1_take_0 24 rfl) ?_
  refine r_iload 44 rfl 0 rfl (ck DX1_take_0 25 rfl) ?_
  refine r_iconst 45 rfl ic_0 (ck DX1_take_0 26 rfl) ?_
  obtain ⟨b15, hf⟩ := gd_so hf
  obtain ⟨g16, e17, hf⟩ := lt_so hf
  refine r_iast 46 rfl ho.2.2.2.2.2.1 (inb_vp b15) (ck DX1_take_0 27 rfl) ?_
  refine r_heap e17 ?_
  refine r_iconst 47 rfl ic_0 (ck DX1_take_0 28 rfl) ?_
  refine r_istore (lv' := [(5, .int 0), (4, .int v1), (0, .ref (X.1 o)), (1, .int x1), (2, .int x2), (3, .int x3)]) 49 rfl (ck DX1_take_0 29 rfl) (by decide) rfl ?_
  refine r_sub (lv' := [(0, .ref (X.1 o)), (4, .int v1), (5, .int 0)]) [2, 1, 0] rfl ?_
  exact A_X1_take_L49 X o ho _ _ FZ v1 0 g16 hf
-- X1_has
def f_X1_has (o : Nat) (x1 : Int32) (h : HP) : Option Int32 := if x1 < 0 then (some 0) else (if (h.1 o 7) ≤ x1 then (some 0) else (some 1))
set_option maxHeartbeats 4000000 in
set_option maxRecDepth 100000 in
theorem A_X1_has (X : XE) (o : Nat) (ho : DK o) (x1 : Int32) (h : HP) (r : Int32) (hf : f_X1_has o x1 h = some r) : CC mX1_has 1 X [.ref (X.1 o), .int x1] h (some (.int r)) h := by
  refine CC_of rfl (Nat.le_of_ble_eq_true rfl) ?_
  show Run mX1_has 1 X 0 [(0, .ref (X.1 o)), (1, .int x1)] [] h (some (.int r)) h
  unfold f_X1_has at hf
  refine r_iload_n 1 rfl 1 rfl rfl (ck DX1_has_0 0 rfl) ?_
  rcases if_so hf with ⟨c1, hf⟩ | ⟨c1, hf⟩
  · refine r_if_lt_t 16 (ck DX1_has_0 1 rfl) (by decide) c1 ?_
    refine r_iconst 17 rfl ic_0 (ck DX1_has_0 8 rfl) ?_
    obtain rfl := so1 hf
    exact r_iret rfl rfl (ck DX1_has_0 9 rfl)
  · refine r_if_lt_f 4 rfl 16 (ck DX1_has_0 1 rfl) (by decide) c1 ?_
    refine r_iload_n 5 rfl 1 rfl rfl (ck DX1_has_0 2 rfl) ?_
    refine r_aload_n 6 rfl 0 rfl rfl (ck DX1_has_0 3 rfl) ?_
    refine r_geti 9 rfl ho.1 kd_1_7 fl_X1_47 (ck DX1_has_0 4 rfl) ?_
    rcases if_so hf with ⟨c2, hf⟩ | ⟨c2, hf⟩
    · refine r_icmp_ge_t 16 (ck DX1_has_0 5 rfl) (by decide) c2 ?_
      refine r_iconst 17 rfl ic_0 (ck DX1_has_0 8 rfl) ?_
      obtain rfl := so1 hf
      exact r_iret rfl rfl (ck DX1_has_0 9 rfl)
    · refine r_icmp_ge_f 12 rfl 16 (ck DX1_has_0 5 rfl) (by decide) c2 ?_
      refine r_iconst 13 rfl ic_1 (ck DX1_has_0 6 rfl) ?_
      refine r_goto 17 (ck DX1_has_0 7 rfl) (by decide) ?_
      obtain rfl := so1 hf
      exact r_iret rfl rfl (ck DX1_has_0 9 rfl)
-- X1_placeOf
def f_X1_placeOf_L2 (o : Nat) (h : HP) : Nat → Int32 → Int32 → Option Int32
  | 0, _, _ => none
  | n + 1, x1, x2 => if (h.1 o 8) ≤ x2 then (some (-1)) else (gd (inb x2 3) (if (h.1 (o + 7) (Int32.toNatClampNeg x2)) = x1 then (some x2) else (lt (x2 + 1 : Int32) fun v4 => f_X1_placeOf_L2 o h n x1 v4)))
set_option maxHeartbeats 4000000 in
set_option maxRecDepth 100000 in
theorem A_X1_placeOf_L2 (X : XE) (o : Nat) (ho : DK o) (h : HP) (r : Int32) : ∀ (n : Nat) (x1 : Int32) (x2 : Int32), f_X1_placeOf_L2 o h n x1 x2 = some r → Run mX1_placeOf 1 X 2 [(0, .ref (X.1 o)), (1, .int x1), (2, .int x2)] [] h (some (.int r)) h := by
  intro n
  induction n with
  | zero => intro x1 x2 hf; cases hf
  | succ n ih =>
    intro x1 x2 hf
    rw [f_X1_placeOf_L2] at hf
    refine r_iload_n 3 rfl 2 rfl rfl (ck DX1_placeOf_0 2 rfl) ?_
    refine r_aload_n 4 rfl 0 rfl rfl (ck DX1_placeOf_0 3 rfl) ?_
    refine r_geti 7 rfl ho.1 kd_1_8 fl_X1_50 (ck DX1_placeOf_0 4 rfl) ?_
    rcases if_so hf with ⟨c1, hf⟩ | ⟨c1, hf⟩
    · refine r_icmp_ge_t 28 (ck DX1_placeOf_0 5 rfl) (by decide) c1 ?_
      refine r_iconst 29 rfl ic_m1 (ck DX1_placeOf_0 16 rfl) ?_
      obtain rfl := so1 hf
      exact r_iret rfl rfl (ck DX1_placeOf_0 17 rfl)
    · refine r_icmp_ge_f 10 rfl 28 (ck DX1_placeOf_0 5 rfl) (by decide) c1 ?_
      refine r_aload_n 11 rfl 0 rfl rfl (ck DX1_placeOf_0 6 rfl) ?_
      refine r_getr (q := o + 7) 14 rfl (lq_1_6 o) ho.1 kd_1_6 fl_X1_30 (ck DX1_placeOf_0 7 rfl) ?_
      refine r_iload_n 15 rfl 2 rfl rfl (ck DX1_placeOf_0 8 rfl) ?_
      obtain ⟨b2, hf⟩ := gd_so hf
      refine r_iald 16 rfl ho.2.2.2.2.2.2.2 (inb_vp b2) (ck DX1_placeOf_0 9 rfl) ?_
      refine r_iload_n 17 rfl 1 rfl rfl (ck DX1_placeOf_0 10 rfl) ?_
      rcases if_so hf with ⟨c3, hf⟩ | ⟨c3, hf⟩
      · refine r_icmp_ne_t 20 rfl 22 (ck DX1_placeOf_0 11 rfl) (by decide) c3 ?_
        refine r_iload_n 21 rfl 2 rfl rfl (ck DX1_placeOf_0 12 rfl) ?_
        obtain rfl := so1 hf
        exact r_iret rfl rfl (ck DX1_placeOf_0 13 rfl)
      · refine r_icmp_ne_f 22 (ck DX1_placeOf_0 11 rfl) (by decide) c3 ?_
        obtain ⟨v4, e5, hf⟩ := lt_so hf
        refine r_iinc (lv' := [(2, .int v4), (0, .ref (X.1 o)), (1, .int x1)]) 25 rfl 2 (ck DX1_placeOf_0 14 rfl) rfl (by rw [e5, ic_1]) (by decide) rfl ?_
        refine r_goto 2 (ck DX1_placeOf_0 15 rfl) (by decide) ?_
        refine r_sub (lv' := [(0, .ref (X.1 o)), (1, .int x1), (2, .int v4)]) [1, 2, 0] rfl ?_
        exact ih x1 v4 hf
def f_X1_placeOf (o : Nat) (x1 : Int32) (h : HP) : Option Int32 := f_X1_placeOf_L2 o h FZ x1 0
set_option maxHeartbeats 4000000 in
set_option maxRecDepth 100000 in
theorem A_X1_placeOf (X : XE) (o : Nat) (ho : DK o) (x1 : Int32) (h : HP) (r : Int32) (hf : f_X1_placeOf o x1 h = some r) : CC mX1_placeOf 1 X [.ref (X.1 o), .int x1] h (some (.int r)) h := by
  refine CC_of rfl (Nat.le_of_ble_eq_true rfl) ?_
  show Run mX1_placeOf 1 X 0 [(0, .ref (X.1 o)), (1, .int x1)] [] h (some (.int r)) h
  unfold f_X1_placeOf at hf
  refine r_iconst 1 rfl ic_0 (ck DX1_placeOf_0 0 rfl) ?_
  refine r_istore_n (lv' := [(2, .int 0), (0, .ref (X.1 o)), (1, .int x1)]) 2 rfl (ck DX1_placeOf_0 1 rfl) (by decide) rfl rfl ?_
  refine r_sub (lv' := [(0, .ref (X.1 o)), (1, .int x1), (2, .int 0)]) [1, 2, 0] rfl ?_
  exact A_X1_placeOf_L2 X o ho h _ FZ x1 0 hf
-- X1_putUpon
def f_X1_putUpon (o : Nat) (x1 : Int32) (h : HP) : Option HP := if (3 : Int32) ≤ (h.1 o 8) then (some h) else (gd (inb (h.1 o 8) 3) (lt (si h (o + 7) (Int32.toNatClampNeg (h.1 o 8)) x1) fun g3 => lt (si g3 o 8 ((g3.1 o 8) + 1)) fun g5 => some g5))
set_option maxHeartbeats 4000000 in
set_option maxRecDepth 100000 in
theorem A_X1_putUpon (X : XE) (o : Nat) (ho : DK o) (x1 : Int32) (h : HP) (h' : HP) (hf : f_X1_putUpon o x1 h = some h') : CC mX1_putUpon 1 X [.ref (X.1 o), .int x1] h none h' := by
  refine CC_of rfl (Nat.le_of_ble_eq_true rfl) ?_
  show Run mX1_putUpon 1 X 0 [(0, .ref (X.1 o)), (1, .int x1)] [] h none h'
  unfold f_X1_putUpon at hf
  refine r_aload_n 1 rfl 0 rfl rfl (ck DX1_putUpon_0 0 rfl) ?_
  refine r_geti 4 rfl ho.1 kd_1_8 fl_X1_50 (ck DX1_putUpon_0 1 rfl) ?_
  refine r_iconst 5 rfl ic_3 (ck DX1_putUpon_0 2 rfl) ?_
  rcases if_so hf with ⟨c1, hf⟩ | ⟨c1, hf⟩
  · refine r_icmp_ge_t 28 (ck DX1_putUpon_0 3 rfl) (by decide) c1 ?_
    obtain rfl := so1 hf
    exact r_vret rfl (ck DX1_putUpon_0 16 rfl)
  · refine r_icmp_ge_f 8 rfl 28 (ck DX1_putUpon_0 3 rfl) (by decide) c1 ?_
    refine r_aload_n 9 rfl 0 rfl rfl (ck DX1_putUpon_0 4 rfl) ?_
    refine r_getr (q := o + 7) 12 rfl (lq_1_6 o) ho.1 kd_1_6 fl_X1_30 (ck DX1_putUpon_0 5 rfl) ?_
    refine r_aload_n 13 rfl 0 rfl rfl (ck DX1_putUpon_0 6 rfl) ?_
    refine r_geti 16 rfl ho.1 kd_1_8 fl_X1_50 (ck DX1_putUpon_0 7 rfl) ?_
    refine r_iload_n 17 rfl 1 rfl rfl (ck DX1_putUpon_0 8 rfl) ?_
    obtain ⟨b2, hf⟩ := gd_so hf
    obtain ⟨g3, e4, hf⟩ := lt_so hf
    refine r_iast 18 rfl ho.2.2.2.2.2.2.2 (inb_vp b2) (ck DX1_putUpon_0 9 rfl) ?_
    refine r_heap e4 ?_
    refine r_aload_n 19 rfl 0 rfl rfl (ck DX1_putUpon_0 10 rfl) ?_
    refine r_dup 20 rfl rfl (ck DX1_putUpon_0 11 rfl) ?_
    refine r_geti 23 rfl ho.1 kd_1_8 fl_X1_50 (ck DX1_putUpon_0 12 rfl) ?_
    refine r_iconst 24 rfl ic_1 (ck DX1_putUpon_0 13 rfl) ?_
    refine r_iadd 25 rfl (ck DX1_putUpon_0 14 rfl) ?_
    obtain ⟨g5, e6, hf⟩ := lt_so hf
    refine r_puti 28 rfl ho.1 kd_1_8 fw_X1_50 rfl rfl (ck DX1_putUpon_0 15 rfl) ?_
    refine r_heap e6 ?_
    obtain rfl := so1 hf
    exact r_vret rfl (ck DX1_putUpon_0 16 rfl)
-- X1_lashRow
def f_X1_lashRow_J122 (o : Nat) (x2 : Int32) (x3 : Int32) (x4 : Int32) (x5 : Int32) (s0 : Int32) (h : HP) : Option (Int32 × HP) := if x5 = 0 then (if s0 = 0 then (if (h.1 o 7) ≤ x2 then (some (0, h)) else (if (h.1 o 7) ≤ x3 then (some (0, h)) else (if (h.1 o 7) ≤ x4 then (some (0, h)) else (some (1, h))))) else (some (0, h))) else (some (0, h))
set_option maxHeartbeats 4000000 in
set_option maxRecDepth 100000 in
theorem A_X1_lashRow_J122 (X : XE) (o : Nat) (ho : DK o) (r : Int32) (h' : HP) (x2 : Int32) (x3 : Int32) (x4 : Int32) (x5 : Int32) (s0 : Int32) (h : HP) (hf : f_X1_lashRow_J122 o x2 x3 x4 x5 s0 h = some (r, h')) : Run mX1_lashRow 1 X 122 [(0, .ref (X.1 o)), (2, .int x2), (3, .int x3), (4, .int x4), (5, .int x5)] [.int s0] h (some (.int r)) h' := by
  unfold f_X1_lashRow_J122 at hf
  refine r_istore (lv' := [(6, .int s0), (0, .ref (X.1 o)), (2, .int x2), (3, .int x3), (4, .int x4), (5, .int x5)]) 124 rfl (ck DX1_lashRow_1 23 rfl) (by decide) rfl ?_
  refine r_iload 126 rfl 5 rfl (ck DX1_lashRow_1 24 rfl) ?_
  rcases if_so hf with ⟨c24, hf⟩ | ⟨c24, hf⟩
  · refine r_if_ne_t 129 rfl 163 (ck DX1_lashRow_1 25 rfl) (by decide) c24 ?_
    refine r_iload 131 rfl 0 rfl (ck DX1_lashRow_1 26 rfl) ?_
    rcases if_so hf with ⟨c25, hf⟩ | ⟨c25, hf⟩
    · refine r_if_ne_t 134 rfl 163 (ck DX1_lashRow_1 27 rfl) (by decide) c25 ?_
      refine r_iload_n 135 rfl 2 rfl rfl (ck DX1_lashRow_1 28 rfl) ?_
      refine r_aload_n 136 rfl 1 rfl rfl (ck DX1_lashRow_1 29 rfl) ?_
      refine r_geti 139 rfl ho.1 kd_1_7 fl_X1_47 (ck DX1_lashRow_1 30 rfl) ?_
      rcases if_so hf with ⟨c26, hf⟩ | ⟨c26, hf⟩
      · refine r_icmp_ge_t 163 (ck DX1_lashRow_1 31 rfl) (by decide) c26 ?_
        refine r_iconst 164 rfl ic_0 (ck DX1_lashRow_1 42 rfl) ?_
        obtain ⟨rfl, rfl⟩ := so2 hf
        exact r_iret rfl rfl (ck DX1_lashRow_1 43 rfl)
      · refine r_icmp_ge_f 142 rfl 163 (ck DX1_lashRow_1 31 rfl) (by decide) c26 ?_
        refine r_iload_n 143 rfl 3 rfl rfl (ck DX1_lashRow_1 32 rfl) ?_
        refine r_aload_n 144 rfl 1 rfl rfl (ck DX1_lashRow_1 33 rfl) ?_
        refine r_geti 147 rfl ho.1 kd_1_7 fl_X1_47 (ck DX1_lashRow_1 34 rfl) ?_
        rcases if_so hf with ⟨c27, hf⟩ | ⟨c27, hf⟩
        · refine r_icmp_ge_t 163 (ck DX1_lashRow_1 35 rfl) (by decide) c27 ?_
          refine r_iconst 164 rfl ic_0 (ck DX1_lashRow_1 42 rfl) ?_
          obtain ⟨rfl, rfl⟩ := so2 hf
          exact r_iret rfl rfl (ck DX1_lashRow_1 43 rfl)
        · refine r_icmp_ge_f 150 rfl 163 (ck DX1_lashRow_1 35 rfl) (by decide) c27 ?_
          refine r_iload 152 rfl 4 rfl (ck DX1_lashRow_1 36 rfl) ?_
          refine r_aload_n 153 rfl 1 rfl rfl (ck DX1_lashRow_1 37 rfl) ?_
          refine r_geti 156 rfl ho.1 kd_1_7 fl_X1_47 (ck DX1_lashRow_1 38 rfl) ?_
          rcases if_so hf with ⟨c28, hf⟩ | ⟨c28, hf⟩
          · refine r_icmp_ge_t 163 (ck DX1_lashRow_1 39 rfl) (by decide) c28 ?_
            refine r_iconst 164 rfl ic_0 (ck DX1_lashRow_1 42 rfl) ?_
            obtain ⟨rfl, rfl⟩ := so2 hf
            exact r_iret rfl rfl (ck DX1_lashRow_1 43 rfl)
          · refine r_icmp_ge_f 159 rfl 163 (ck DX1_lashRow_1 39 rfl) (by decide) c28 ?_
            refine r_iconst 160 rfl ic_1 (ck DX1_lashRow_1 40 rfl) ?_
            refine r_goto 164 (ck DX1_lashRow_1 41 rfl) (by decide) ?_
            obtain ⟨rfl, rfl⟩ := so2 hf
            exact r_iret rfl rfl (ck DX1_lashRow_1 43 rfl)
    · refine r_if_ne_f 163 (ck DX1_lashRow_1 27 rfl) (by decide) c25 ?_
      refine r_iconst 164 rfl ic_0 (ck DX1_lashRow_1 42 rfl) ?_
      obtain ⟨rfl, rfl⟩ := so2 hf
      exact r_iret rfl rfl (ck DX1_lashRow_1 43 rfl)
  · refine r_if_ne_f 163 (ck DX1_lashRow_1 25 rfl) (by decide) c24 ?_
    refine r_iconst 164 rfl ic_0 (ck DX1_lashRow_1 42 rfl) ?_
    obtain ⟨rfl, rfl⟩ := so2 hf
    exact r_iret rfl rfl (ck DX1_lashRow_1 43 rfl)
def f_X1_lashRow_J94 (o : Nat) (x2 : Int32) (x3 : Int32) (x4 : Int32) (s0 : Int32) (h : HP) : Option (Int32 × HP) := if x2 = x3 then (f_X1_lashRow_J122 o x2 x3 x4 s0 1 h) else (if x2 = x4 then (f_X1_lashRow_J122 o x2 x3 x4 s0 1 h) else (if x3 < 0 then (f_X1_lashRow_J122 o x2 x3 x4 s0 0 h) else (if x3 = x4 then (f_X1_lashRow_J122 o x2 x3 x4 s0 1 h) else (f_X1_lashRow_J122 o x2 x3 x4 s0 0 h))))
set_option maxHeartbeats 4000000 in
set_option maxRecDepth 100000 in
theorem A_X1_lashRow_J94 (X : XE) (o : Nat) (ho : DK o) (r : Int32) (h' : HP) (x2 : Int32) (x3 : Int32) (x4 : Int32) (s0 : Int32) (h : HP) (hf : f_X1_lashRow_J94 o x2 x3 x4 s0 h = some (r, h')) : Run mX1_lashRow 1 X 94 [(0, .ref (X.1 o)), (2, .int x2), (3, .int x3), (4, .int x4)] [.int s0] h (some (.int r)) h' := by
  unfold f_X1_lashRow_J94 at hf
  refine r_istore (lv' := [(5, .int s0), (0, .ref (X.1 o)), (2, .int x2), (3, .int x3), (4, .int x4)]) 96 rfl (ck DX1_lashRow_1 8 rfl) (by decide) rfl ?_
  refine r_iload_n 97 rfl 2 rfl rfl (ck DX1_lashRow_1 9 rfl) ?_
  refine r_iload_n 98 rfl 3 rfl rfl (ck DX1_lashRow_1 10 rfl) ?_
  rcases if_so hf with ⟨c23, hf⟩ | ⟨c23, hf⟩
  · refine r_icmp_eq_t 117 (ck DX1_lashRow_1 11 rfl) (by decide) c23 ?_
    refine r_iconst 118 rfl ic_1 (ck DX1_lashRow_1 20 rfl) ?_
    refine r_goto 122 (ck DX1_lashRow_1 21 rfl) (by decide) ?_
    refine r_sub (lv' := [(0, .ref (X.1 o)), (2, .int x2), (3, .int x3), (4, .int x4), (5, .int s0)]) [1, 2, 3, 4, 0] rfl ?_
    exact A_X1_lashRow_J122 X o ho _ _ x2 x3 x4 s0 1 h hf
  · refine r_icmp_eq_f 101 rfl 117 (ck DX1_lashRow_1 11 rfl) (by decide) c23 ?_
    refine r_iload_n 102 rfl 2 rfl rfl (ck DX1_lashRow_1 12 rfl) ?_
    refine r_iload 104 rfl 4 rfl (ck DX1_lashRow_1 13 rfl) ?_
    rcases if_so hf with ⟨c29, hf⟩ | ⟨c29, hf⟩
    · refine r_icmp_eq_t 117 (ck DX1_lashRow_1 14 rfl) (by decide) c29 ?_
      refine r_iconst 118 rfl ic_1 (ck DX1_lashRow_1 20 rfl) ?_
      refine r_goto 122 (ck DX1_lashRow_1 21 rfl) (by decide) ?_
      refine r_sub (lv' := [(0, .ref (X.1 o)), (2, .int x2), (3, .int x3), (4, .int x4), (5, .int s0)]) [1, 2, 3, 4, 0] rfl ?_
      exact A_X1_lashRow_J122 X o ho _ _ x2 x3 x4 s0 1 h hf
    · refine r_icmp_eq_f 107 rfl 117 (ck DX1_lashRow_1 14 rfl) (by decide) c29 ?_
      refine r_iload_n 108 rfl 3 rfl rfl (ck DX1_lashRow_1 15 rfl) ?_
      rcases if_so hf with ⟨c30, hf⟩ | ⟨c30, hf⟩
      · refine r_if_lt_t 121 (ck DX1_lashRow_1 16 rfl) (by decide) c30 ?_
        refine r_iconst 122 rfl ic_0 (ck DX1_lashRow_1 22 rfl) ?_
        refine r_sub (lv' := [(0, .ref (X.1 o)), (2, .int x2), (3, .int x3), (4, .int x4), (5, .int s0)]) [1, 2, 3, 4, 0] rfl ?_
        exact A_X1_lashRow_J122 X o ho _ _ x2 x3 x4 s0 0 h hf
      · refine r_if_lt_f 111 rfl 121 (ck DX1_lashRow_1 16 rfl) (by decide) c30 ?_
        refine r_iload_n 112 rfl 3 rfl rfl (ck DX1_lashRow_1 17 rfl) ?_
        refine r_iload 114 rfl 4 rfl (ck DX1_lashRow_1 18 rfl) ?_
        rcases if_so hf with ⟨c31, hf⟩ | ⟨c31, hf⟩
        · refine r_icmp_ne_t 117 rfl 121 (ck DX1_lashRow_1 19 rfl) (by decide) c31 ?_
          refine r_iconst 118 rfl ic_1 (ck DX1_lashRow_1 20 rfl) ?_
          refine r_goto 122 (ck DX1_lashRow_1 21 rfl) (by decide) ?_
          refine r_sub (lv' := [(0, .ref (X.1 o)), (2, .int x2), (3, .int x3), (4, .int x4), (5, .int s0)]) [1, 2, 3, 4, 0] rfl ?_
          exact A_X1_lashRow_J122 X o ho _ _ x2 x3 x4 s0 1 h hf
        · refine r_icmp_ne_f 121 (ck DX1_lashRow_1 19 rfl) (by decide) c31 ?_
          refine r_iconst 122 rfl ic_0 (ck DX1_lashRow_1 22 rfl) ?_
          refine r_sub (lv' := [(0, .ref (X.1 o)), (2, .int x2), (3, .int x3), (4, .int x4), (5, .int s0)]) [1, 2, 3, 4, 0] rfl ?_
          exact A_X1_lashRow_J122 X o ho _ _ x2 x3 x4 s0 0 h hf
def f_X1_lashRow (o : Nat) (x1 : Int32) (h : HP) : Option (Int32 × HP) := if x1 < 0 then (some (0, h)) else (if x1 < 294 then (lt ((x1 / 49) : Int32) fun v3 => lt ((((x1 / 7) - (x1 / 7) / 7 * 7) - 1) : Int32) fun v5 => lt (((x1 - x1 / 7 * 7) - 1) : Int32) fun v7 => gd (inb 0 3) (lt (si h (o + 7) (Int32.toNatClampNeg 0) v3) fun g10 => gd (inb 1 3) (lt (si g10 (o + 7) (Int32.toNatClampNeg 1) v5) fun g13 => gd (inb 2 3) (lt (si g13 (o + 7) (Int32.toNatClampNeg 2) v7) fun g16 => if (0 : Int32) ≤ v5 then (if (0 : Int32) ≤ v7 then (lt (si g16 o 8 3) fun g20 => if (0 : Int32) ≤ v5 then (f_X1_lashRow_J94 o v3 v5 v7 0 g20) else (if v7 < 0 then (f_X1_lashRow_J94 o v3 v5 v7 0 g20) else (f_X1_lashRow_J94 o v3 v5 v7 1 g20))) else (lt (si g16 o 8 2) fun g33 => if (0 : Int32) ≤ v5 then (f_X1_lashRow_J94 o v3 v5 v7 0 g33) else (if v7 < 0 then (f_X1_lashRow_J94 o v3 v5 v7 0 g33) else (f_X1_lashRow_J94 o v3 v5 v7 1 g33)))) else (lt (si g16 o 8 1) fun g37 => if (0 : Int32) ≤ v5 then (f_X1_lashRow_J94 o v3 v5 v7 0 g37) else (if v7 < 0 then (f_X1_lashRow_J94 o v3 v5 v7 0 g37) else (f_X1_lashRow_J94 o v3 v5 v7 1 g37))))))) else (some (0, h)))
set_option maxHeartbeats 4000000 in
set_option maxRecDepth 100000 in
theorem A_X1_lashRow (X : XE) (o : Nat) (ho : DK o) (x1 : Int32) (h : HP) (r : Int32) (h' : HP) (hf : f_X1_lashRow o x1 h = some (r, h')) : CC mX1_lashRow 1 X [.ref (X.1 o), .int x1] h (some (.int r)) h' := by
  refine CC_of rfl (Nat.le_of_ble_eq_true rfl) ?_
  show Run mX1_lashRow 1 X 0 [(0, .ref (X.1 o)), (1, .int x1)] [] h (some (.int r)) h'
  unfold f_X1_lashRow at hf
  refine r_iload_n 1 rfl 1 rfl rfl (ck DX1_lashRow_0 0 rfl) ?_
  rcases if_so hf with ⟨c1, hf⟩ | ⟨c1, hf⟩
  · refine r_if_lt_t 11 (ck DX1_lashRow_0 1 rfl) (by decide) c1 ?_
    refine r_iconst 12 rfl ic_0 (ck DX1_lashRow_0 5 rfl) ?_
    obtain ⟨rfl, rfl⟩ := so2 hf
    exact r_iret rfl rfl (ck DX1_lashRow_0 6 rfl)
  · refine r_if_lt_f 4 rfl 11 (ck DX1_lashRow_0 1 rfl) (by decide) c1 ?_
    refine r_iload_n 5 rfl 1 rfl rfl (ck DX1_lashRow_0 2 rfl) ?_
    refine r_sipush 8 rfl sp_294 (ck DX1_lashRow_0 3 rfl) ?_
    rcases if_so hf with ⟨c2, hf⟩ | ⟨c2, hf⟩
    · refine r_icmp_lt_t 13 (ck DX1_lashRow_0 4 rfl) (by decide) c2 ?_
      refine r_iload_n 14 rfl 1 rfl rfl (ck DX1_lashRow_0 7 rfl) ?_
      refine r_bipush 16 rfl bp_49 (ck DX1_lashRow_0 8 rfl) ?_
      refine r_idiv 17 rfl (by decide) (ck DX1_lashRow_0 9 rfl) ?_
      obtain ⟨v3, e4, hf⟩ := lt_so hf
      refine r_top e4 ?_
      refine r_istore_n (lv' := [(2, .int v3), (0, .ref (X.1 o)), (1, .int x1)]) 18 rfl (ck DX1_lashRow_0 10 rfl) (by decide) rfl rfl ?_
      refine r_iload_n 19 rfl 2 rfl rfl (ck DX1_lashRow_0 11 rfl) ?_
      refine r_bipush 21 rfl bp_7 (ck DX1_lashRow_0 12 rfl) ?_
      refine r_idiv 22 rfl (by decide) (ck DX1_lashRow_0 13 rfl) ?_
      refine r_bipush 24 rfl bp_7 (ck DX1_lashRow_0 14 rfl) ?_
      refine r_irem 25 rfl (by decide) (ck DX1_lashRow_0 15 rfl) ?_
      refine r_iconst 26 rfl ic_1 (ck DX1_lashRow_0 16 rfl) ?_
      refine r_isub 27 rfl (ck DX1_lashRow_0 17 rfl) ?_
      obtain ⟨v5, e6, hf⟩ := lt_so hf
      refine r_top e6 ?_
      refine r_istore_n (lv' := [(3, .int v5), (2, .int v3), (0, .ref (X.1 o)), (1, .int x1)]) 28 rfl (ck DX1_lashRow_0 18 rfl) (by decide) rfl rfl ?_
      refine r_iload_n 29 rfl 3 rfl rfl (ck DX1_lashRow_0 19 rfl) ?_
      refine r_bipush 31 rfl bp_7 (ck DX1_lashRow_0 20 rfl) ?_
      refine r_irem 32 rfl (by decide) (ck DX1_lashRow_0 21 rfl) ?_
      refine r_iconst 33 rfl ic_1 (ck DX1_lashRow_0 22 rfl) ?_
      refine r_isub 34 rfl (ck DX1_lashRow_0 23 rfl) ?_
      obtain ⟨v7, e8, hf⟩ := lt_so hf
      refine r_top e8 ?_
      refine r_istore (lv' := [(4, .int v7), (3, .int v5), (2, .int v3), (0, .ref (X.1 o)), (1, .int x1)]) 36 rfl (ck DX1_lashRow_0 24 rfl) (by decide) rfl ?_
      refine r_aload_n 37 rfl 3 rfl rfl (ck DX1_lashRow_0 25 rfl) ?_
      refine r_getr (q := o + 7) 40 rfl (lq_1_6 o) ho.1 kd_1_6 fl_X1_30 (ck DX1_lashRow_0 26 rfl) ?_
      refine r_iconst 41 rfl ic_0 (ck DX1_lashRow_0 27 rfl) ?_
      refine r_iload_n 42 rfl 2 rfl rfl (ck DX1_lashRow_0 28 rfl) ?_
      obtain ⟨b9, hf⟩ := gd_so hf
      obtain ⟨g10, e11, hf⟩ := lt_so hf
      refine r_iast 43 rfl ho.2.2.2.2.2.2.2 (inb_vp b9) (ck DX1_lashRow_0 29 rfl) ?_
      refine r_heap e11 ?_
      refine r_aload_n 44 rfl 3 rfl rfl (ck DX1_lashRow_0 30 rfl) ?_
      refine r_getr (q := o + 7) 47 rfl (lq_1_6 o) ho.1 kd_1_6 fl_X1_30 (ck DX1_lashRow_0 31 rfl) ?_
      refine r_iconst 48 rfl ic_1 (ck DX1_lashRow_0 32 rfl) ?_
      refine r_iload_n 49 rfl 1 rfl rfl (ck DX1_lashRow_0 33 rfl) ?_
      obtain ⟨b12, hf⟩ := gd_so hf
      obtain ⟨g13, e14, hf⟩ := lt_so hf
      refine r_iast 50 rfl ho.2.2.2.2.2.2.2 (inb_vp b12) (ck DX1_lashRow_0 34 rfl) ?_
      refine r_heap e14 ?_
      refine r_aload_n 51 rfl 3 rfl rfl (ck DX1_lashRow_0 35 rfl) ?_
      refine r_getr (q := o + 7) 54 rfl (lq_1_6 o) ho.1 kd_1_6 fl_X1_30 (ck DX1_lashRow_0 36 rfl) ?_
      refine r_iconst 55 rfl ic_2 (ck DX1_lashRow_0 37 rfl) ?_
      refine r_iload 57 rfl 0 rfl (ck DX1_lashRow_0 38 rfl) ?_
      obtain ⟨b15, hf⟩ := gd_so hf
      obtain ⟨g16, e17, hf⟩ := lt_so hf
      refine r_iast 58 rfl ho.2.2.2.2.2.2.2 (inb_vp b15) (ck DX1_lashRow_0 39 rfl) ?_
      refine r_heap e17 ?_
      refine r_aload_n 59 rfl 3 rfl rfl (ck DX1_lashRow_0 40 rfl) ?_
      refine r_iload_n 60 rfl 1 rfl rfl (ck DX1_lashRow_0 41 rfl) ?_
      rcases if_so hf with ⟨c18, hf⟩ | ⟨c18, hf⟩
      · refine r_if_ge_t 67 (ck DX1_lashRow_0 42 rfl) (by decide) c18 ?_
        refine r_iload 69 rfl 0 rfl (ck DX1_lashRow_0 45 rfl) ?_
        rcases if_so hf with ⟨c19, hf⟩ | ⟨c19, hf⟩
        · refine r_if_ge_t 76 (ck DX1_lashRow_0 46 rfl) (by decide) c19 ?_
          refine r_iconst 77 rfl ic_3 (ck DX1_lashRow_0 49 rfl) ?_
          obtain ⟨g20, e21, hf⟩ := lt_so hf
          refine r_puti 80 rfl ho.1 kd_1_8 fw_X1_50 rfl rfl (ck DX1_lashRow_1 0 rfl) ?_
          refine r_heap e21 ?_
          refine r_iload_n 81 rfl 1 rfl rfl (ck DX1_lashRow_1 1 rfl) ?_
          rcases if_so hf with ⟨c22, hf⟩ | ⟨c22, hf⟩
          · refine r_if_ge_t 93 (ck DX1_lashRow_1 2 rfl) (by decide) c22 ?_
            refine r_iconst 94 rfl ic_0 (ck DX1_lashRow_1 7 rfl) ?_
            refine r_sub (lv' := [(0, .ref (X.1 o)), (2, .int v3), (3, .int v5), (4, .int v7)]) [3, 2, 1, 0] rfl ?_
            exact A_X1_lashRow_J94 X o ho _ _ v3 v5 v7 0 g20 hf
          · refine r_if_ge_f 84 rfl 93 (ck DX1_lashRow_1 2 rfl) (by decide) c22 ?_
            refine r_iload 86 rfl 0 rfl (ck DX1_lashRow_1 3 rfl) ?_
            rcases if_so hf with ⟨c32, hf⟩ | ⟨c32, hf⟩
            · refine r_if_lt_t 93 (ck DX1_lashRow_1 4 rfl) (by decide) c32 ?_
              refine r_iconst 94 rfl ic_0 (ck DX1_lashRow_1 7 rfl) ?_
              refine r_sub (lv' := [(0, .ref (X.1 o)), (2, .int v3), (3, .int v5), (4, .int v7)]) [3, 2, 1, 0] rfl ?_
              exact A_X1_lashRow_J94 X o ho _ _ v3 v5 v7 0 g20 hf
            · refine r_if_lt_f 89 rfl 93 (ck DX1_lashRow_1 4 rfl) (by decide) c32 ?_
              refine r_iconst 90 rfl ic_1 (ck DX1_lashRow_1 5 rfl) ?_
              refine r_goto 94 (ck DX1_lashRow_1 6 rfl) (by decide) ?_
              refine r_sub (lv' := [(0, .ref (X.1 o)), (2, .int v3), (3, .int v5), (4, .int v7)]) [3, 2, 1, 0] rfl ?_
              exact A_X1_lashRow_J94 X o ho _ _ v3 v5 v7 1 g20 hf
        · refine r_if_ge_f 72 rfl 76 (ck DX1_lashRow_0 46 rfl) (by decide) c19 ?_
          refine r_iconst 73 rfl ic_2 (ck DX1_lashRow_0 47 rfl) ?_
          refine r_goto 77 (ck DX1_lashRow_0 48 rfl) (by decide) ?_
          obtain ⟨g33, e34, hf⟩ := lt_so hf
          refine r_puti 80 rfl ho.1 kd_1_8 fw_X1_50 rfl rfl (ck DX1_lashRow_1 0 rfl) ?_
          refine r_heap e34 ?_
          refine r_iload_n 81 rfl 1 rfl rfl (ck DX1_lashRow_1 1 rfl) ?_
          rcases if_so hf with ⟨c35, hf⟩ | ⟨c35, hf⟩
          · refine r_if_ge_t 93 (ck DX1_lashRow_1 2 rfl) (by decide) c35 ?_
            refine r_iconst 94 rfl ic_0 (ck DX1_lashRow_1 7 rfl) ?_
            refine r_sub (lv' := [(0, .ref (X.1 o)), (2, .int v3), (3, .int v5), (4, .int v7)]) [3, 2, 1, 0] rfl ?_
            exact A_X1_lashRow_J94 X o ho _ _ v3 v5 v7 0 g33 hf
          · refine r_if_ge_f 84 rfl 93 (ck DX1_lashRow_1 2 rfl) (by decide) c35 ?_
            refine r_iload 86 rfl 0 rfl (ck DX1_lashRow_1 3 rfl) ?_
            rcases if_so hf with ⟨c36, hf⟩ | ⟨c36, hf⟩
            · refine r_if_lt_t 93 (ck DX1_lashRow_1 4 rfl) (by decide) c36 ?_
              refine r_iconst 94 rfl ic_0 (ck DX1_lashRow_1 7 rfl) ?_
              refine r_sub (lv' := [(0, .ref (X.1 o)), (2, .int v3), (3, .int v5), (4, .int v7)]) [3, 2, 1, 0] rfl ?_
              exact A_X1_lashRow_J94 X o ho _ _ v3 v5 v7 0 g33 hf
            · refine r_if_lt_f 89 rfl 93 (ck DX1_lashRow_1 4 rfl) (by decide) c36 ?_
              refine r_iconst 90 rfl ic_1 (ck DX1_lashRow_1 5 rfl) ?_
              refine r_goto 94 (ck DX1_lashRow_1 6 rfl) (by decide) ?_
              refine r_sub (lv' := [(0, .ref (X.1 o)), (2, .int v3), (3, .int v5), (4, .int v7)]) [3, 2, 1, 0] rfl ?_
              exact A_X1_lashRow_J94 X o ho _ _ v3 v5 v7 1 g33 hf
      · refine r_if_ge_f 63 rfl 67 (ck DX1_lashRow_0 42 rfl) (by decide) c18 ?_
        refine r_iconst 64 rfl ic_1 (ck DX1_lashRow_0 43 rfl) ?_
        refine r_goto 77 (ck DX1_lashRow_0 44 rfl) (by decide) ?_
        obtain ⟨g37, e38, hf⟩ := lt_so hf
        refine r_puti 80 rfl ho.1 kd_1_8 fw_X1_50 rfl rfl (ck DX1_lashRow_1 0 rfl) ?_
        refine r_heap e38 ?_
        refine r_iload_n 81 rfl 1 rfl rfl (ck DX1_lashRow_1 1 rfl) ?_
        rcases if_so hf with ⟨c39, hf⟩ | ⟨c39, hf⟩
        · refine r_if_ge_t 93 (ck DX1_lashRow_1 2 rfl) (by decide) c39 ?_
          refine r_iconst 94 rfl ic_0 (ck DX1_lashRow_1 7 rfl) ?_
          refine r_sub (lv' := [(0, .ref (X.1 o)), (2, .int v3), (3, .int v5), (4, .int v7)]) [3, 2, 1, 0] rfl ?_
          exact A_X1_lashRow_J94 X o ho _ _ v3 v5 v7 0 g37 hf
        · refine r_if_ge_f 84 rfl 93 (ck DX1_lashRow_1 2 rfl) (by decide) c39 ?_
          refine r_iload 86 rfl 0 rfl (ck DX1_lashRow_1 3 rfl) ?_
          rcases if_so hf with ⟨c40, hf⟩ | ⟨c40, hf⟩
          · refine r_if_lt_t 93 (ck DX1_lashRow_1 4 rfl) (by decide) c40 ?_
            refine r_iconst 94 rfl ic_0 (ck DX1_lashRow_1 7 rfl) ?_
            refine r_sub (lv' := [(0, .ref (X.1 o)), (2, .int v3), (3, .int v5), (4, .int v7)]) [3, 2, 1, 0] rfl ?_
            exact A_X1_lashRow_J94 X o ho _ _ v3 v5 v7 0 g37 hf
          · refine r_if_lt_f 89 rfl 93 (ck DX1_lashRow_1 4 rfl) (by decide) c40 ?_
            refine r_iconst 90 rfl ic_1 (ck DX1_lashRow_1 5 rfl) ?_
            refine r_goto 94 (ck DX1_lashRow_1 6 rfl) (by decide) ?_
            refine r_sub (lv' := [(0, .ref (X.1 o)), (2, .int v3), (3, .int v5), (4, .int v7)]) [3, 2, 1, 0] rfl ?_
            exact A_X1_lashRow_J94 X o ho _ _ v3 v5 v7 1 g37 hf
    · refine r_icmp_lt_f 11 rfl 13 (ck DX1_lashRow_0 4 rfl) (by decide) c2 ?_
      refine r_iconst 12 rfl ic_0 (ck DX1_lashRow_0 5 rfl) ?_
      obtain ⟨rfl, rfl⟩ := so2 hf
      exact r_iret rfl rfl (ck DX1_lashRow_0 6 rfl)
-- X1_standsOfTheSame
def f_X1_standsOfTheSame_L2 (o : Nat) (q1 : Nat) (h : HP) : Nat → Int32 → Option Int32
  | 0, _ => none
  | n + 1, x2 => if (h.1 o 8) ≤ x2 then (if (h.1 o 8) = (h.1 q1 8) then (some 1) else (some 0)) else (gd (inb x2 3) (bo (f_X1_placeOf q1 (h.1 (o + 7) (Int32.toNatClampNeg x2)) h) fun v4 => if (0 : Int32) ≤ v4 then (lt (x2 + 1 : Int32) fun v7 => f_X1_standsOfTheSame_L2 o q1 h n v7) else (some 0)))
set_option maxHeartbeats 4000000 in
set_option maxRecDepth 100000 in
theorem A_X1_standsOfTheSame_L2 (X : XE) (o : Nat) (ho : DK o) (q1 : Nat) (hq1 : DK q1) (h : HP) (r : Int32) : ∀ (n : Nat) (x2 : Int32), f_X1_standsOfTheSame_L2 o q1 h n x2 = some r → Run mX1_standsOfTheSame 2 X 2 [(0, .ref (X.1 o)), (1, .ref (X.1 q1)), (2, .int x2)] [] h (some (.int r)) h := by
  intro n
  induction n with
  | zero => intro x2 hf; cases hf
  | succ n ih =>
    intro x2 hf
    rw [f_X1_standsOfTheSame_L2] at hf
    refine r_iload_n 3 rfl 2 rfl rfl (ck DX1_standsOfTheSame_0 2 rfl) ?_
    refine r_aload_n 4 rfl 0 rfl rfl (ck DX1_standsOfTheSame_0 3 rfl) ?_
    refine r_geti 7 rfl ho.1 kd_1_8 fl_X1_50 (ck DX1_standsOfTheSame_0 4 rfl) ?_
    rcases if_so hf with ⟨c1, hf⟩ | ⟨c1, hf⟩
    · refine r_icmp_ge_t 31 (ck DX1_standsOfTheSame_0 5 rfl) (by decide) c1 ?_
      refine r_aload_n 32 rfl 0 rfl rfl (ck DX1_standsOfTheSame_0 17 rfl) ?_
      refine r_geti 35 rfl ho.1 kd_1_8 fl_X1_50 (ck DX1_standsOfTheSame_0 18 rfl) ?_
      refine r_aload_n 36 rfl 1 rfl rfl (ck DX1_standsOfTheSame_0 19 rfl) ?_
      refine r_geti 39 rfl hq1.1 kd_1_8 fl_X1_50 (ck DX1_standsOfTheSame_0 20 rfl) ?_
      rcases if_so hf with ⟨c2, hf⟩ | ⟨c2, hf⟩
      · refine r_icmp_ne_t 42 rfl 46 (ck DX1_standsOfTheSame_0 21 rfl) (by decide) c2 ?_
        refine r_iconst 43 rfl ic_1 (ck DX1_standsOfTheSame_0 22 rfl) ?_
        refine r_goto 47 (ck DX1_standsOfTheSame_0 23 rfl) (by decide) ?_
        obtain rfl := so1 hf
        exact r_iret rfl rfl (ck DX1_standsOfTheSame_0 25 rfl)
      · refine r_icmp_ne_f 46 (ck DX1_standsOfTheSame_0 21 rfl) (by decide) c2 ?_
        refine r_iconst 47 rfl ic_0 (ck DX1_standsOfTheSame_0 24 rfl) ?_
        obtain rfl := so1 hf
        exact r_iret rfl rfl (ck DX1_standsOfTheSame_0 25 rfl)
    · refine r_icmp_ge_f 10 rfl 31 (ck DX1_standsOfTheSame_0 5 rfl) (by decide) c1 ?_
      refine r_aload_n 11 rfl 1 rfl rfl (ck DX1_standsOfTheSame_0 6 rfl) ?_
      refine r_aload_n 12 rfl 0 rfl rfl (ck DX1_standsOfTheSame_0 7 rfl) ?_
      refine r_getr (q := o + 7) 15 rfl (lq_1_6 o) ho.1 kd_1_6 fl_X1_30 (ck DX1_standsOfTheSame_0 8 rfl) ?_
      refine r_iload_n 16 rfl 2 rfl rfl (ck DX1_standsOfTheSame_0 9 rfl) ?_
      obtain ⟨b3, hf⟩ := gd_so hf
      refine r_iald 17 rfl ho.2.2.2.2.2.2.2 (inb_vp b3) (ck DX1_standsOfTheSame_0 10 rfl) ?_
      obtain ⟨v4, e5, hf⟩ := bo_so hf
      refine r_callVi 20 rfl (A_X1_placeOf X q1 hq1 (h.1 (o + 7) (Int32.toNatClampNeg x2)) h v4 e5) (by omega) cw_X1_66 hq1.1 cl_1 rfl rfl (Nat.le_of_ble_eq_true rfl) (ck DX1_standsOfTheSame_0 11 rfl) ?_
      rcases if_so hf with ⟨c6, hf⟩ | ⟨c6, hf⟩
      · refine r_if_ge_t 25 (ck DX1_standsOfTheSame_0 12 rfl) (by decide) c6 ?_
        obtain ⟨v7, e8, hf⟩ := lt_so hf
        refine r_iinc (lv' := [(2, .int v7), (0, .ref (X.1 o)), (1, .ref (X.1 q1))]) 28 rfl 2 (ck DX1_standsOfTheSame_0 15 rfl) rfl (by rw [e8, ic_1]) (by decide) rfl ?_
        refine r_goto 2 (ck DX1_standsOfTheSame_0 16 rfl) (by decide) ?_
        refine r_sub (lv' := [(0, .ref (X.1 o)), (1, .ref (X.1 q1)), (2, .int v7)]) [1, 2, 0] rfl ?_
        exact ih v7 hf
      · refine r_if_ge_f 23 rfl 25 (ck DX1_standsOfTheSame_0 12 rfl) (by decide) c6 ?_
        refine r_iconst 24 rfl ic_0 (ck DX1_standsOfTheSame_0 13 rfl) ?_
        obtain rfl := so1 hf
        exact r_iret rfl rfl (ck DX1_standsOfTheSame_0 14 rfl)
def f_X1_standsOfTheSame (o : Nat) (q1 : Nat) (h : HP) : Option Int32 := f_X1_standsOfTheSame_L2 o q1 h FZ 0
set_option maxHeartbeats 4000000 in
set_option maxRecDepth 100000 in
theorem A_X1_standsOfTheSame (X : XE) (o : Nat) (ho : DK o) (q1 : Nat) (hq1 : DK q1) (h : HP) (r : Int32) (hf : f_X1_standsOfTheSame o q1 h = some r) : CC mX1_standsOfTheSame 2 X [.ref (X.1 o), .ref (X.1 q1)] h (some (.int r)) h := by
  refine CC_of rfl (Nat.le_of_ble_eq_true rfl) ?_
  show Run mX1_standsOfTheSame 2 X 0 [(0, .ref (X.1 o)), (1, .ref (X.1 q1))] [] h (some (.int r)) h
  unfold f_X1_standsOfTheSame at hf
  refine r_iconst 1 rfl ic_0 (ck DX1_standsOfTheSame_0 0 rfl) ?_
  refine r_istore_n (lv' := [(2, .int 0), (0, .ref (X.1 o)), (1, .ref (X.1 q1))]) 2 rfl (ck DX1_standsOfTheSame_0 1 rfl) (by decide) rfl rfl ?_
  refine r_sub (lv' := [(0, .ref (X.1 o)), (1, .ref (X.1 q1)), (2, .int 0)]) [1, 2, 0] rfl ?_
  exact A_X1_standsOfTheSame_L2 X o ho q1 hq1 h _ FZ 0 hf
-- X1_above
def f_X1_above_L4 (o : Nat) (h : HP) : Nat → Int32 → Int32 → Int32 → Option Int32
  | 0, _, _, _ => none
  | n + 1, x1, x2, x3 => if (h.1 o 8) ≤ x3 then (bo (h.2.2 o) fun w2 => gd (isOc w2) (lt (((h.1 w2 6) * (((h.1 o 8) - 1) - x1)) : Int32) fun v5 => if x2 ≤ v5 then (some 0) else (some (x2 - v5)))) else (gd (inb x3 3) (gd (inb (h.1 (o + 7) (Int32.toNatClampNeg x3)) 6) (lt ((x2 + (h.1 (o + 3) (Int32.toNatClampNeg (h.1 (o + 7) (Int32.toNatClampNeg x3))))) : Int32) fun v10 => lt (x3 + 1 : Int32) fun v12 => f_X1_above_L4 o h n x1 v10 v12)))
set_option maxHeartbeats 4000000 in
set_option maxRecDepth 100000 in
theorem A_X1_above_L4 (X : XE) (o : Nat) (ho : DK o) (h : HP) (r : Int32) : ∀ (n : Nat) (x1 : Int32) (x2 : Int32) (x3 : Int32), f_X1_above_L4 o h n x1 x2 x3 = some r → Run mX1_above 1 X 4 [(0, .ref (X.1 o)), (1, .int x1), (2, .int x2), (3, .int x3)] [] h (some (.int r)) h := by
  intro n
  induction n with
  | zero => intro x1 x2 x3 hf; cases hf
  | succ n ih =>
    intro x1 x2 x3 hf
    rw [f_X1_above_L4] at hf
    refine r_iload_n 5 rfl 3 rfl rfl (ck DX1_above_0 4 rfl) ?_
    refine r_aload_n 6 rfl 0 rfl rfl (ck DX1_above_0 5 rfl) ?_
    refine r_geti 9 rfl ho.1 kd_1_8 fl_X1_50 (ck DX1_above_0 6 rfl) ?_
    rcases if_so hf with ⟨c1, hf⟩ | ⟨c1, hf⟩
    · refine r_icmp_ge_t 32 (ck DX1_above_0 7 rfl) (by decide) c1 ?_
      refine r_aload_n 33 rfl 0 rfl rfl (ck DX1_above_0 20 rfl) ?_
      obtain ⟨w2, e3, hf⟩ := bo_so hf
      obtain ⟨b4, hf⟩ := gd_so hf
      have ow2 := oc_of b4
      refine r_gets 36 rfl e3 ho.1 kd_1_13 fl_X1_33 (ck DX1_above_0 21 rfl) ?_
      refine r_geti 39 rfl ow2.1 kd_2_6 fl_X1_70 (ck DX1_above_0 22 rfl) ?_
      refine r_aload_n 40 rfl 0 rfl rfl (ck DX1_above_0 23 rfl) ?_
      refine r_geti 43 rfl ho.1 kd_1_8 fl_X1_50 (ck DX1_above_0 24 rfl) ?_
      refine r_iconst 44 rfl ic_1 (ck DX1_above_0 25 rfl) ?_
      refine r_isub 45 rfl (ck DX1_above_0 26 rfl) ?_
      refine r_iload_n 46 rfl 1 rfl rfl (ck DX1_above_0 27 rfl) ?_
      refine r_isub 47 rfl (ck DX1_above_0 28 rfl) ?_
      refine r_imul 48 rfl (ck DX1_above_0 29 rfl) ?_
      obtain ⟨v5, e6, hf⟩ := lt_so hf
      refine r_top e6 ?_
      refine r_istore_n (lv' := [(3, .int v5), (0, .ref (X.1 o)), (1, .int x1), (2, .int x2)]) 49 rfl (ck DX1_above_0 30 rfl) (by decide) rfl rfl ?_
      refine r_iload_n 50 rfl 3 rfl rfl (ck DX1_above_0 31 rfl) ?_
      refine r_iload_n 51 rfl 0 rfl rfl (ck DX1_above_0 32 rfl) ?_
      rcases if_so hf with ⟨c7, hf⟩ | ⟨c7, hf⟩
      · refine r_icmp_le_t 60 (ck DX1_above_0 33 rfl) (by decide) c7 ?_
        refine r_iconst 61 rfl ic_0 (ck DX1_above_0 38 rfl) ?_
        obtain rfl := so1 hf
        exact r_iret rfl rfl (ck DX1_above_0 39 rfl)
      · refine r_icmp_le_f 54 rfl 60 (ck DX1_above_0 33 rfl) (by decide) c7 ?_
        refine r_iload_n 55 rfl 3 rfl rfl (ck DX1_above_0 34 rfl) ?_
        refine r_iload_n 56 rfl 0 rfl rfl (ck DX1_above_0 35 rfl) ?_
        refine r_isub 57 rfl (ck DX1_above_0 36 rfl) ?_
        refine r_goto 61 (ck DX1_above_0 37 rfl) (by decide) ?_
        obtain rfl := so1 hf
        exact r_iret rfl rfl (ck DX1_above_0 39 rfl)
    · refine r_icmp_ge_f 12 rfl 32 (ck DX1_above_0 7 rfl) (by decide) c1 ?_
      refine r_iload_n 13 rfl 2 rfl rfl (ck DX1_above_0 8 rfl) ?_
      refine r_aload_n 14 rfl 0 rfl rfl (ck DX1_above_0 9 rfl) ?_
      refine r_getr (q := o + 3) 17 rfl (lq_1_2 o) ho.1 kd_1_2 fl_X1_18 (ck DX1_above_0 10 rfl) ?_
      refine r_aload_n 18 rfl 0 rfl rfl (ck DX1_above_0 11 rfl) ?_
      refine r_getr (q := o + 7) 21 rfl (lq_1_6 o) ho.1 kd_1_6 fl_X1_30 (ck DX1_above_0 12 rfl) ?_
      refine r_iload_n 22 rfl 3 rfl rfl (ck DX1_above_0 13 rfl) ?_
      obtain ⟨b8, hf⟩ := gd_so hf
      refine r_iald 23 rfl ho.2.2.2.2.2.2.2 (inb_vp b8) (ck DX1_above_0 14 rfl) ?_
      obtain ⟨b9, hf⟩ := gd_so hf
      refine r_iald 24 rfl ho.2.2.2.1 (inb_vp b9) (ck DX1_above_0 15 rfl) ?_
      refine r_iadd 25 rfl (ck DX1_above_0 16 rfl) ?_
      obtain ⟨v10, e11, hf⟩ := lt_so hf
      refine r_top e11 ?_
      refine r_istore_n (lv' := [(2, .int v10), (0, .ref (X.1 o)), (1, .int x1), (3, .int x3)]) 26 rfl (ck DX1_above_0 17 rfl) (by decide) rfl rfl ?_
      obtain ⟨v12, e13, hf⟩ := lt_so hf
      refine r_iinc (lv' := [(3, .int v12), (2, .int v10), (0, .ref (X.1 o)), (1, .int x1)]) 29 rfl 3 (ck DX1_above_0 18 rfl) rfl (by rw [e13, ic_1]) (by decide) rfl ?_
      refine r_goto 4 (ck DX1_above_0 19 rfl) (by decide) ?_
      refine r_sub (lv' := [(0, .ref (X.1 o)), (1, .int x1), (2, .int v10), (3, .int v12)]) [2, 3, 1, 0] rfl ?_
      exact ih x1 v10 v12 hf
def f_X1_above (o : Nat) (x1 : Int32) (h : HP) : Option Int32 := f_X1_above_L4 o h FZ x1 0 x1
set_option maxHeartbeats 4000000 in
set_option maxRecDepth 100000 in
theorem A_X1_above (X : XE) (o : Nat) (ho : DK o) (x1 : Int32) (h : HP) (r : Int32) (hf : f_X1_above o x1 h = some r) : CC mX1_above 1 X [.ref (X.1 o), .int x1] h (some (.int r)) h := by
  refine CC_of rfl (Nat.le_of_ble_eq_true rfl) ?_
  show Run mX1_above 1 X 0 [(0, .ref (X.1 o)), (1, .int x1)] [] h (some (.int r)) h
  unfold f_X1_above at hf
  refine r_iconst 1 rfl ic_0 (ck DX1_above_0 0 rfl) ?_
  refine r_istore_n (lv' := [(2, .int 0), (0, .ref (X.1 o)), (1, .int x1)]) 2 rfl (ck DX1_above_0 1 rfl) (by decide) rfl rfl ?_
  refine r_iload_n 3 rfl 2 rfl rfl (ck DX1_above_0 2 rfl) ?_
  refine r_istore_n (lv' := [(3, .int x1), (2, .int 0), (0, .ref (X.1 o)), (1, .int x1)]) 4 rfl (ck DX1_above_0 3 rfl) (by decide) rfl rfl ?_
  refine r_sub (lv' := [(0, .ref (X.1 o)), (1, .int x1), (2, .int 0), (3, .int x1)]) [2, 3, 1, 0] rfl ?_
  exact A_X1_above_L4 X o ho h _ FZ x1 0 x1 hf
-- X1_height
def f_X1_height (o : Nat) (h : HP) : Option Int32 := if (h.1 o 8) = 0 then (some 0) else (bo (f_X1_above o 0 h) fun v2 => some v2)
set_option maxHeartbeats 4000000 in
set_option maxRecDepth 100000 in
theorem A_X1_height (X : XE) (o : Nat) (ho : DK o) (h : HP) (r : Int32) (hf : f_X1_height o h = some r) : CC mX1_height 2 X [.ref (X.1 o)] h (some (.int r)) h := by
  refine CC_of rfl (Nat.le_of_ble_eq_true rfl) ?_
  show Run mX1_height 2 X 0 [(0, .ref (X.1 o))] [] h (some (.int r)) h
  unfold f_X1_height at hf
  refine r_aload_n 1 rfl 0 rfl rfl (ck DX1_height_0 0 rfl) ?_
  refine r_geti 4 rfl ho.1 kd_1_8 fl_X1_50 (ck DX1_height_0 1 rfl) ?_
  rcases if_so hf with ⟨c1, hf⟩ | ⟨c1, hf⟩
  · refine r_if_ne_t 7 rfl 11 (ck DX1_height_0 2 rfl) (by decide) c1 ?_
    refine r_iconst 8 rfl ic_0 (ck DX1_height_0 3 rfl) ?_
    refine r_goto 16 (ck DX1_height_0 4 rfl) (by decide) ?_
    obtain rfl := so1 hf
    exact r_iret rfl rfl (ck DX1_height_0 8 rfl)
  · refine r_if_ne_f 11 (ck DX1_height_0 2 rfl) (by decide) c1 ?_
    refine r_aload_n 12 rfl 0 rfl rfl (ck DX1_height_0 5 rfl) ?_
    refine r_iconst 13 rfl ic_0 (ck DX1_height_0 6 rfl) ?_
    obtain ⟨v2, e3, hf⟩ := bo_so hf
    refine r_callVi 16 rfl (A_X1_above X o ho 0 h v2 e3) (by omega) cw_X1_75 ho.1 cl_1 rfl rfl (Nat.le_of_ble_eq_true rfl) (ck DX1_height_0 7 rfl) ?_
    obtain rfl := so1 hf
    exact r_iret rfl rfl (ck DX1_height_0 8 rfl)
-- X1_load
def f_X1_load (o : Nat) (x1 : Int32) (h : HP) : Option Int32 := bo (f_X1_above o x1 h) fun v1 => bo (h.2.2 o) fun w3 => gd (isOc w3) (some (if (0 : Int32) < ((((v1 * (h.1 o 9)) / 5) + (h.1 w3 5)) - (3 * (h.1 o 10))) then ((((v1 * (h.1 o 9)) / 5) + (h.1 w3 5)) - (3 * (h.1 o 10))) else 0))
set_option maxHeartbeats 4000000 in
set_option maxRecDepth 100000 in
theorem A_X1_load (X : XE) (o : Nat) (ho : DK o) (x1 : Int32) (h : HP) (r : Int32) (hf : f_X1_load o x1 h = some r) : CC mX1_load 2 X [.ref (X.1 o), .int x1] h (some (.int r)) h := by
  refine CC_of rfl (Nat.le_of_ble_eq_true rfl) ?_
  show Run mX1_load 2 X 0 [(0, .ref (X.1 o)), (1, .int x1)] [] h (some (.int r)) h
  unfold f_X1_load at hf
  refine r_iconst 1 rfl ic_0 (ck DX1_load_0 0 rfl) ?_
  refine r_aload_n 2 rfl 0 rfl rfl (ck DX1_load_0 1 rfl) ?_
  refine r_iload_n 3 rfl 1 rfl rfl (ck DX1_load_0 2 rfl) ?_
  obtain ⟨v1, e2, hf⟩ := bo_so hf
  refine r_callVi 6 rfl (A_X1_above X o ho x1 h v1 e2) (by omega) cw_X1_75 ho.1 cl_1 rfl rfl (Nat.le_of_ble_eq_true rfl) (ck DX1_load_0 3 rfl) ?_
  refine r_aload_n 7 rfl 0 rfl rfl (ck DX1_load_0 4 rfl) ?_
  refine r_geti 10 rfl ho.1 kd_1_9 fl_X1_37 (ck DX1_load_0 5 rfl) ?_
  refine r_imul 11 rfl (ck DX1_load_0 6 rfl) ?_
  refine r_iconst 12 rfl ic_5 (ck DX1_load_0 7 rfl) ?_
  refine r_idiv 13 rfl (by decide) (ck DX1_load_0 8 rfl) ?_
  refine r_aload_n 14 rfl 0 rfl rfl (ck DX1_load_0 9 rfl) ?_
  obtain ⟨w3, e4, hf⟩ := bo_so hf
  obtain ⟨b5, hf⟩ := gd_so hf
  have ow3 := oc_of b5
  refine r_gets 17 rfl e4 ho.1 kd_1_13 fl_X1_33 (ck DX1_load_0 10 rfl) ?_
  refine r_geti 20 rfl ow3.1 kd_2_5 fl_X1_78 (ck DX1_load_0 11 rfl) ?_
  refine r_iadd 21 rfl (ck DX1_load_0 12 rfl) ?_
  refine r_iconst 22 rfl ic_3 (ck DX1_load_0 13 rfl) ?_
  refine r_aload_n 23 rfl 0 rfl rfl (ck DX1_load_0 14 rfl) ?_
  refine r_geti 26 rfl ho.1 kd_1_10 fl_X1_53 (ck DX1_load_0 15 rfl) ?_
  refine r_imul 27 rfl (ck DX1_load_0 16 rfl) ?_
  refine r_isub 28 rfl (ck DX1_load_0 17 rfl) ?_
  refine r_max 31 rfl (by decide) ml_X1_81 ms_max ini_Math mc_max (Nat.le_of_ble_eq_true rfl) (ck DX1_load_0 18 rfl) ?_
  obtain rfl := so1 hf
  exact r_iret rfl rfl (ck DX1_load_0 19 rfl)
-- X1_miles
def f_X1_miles (o : Nat) (h : HP) : Option Int32 := bo (f_X1_height o h) fun v1 => some ((v1 * (h.1 o 9)) / 10)
set_option maxHeartbeats 4000000 in
set_option maxRecDepth 100000 in
theorem A_X1_miles (X : XE) (o : Nat) (ho : DK o) (h : HP) (r : Int32) (hf : f_X1_miles o h = some r) : CC mX1_miles 3 X [.ref (X.1 o)] h (some (.int r)) h := by
  refine CC_of rfl (Nat.le_of_ble_eq_true rfl) ?_
  show Run mX1_miles 3 X 0 [(0, .ref (X.1 o))] [] h (some (.int r)) h
  unfold f_X1_miles at hf
  refine r_aload_n 1 rfl 0 rfl rfl (ck DX1_miles_0 0 rfl) ?_
  obtain ⟨v1, e2, hf⟩ := bo_so hf
  refine r_callVi 4 rfl (A_X1_height X o ho h v1 e2) (by omega) cw_X1_87 ho.1 cl_1 rfl rfl (Nat.le_of_ble_eq_true rfl) (ck DX1_miles_0 1 rfl) ?_
  refine r_aload_n 5 rfl 0 rfl rfl (ck DX1_miles_0 2 rfl) ?_
  refine r_geti 8 rfl ho.1 kd_1_9 fl_X1_37 (ck DX1_miles_0 3 rfl) ?_
  refine r_imul 9 rfl (ck DX1_miles_0 4 rfl) ?_
  refine r_bipush 11 rfl bp_10 (ck DX1_miles_0 5 rfl) ?_
  refine r_idiv 12 rfl (by decide) (ck DX1_miles_0 6 rfl) ?_
  obtain rfl := so1 hf
  exact r_iret rfl rfl (ck DX1_miles_0 7 rfl)
-- X1_strength
def f_X1_strength (o : Nat) (x1 : Int32) (h : HP) : Option (Int32 × HP) := bo (h.2.2 o) fun w1 => gd (isOc w1) (bd (f_X2_heart w1 o x1 h) fun v6 g4 => gd (inb x1 6) (lt ((v6 - (g4.1 (o + 4) (Int32.toNatClampNeg x1))) : Int32) fun v8 => gd (inb x1 6) (lt ((g4.1 (o + 1) (Int32.toNatClampNeg x1)) : Int32) fun v11 => if v11 = 1 then (gd (inb x1 6) (lt (((v6 / 2) - (g4.1 (o + 4) (Int32.toNatClampNeg x1))) : Int32) fun v15 => some ((if (0 : Int32) < v15 then v15 else 0), g4))) else (if v11 = 2 then (lt (v8 + 10 : Int32) fun v18 => some ((if (0 : Int32) < v18 then v18 else 0), g4)) else (if v11 = 3 then (gd (inb x1 6) (lt ((v8 + (g4.1 (o + 2) (Int32.toNatClampNeg x1))) : Int32) fun v22 => some ((if (0 : Int32) < v22 then v22 else 0), g4))) else (if v11 = 4 then (gd (inb x1 6) (lt ((((v6 / 2) - (g4.1 (o + 4) (Int32.toNatClampNeg x1))) + (2 * (g4.1 o 10))) : Int32) fun v26 => some ((if (0 : Int32) < v26 then v26 else 0), g4))) else (if v11 = 5 then (gd (inb x1 6) (lt ((v8 + (10 - (g4.1 (o + 4) (Int32.toNatClampNeg x1)))) : Int32) fun v30 => some ((if (0 : Int32) < v30 then v30 else 0), g4))) else (if v11 = 6 then (gd (inb x1 6) (gd (inb ((4 * x1) + ((g4.1 o 12) - (g4.1 o 12) / 4 * 4)) 24) (lt ((v8 + ((g4.1 (o + 2) (Int32.toNatClampNeg x1)) + (g4.1 (o + 6) (Int32.toNatClampNeg ((4 * x1) + ((g4.1 o 12) - (g4.1 o 12) / 4 * 4)))))) : Int32) fun v35 => some ((if (0 : Int32) < v35 then v35 else 0), g4)))) else ((some ((if (0 : Int32) < v8 then v8 else 0), g4)))))))))))
set_option maxHeartbeats 4000000 in
set_option maxRecDepth 100000 in
theorem A_X1_strength (X : XE) (o : Nat) (ho : DK o) (x1 : Int32) (h : HP) (r : Int32) (h' : HP) (hf : f_X1_strength o x1 h = some (r, h')) : CC mX1_strength 2 X [.ref (X.1 o), .int x1] h (some (.int r)) h' := by
  refine CC_of rfl (Nat.le_of_ble_eq_true rfl) ?_
  show Run mX1_strength 2 X 0 [(0, .ref (X.1 o)), (1, .int x1)] [] h (some (.int r)) h'
  unfold f_X1_strength at hf
  refine r_aload_n 1 rfl 0 rfl rfl (ck DX1_strength_0 0 rfl) ?_
  obtain ⟨w1, e2, hf⟩ := bo_so hf
  obtain ⟨b3, hf⟩ := gd_so hf
  have ow1 := oc_of b3
  refine r_gets 4 rfl e2 ho.1 kd_1_13 fl_X1_33 (ck DX1_strength_0 1 rfl) ?_
  refine r_aload_n 5 rfl 0 rfl rfl (ck DX1_strength_0 2 rfl) ?_
  refine r_iload_n 6 rfl 1 rfl rfl (ck DX1_strength_0 3 rfl) ?_
  obtain ⟨v6, g4, e5, hf⟩ := bd_so hf
  refine r_callVi 9 rfl (A_X2_heart X w1 ow1 o ho x1 h v6 g4 e5) (by omega) cw_X1_91 ow1.1 cl_2 rfl rfl (Nat.le_of_ble_eq_true rfl) (ck DX1_strength_0 4 rfl) ?_
  refine r_istore_n (lv' := [(2, .int v6), (0, .ref (X.1 o)), (1, .int x1)]) 10 rfl (ck DX1_strength_0 5 rfl) (by decide) rfl rfl ?_
  refine r_iload_n 11 rfl 0 rfl rfl (ck DX1_strength_0 6 rfl) ?_
  refine r_aload_n 12 rfl 1 rfl rfl (ck DX1_strength_0 7 rfl) ?_
  refine r_getr (q := o + 4) 15 rfl (lq_1_3 o) ho.1 kd_1_3 fl_X1_21 (ck DX1_strength_0 8 rfl) ?_
  refine r_iload_n 16 rfl 2 rfl rfl (ck DX1_strength_0 9 rfl) ?_
  obtain ⟨b7, hf⟩ := gd_so hf
  refine r_iald 17 rfl ho.2.2.2.2.1 (inb_vp b7) (ck DX1_strength_0 10 rfl) ?_
  refine r_isub 18 rfl (ck DX1_strength_0 11 rfl) ?_
  obtain ⟨v8, e9, hf⟩ := lt_so hf
  refine r_top e9 ?_
  refine r_istore_n (lv' := [(3, .int v8), (2, .int v6), (0, .ref (X.1 o)), (1, .int x1)]) 19 rfl (ck DX1_strength_0 12 rfl) (by decide) rfl rfl ?_
  refine r_aload_n 20 rfl 2 rfl rfl (ck DX1_strength_0 13 rfl) ?_
  refine r_getr (q := o + 1) 23 rfl (lq_1_0 o) ho.1 kd_1_0 fl_X1_9 (ck DX1_strength_0 14 rfl) ?_
  refine r_iload_n 24 rfl 3 rfl rfl (ck DX1_strength_0 15 rfl) ?_
  obtain ⟨b10, hf⟩ := gd_so hf
  refine r_iald 25 rfl ho.2.1 (inb_vp b10) (ck DX1_strength_0 16 rfl) ?_
  obtain ⟨v11, e12, hf⟩ := lt_so hf
  refine r_top e12 ?_
  rcases if_so hf with ⟨c13, hf⟩ | ⟨c13, hf⟩
  · refine r_tsw_in (v := 1) 64 (ck DX1_strength_0 17 rfl) c13 (by decide) (by decide) rfl (by decide) ?_
    refine r_iload_n 65 rfl 1 rfl rfl (ck DX1_strength_0 18 rfl) ?_
    refine r_iconst 66 rfl ic_2 (ck DX1_strength_0 19 rfl) ?_
    refine r_idiv 67 rfl (by decide) (ck DX1_strength_0 20 rfl) ?_
    refine r_aload_n 68 rfl 2 rfl rfl (ck DX1_strength_0 21 rfl) ?_
    refine r_getr (q := o + 4) 71 rfl (lq_1_3 o) ho.1 kd_1_3 fl_X1_21 (ck DX1_strength_0 22 rfl) ?_
    refine r_iload_n 72 rfl 3 rfl rfl (ck DX1_strength_0 23 rfl) ?_
    obtain ⟨b14, hf⟩ := gd_so hf
    refine r_iald 73 rfl ho.2.2.2.2.1 (inb_vp b14) (ck DX1_strength_0 24 rfl) ?_
    refine r_isub 74 rfl (ck DX1_strength_0 25 rfl) ?_
    obtain ⟨v15, e16, hf⟩ := lt_so hf
    refine r_top e16 ?_
    refine r_istore_n (lv' := [(3, .int v15), (2, .int v6), (0, .ref (X.1 o)), (1, .int x1)]) 75 rfl (ck DX1_strength_0 26 rfl) (by decide) rfl rfl ?_
    refine r_goto 160 (ck DX1_strength_0 27 rfl) (by decide) ?_
    refine r_iconst 161 rfl ic_0 (ck DX1_strength_1 33 rfl) ?_
    refine r_iload_n 162 rfl 0 rfl rfl (ck DX1_strength_1 34 rfl) ?_
    refine r_max 165 rfl (by decide) ml_X1_81 ms_max ini_Math mc_max (Nat.le_of_ble_eq_true rfl) (ck DX1_strength_1 35 rfl) ?_
    obtain ⟨rfl, rfl⟩ := so2 hf
    exact r_iret rfl rfl (ck DX1_strength_1 36 rfl)
  · skip
    rcases if_so hf with ⟨c17, hf⟩ | ⟨c17, hf⟩
    · refine r_tsw_in (v := 2) 78 (ck DX1_strength_0 17 rfl) c17 (by decide) (by decide) rfl (by decide) ?_
      obtain ⟨v18, e19, hf⟩ := lt_so hf
      refine r_iinc (lv' := [(3, .int v18), (2, .int v6), (0, .ref (X.1 o)), (1, .int x1)]) 81 rfl 0 (ck DX1_strength_0 28 rfl) rfl (by rw [e19, ic_10]) (by decide) rfl ?_
      refine r_goto 160 (ck DX1_strength_0 29 rfl) (by decide) ?_
      refine r_iconst 161 rfl ic_0 (ck DX1_strength_1 33 rfl) ?_
      refine r_iload_n 162 rfl 0 rfl rfl (ck DX1_strength_1 34 rfl) ?_
      refine r_max 165 rfl (by decide) ml_X1_81 ms_max ini_Math mc_max (Nat.le_of_ble_eq_true rfl) (ck DX1_strength_1 35 rfl) ?_
      obtain ⟨rfl, rfl⟩ := so2 hf
      exact r_iret rfl rfl (ck DX1_strength_1 36 rfl)
    · skip
      rcases if_so hf with ⟨c20, hf⟩ | ⟨c20, hf⟩
      · refine r_tsw_in (v := 3) 84 (ck DX1_strength_0 17 rfl) c20 (by decide) (by decide) rfl (by decide) ?_
        refine r_iload_n 85 rfl 0 rfl rfl (ck DX1_strength_0 30 rfl) ?_
        refine r_aload_n 86 rfl 2 rfl rfl (ck DX1_strength_0 31 rfl) ?_
        refine r_getr (q := o + 2) 89 rfl (lq_1_1 o) ho.1 kd_1_1 fl_X1_15 (ck DX1_strength_0 32 rfl) ?_
        refine r_iload_n 90 rfl 3 rfl rfl (ck DX1_strength_0 33 rfl) ?_
        obtain ⟨b21, hf⟩ := gd_so hf
        refine r_iald 91 rfl ho.2.2.1 (inb_vp b21) (ck DX1_strength_0 34 rfl) ?_
        refine r_iadd 92 rfl (ck DX1_strength_0 35 rfl) ?_
        obtain ⟨v22, e23, hf⟩ := lt_so hf
        refine r_top e23 ?_
        refine r_istore_n (lv' := [(3, .int v22), (2, .int v6), (0, .ref (X.1 o)), (1, .int x1)]) 93 rfl (ck DX1_strength_0 36 rfl) (by decide) rfl rfl ?_
        refine r_goto 160 (ck DX1_strength_0 37 rfl) (by decide) ?_
        refine r_iconst 161 rfl ic_0 (ck DX1_strength_1 33 rfl) ?_
        refine r_iload_n 162 rfl 0 rfl rfl (ck DX1_strength_1 34 rfl) ?_
        refine r_max 165 rfl (by decide) ml_X1_81 ms_max ini_Math mc_max (Nat.le_of_ble_eq_true rfl) (ck DX1_strength_1 35 rfl) ?_
        obtain ⟨rfl, rfl⟩ := so2 hf
        exact r_iret rfl rfl (ck DX1_strength_1 36 rfl)
      · skip
        rcases if_so hf with ⟨c24, hf⟩ | ⟨c24, hf⟩
        · refine r_tsw_in (v := 4) 96 (ck DX1_strength_0 17 rfl) c24 (by decide) (by decide) rfl (by decide) ?_
          refine r_iload_n 97 rfl 1 rfl rfl (ck DX1_strength_0 38 rfl) ?_
          refine r_iconst 98 rfl ic_2 (ck DX1_strength_0 39 rfl) ?_
          refine r_idiv 99 rfl (by decide) (ck DX1_strength_0 40 rfl) ?_
          refine r_aload_n 100 rfl 2 rfl rfl (ck DX1_strength_0 41 rfl) ?_
          refine r_getr (q := o + 4) 103 rfl (lq_1_3 o) ho.1 kd_1_3 fl_X1_21 (ck DX1_strength_0 42 rfl) ?_
          refine r_iload_n 104 rfl 3 rfl rfl (ck DX1_strength_0 43 rfl) ?_
          obtain ⟨b25, hf⟩ := gd_so hf
          refine r_iald 105 rfl ho.2.2.2.2.1 (inb_vp b25) (ck DX1_strength_0 44 rfl) ?_
          refine r_isub 106 rfl (ck DX1_strength_0 45 rfl) ?_
          refine r_iconst 107 rfl ic_2 (ck DX1_strength_0 46 rfl) ?_
          refine r_aload_n 108 rfl 2 rfl rfl (ck DX1_strength_0 47 rfl) ?_
          refine r_geti 111 rfl ho.1 kd_1_10 fl_X1_53 (ck DX1_strength_0 48 rfl) ?_
          refine r_imul 112 rfl (ck DX1_strength_0 49 rfl) ?_
          refine r_iadd 113 rfl (ck DX1_strength_1 0 rfl) ?_
          obtain ⟨v26, e27, hf⟩ := lt_so hf
          refine r_top e27 ?_
          refine r_istore_n (lv' := [(3, .int v26), (2, .int v6), (0, .ref (X.1 o)), (1, .int x1)]) 114 rfl (ck DX1_strength_1 1 rfl) (by decide) rfl rfl ?_
          refine r_goto 160 (ck DX1_strength_1 2 rfl) (by decide) ?_
          refine r_iconst 161 rfl ic_0 (ck DX1_strength_1 33 rfl) ?_
          refine r_iload_n 162 rfl 0 rfl rfl (ck DX1_strength_1 34 rfl) ?_
          refine r_max 165 rfl (by decide) ml_X1_81 ms_max ini_Math mc_max (Nat.le_of_ble_eq_true rfl) (ck DX1_strength_1 35 rfl) ?_
          obtain ⟨rfl, rfl⟩ := so2 hf
          exact r_iret rfl rfl (ck DX1_strength_1 36 rfl)
        · skip
          rcases if_so hf with ⟨c28, hf⟩ | ⟨c28, hf⟩
          · refine r_tsw_in (v := 5) 117 (ck DX1_strength_0 17 rfl) c28 (by decide) (by decide) rfl (by decide) ?_
            refine r_iload_n 118 rfl 0 rfl rfl (ck DX1_strength_1 3 rfl) ?_
            refine r_bipush 120 rfl bp_10 (ck DX1_strength_1 4 rfl) ?_
            refine r_aload_n 121 rfl 2 rfl rfl (ck DX1_strength_1 5 rfl) ?_
            refine r_getr (q := o + 4) 124 rfl (lq_1_3 o) ho.1 kd_1_3 fl_X1_21 (ck DX1_strength_1 6 rfl) ?_
            refine r_iload_n 125 rfl 3 rfl rfl (ck DX1_strength_1 7 rfl) ?_
            obtain ⟨b29, hf⟩ := gd_so hf
            refine r_iald 126 rfl ho.2.2.2.2.1 (inb_vp b29) (ck DX1_strength_1 8 rfl) ?_
            refine r_isub 127 rfl (ck DX1_strength_1 9 rfl) ?_
            refine r_iadd 128 rfl (ck DX1_strength_1 10 rfl) ?_
            obtain ⟨v30, e31, hf⟩ := lt_so hf
            refine r_top e31 ?_
            refine r_istore_n (lv' := [(3, .int v30), (2, .int v6), (0, .ref (X.1 o)), (1, .int x1)]) 129 rfl (ck DX1_strength_1 11 rfl) (by decide) rfl rfl ?_
            refine r_goto 160 (ck DX1_strength_1 12 rfl) (by decide) ?_
            refine r_iconst 161 rfl ic_0 (ck DX1_strength_1 33 rfl) ?_
            refine r_iload_n 162 rfl 0 rfl rfl (ck DX1_strength_1 34 rfl) ?_
            refine r_max 165 rfl (by decide) ml_X1_81 ms_max ini_Math mc_max (Nat.le_of_ble_eq_true rfl) (ck DX1_strength_1 35 rfl) ?_
            obtain ⟨rfl, rfl⟩ := so2 hf
            exact r_iret rfl rfl (ck DX1_strength_1 36 rfl)
          · skip
            rcases if_so hf with ⟨c32, hf⟩ | ⟨c32, hf⟩
            · refine r_tsw_in (v := 6) 132 (ck DX1_strength_0 17 rfl) c32 (by decide) (by decide) rfl (by decide) ?_
              refine r_iload_n 133 rfl 0 rfl rfl (ck DX1_strength_1 13 rfl) ?_
              refine r_aload_n 134 rfl 2 rfl rfl (ck DX1_strength_1 14 rfl) ?_
              refine r_getr (q := o + 2) 137 rfl (lq_1_1 o) ho.1 kd_1_1 fl_X1_15 (ck DX1_strength_1 15 rfl) ?_
              refine r_iload_n 138 rfl 3 rfl rfl (ck DX1_strength_1 16 rfl) ?_
              obtain ⟨b33, hf⟩ := gd_so hf
              refine r_iald 139 rfl ho.2.2.1 (inb_vp b33) (ck DX1_strength_1 17 rfl) ?_
              refine r_aload_n 140 rfl 2 rfl rfl (ck DX1_strength_1 18 rfl) ?_
              refine r_getr (q := o + 6) 143 rfl (lq_1_5 o) ho.1 kd_1_5 fl_X1_27 (ck DX1_strength_1 19 rfl) ?_
              refine r_iconst 144 rfl ic_4 (ck DX1_strength_1 20 rfl) ?_
              refine r_iload_n 145 rfl 3 rfl rfl (ck DX1_strength_1 21 rfl) ?_
              refine r_imul 146 rfl (ck DX1_strength_1 22 rfl) ?_
              refine r_aload_n 147 rfl 2 rfl rfl (ck DX1_strength_1 23 rfl) ?_
              refine r_geti 150 rfl ho.1 kd_1_12 fl_X1_59 (ck DX1_strength_1 24 rfl) ?_
              refine r_iconst 151 rfl ic_4 (ck DX1_strength_1 25 rfl) ?_
              refine r_irem 152 rfl (by decide) (ck DX1_strength_1 26 rfl) ?_
              refine r_iadd 153 rfl (ck DX1_strength_1 27 rfl) ?_
              obtain ⟨b34, hf⟩ := gd_so hf
              refine r_iald 154 rfl ho.2.2.2.2.2.2.1 (inb_vp b34) (ck DX1_strength_1 28 rfl) ?_
              refine r_iadd 155 rfl (ck DX1_strength_1 29 rfl) ?_
              refine r_iadd 156 rfl (ck DX1_strength_1 30 rfl) ?_
              obtain ⟨v35, e36, hf⟩ := lt_so hf
              refine r_top e36 ?_
              refine r_istore_n (lv' := [(3, .int v35), (2, .int v6), (0, .ref (X.1 o)), (1, .int x1)]) 157 rfl (ck DX1_strength_1 31 rfl) (by decide) rfl rfl ?_
              refine r_goto 160 (ck DX1_strength_1 32 rfl) (by decide) ?_
              refine r_iconst 161 rfl ic_0 (ck DX1_strength_1 33 rfl) ?_
              refine r_iload_n 162 rfl 0 rfl rfl (ck DX1_strength_1 34 rfl) ?_
              refine r_max 165 rfl (by decide) ml_X1_81 ms_max ini_Math mc_max (Nat.le_of_ble_eq_true rfl) (ck DX1_strength_1 35 rfl) ?_
              obtain ⟨rfl, rfl⟩ := so2 hf
              exact r_iret rfl rfl (ck DX1_strength_1 36 rfl)
            · skip
              have hx9 : v11.toInt < 1 ∨ (6 : Int) < v11.toInt := by
                have h8 := tsw_o (x := v11) 1 6 (fun k hk => by
                  match k, hk with
                  | 0, _ => exact ne_int c13
                  | 1, _ => exact ne_int c17
                  | 2, _ => exact ne_int c20
                  | 3, _ => exact ne_int c24
                  | 4, _ => exact ne_int c28
                  | 5, _ => exact ne_int c32
                  | k + 6, hk => exact absurd hk (by omega))
                exact h8
              refine r_tsw_out 160 (ck DX1_strength_0 17 rfl) hx9 (by decide) ?_
              refine r_iconst 161 rfl ic_0 (ck DX1_strength_1 33 rfl) ?_
              refine r_iload_n 162 rfl 0 rfl rfl (ck DX1_strength_1 34 rfl) ?_
              refine r_max 165 rfl (by decide) ml_X1_81 ms_max ini_Math mc_max (Nat.le_of_ble_eq_true rfl) (ck DX1_strength_1 35 rfl) ?_
              obtain ⟨rfl, rfl⟩ := so2 hf
              exact r_iret rfl rfl (ck DX1_strength_1 36 rfl)
-- X1_breaking
def f_X1_breaking_L2 (o : Nat) : Nat → Int32 → HP → Option (Int32 × HP)
  | 0, _, _ => none
  | n + 1, x1, h => if (h.1 o 8) ≤ x1 then (some ((-1), h)) else (bo (f_X1_load o x1 h) fun v2 => gd (inb x1 3) (bd (f_X1_strength o (h.1 (o + 7) (Int32.toNatClampNeg x1)) h) fun v7 g5 => if v2 ≤ v7 then (lt (x1 + 1 : Int32) fun v9 => f_X1_breaking_L2 o n v9 g5) else (some (x1, g5))))
set_option maxHeartbeats 4000000 in
set_option maxRecDepth 100000 in
theorem A_X1_breaking_L2 (X : XE) (o : Nat) (ho : DK o) (r : Int32) (h' : HP) : ∀ (n : Nat) (x1 : Int32) (h : HP), f_X1_breaking_L2 o n x1 h = some (r, h') → Run mX1_breaking 3 X 2 [(0, .ref (X.1 o)), (1, .int x1)] [] h (some (.int r)) h' := by
  intro n
  induction n with
  | zero => intro x1 h hf; cases hf
  | succ n ih =>
    intro x1 h hf
    rw [f_X1_breaking_L2] at hf
    refine r_iload_n 3 rfl 1 rfl rfl (ck DX1_breaking_0 2 rfl) ?_
    refine r_aload_n 4 rfl 0 rfl rfl (ck DX1_breaking_0 3 rfl) ?_
    refine r_geti 7 rfl ho.1 kd_1_8 fl_X1_50 (ck DX1_breaking_0 4 rfl) ?_
    rcases if_so hf with ⟨c1, hf⟩ | ⟨c1, hf⟩
    · refine r_icmp_ge_t 36 (ck DX1_breaking_0 5 rfl) (by decide) c1 ?_
      refine r_iconst 37 rfl ic_m1 (ck DX1_breaking_0 20 rfl) ?_
      obtain ⟨rfl, rfl⟩ := so2 hf
      exact r_iret rfl rfl (ck DX1_breaking_0 21 rfl)
    · refine r_icmp_ge_f 10 rfl 36 (ck DX1_breaking_0 5 rfl) (by decide) c1 ?_
      refine r_aload_n 11 rfl 0 rfl rfl (ck DX1_breaking_0 6 rfl) ?_
      refine r_iload_n 12 rfl 1 rfl rfl (ck DX1_breaking_0 7 rfl) ?_
      obtain ⟨v2, e3, hf⟩ := bo_so hf
      refine r_callVi 15 rfl (A_X1_load X o ho x1 h v2 e3) (by omega) cw_X1_95 ho.1 cl_1 rfl rfl (Nat.le_of_ble_eq_true rfl) (ck DX1_breaking_0 8 rfl) ?_
      refine r_aload_n 16 rfl 0 rfl rfl (ck DX1_breaking_0 9 rfl) ?_
      refine r_aload_n 17 rfl 0 rfl rfl (ck DX1_breaking_0 10 rfl) ?_
      refine r_getr (q := o + 7) 20 rfl (lq_1_6 o) ho.1 kd_1_6 fl_X1_30 (ck DX1_breaking_0 11 rfl) ?_
      refine r_iload_n 21 rfl 1 rfl rfl (ck DX1_breaking_0 12 rfl) ?_
      obtain ⟨b4, hf⟩ := gd_so hf
      refine r_iald 22 rfl ho.2.2.2.2.2.2.2 (inb_vp b4) (ck DX1_breaking_0 13 rfl) ?_
      obtain ⟨v7, g5, e6, hf⟩ := bd_so hf
      refine r_callVi 25 rfl (A_X1_strength X o ho (h.1 (o + 7) (Int32.toNatClampNeg x1)) h v7 g5 e6) (by omega) cw_X1_98 ho.1 cl_1 rfl rfl (Nat.le_of_ble_eq_true rfl) (ck DX1_breaking_0 14 rfl) ?_
      rcases if_so hf with ⟨c8, hf⟩ | ⟨c8, hf⟩
      · refine r_icmp_le_t 30 (ck DX1_breaking_0 15 rfl) (by decide) c8 ?_
        obtain ⟨v9, e10, hf⟩ := lt_so hf
        refine r_iinc (lv' := [(1, .int v9), (0, .ref (X.1 o))]) 33 rfl 1 (ck DX1_breaking_0 18 rfl) rfl (by rw [e10, ic_1]) (by decide) rfl ?_
        refine r_goto 2 (ck DX1_breaking_0 19 rfl) (by decide) ?_
        refine r_sub (lv' := [(0, .ref (X.1 o)), (1, .int v9)]) [1, 0] rfl ?_
        exact ih v9 g5 hf
      · refine r_icmp_le_f 28 rfl 30 (ck DX1_breaking_0 15 rfl) (by decide) c8 ?_
        refine r_iload_n 29 rfl 1 rfl rfl (ck DX1_breaking_0 16 rfl) ?_
        obtain ⟨rfl, rfl⟩ := so2 hf
        exact r_iret rfl rfl (ck DX1_breaking_0 17 rfl)
def f_X1_breaking (o : Nat) (h : HP) : Option (Int32 × HP) := f_X1_breaking_L2 o FZ 0 h
set_option maxHeartbeats 4000000 in
set_option maxRecDepth 100000 in
theorem A_X1_breaking (X : XE) (o : Nat) (ho : DK o) (h : HP) (r : Int32) (h' : HP) (hf : f_X1_breaking o h = some (r, h')) : CC mX1_breaking 3 X [.ref (X.1 o)] h (some (.int r)) h' := by
  refine CC_of rfl (Nat.le_of_ble_eq_true rfl) ?_
  show Run mX1_breaking 3 X 0 [(0, .ref (X.1 o))] [] h (some (.int r)) h'
  unfold f_X1_breaking at hf
  refine r_iconst 1 rfl ic_0 (ck DX1_breaking_0 0 rfl) ?_
  refine r_istore_n (lv' := [(1, .int 0), (0, .ref (X.1 o))]) 2 rfl (ck DX1_breaking_0 1 rfl) (by decide) rfl rfl ?_
  refine r_sub (lv' := [(0, .ref (X.1 o)), (1, .int 0)]) [1, 0] rfl ?_
  exact A_X1_breaking_L2 X o ho _ _ FZ 0 h hf
-- X1_dayGoes
def f_X1_dayGoes_L94 (o : Nat) : Nat → Int32 → HP → Option (Int32 × HP)
  | 0, _, _ => none
  | n + 1, x2, h => if (h.1 o 8) ≤ x2 then (some ((-1), h)) else (gd (inb x2 3) (lt ((h.1 (o + 7) (Int32.toNatClampNeg x2)) : Int32) fun v13 => gd (inb v13 6) (bo (f_X1_load o x2 h) fun v16 => gd (inb v13 6) (lt (si h (o + 4) (Int32.toNatClampNeg v13) (if ((h.1 (o + 4) (Int32.toNatClampNeg v13)) + (v16 / 10)) < 99 then ((h.1 (o + 4) (Int32.toNatClampNeg v13)) + (v16 / 10)) else 99)) fun g19 => lt (x2 + 1 : Int32) fun v21 => f_X1_dayGoes_L94 o n v21 g19))))
set_option maxHeartbeats 4000000 in
set_option maxRecDepth 100000 in
theorem A_X1_dayGoes_L94 (X : XE) (o : Nat) (ho : DK o) (r : Int32) (h' : HP) : ∀ (n : Nat) (x2 : Int32) (h : HP), f_X1_dayGoes_L94 o n x2 h = some (r, h') → Run mX1_dayGoes 4 X 94 [(0, .ref (X.1 o)), (2, .int x2)] [] h (some (.int r)) h' := by
  intro n
  induction n with
  | zero => intro x2 h hf; cases hf
  | succ n ih =>
    intro x2 h hf
    rw [f_X1_dayGoes_L94] at hf
    refine r_iload_n 95 rfl 1 rfl rfl (ck DX1_dayGoes_1 9 rfl) ?_
    refine r_aload_n 96 rfl 0 rfl rfl (ck DX1_dayGoes_1 10 rfl) ?_
    refine r_geti 99 rfl ho.1 kd_1_8 fl_X1_50 (ck DX1_dayGoes_1 11 rfl) ?_
    rcases if_so hf with ⟨c11, hf⟩ | ⟨c11, hf⟩
    · refine r_icmp_ge_t 141 (ck DX1_dayGoes_1 12 rfl) (by decide) c11 ?_
      refine r_iconst 142 rfl ic_m1 (ck DX1_dayGoes_1 36 rfl) ?_
      obtain ⟨rfl, rfl⟩ := so2 hf
      exact r_iret rfl rfl (ck DX1_dayGoes_1 37 rfl)
    · refine r_icmp_ge_f 102 rfl 141 (ck DX1_dayGoes_1 12 rfl) (by decide) c11 ?_
      refine r_aload_n 103 rfl 0 rfl rfl (ck DX1_dayGoes_1 13 rfl) ?_
      refine r_getr (q := o + 7) 106 rfl (lq_1_6 o) ho.1 kd_1_6 fl_X1_30 (ck DX1_dayGoes_1 14 rfl) ?_
      refine r_iload_n 107 rfl 1 rfl rfl (ck DX1_dayGoes_1 15 rfl) ?_
      obtain ⟨b12, hf⟩ := gd_so hf
      refine r_iald 108 rfl ho.2.2.2.2.2.2.2 (inb_vp b12) (ck DX1_dayGoes_1 16 rfl) ?_
      obtain ⟨v13, e14, hf⟩ := lt_so hf
      refine r_top e14 ?_
      refine r_istore_n (lv' := [(3, .int v13), (0, .ref (X.1 o)), (2, .int x2)]) 109 rfl (ck DX1_dayGoes_1 17 rfl) (by decide) rfl rfl ?_
      refine r_aload_n 110 rfl 1 rfl rfl (ck DX1_dayGoes_1 18 rfl) ?_
      refine r_getr (q := o + 4) 113 rfl (lq_1_3 o) ho.1 kd_1_3 fl_X1_21 (ck DX1_dayGoes_1 19 rfl) ?_
      refine r_iload_n 114 rfl 0 rfl rfl (ck DX1_dayGoes_1 20 rfl) ?_
      refine r_bipush 116 rfl bp_99 (ck DX1_dayGoes_1 21 rfl) ?_
      refine r_aload_n 117 rfl 1 rfl rfl (ck DX1_dayGoes_1 22 rfl) ?_
      refine r_getr (q := o + 4) 120 rfl (lq_1_3 o) ho.1 kd_1_3 fl_X1_21 (ck DX1_dayGoes_1 23 rfl) ?_
      refine r_iload_n 121 rfl 0 rfl rfl (ck DX1_dayGoes_1 24 rfl) ?_
      obtain ⟨b15, hf⟩ := gd_so hf
      refine r_iald 122 rfl ho.2.2.2.2.1 (inb_vp b15) (ck DX1_dayGoes_1 25 rfl) ?_
      refine r_aload_n 123 rfl 1 rfl rfl (ck DX1_dayGoes_1 26 rfl) ?_
      refine r_iload_n 124 rfl 2 rfl rfl (ck DX1_dayGoes_1 27 rfl) ?_
      obtain ⟨v16, e17, hf⟩ := bo_so hf
      refine r_callVi 127 rfl (A_X1_load X o ho x2 h v16 e17) (by omega) cw_X1_95 ho.1 cl_1 rfl rfl (Nat.le_of_ble_eq_true rfl) (ck DX1_dayGoes_1 28 rfl) ?_
      refine r_bipush 129 rfl bp_10 (ck DX1_dayGoes_1 29 rfl) ?_
      refine r_idiv 130 rfl (by decide) (ck DX1_dayGoes_1 30 rfl) ?_
      refine r_iadd 131 rfl (ck DX1_dayGoes_1 31 rfl) ?_
      refine r_min 134 rfl (by decide) ml_X1_104 ms_min ini_Math mc_min (Nat.le_of_ble_eq_true rfl) (ck DX1_dayGoes_1 32 rfl) ?_
      obtain ⟨b18, hf⟩ := gd_so hf
      obtain ⟨g19, e20, hf⟩ := lt_so hf
      refine r_iast 135 rfl ho.2.2.2.2.1 (inb_vp b18) (ck DX1_dayGoes_1 33 rfl) ?_
      refine r_heap e20 ?_
      obtain ⟨v21, e22, hf⟩ := lt_so hf
      refine r_iinc (lv' := [(2, .int v21), (3, .int v13), (0, .ref (X.1 o))]) 138 rfl 2 (ck DX1_dayGoes_1 34 rfl) rfl (by rw [e22, ic_1]) (by decide) rfl ?_
      refine r_goto 94 (ck DX1_dayGoes_1 35 rfl) (by decide) ?_
      refine r_sub (lv' := [(0, .ref (X.1 o)), (2, .int v21)]) [2, 0] rfl ?_
      exact ih v21 g19 hf
def f_X1_dayGoes (o : Nat) (h : HP) : Option (Int32 × HP) := bd (f_X1_breaking o h) fun v3 g1 => lt (si g1 o 12 ((g1.1 o 12) + 1)) fun g4 => if v3 < 0 then (bo (f_X1_miles o g4) fun v7 => lt (si g4 o 11 (if ((g4.1 o 11) + v7) < 99999 then ((g4.1 o 11) + v7) else 99999)) fun g9 => f_X1_dayGoes_L94 o FZ 0 g9) else (gd (inb v3 3) (lt ((g4.1 (o + 7) (Int32.toNatClampNeg v3)) : Int32) fun v24 => gd (inb v24 6) (gd (inb v24 6) (lt (si g4 (o + 3) (Int32.toNatClampNeg v24) ((g4.1 (o + 3) (Int32.toNatClampNeg v24)) / 2)) fun g28 => gd (inb v24 6) (lt (si g28 (o + 4) (Int32.toNatClampNeg v24) 0) fun g31 => gd (inb v24 6) (gd (inb v24 6) (lt (si g31 (o + 5) (Int32.toNatClampNeg v24) (if ((g31.1 (o + 5) (Int32.toNatClampNeg v24)) + 1) < 9999 then ((g31.1 (o + 5) (Int32.toNatClampNeg v24)) + 1) else 9999)) fun g35 => lt (si g35 o 8 v3) fun g37 => some (v24, g37))))))))
set_option maxHeartbeats 4000000 in
set_option maxRecDepth 100000 in
theorem A_X1_dayGoes (X : XE) (o : Nat) (ho : DK o) (h : HP) (r : Int32) (h' : HP) (hf : f_X1_dayGoes o h = some (r, h')) : CC mX1_dayGoes 4 X [.ref (X.1 o)] h (some (.int r)) h' := by
  refine CC_of rfl (Nat.le_of_ble_eq_true rfl) ?_
  show Run mX1_dayGoes 4 X 0 [(0, .ref (X.1 o))] [] h (some (.int r)) h'
  unfold f_X1_dayGoes at hf
  refine r_aload_n 1 rfl 0 rfl rfl (ck DX1_dayGoes_0 0 rfl) ?_
  obtain ⟨v3, g1, e2, hf⟩ := bd_so hf
  refine r_callVi 4 rfl (A_X1_breaking X o ho h v3 g1 e2) (by omega) cw_X1_101 ho.1 cl_1 rfl rfl (Nat.le_of_ble_eq_true rfl) (ck DX1_dayGoes_0 1 rfl) ?_
  refine r_istore_n (lv' := [(1, .int v3), (0, .ref (X.1 o))]) 5 rfl (ck DX1_dayGoes_0 2 rfl) (by decide) rfl rfl ?_
  refine r_aload_n 6 rfl 1 rfl rfl (ck DX1_dayGoes_0 3 rfl) ?_
  refine r_dup 7 rfl rfl (ck DX1_dayGoes_0 4 rfl) ?_
  refine r_geti 10 rfl ho.1 kd_1_12 fl_X1_59 (ck DX1_dayGoes_0 5 rfl) ?_
  refine r_iconst 11 rfl ic_1 (ck DX1_dayGoes_0 6 rfl) ?_
  refine r_iadd 12 rfl (ck DX1_dayGoes_0 7 rfl) ?_
  obtain ⟨g4, e5, hf⟩ := lt_so hf
  refine r_puti 15 rfl ho.1 kd_1_12 fw_X1_59 rfl rfl (ck DX1_dayGoes_0 8 rfl) ?_
  refine r_heap e5 ?_
  refine r_iload_n 16 rfl 0 rfl rfl (ck DX1_dayGoes_0 9 rfl) ?_
  rcases if_so hf with ⟨c6, hf⟩ | ⟨c6, hf⟩
  · refine r_if_lt_t 74 (ck DX1_dayGoes_0 10 rfl) (by decide) c6 ?_
    refine r_aload_n 75 rfl 1 rfl rfl (ck DX1_dayGoes_0 48 rfl) ?_
    refine r_ldc 77 rfl cn_X1_107 (ck DX1_dayGoes_0 49 rfl) ?_
    refine r_aload_n 78 rfl 1 rfl rfl (ck DX1_dayGoes_1 0 rfl) ?_
    refine r_geti 81 rfl ho.1 kd_1_11 fl_X1_56 (ck DX1_dayGoes_1 1 rfl) ?_
    refine r_aload_n 82 rfl 1 rfl rfl (ck DX1_dayGoes_1 2 rfl) ?_
    obtain ⟨v7, e8, hf⟩ := bo_so hf
    refine r_callVi 85 rfl (A_X1_miles X o ho g4 v7 e8) (by omega) cw_X1_108 ho.1 cl_1 rfl rfl (Nat.le_of_ble_eq_true rfl) (ck DX1_dayGoes_1 3 rfl) ?_
    refine r_iadd 86 rfl (ck DX1_dayGoes_1 4 rfl) ?_
    refine r_min 89 rfl (by decide) ml_X1_104 ms_min ini_Math mc_min (Nat.le_of_ble_eq_true rfl) (ck DX1_dayGoes_1 5 rfl) ?_
    obtain ⟨g9, e10, hf⟩ := lt_so hf
    refine r_puti 92 rfl ho.1 kd_1_11 fw_X1_56 rfl rfl (ck DX1_dayGoes_1 6 rfl) ?_
    refine r_heap e10 ?_
    refine r_iconst 93 rfl ic_0 (ck DX1_dayGoes_1 7 rfl) ?_
    refine r_istore_n (lv' := [(2, .int 0), (1, .int v3), (0, .ref (X.1 o))]) 94 rfl (ck DX1_dayGoes_1 8 rfl) (by decide) rfl rfl ?_
    refine r_sub (lv' := [(0, .ref (X.1 o)), (2, .int 0)]) [2, 0] rfl ?_
    exact A_X1_dayGoes_L94 X o ho _ _ FZ 0 g9 hf
  · refine r_if_lt_f 19 rfl 74 (ck DX1_dayGoes_0 10 rfl) (by decide) c6 ?_
    refine r_aload_n 20 rfl 1 rfl rfl (ck DX1_dayGoes_0 11 rfl) ?_
    refine r_getr (q := o + 7) 23 rfl (lq_1_6 o) ho.1 kd_1_6 fl_X1_30 (ck DX1_dayGoes_0 12 rfl) ?_
    refine r_iload_n 24 rfl 0 rfl rfl (ck DX1_dayGoes_0 13 rfl) ?_
    obtain ⟨b23, hf⟩ := gd_so hf
    refine r_iald 25 rfl ho.2.2.2.2.2.2.2 (inb_vp b23) (ck DX1_dayGoes_0 14 rfl) ?_
    obtain ⟨v24, e25, hf⟩ := lt_so hf
    refine r_top e25 ?_
    refine r_istore_n (lv' := [(2, .int v24), (1, .int v3), (0, .ref (X.1 o))]) 26 rfl (ck DX1_dayGoes_0 15 rfl) (by decide) rfl rfl ?_
    refine r_aload_n 27 rfl 2 rfl rfl (ck DX1_dayGoes_0 16 rfl) ?_
    refine r_getr (q := o + 3) 30 rfl (lq_1_2 o) ho.1 kd_1_2 fl_X1_18 (ck DX1_dayGoes_0 17 rfl) ?_
    refine r_iload_n 31 rfl 0 rfl rfl (ck DX1_dayGoes_0 18 rfl) ?_
    refine r_aload_n 32 rfl 2 rfl rfl (ck DX1_dayGoes_0 19 rfl) ?_
    refine r_getr (q := o + 3) 35 rfl (lq_1_2 o) ho.1 kd_1_2 fl_X1_18 (ck DX1_dayGoes_0 20 rfl) ?_
    refine r_iload_n 36 rfl 0 rfl rfl (ck DX1_dayGoes_0 21 rfl) ?_
    obtain ⟨b26, hf⟩ := gd_so hf
    refine r_iald 37 rfl ho.2.2.2.1 (inb_vp b26) (ck DX1_dayGoes_0 22 rfl) ?_
    refine r_iconst 38 rfl ic_2 (ck DX1_dayGoes_0 23 rfl) ?_
    refine r_idiv 39 rfl (by decide) (ck DX1_dayGoes_0 24 rfl) ?_
    obtain ⟨b27, hf⟩ := gd_so hf
    obtain ⟨g28, e29, hf⟩ := lt_so hf
    refine r_iast 40 rfl ho.2.2.2.1 (inb_vp b27) (ck DX1_dayGoes_0 25 rfl) ?_
    refine r_heap e29 ?_
    refine r_aload_n 41 rfl 2 rfl rfl (ck DX1_dayGoes_0 26 rfl) ?_
    refine r_getr (q := o + 4) 44 rfl (lq_1_3 o) ho.1 kd_1_3 fl_X1_21 (ck DX1_dayGoes_0 27 rfl) ?_
    refine r_iload_n 45 rfl 0 rfl rfl (ck DX1_dayGoes_0 28 rfl) ?_
    refine r_iconst 46 rfl ic_0 (ck DX1_dayGoes_0 29 rfl) ?_
    obtain ⟨b30, hf⟩ := gd_so hf
    obtain ⟨g31, e32, hf⟩ := lt_so hf
    refine r_iast 47 rfl ho.2.2.2.2.1 (inb_vp b30) (ck DX1_dayGoes_0 30 rfl) ?_
    refine r_heap e32 ?_
    refine r_aload_n 48 rfl 2 rfl rfl (ck DX1_dayGoes_0 31 rfl) ?_
    refine r_getr (q := o + 5) 51 rfl (lq_1_4 o) ho.1 kd_1_4 fl_X1_24 (ck DX1_dayGoes_0 32 rfl) ?_
    refine r_iload_n 52 rfl 0 rfl rfl (ck DX1_dayGoes_0 33 rfl) ?_
    refine r_sipush 55 rfl sp_9999 (ck DX1_dayGoes_0 34 rfl) ?_
    refine r_aload_n 56 rfl 2 rfl rfl (ck DX1_dayGoes_0 35 rfl) ?_
    refine r_getr (q := o + 5) 59 rfl (lq_1_4 o) ho.1 kd_1_4 fl_X1_24 (ck DX1_dayGoes_0 36 rfl) ?_
    refine r_iload_n 60 rfl 0 rfl rfl (ck DX1_dayGoes_0 37 rfl) ?_
    obtain ⟨b33, hf⟩ := gd_so hf
    refine r_iald 61 rfl ho.2.2.2.2.2.1 (inb_vp b33) (ck DX1_dayGoes_0 38 rfl) ?_
    refine r_iconst 62 rfl ic_1 (ck DX1_dayGoes_0 39 rfl) ?_
    refine r_iadd 63 rfl (ck DX1_dayGoes_0 40 rfl) ?_
    refine r_min 66 rfl (by decide) ml_X1_104 ms_min ini_Math mc_min (Nat.le_of_ble_eq_true rfl) (ck DX1_dayGoes_0 41 rfl) ?_
    obtain ⟨b34, hf⟩ := gd_so hf
    obtain ⟨g35, e36, hf⟩ := lt_so hf
    refine r_iast 67 rfl ho.2.2.2.2.2.1 (inb_vp b34) (ck DX1_dayGoes_0 42 rfl) ?_
    refine r_heap e36 ?_
    refine r_aload_n 68 rfl 2 rfl rfl (ck DX1_dayGoes_0 43 rfl) ?_
    refine r_iload_n 69 rfl 1 rfl rfl (ck DX1_dayGoes_0 44 rfl) ?_
    obtain ⟨g37, e38, hf⟩ := lt_so hf
    refine r_puti 72 rfl ho.1 kd_1_8 fw_X1_50 rfl rfl (ck DX1_dayGoes_0 45 rfl) ?_
    refine r_heap e38 ?_
    refine r_iload_n 73 rfl 0 rfl rfl (ck DX1_dayGoes_0 46 rfl) ?_
    obtain ⟨rfl, rfl⟩ := so2 hf
    exact r_iret rfl rfl (ck DX1_dayGoes_0 47 rfl)
-- X1_nothingBreaksIn
def f_X1_nothingBreaksIn_L2 (o : Nat) : Nat → Int32 → Int32 → HP → Option (Int32 × HP)
  | 0, _, _, _ => none
  | n + 1, x1, x2, h => if x1 ≤ x2 then (some (1, h)) else (bd (f_X1_dayGoes o h) fun v4 g2 => if v4 < 0 then (lt (x2 + 1 : Int32) fun v6 => f_X1_nothingBreaksIn_L2 o n x1 v6 g2) else (some (0, g2)))
set_option maxHeartbeats 4000000 in
set_option maxRecDepth 100000 in
theorem A_X1_nothingBreaksIn_L2 (X : XE) (o : Nat) (ho : DK o) (r : Int32) (h' : HP) : ∀ (n : Nat) (x1 : Int32) (x2 : Int32) (h : HP), f_X1_nothingBreaksIn_L2 o n x1 x2 h = some (r, h') → Run mX1_nothingBreaksIn 5 X 2 [(0, .ref (X.1 o)), (1, .int x1), (2, .int x2)] [] h (some (.int r)) h' := by
  intro n
  induction n with
  | zero => intro x1 x2 h hf; cases hf
  | succ n ih =>
    intro x1 x2 h hf
    rw [f_X1_nothingBreaksIn_L2] at hf
    refine r_iload_n 3 rfl 2 rfl rfl (ck DX1_nothingBreaksIn_0 2 rfl) ?_
    refine r_iload_n 4 rfl 1 rfl rfl (ck DX1_nothingBreaksIn_0 3 rfl) ?_
    rcases if_so hf with ⟨c1, hf⟩ | ⟨c1, hf⟩
    · refine r_icmp_ge_t 22 (ck DX1_nothingBreaksIn_0 4 rfl) (by decide) c1 ?_
      refine r_iconst 23 rfl ic_1 (ck DX1_nothingBreaksIn_0 12 rfl) ?_
      obtain ⟨rfl, rfl⟩ := so2 hf
      exact r_iret rfl rfl (ck DX1_nothingBreaksIn_0 13 rfl)
    · refine r_icmp_ge_f 7 rfl 22 (ck DX1_nothingBreaksIn_0 4 rfl) (by decide) c1 ?_
      refine r_aload_n 8 rfl 0 rfl rfl (ck DX1_nothingBreaksIn_0 5 rfl) ?_
      obtain ⟨v4, g2, e3, hf⟩ := bd_so hf
      refine r_callVi 11 rfl (A_X1_dayGoes X o ho h v4 g2 e3) (by omega) cw_X1_111 ho.1 cl_1 rfl rfl (Nat.le_of_ble_eq_true rfl) (ck DX1_nothingBreaksIn_0 6 rfl) ?_
      rcases if_so hf with ⟨c5, hf⟩ | ⟨c5, hf⟩
      · refine r_if_lt_t 16 (ck DX1_nothingBreaksIn_0 7 rfl) (by decide) c5 ?_
        obtain ⟨v6, e7, hf⟩ := lt_so hf
        refine r_iinc (lv' := [(2, .int v6), (0, .ref (X.1 o)), (1, .int x1)]) 19 rfl 2 (ck DX1_nothingBreaksIn_0 10 rfl) rfl (by rw [e7, ic_1]) (by decide) rfl ?_
        refine r_goto 2 (ck DX1_nothingBreaksIn_0 11 rfl) (by decide) ?_
        refine r_sub (lv' := [(0, .ref (X.1 o)), (1, .int x1), (2, .int v6)]) [1, 2, 0] rfl ?_
        exact ih x1 v6 g2 hf
      · refine r_if_lt_f 14 rfl 16 (ck DX1_nothingBreaksIn_0 7 rfl) (by decide) c5 ?_
        refine r_iconst 15 rfl ic_0 (ck DX1_nothingBreaksIn_0 8 rfl) ?_
        obtain ⟨rfl, rfl⟩ := so2 hf
        exact r_iret rfl rfl (ck DX1_nothingBreaksIn_0 9 rfl)
def f_X1_nothingBreaksIn (o : Nat) (x1 : Int32) (h : HP) : Option (Int32 × HP) := f_X1_nothingBreaksIn_L2 o FZ x1 0 h
set_option maxHeartbeats 4000000 in
set_option maxRecDepth 100000 in
theorem A_X1_nothingBreaksIn (X : XE) (o : Nat) (ho : DK o) (x1 : Int32) (h : HP) (r : Int32) (h' : HP) (hf : f_X1_nothingBreaksIn o x1 h = some (r, h')) : CC mX1_nothingBreaksIn 5 X [.ref (X.1 o), .int x1] h (some (.int r)) h' := by
  refine CC_of rfl (Nat.le_of_ble_eq_true rfl) ?_
  show Run mX1_nothingBreaksIn 5 X 0 [(0, .ref (X.1 o)), (1, .int x1)] [] h (some (.int r)) h'
  unfold f_X1_nothingBreaksIn at hf
  refine r_iconst 1 rfl ic_0 (ck DX1_nothingBreaksIn_0 0 rfl) ?_
  refine r_istore_n (lv' := [(2, .int 0), (0, .ref (X.1 o)), (1, .int x1)]) 2 rfl (ck DX1_nothingBreaksIn_0 1 rfl) (by decide) rfl rfl ?_
  refine r_sub (lv' := [(0, .ref (X.1 o)), (1, .int x1), (2, .int 0)]) [1, 2, 0] rfl ?_
  exact A_X1_nothingBreaksIn_L2 X o ho _ _ FZ x1 0 h hf
end
