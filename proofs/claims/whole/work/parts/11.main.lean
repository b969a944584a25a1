noncomputable section
-- X6_within
def f_X6_within (x0 : Int32) (x1 : Int32) (x2 : Int32) : Option Int32 := if x0 < x1 then (some 0) else (if x2 < x0 then (some 0) else (some 1))
set_option maxHeartbeats 4000000 in
set_option maxRecDepth 100000 in
theorem A_X6_within (X : XE) (x0 : Int32) (x1 : Int32) (x2 : Int32) (h : HP) (r : Int32) (hf : f_X6_within x0 x1 x2 = some r) : CC mX6_within 1 X [.int x0, .int x1, .int x2] h (some (.int r)) h := by
  refine CC_of rfl (Nat.le_of_ble_eq_true rfl) ?_
  show Run mX6_within 1 X 0 [(0, .int x0), (1, .int x1), (2, .int x2)] [] h (some (.int r)) h
  unfold f_X6_within at hf
  refine r_iload_n 1 rfl 0 rfl rfl (ck DX6_within_0 0 rfl) ?_
  refine r_iload_n 2 rfl 1 rfl rfl (ck DX6_within_0 1 rfl) ?_
  rcases if_so hf with ⟨c1, hf⟩ | ⟨c1, hf⟩
  · refine r_icmp_lt_t 14 (ck DX6_within_0 2 rfl) (by decide) c1 ?_
    refine r_iconst 15 rfl ic_0 (ck DX6_within_0 8 rfl) ?_
    obtain rfl := so1 hf
    exact r_iret rfl rfl (ck DX6_within_0 9 rfl)
  · refine r_icmp_lt_f 5 rfl 14 (ck DX6_within_0 2 rfl) (by decide) c1 ?_
    refine r_iload_n 6 rfl 0 rfl rfl (ck DX6_within_0 3 rfl) ?_
    refine r_iload_n 7 rfl 2 rfl rfl (ck DX6_within_0 4 rfl) ?_
    rcases if_so hf with ⟨c2, hf⟩ | ⟨c2, hf⟩
    · refine r_icmp_gt_t 14 (ck DX6_within_0 5 rfl) (by decide) c2 ?_
      refine r_iconst 15 rfl ic_0 (ck DX6_within_0 8 rfl) ?_
      obtain rfl := so1 hf
      exact r_iret rfl rfl (ck DX6_within_0 9 rfl)
    · refine r_icmp_gt_f 10 rfl 14 (ck DX6_within_0 5 rfl) (by decide) c2 ?_
      refine r_iconst 11 rfl ic_1 (ck DX6_within_0 6 rfl) ?_
      refine r_goto 15 (ck DX6_within_0 7 rfl) (by decide) ?_
      obtain rfl := so1 hf
      exact r_iret rfl rfl (ck DX6_within_0 9 rfl)
-- X6_piece
def f_X6_piece (x1 : Int32) (x2 : Int32) (x3 : Int32) (h : HP) : Option (Int32 × HP) := bo (f_X6_within x1 0 6) fun v1 => if v1 = 0 then (some ((-1), h)) else (bo (f_X6_within x2 0 9) fun v4 => if v4 = 0 then (some ((-2), h)) else (bo (f_X6_within x3 1 99) fun v7 => if v7 = 0 then (some ((-2), h)) else (if (h.1 6 7) < 6 then (bd (f_X1_take 6 x1 x2 x3 h) fun v13 g11 => some (v13, g11)) else (some ((-4), h)))))
set_option maxHeartbeats 4000000 in
set_option maxRecDepth 100000 in
theorem A_X6_piece (X : XE) (x1 : Int32) (x2 : Int32) (x3 : Int32) (h : HP) (r : Int32) (h' : HP) (hf : f_X6_piece x1 x2 x3 h = some (r, h')) : CC mX6_piece 2 X [.ref (X.1 0), .int x1, .int x2, .int x3] h (some (.int r)) h' := by
  refine CC_of rfl (Nat.le_of_ble_eq_true rfl) ?_
  show Run mX6_piece 2 X 0 [(0, .ref (X.1 0)), (1, .int x1), (2, .int x2), (3, .int x3)] [] h (some (.int r)) h'
  unfold f_X6_piece at hf
  refine r_iload_n 1 rfl 1 rfl rfl (ck DX6_piece_0 0 rfl) ?_
  refine r_iconst 2 rfl ic_0 (ck DX6_piece_0 1 rfl) ?_
  refine r_bipush 4 rfl bp_6 (ck DX6_piece_0 2 rfl) ?_
  obtain ⟨v1, e2, hf⟩ := bo_so hf
  refine r_callSi 7 rfl (A_X6_within X x1 0 6 h v1 e2) (by omega) cs_X6_78 rfl rfl (Nat.le_of_ble_eq_true rfl) (ck DX6_piece_0 3 rfl) ?_
  rcases if_so hf with ⟨c3, hf⟩ | ⟨c3, hf⟩
  · refine r_if_ne_t 10 rfl 12 (ck DX6_piece_0 4 rfl) (by decide) c3 ?_
    refine r_iconst 11 rfl ic_m1 (ck DX6_piece_0 5 rfl) ?_
    obtain ⟨rfl, rfl⟩ := so2 hf
    exact r_iret rfl rfl (ck DX6_piece_0 6 rfl)
  · refine r_if_ne_f 12 (ck DX6_piece_0 4 rfl) (by decide) c3 ?_
    refine r_iload_n 13 rfl 2 rfl rfl (ck DX6_piece_0 7 rfl) ?_
    refine r_iconst 14 rfl ic_0 (ck DX6_piece_0 8 rfl) ?_
    refine r_bipush 16 rfl bp_9 (ck DX6_piece_0 9 rfl) ?_
    obtain ⟨v4, e5, hf⟩ := bo_so hf
    refine r_callSi 19 rfl (A_X6_within X x2 0 9 h v4 e5) (by omega) cs_X6_78 rfl rfl (Nat.le_of_ble_eq_true rfl) (ck DX6_piece_0 10 rfl) ?_
    rcases if_so hf with ⟨c6, hf⟩ | ⟨c6, hf⟩
    · refine r_if_eq_t 32 (ck DX6_piece_0 11 rfl) (by decide) c6 ?_
      refine r_bipush 34 rfl bp_m2 (ck DX6_piece_0 17 rfl) ?_
      obtain ⟨rfl, rfl⟩ := so2 hf
      exact r_iret rfl rfl (ck DX6_piece_0 18 rfl)
    · refine r_if_eq_f 22 rfl 32 (ck DX6_piece_0 11 rfl) (by decide) c6 ?_
      refine r_iload_n 23 rfl 3 rfl rfl (ck DX6_piece_0 12 rfl) ?_
      refine r_iconst 24 rfl ic_1 (ck DX6_piece_0 13 rfl) ?_
      refine r_bipush 26 rfl bp_99 (ck DX6_piece_0 14 rfl) ?_
      obtain ⟨v7, e8, hf⟩ := bo_so hf
      refine r_callSi 29 rfl (A_X6_within X x3 1 99 h v7 e8) (by omega) cs_X6_78 rfl rfl (Nat.le_of_ble_eq_true rfl) (ck DX6_piece_0 15 rfl) ?_
      rcases if_so hf with ⟨c9, hf⟩ | ⟨c9, hf⟩
      · refine r_if_ne_t 32 rfl 35 (ck DX6_piece_0 16 rfl) (by decide) c9 ?_
        refine r_bipush 34 rfl bp_m2 (ck DX6_piece_0 17 rfl) ?_
        obtain ⟨rfl, rfl⟩ := so2 hf
        exact r_iret rfl rfl (ck DX6_piece_0 18 rfl)
      · refine r_if_ne_f 35 (ck DX6_piece_0 16 rfl) (by decide) c9 ?_
        refine r_aload_n 36 rfl 0 rfl rfl (ck DX6_piece_0 19 rfl) ?_
        refine r_getr (q := 6) 39 rfl (lq_6_0) sh_0 kd_6_0 fl_X6_17 (ck DX6_piece_0 20 rfl) ?_
        refine r_geti 42 rfl sh_6 kd_1_7 fl_X6_82 (ck DX6_piece_0 21 rfl) ?_
        refine r_bipush 44 rfl bp_6 (ck DX6_piece_0 22 rfl) ?_
        rcases if_so hf with ⟨c10, hf⟩ | ⟨c10, hf⟩
        · refine r_icmp_lt_t 50 (ck DX6_piece_0 23 rfl) (by decide) c10 ?_
          refine r_aload_n 51 rfl 0 rfl rfl (ck DX6_piece_0 26 rfl) ?_
          refine r_getr (q := 6) 54 rfl (lq_6_0) sh_0 kd_6_0 fl_X6_17 (ck DX6_piece_0 27 rfl) ?_
          refine r_iload_n 55 rfl 1 rfl rfl (ck DX6_piece_0 28 rfl) ?_
          refine r_iload_n 56 rfl 2 rfl rfl (ck DX6_piece_0 29 rfl) ?_
          refine r_iload_n 57 rfl 3 rfl rfl (ck DX6_piece_0 30 rfl) ?_
          obtain ⟨v13, g11, e12, hf⟩ := bd_so hf
          refine r_callVi 60 rfl (A_X1_take X 6 dk_6 x1 x2 x3 h v13 g11 e12) (by omega) cw_X6_86 sh_6 cl_1 rfl rfl (Nat.le_of_ble_eq_true rfl) (ck DX6_piece_0 31 rfl) ?_
          obtain ⟨rfl, rfl⟩ := so2 hf
          exact r_iret rfl rfl (ck DX6_piece_0 32 rfl)
        · refine r_icmp_lt_f 47 rfl 50 (ck DX6_piece_0 23 rfl) (by decide) c10 ?_
          refine r_bipush 49 rfl bp_m4 (ck DX6_piece_0 24 rfl) ?_
          obtain ⟨rfl, rfl⟩ := so2 hf
          exact r_iret rfl rfl (ck DX6_piece_0 25 rfl)
-- X6_of
def f_X6_of (x1 : Int32) (x2 : Int32) (h : HP) : Option (Int32 × HP) := bo (f_X1_has 6 x1 h) fun v1 => if v1 = 0 then (some ((-1001), h)) else (bo (f_X6_within x2 0 9) fun v4 => if v4 = 0 then (some ((-1001), h)) else (if x2 = 0 then (gd (inb x1 6) (some ((h.1 7 (Int32.toNatClampNeg x1)), h))) else (if x2 = 1 then (gd (inb x1 6) (some ((h.1 8 (Int32.toNatClampNeg x1)), h))) else (if x2 = 2 then (gd (inb x1 6) (some ((h.1 9 (Int32.toNatClampNeg x1)), h))) else (if x2 = 3 then (gd (inb x1 6) (some ((h.1 10 (Int32.toNatClampNeg x1)), h))) else (if x2 = 4 then (gd (inb x1 6) (some ((h.1 11 (Int32.toNatClampNeg x1)), h))) else (if x2 = 5 then (bo (h.2.2 6) fun w18 => gd (isOc w18) (bd (f_X2_heart w18 6 x1 h) fun v23 g21 => some (v23, g21))) else (if x2 = 6 then (bd (f_X1_strength 6 x1 h) fun v27 g25 => some (v27, g25)) else ((bo (f_X1_placeOf 6 x1 h) fun v28 => if (0 : Int32) ≤ v28 then (if x2 = 7 then (some (v28, h)) else (if x2 = 8 then (bo (f_X1_above 6 v28 h) fun v33 => some (v33, h)) else (bo (f_X1_load 6 v28 h) fun v35 => some (v35, h)))) else (some ((-5), h))))))))))))
set_option maxHeartbeats 4000000 in
set_option maxRecDepth 100000 in
theorem A_X6_of (X : XE) (x1 : Int32) (x2 : Int32) (h : HP) (r : Int32) (h' : HP) (hf : f_X6_of x1 x2 h = some (r, h')) : CC mX6_of 3 X [.ref (X.1 0), .int x1, .int x2] h (some (.int r)) h' := by
  refine CC_of rfl (Nat.le_of_ble_eq_true rfl) ?_
  show Run mX6_of 3 X 0 [(0, .ref (X.1 0)), (1, .int x1), (2, .int x2)] [] h (some (.int r)) h'
  unfold f_X6_of at hf
  refine r_aload_n 1 rfl 0 rfl rfl (ck DX6_of_0 0 rfl) ?_
  refine r_getr (q := 6) 4 rfl (lq_6_0) sh_0 kd_6_0 fl_X6_17 (ck DX6_of_0 1 rfl) ?_
  refine r_iload_n 5 rfl 1 rfl rfl (ck DX6_of_0 2 rfl) ?_
  obtain ⟨v1, e2, hf⟩ := bo_so hf
  refine r_callVi 8 rfl (A_X1_has X 6 dk_6 x1 h v1 e2) (by omega) cw_X6_90 sh_6 cl_1 rfl rfl (Nat.le_of_ble_eq_true rfl) (ck DX6_of_0 3 rfl) ?_
  rcases if_so hf with ⟨c3, hf⟩ | ⟨c3, hf⟩
  · refine r_if_eq_t 21 (ck DX6_of_0 4 rfl) (by decide) c3 ?_
    refine r_sipush 24 rfl sp_m1001 (ck DX6_of_0 10 rfl) ?_
    obtain ⟨rfl, rfl⟩ := so2 hf
    exact r_iret rfl rfl (ck DX6_of_0 11 rfl)
  · refine r_if_eq_f 11 rfl 21 (ck DX6_of_0 4 rfl) (by decide) c3 ?_
    refine r_iload_n 12 rfl 2 rfl rfl (ck DX6_of_0 5 rfl) ?_
    refine r_iconst 13 rfl ic_0 (ck DX6_of_0 6 rfl) ?_
    refine r_bipush 15 rfl bp_9 (ck DX6_of_0 7 rfl) ?_
    obtain ⟨v4, e5, hf⟩ := bo_so hf
    refine r_callSi 18 rfl (A_X6_within X x2 0 9 h v4 e5) (by omega) cs_X6_78 rfl rfl (Nat.le_of_ble_eq_true rfl) (ck DX6_of_0 8 rfl) ?_
    rcases if_so hf with ⟨c6, hf⟩ | ⟨c6, hf⟩
    · refine r_if_ne_t 21 rfl 25 (ck DX6_of_0 9 rfl) (by decide) c6 ?_
      refine r_sipush 24 rfl sp_m1001 (ck DX6_of_0 10 rfl) ?_
      obtain ⟨rfl, rfl⟩ := so2 hf
      exact r_iret rfl rfl (ck DX6_of_0 11 rfl)
    · refine r_if_ne_f 25 (ck DX6_of_0 9 rfl) (by decide) c6 ?_
      refine r_iload_n 26 rfl 2 rfl rfl (ck DX6_of_0 12 rfl) ?_
      rcases if_so hf with ⟨c7, hf⟩ | ⟨c7, hf⟩
      · refine r_tsw_in (v := 0) 68 (ck DX6_of_0 13 rfl) c7 (by decide) (by decide) rfl (by decide) ?_
        refine r_aload_n 69 rfl 0 rfl rfl (ck DX6_of_0 14 rfl) ?_
        refine r_getr (q := 6) 72 rfl (lq_6_0) sh_0 kd_6_0 fl_X6_17 (ck DX6_of_0 15 rfl) ?_
        refine r_getr (q := 7) 75 rfl (lq_1_0 6) sh_6 kd_1_0 fl_X6_94 (ck DX6_of_0 16 rfl) ?_
        refine r_iload_n 76 rfl 1 rfl rfl (ck DX6_of_0 17 rfl) ?_
        obtain ⟨b8, hf⟩ := gd_so hf
        refine r_iald 77 rfl sh_7 (inb_vp b8) (ck DX6_of_0 18 rfl) ?_
        obtain ⟨rfl, rfl⟩ := so2 hf
        exact r_iret rfl rfl (ck DX6_of_0 19 rfl)
      · skip
        rcases if_so hf with ⟨c9, hf⟩ | ⟨c9, hf⟩
        · refine r_tsw_in (v := 1) 78 (ck DX6_of_0 13 rfl) c9 (by decide) (by decide) rfl (by decide) ?_
          refine r_aload_n 79 rfl 0 rfl rfl (ck DX6_of_0 20 rfl) ?_
          refine r_getr (q := 6) 82 rfl (lq_6_0) sh_0 kd_6_0 fl_X6_17 (ck DX6_of_0 21 rfl) ?_
          refine r_getr (q := 8) 85 rfl (lq_1_1 6) sh_6 kd_1_1 fl_X6_98 (ck DX6_of_0 22 rfl) ?_
          refine r_iload_n 86 rfl 1 rfl rfl (ck DX6_of_0 23 rfl) ?_
          obtain ⟨b10, hf⟩ := gd_so hf
          refine r_iald 87 rfl sh_8 (inb_vp b10) (ck DX6_of_0 24 rfl) ?_
          obtain ⟨rfl, rfl⟩ := so2 hf
          exact r_iret rfl rfl (ck DX6_of_0 25 rfl)
        · skip
          rcases if_so hf with ⟨c11, hf⟩ | ⟨c11, hf⟩
          · refine r_tsw_in (v := 2) 88 (ck DX6_of_0 13 rfl) c11 (by decide) (by decide) rfl (by decide) ?_
            refine r_aload_n 89 rfl 0 rfl rfl (ck DX6_of_0 26 rfl) ?_
            refine r_getr (q := 6) 92 rfl (lq_6_0) sh_0 kd_6_0 fl_X6_17 (ck DX6_of_0 27 rfl) ?_
            refine r_getr (q := 9) 95 rfl (lq_1_2 6) sh_6 kd_1_2 fl_X6_101 (ck DX6_of_0 28 rfl) ?_
            refine r_iload_n 96 rfl 1 rfl rfl (ck DX6_of_0 29 rfl) ?_
            obtain ⟨b12, hf⟩ := gd_so hf
            refine r_iald 97 rfl sh_9 (inb_vp b12) (ck DX6_of_0 30 rfl) ?_
            obtain ⟨rfl, rfl⟩ := so2 hf
            exact r_iret rfl rfl (ck DX6_of_0 31 rfl)
          · skip
            rcases if_so hf with ⟨c13, hf⟩ | ⟨c13, hf⟩
            · refine r_tsw_in (v := 3) 98 (ck DX6_of_0 13 rfl) c13 (by decide) (by decide) rfl (by decide) ?_
              refine r_aload_n 99 rfl 0 rfl rfl (ck DX6_of_0 32 rfl) ?_
              refine r_getr (q := 6) 102 rfl (lq_6_0) sh_0 kd_6_0 fl_X6_17 (ck DX6_of_0 33 rfl) ?_
              refine r_getr (q := 10) 105 rfl (lq_1_3 6) sh_6 kd_1_3 fl_X6_104 (ck DX6_of_0 34 rfl) ?_
              refine r_iload_n 106 rfl 1 rfl rfl (ck DX6_of_0 35 rfl) ?_
              obtain ⟨b14, hf⟩ := gd_so hf
              refine r_iald 107 rfl sh_10 (inb_vp b14) (ck DX6_of_0 36 rfl) ?_
              obtain ⟨rfl, rfl⟩ := so2 hf
              exact r_iret rfl rfl (ck DX6_of_0 37 rfl)
            · skip
              rcases if_so hf with ⟨c15, hf⟩ | ⟨c15, hf⟩
              · refine r_tsw_in (v := 4) 108 (ck DX6_of_0 13 rfl) c15 (by decide) (by decide) rfl (by decide) ?_
                refine r_aload_n 109 rfl 0 rfl rfl (ck DX6_of_0 38 rfl) ?_
                refine r_getr (q := 6) 112 rfl (lq_6_0) sh_0 kd_6_0 fl_X6_17 (ck DX6_of_0 39 rfl) ?_
                refine r_getr (q := 11) 115 rfl (lq_1_4 6) sh_6 kd_1_4 fl_X6_107 (ck DX6_of_0 40 rfl) ?_
                refine r_iload_n 116 rfl 1 rfl rfl (ck DX6_of_0 41 rfl) ?_
                obtain ⟨b16, hf⟩ := gd_so hf
                refine r_iald 117 rfl sh_11 (inb_vp b16) (ck DX6_of_0 42 rfl) ?_
                obtain ⟨rfl, rfl⟩ := so2 hf
                exact r_iret rfl rfl (ck DX6_of_0 43 rfl)
              · skip
                rcases if_so hf with ⟨c17, hf⟩ | ⟨c17, hf⟩
                · refine r_tsw_in (v := 5) 118 (ck DX6_of_0 13 rfl) c17 (by decide) (by decide) rfl (by decide) ?_
                  refine r_aload_n 119 rfl 0 rfl rfl (ck DX6_of_0 44 rfl) ?_
                  refine r_getr (q := 6) 122 rfl (lq_6_0) sh_0 kd_6_0 fl_X6_17 (ck DX6_of_0 45 rfl) ?_
                  obtain ⟨w18, e19, hf⟩ := bo_so hf
                  obtain ⟨b20, hf⟩ := gd_so hf
                  have ow18 := oc_of b20
                  refine r_gets 125 rfl e19 sh_6 kd_1_13 fl_X6_110 (ck DX6_of_0 46 rfl) ?_
                  refine r_aload_n 126 rfl 0 rfl rfl (ck DX6_of_0 47 rfl) ?_
                  refine r_getr (q := 6) 129 rfl (lq_6_0) sh_0 kd_6_0 fl_X6_17 (ck DX6_of_0 48 rfl) ?_
                  refine r_iload_n 130 rfl 1 rfl rfl (ck DX6_of_0 49 rfl) ?_
                  obtain ⟨v23, g21, e22, hf⟩ := bd_so hf
                  refine r_callVi 133 rfl (A_X2_heart X w18 ow18 6 dk_6 x1 h v23 g21 e22) (by omega) cw_X6_114 ow18.1 cl_2 rfl rfl (Nat.le_of_ble_eq_true rfl) (ck DX6_of_1 0 rfl) ?_
                  obtain ⟨rfl, rfl⟩ := so2 hf
                  exact r_iret rfl rfl (ck DX6_of_1 1 rfl)
                · skip
                  rcases if_so hf with ⟨c24, hf⟩ | ⟨c24, hf⟩
                  · refine r_tsw_in (v := 6) 134 (ck DX6_of_0 13 rfl) c24 (by decide) (by decide) rfl (by decide) ?_
                    refine r_aload_n 135 rfl 0 rfl rfl (ck DX6_of_1 2 rfl) ?_
                    refine r_getr (q := 6) 138 rfl (lq_6_0) sh_0 kd_6_0 fl_X6_17 (ck DX6_of_1 3 rfl) ?_
                    refine r_iload_n 139 rfl 1 rfl rfl (ck DX6_of_1 4 rfl) ?_
                    obtain ⟨v27, g25, e26, hf⟩ := bd_so hf
                    refine r_callVi 142 rfl (A_X1_strength X 6 dk_6 x1 h v27 g25 e26) (by omega) cw_X6_118 sh_6 cl_1 rfl rfl (Nat.le_of_ble_eq_true rfl) (ck DX6_of_1 5 rfl) ?_
                    obtain ⟨rfl, rfl⟩ := so2 hf
                    exact r_iret rfl rfl (ck DX6_of_1 6 rfl)
                  · skip
                    have hx9 : x2.toInt < 0 ∨ (6 : Int) < x2.toInt := by
                      have h8 := tsw_o (x := x2) 0 7 (fun k hk => by
                        match k, hk with
                        | 0, _ => exact ne_int c7
                        | 1, _ => exact ne_int c9
                        | 2, _ => exact ne_int c11
                        | 3, _ => exact ne_int c13
                        | 4, _ => exact ne_int c15
                        | 5, _ => exact ne_int c17
                        | 6, _ => exact ne_int c24
                        | k + 7, hk => exact absurd hk (by omega))
                      exact h8
                    refine r_tsw_out 143 (ck DX6_of_0 13 rfl) hx9 (by decide) ?_
                    refine r_aload_n 144 rfl 0 rfl rfl (ck DX6_of_1 7 rfl) ?_
                    refine r_getr (q := 6) 147 rfl (lq_6_0) sh_0 kd_6_0 fl_X6_17 (ck DX6_of_1 8 rfl) ?_
                    refine r_iload_n 148 rfl 1 rfl rfl (ck DX6_of_1 9 rfl) ?_
                    obtain ⟨v28, e29, hf⟩ := bo_so hf
                    refine r_callVi 151 rfl (A_X1_placeOf X 6 dk_6 x1 h v28 e29) (by omega) cw_X6_122 sh_6 cl_1 rfl rfl (Nat.le_of_ble_eq_true rfl) (ck DX6_of_1 10 rfl) ?_
                    refine r_istore_n (lv' := [(3, .int v28), (0, .ref (X.1 0)), (1, .int x1), (2, .int x2)]) 152 rfl (ck DX6_of_1 11 rfl) (by decide) rfl rfl ?_
                    refine r_iload_n 153 rfl 0 rfl rfl (ck DX6_of_1 12 rfl) ?_
                    rcases if_so hf with ⟨c30, hf⟩ | ⟨c30, hf⟩
                    · refine r_if_ge_t 159 (ck DX6_of_1 13 rfl) (by decide) c30 ?_
                      refine r_iload_n 160 rfl 3 rfl rfl (ck DX6_of_1 16 rfl) ?_
                      refine r_bipush 162 rfl bp_7 (ck DX6_of_1 17 rfl) ?_
                      rcases if_so hf with ⟨c31, hf⟩ | ⟨c31, hf⟩
                      · refine r_icmp_ne_t 165 rfl 169 (ck DX6_of_1 18 rfl) (by decide) c31 ?_
                        refine r_iload_n 166 rfl 0 rfl rfl (ck DX6_of_1 19 rfl) ?_
                        refine r_goto 194 (ck DX6_of_1 20 rfl) (by decide) ?_
                        obtain ⟨rfl, rfl⟩ := so2 hf
                        exact r_iret rfl rfl (ck DX6_of_1 33 rfl)
                      · refine r_icmp_ne_f 169 (ck DX6_of_1 18 rfl) (by decide) c31 ?_
                        refine r_iload_n 170 rfl 3 rfl rfl (ck DX6_of_1 21 rfl) ?_
                        refine r_bipush 172 rfl bp_8 (ck DX6_of_1 22 rfl) ?_
                        rcases if_so hf with ⟨c32, hf⟩ | ⟨c32, hf⟩
                        · refine r_icmp_ne_t 175 rfl 186 (ck DX6_of_1 23 rfl) (by decide) c32 ?_
                          refine r_aload_n 176 rfl 1 rfl rfl (ck DX6_of_1 24 rfl) ?_
                          refine r_getr (q := 6) 179 rfl (lq_6_0) sh_0 kd_6_0 fl_X6_17 (ck DX6_of_1 25 rfl) ?_
                          refine r_iload_n 180 rfl 0 rfl rfl (ck DX6_of_1 26 rfl) ?_
                          obtain ⟨v33, e34, hf⟩ := bo_so hf
                          refine r_callVi 183 rfl (A_X1_above X 6 dk_6 v28 h v33 e34) (by omega) cw_X6_125 sh_6 cl_1 rfl rfl (Nat.le_of_ble_eq_true rfl) (ck DX6_of_1 27 rfl) ?_
                          refine r_goto 194 (ck DX6_of_1 28 rfl) (by decide) ?_
                          obtain ⟨rfl, rfl⟩ := so2 hf
                          exact r_iret rfl rfl (ck DX6_of_1 33 rfl)
                        · refine r_icmp_ne_f 186 (ck DX6_of_1 23 rfl) (by decide) c32 ?_
                          refine r_aload_n 187 rfl 1 rfl rfl (ck DX6_of_1 29 rfl) ?_
                          refine r_getr (q := 6) 190 rfl (lq_6_0) sh_0 kd_6_0 fl_X6_17 (ck DX6_of_1 30 rfl) ?_
                          refine r_iload_n 191 rfl 0 rfl rfl (ck DX6_of_1 31 rfl) ?_
                          obtain ⟨v35, e36, hf⟩ := bo_so hf
                          refine r_callVi 194 rfl (A_X1_load X 6 dk_6 v28 h v35 e36) (by omega) cw_X6_128 sh_6 cl_1 rfl rfl (Nat.le_of_ble_eq_true rfl) (ck DX6_of_1 32 rfl) ?_
                          obtain ⟨rfl, rfl⟩ := so2 hf
                          exact r_iret rfl rfl (ck DX6_of_1 33 rfl)
                    · refine r_if_ge_f 156 rfl 159 (ck DX6_of_1 13 rfl) (by decide) c30 ?_
                      refine r_bipush 158 rfl bp_m5 (ck DX6_of_1 14 rfl) ?_
                      obtain ⟨rfl, rfl⟩ := so2 hf
                      exact r_iret rfl rfl (ck DX6_of_1 15 rfl)
-- X6_set
def f_X6_set (x1 : Int32) (x2 : Int32) (x3 : Int32) (h : HP) : Option (Int32 × HP) := bo (f_X1_has 6 x1 h) fun v1 => if v1 = 0 then (some ((-1), h)) else (bo (f_X6_within x2 0 1) fun v4 => if v4 = 0 then (some ((-1), h)) else (bo (f_X6_within x3 0 99) fun v7 => if v7 = 0 then (some ((-2), h)) else (if x2 = 0 then (gd (inb x1 6) (lt ((h.1 9 (Int32.toNatClampNeg x1)) : Int32) fun v12 => gd (inb x1 6) (lt (si h 9 (Int32.toNatClampNeg x1) x3) fun g15 => some (v12, g15)))) else (gd (inb x1 6) (lt ((h.1 10 (Int32.toNatClampNeg x1)) : Int32) fun v18 => gd (inb x1 6) (lt (si h 10 (Int32.toNatClampNeg x1) x3) fun g21 => some (v18, g21)))))))
set_option maxHeartbeats 4000000 in
set_option maxRecDepth 100000 in
theorem A_X6_set (X : XE) (x1 : Int32) (x2 : Int32) (x3 : Int32) (h : HP) (r : Int32) (h' : HP) (hf : f_X6_set x1 x2 x3 h = some (r, h')) : CC mX6_set 2 X [.ref (X.1 0), .int x1, .int x2, .int x3] h (some (.int r)) h' := by
  refine CC_of rfl (Nat.le_of_ble_eq_true rfl) ?_
  show Run mX6_set 2 X 0 [(0, .ref (X.1 0)), (1, .int x1), (2, .int x2), (3, .int x3)] [] h (some (.int r)) h'
  unfold f_X6_set at hf
  refine r_aload_n 1 rfl 0 rfl rfl (ck DX6_set_0 0 rfl) ?_
  refine r_getr (q := 6) 4 rfl (lq_6_0) sh_0 kd_6_0 fl_X6_17 (ck DX6_set_0 1 rfl) ?_
  refine r_iload_n 5 rfl 1 rfl rfl (ck DX6_set_0 2 rfl) ?_
  obtain ⟨v1, e2, hf⟩ := bo_so hf
  refine r_callVi 8 rfl (A_X1_has X 6 dk_6 x1 h v1 e2) (by omega) cw_X6_90 sh_6 cl_1 rfl rfl (Nat.le_of_ble_eq_true rfl) (ck DX6_set_0 3 rfl) ?_
  rcases if_so hf with ⟨c3, hf⟩ | ⟨c3, hf⟩
  · refine r_if_eq_t 20 (ck DX6_set_0 4 rfl) (by decide) c3 ?_
    refine r_iconst 21 rfl ic_m1 (ck DX6_set_0 10 rfl) ?_
    obtain ⟨rfl, rfl⟩ := so2 hf
    exact r_iret rfl rfl (ck DX6_set_0 11 rfl)
  · refine r_if_eq_f 11 rfl 20 (ck DX6_set_0 4 rfl) (by decide) c3 ?_
    refine r_iload_n 12 rfl 2 rfl rfl (ck DX6_set_0 5 rfl) ?_
    refine r_iconst 13 rfl ic_0 (ck DX6_set_0 6 rfl) ?_
    refine r_iconst 14 rfl ic_1 (ck DX6_set_0 7 rfl) ?_
    obtain ⟨v4, e5, hf⟩ := bo_so hf
    refine r_callSi 17 rfl (A_X6_within X x2 0 1 h v4 e5) (by omega) cs_X6_78 rfl rfl (Nat.le_of_ble_eq_true rfl) (ck DX6_set_0 8 rfl) ?_
    rcases if_so hf with ⟨c6, hf⟩ | ⟨c6, hf⟩
    · refine r_if_ne_t 20 rfl 22 (ck DX6_set_0 9 rfl) (by decide) c6 ?_
      refine r_iconst 21 rfl ic_m1 (ck DX6_set_0 10 rfl) ?_
      obtain ⟨rfl, rfl⟩ := so2 hf
      exact r_iret rfl rfl (ck DX6_set_0 11 rfl)
    · refine r_if_ne_f 22 (ck DX6_set_0 9 rfl) (by decide) c6 ?_
      refine r_iload_n 23 rfl 3 rfl rfl (ck DX6_set_0 12 rfl) ?_
      refine r_iconst 24 rfl ic_0 (ck DX6_set_0 13 rfl) ?_
      refine r_bipush 26 rfl bp_99 (ck DX6_set_0 14 rfl) ?_
      obtain ⟨v7, e8, hf⟩ := bo_so hf
      refine r_callSi 29 rfl (A_X6_within X x3 0 99 h v7 e8) (by omega) cs_X6_78 rfl rfl (Nat.le_of_ble_eq_true rfl) (ck DX6_set_0 15 rfl) ?_
      rcases if_so hf with ⟨c9, hf⟩ | ⟨c9, hf⟩
      · refine r_if_ne_t 32 rfl 35 (ck DX6_set_0 16 rfl) (by decide) c9 ?_
        refine r_bipush 34 rfl bp_m2 (ck DX6_set_0 17 rfl) ?_
        obtain ⟨rfl, rfl⟩ := so2 hf
        exact r_iret rfl rfl (ck DX6_set_0 18 rfl)
      · refine r_if_ne_f 35 (ck DX6_set_0 16 rfl) (by decide) c9 ?_
        refine r_iload_n 36 rfl 2 rfl rfl (ck DX6_set_0 19 rfl) ?_
        rcases if_so hf with ⟨c10, hf⟩ | ⟨c10, hf⟩
        · refine r_if_ne_t 39 rfl 49 (ck DX6_set_0 20 rfl) (by decide) c10 ?_
          refine r_aload_n 40 rfl 0 rfl rfl (ck DX6_set_0 21 rfl) ?_
          refine r_getr (q := 6) 43 rfl (lq_6_0) sh_0 kd_6_0 fl_X6_17 (ck DX6_set_0 22 rfl) ?_
          refine r_getr (q := 9) 46 rfl (lq_1_2 6) sh_6 kd_1_2 fl_X6_101 (ck DX6_set_0 23 rfl) ?_
          refine r_goto 56 (ck DX6_set_0 24 rfl) (by decide) ?_
          refine r_astore (lv' := [(4, .ref (X.1 9)), (0, .ref (X.1 0)), (1, .int x1), (2, .int x2), (3, .int x3)]) 58 rfl (ck DX6_set_0 28 rfl) (by decide) rfl ?_
          refine r_aload 60 rfl 0 rfl (ck DX6_set_0 29 rfl) ?_
          refine r_iload_n 61 rfl 2 rfl rfl (ck DX6_set_0 30 rfl) ?_
          obtain ⟨b11, hf⟩ := gd_so hf
          refine r_iald 62 rfl sh_9 (inb_vp b11) (ck DX6_set_0 31 rfl) ?_
          obtain ⟨v12, e13, hf⟩ := lt_so hf
          refine r_top e13 ?_
          refine r_istore (lv' := [(5, .int v12), (4, .ref (X.1 9)), (0, .ref (X.1 0)), (1, .int x1), (2, .int x2), (3, .int x3)]) 64 rfl (ck DX6_set_0 32 rfl) (by decide) rfl ?_
          refine r_aload 66 rfl 1 rfl (ck DX6_set_0 33 rfl) ?_
          refine r_iload_n 67 rfl 3 rfl rfl (ck DX6_set_0 34 rfl) ?_
          refine r_iload_n 68 rfl 5 rfl rfl (ck DX6_set_0 35 rfl) ?_
          obtain ⟨b14, hf⟩ := gd_so hf
          obtain ⟨g15, e16, hf⟩ := lt_so hf
          refine r_iast 69 rfl sh_9 (inb_vp b14) (ck DX6_set_0 36 rfl) ?_
          refine r_heap e16 ?_
          refine r_iload 71 rfl 0 rfl (ck DX6_set_0 37 rfl) ?_
          obtain ⟨rfl, rfl⟩ := so2 hf
          exact r_iret rfl rfl (ck DX6_set_0 38 rfl)
        · refine r_if_ne_f 49 (ck DX6_set_0 20 rfl) (by decide) c10 ?_
          refine r_aload_n 50 rfl 0 rfl rfl (ck DX6_set_0 25 rfl) ?_
          refine r_getr (q := 6) 53 rfl (lq_6_0) sh_0 kd_6_0 fl_X6_17 (ck DX6_set_0 26 rfl) ?_
          refine r_getr (q := 10) 56 rfl (lq_1_3 6) sh_6 kd_1_3 fl_X6_104 (ck DX6_set_0 27 rfl) ?_
          refine r_astore (lv' := [(4, .ref (X.1 10)), (0, .ref (X.1 0)), (1, .int x1), (2, .int x2), (3, .int x3)]) 58 rfl (ck DX6_set_0 28 rfl) (by decide) rfl ?_
          refine r_aload 60 rfl 0 rfl (ck DX6_set_0 29 rfl) ?_
          refine r_iload_n 61 rfl 2 rfl rfl (ck DX6_set_0 30 rfl) ?_
          obtain ⟨b17, hf⟩ := gd_so hf
          refine r_iald 62 rfl sh_10 (inb_vp b17) (ck DX6_set_0 31 rfl) ?_
          obtain ⟨v18, e19, hf⟩ := lt_so hf
          refine r_top e19 ?_
          refine r_istore (lv' := [(5, .int v18), (4, .ref (X.1 10)), (0, .ref (X.1 0)), (1, .int x1), (2, .int x2), (3, .int x3)]) 64 rfl (ck DX6_set_0 32 rfl) (by decide) rfl ?_
          refine r_aload 66 rfl 1 rfl (ck DX6_set_0 33 rfl) ?_
          refine r_iload_n 67 rfl 3 rfl rfl (ck DX6_set_0 34 rfl) ?_
          refine r_iload_n 68 rfl 5 rfl rfl (ck DX6_set_0 35 rfl) ?_
          obtain ⟨b20, hf⟩ := gd_so hf
          obtain ⟨g21, e22, hf⟩ := lt_so hf
          refine r_iast 69 rfl sh_10 (inb_vp b20) (ck DX6_set_0 36 rfl) ?_
          refine r_heap e22 ?_
          refine r_iload 71 rfl 0 rfl (ck DX6_set_0 37 rfl) ?_
          obtain ⟨rfl, rfl⟩ := so2 hf
          exact r_iret rfl rfl (ck DX6_set_0 38 rfl)
-- X6_row
def f_X6_row (x1 : Int32) (x2 : Int32) (x3 : Int32) (h : HP) : Option (Int32 × HP) := bo (f_X1_has 6 x1 h) fun v1 => if v1 = 0 then (some ((-1), h)) else (bo (f_X6_within x2 0 3) fun v4 => if v4 = 0 then (some ((-1), h)) else (bo (f_X6_within x3 0 9) fun v7 => if v7 = 0 then (some ((-2), h)) else (gd (inb x1 6) (if (h.1 7 (Int32.toNatClampNeg x1)) = 6 then (gd (inb ((4 * x1) + x2) 24) (lt ((h.1 12 (Int32.toNatClampNeg ((4 * x1) + x2))) : Int32) fun v13 => gd (inb ((4 * x1) + x2) 24) (lt (si h 12 (Int32.toNatClampNeg ((4 * x1) + x2)) x3) fun g16 => some (v13, g16)))) else (some ((-3), h))))))
set_option maxHeartbeats 4000000 in
set_option maxRecDepth 100000 in
theorem A_X6_row (X : XE) (x1 : Int32) (x2 : Int32) (x3 : Int32) (h : HP) (r : Int32) (h' : HP) (hf : f_X6_row x1 x2 x3 h = some (r, h')) : CC mX6_row 2 X [.ref (X.1 0), .int x1, .int x2, .int x3] h (some (.int r)) h' := by
  refine CC_of rfl (Nat.le_of_ble_eq_true rfl) ?_
  show Run mX6_row 2 X 0 [(0, .ref (X.1 0)), (1, .int x1), (2, .int x2), (3, .int x3)] [] h (some (.int r)) h'
  unfold f_X6_row at hf
  refine r_aload_n 1 rfl 0 rfl rfl (ck DX6_row_0 0 rfl) ?_
  refine r_getr (q := 6) 4 rfl (lq_6_0) sh_0 kd_6_0 fl_X6_17 (ck DX6_row_0 1 rfl) ?_
  refine r_iload_n 5 rfl 1 rfl rfl (ck DX6_row_0 2 rfl) ?_
  obtain ⟨v1, e2, hf⟩ := bo_so hf
  refine r_callVi 8 rfl (A_X1_has X 6 dk_6 x1 h v1 e2) (by omega) cw_X6_90 sh_6 cl_1 rfl rfl (Nat.le_of_ble_eq_true rfl) (ck DX6_row_0 3 rfl) ?_
  rcases if_so hf with ⟨c3, hf⟩ | ⟨c3, hf⟩
  · refine r_if_eq_t 20 (ck DX6_row_0 4 rfl) (by decide) c3 ?_
    refine r_iconst 21 rfl ic_m1 (ck DX6_row_0 10 rfl) ?_
    obtain ⟨rfl, rfl⟩ := so2 hf
    exact r_iret rfl rfl (ck DX6_row_0 11 rfl)
  · refine r_if_eq_f 11 rfl 20 (ck DX6_row_0 4 rfl) (by decide) c3 ?_
    refine r_iload_n 12 rfl 2 rfl rfl (ck DX6_row_0 5 rfl) ?_
    refine r_iconst 13 rfl ic_0 (ck DX6_row_0 6 rfl) ?_
    refine r_iconst 14 rfl ic_3 (ck DX6_row_0 7 rfl) ?_
    obtain ⟨v4, e5, hf⟩ := bo_so hf
    refine r_callSi 17 rfl (A_X6_within X x2 0 3 h v4 e5) (by omega) cs_X6_78 rfl rfl (Nat.le_of_ble_eq_true rfl) (ck DX6_row_0 8 rfl) ?_
    rcases if_so hf with ⟨c6, hf⟩ | ⟨c6, hf⟩
    · refine r_if_ne_t 20 rfl 22 (ck DX6_row_0 9 rfl) (by decide) c6 ?_
      refine r_iconst 21 rfl ic_m1 (ck DX6_row_0 10 rfl) ?_
      obtain ⟨rfl, rfl⟩ := so2 hf
      exact r_iret rfl rfl (ck DX6_row_0 11 rfl)
    · refine r_if_ne_f 22 (ck DX6_row_0 9 rfl) (by decide) c6 ?_
      refine r_iload_n 23 rfl 3 rfl rfl (ck DX6_row_0 12 rfl) ?_
      refine r_iconst 24 rfl ic_0 (ck DX6_row_0 13 rfl) ?_
      refine r_bipush 26 rfl bp_9 (ck DX6_row_0 14 rfl) ?_
      obtain ⟨v7, e8, hf⟩ := bo_so hf
      refine r_callSi 29 rfl (A_X6_within X x3 0 9 h v7 e8) (by omega) cs_X6_78 rfl rfl (Nat.le_of_ble_eq_true rfl) (ck DX6_row_0 15 rfl) ?_
      rcases if_so hf with ⟨c9, hf⟩ | ⟨c9, hf⟩
      · refine r_if_ne_t 32 rfl 35 (ck DX6_row_0 16 rfl) (by decide) c9 ?_
        refine r_bipush 34 rfl bp_m2 (ck DX6_row_0 17 rfl) ?_
        obtain ⟨rfl, rfl⟩ := so2 hf
        exact r_iret rfl rfl (ck DX6_row_0 18 rfl)
      · refine r_if_ne_f 35 (ck DX6_row_0 16 rfl) (by decide) c9 ?_
        refine r_aload_n 36 rfl 0 rfl rfl (ck DX6_row_0 19 rfl) ?_
        refine r_getr (q := 6) 39 rfl (lq_6_0) sh_0 kd_6_0 fl_X6_17 (ck DX6_row_0 20 rfl) ?_
        refine r_getr (q := 7) 42 rfl (lq_1_0 6) sh_6 kd_1_0 fl_X6_94 (ck DX6_row_0 21 rfl) ?_
        refine r_iload_n 43 rfl 1 rfl rfl (ck DX6_row_0 22 rfl) ?_
        obtain ⟨b10, hf⟩ := gd_so hf
        refine r_iald 44 rfl sh_7 (inb_vp b10) (ck DX6_row_0 23 rfl) ?_
        refine r_bipush 46 rfl bp_6 (ck DX6_row_0 24 rfl) ?_
        rcases if_so hf with ⟨c11, hf⟩ | ⟨c11, hf⟩
        · refine r_icmp_eq_t 52 (ck DX6_row_0 25 rfl) (by decide) c11 ?_
          refine r_aload_n 53 rfl 0 rfl rfl (ck DX6_row_0 28 rfl) ?_
          refine r_getr (q := 6) 56 rfl (lq_6_0) sh_0 kd_6_0 fl_X6_17 (ck DX6_row_0 29 rfl) ?_
          refine r_getr (q := 12) 59 rfl (lq_1_5 6) sh_6 kd_1_5 fl_X6_131 (ck DX6_row_0 30 rfl) ?_
          refine r_iconst 60 rfl ic_4 (ck DX6_row_0 31 rfl) ?_
          refine r_iload_n 61 rfl 1 rfl rfl (ck DX6_row_0 32 rfl) ?_
          refine r_imul 62 rfl (ck DX6_row_0 33 rfl) ?_
          refine r_iload_n 63 rfl 2 rfl rfl (ck DX6_row_0 34 rfl) ?_
          refine r_iadd 64 rfl (ck DX6_row_0 35 rfl) ?_
          obtain ⟨b12, hf⟩ := gd_so hf
          refine r_iald 65 rfl sh_12 (inb_vp b12) (ck DX6_row_0 36 rfl) ?_
          obtain ⟨v13, e14, hf⟩ := lt_so hf
          refine r_top e14 ?_
          refine r_istore (lv' := [(4, .int v13), (0, .ref (X.1 0)), (1, .int x1), (2, .int x2), (3, .int x3)]) 67 rfl (ck DX6_row_0 37 rfl) (by decide) rfl ?_
          refine r_aload_n 68 rfl 1 rfl rfl (ck DX6_row_0 38 rfl) ?_
          refine r_getr (q := 6) 71 rfl (lq_6_0) sh_0 kd_6_0 fl_X6_17 (ck DX6_row_0 39 rfl) ?_
          refine r_getr (q := 12) 74 rfl (lq_1_5 6) sh_6 kd_1_5 fl_X6_131 (ck DX6_row_0 40 rfl) ?_
          refine r_iconst 75 rfl ic_4 (ck DX6_row_0 41 rfl) ?_
          refine r_iload_n 76 rfl 2 rfl rfl (ck DX6_row_0 42 rfl) ?_
          refine r_imul 77 rfl (ck DX6_row_0 43 rfl) ?_
          refine r_iload_n 78 rfl 3 rfl rfl (ck DX6_row_0 44 rfl) ?_
          refine r_iadd 79 rfl (ck DX6_row_0 45 rfl) ?_
          refine r_iload_n 80 rfl 4 rfl rfl (ck DX6_row_0 46 rfl) ?_
          obtain ⟨b15, hf⟩ := gd_so hf
          obtain ⟨g16, e17, hf⟩ := lt_so hf
          refine r_iast 81 rfl sh_12 (inb_vp b15) (ck DX6_row_0 47 rfl) ?_
          refine r_heap e17 ?_
          refine r_iload 83 rfl 0 rfl (ck DX6_row_0 48 rfl) ?_
          obtain ⟨rfl, rfl⟩ := so2 hf
          exact r_iret rfl rfl (ck DX6_row_0 49 rfl)
        · refine r_icmp_eq_f 49 rfl 52 (ck DX6_row_0 25 rfl) (by decide) c11 ?_
          refine r_bipush 51 rfl bp_m3 (ck DX6_row_0 26 rfl) ?_
          obtain ⟨rfl, rfl⟩ := so2 hf
          exact r_iret rfl rfl (ck DX6_row_0 27 rfl)
-- X6_hoist
def f_X6_hoist (x1 : Int32) (h : HP) : Option (Int32 × HP) := bo (f_X1_has 6 x1 h) fun v1 => if v1 = 0 then (some ((-1), h)) else (bo (f_X1_placeOf 6 x1 h) fun v4 => if v4 < 0 then (if (h.1 6 8) < 3 then (bo (f_X1_putUpon 6 x1 h) fun g8 => some ((g8.1 6 8), g8)) else (some ((-4), h))) else (some ((-3), h)))
set_option maxHeartbeats 4000000 in
set_option maxRecDepth 100000 in
theorem A_X6_hoist (X : XE) (x1 : Int32) (h : HP) (r : Int32) (h' : HP) (hf : f_X6_hoist x1 h = some (r, h')) : CC mX6_hoist 2 X [.ref (X.1 0), .int x1] h (some (.int r)) h' := by
  refine CC_of rfl (Nat.le_of_ble_eq_true rfl) ?_
  show Run mX6_hoist 2 X 0 [(0, .ref (X.1 0)), (1, .int x1)] [] h (some (.int r)) h'
  unfold f_X6_hoist at hf
  refine r_aload_n 1 rfl 0 rfl rfl (ck DX6_hoist_0 0 rfl) ?_
  refine r_getr (q := 6) 4 rfl (lq_6_0) sh_0 kd_6_0 fl_X6_17 (ck DX6_hoist_0 1 rfl) ?_
  refine r_iload_n 5 rfl 1 rfl rfl (ck DX6_hoist_0 2 rfl) ?_
  obtain ⟨v1, e2, hf⟩ := bo_so hf
  refine r_callVi 8 rfl (A_X1_has X 6 dk_6 x1 h v1 e2) (by omega) cw_X6_90 sh_6 cl_1 rfl rfl (Nat.le_of_ble_eq_true rfl) (ck DX6_hoist_0 3 rfl) ?_
  rcases if_so hf with ⟨c3, hf⟩ | ⟨c3, hf⟩
  · refine r_if_ne_t 11 rfl 13 (ck DX6_hoist_0 4 rfl) (by decide) c3 ?_
    refine r_iconst 12 rfl ic_m1 (ck DX6_hoist_0 5 rfl) ?_
    obtain ⟨rfl, rfl⟩ := so2 hf
    exact r_iret rfl rfl (ck DX6_hoist_0 6 rfl)
  · refine r_if_ne_f 13 (ck DX6_hoist_0 4 rfl) (by decide) c3 ?_
    refine r_aload_n 14 rfl 0 rfl rfl (ck DX6_hoist_0 7 rfl) ?_
    refine r_getr (q := 6) 17 rfl (lq_6_0) sh_0 kd_6_0 fl_X6_17 (ck DX6_hoist_0 8 rfl) ?_
    refine r_iload_n 18 rfl 1 rfl rfl (ck DX6_hoist_0 9 rfl) ?_
    obtain ⟨v4, e5, hf⟩ := bo_so hf
    refine r_callVi 21 rfl (A_X1_placeOf X 6 dk_6 x1 h v4 e5) (by omega) cw_X6_122 sh_6 cl_1 rfl rfl (Nat.le_of_ble_eq_true rfl) (ck DX6_hoist_0 10 rfl) ?_
    rcases if_so hf with ⟨c6, hf⟩ | ⟨c6, hf⟩
    · refine r_if_lt_t 27 (ck DX6_hoist_0 11 rfl) (by decide) c6 ?_
      refine r_aload_n 28 rfl 0 rfl rfl (ck DX6_hoist_0 14 rfl) ?_
      refine r_getr (q := 6) 31 rfl (lq_6_0) sh_0 kd_6_0 fl_X6_17 (ck DX6_hoist_0 15 rfl) ?_
      refine r_geti 34 rfl sh_6 kd_1_8 fl_X6_134 (ck DX6_hoist_0 16 rfl) ?_
      refine r_iconst 35 rfl ic_3 (ck DX6_hoist_0 17 rfl) ?_
      rcases if_so hf with ⟨c7, hf⟩ | ⟨c7, hf⟩
      · refine r_icmp_lt_t 41 (ck DX6_hoist_0 18 rfl) (by decide) c7 ?_
        refine r_aload_n 42 rfl 0 rfl rfl (ck DX6_hoist_0 21 rfl) ?_
        refine r_getr (q := 6) 45 rfl (lq_6_0) sh_0 kd_6_0 fl_X6_17 (ck DX6_hoist_0 22 rfl) ?_
        refine r_iload_n 46 rfl 1 rfl rfl (ck DX6_hoist_0 23 rfl) ?_
        obtain ⟨g8, e9, hf⟩ := bo_so hf
        refine r_callVv 49 rfl (A_X1_putUpon X 6 dk_6 x1 h g8 e9) (by omega) cw_X6_137 sh_6 cl_1 rfl rfl (Nat.le_of_ble_eq_true rfl) (ck DX6_hoist_0 24 rfl) ?_
        refine r_aload_n 50 rfl 0 rfl rfl (ck DX6_hoist_0 25 rfl) ?_
        refine r_getr (q := 6) 53 rfl (lq_6_0) sh_0 kd_6_0 fl_X6_17 (ck DX6_hoist_0 26 rfl) ?_
        refine r_geti 56 rfl sh_6 kd_1_8 fl_X6_134 (ck DX6_hoist_0 27 rfl) ?_
        obtain ⟨rfl, rfl⟩ := so2 hf
        exact r_iret rfl rfl (ck DX6_hoist_0 28 rfl)
      · refine r_icmp_lt_f 38 rfl 41 (ck DX6_hoist_0 18 rfl) (by decide) c7 ?_
        refine r_bipush 40 rfl bp_m4 (ck DX6_hoist_0 19 rfl) ?_
        obtain ⟨rfl, rfl⟩ := so2 hf
        exact r_iret rfl rfl (ck DX6_hoist_0 20 rfl)
    · refine r_if_lt_f 24 rfl 27 (ck DX6_hoist_0 11 rfl) (by decide) c6 ?_
      refine r_bipush 26 rfl bp_m3 (ck DX6_hoist_0 12 rfl) ?_
      obtain ⟨rfl, rfl⟩ := so2 hf
      exact r_iret rfl rfl (ck DX6_hoist_0 13 rfl)
-- X6_lower
def f_X6_lower (x1 : Int32) (h : HP) : Option (Int32 × HP) := bo (f_X1_has 6 x1 h) fun v1 => if v1 = 0 then (some ((-1), h)) else (bo (f_X1_placeOf 6 x1 h) fun v4 => if (0 : Int32) ≤ v4 then (lt (si h 6 8 v4) fun g7 => some (v4, g7)) else (some ((-3), h)))
set_option maxHeartbeats 4000000 in
set_option maxRecDepth 100000 in
theorem A_X6_lower (X : XE) (x1 : Int32) (h : HP) (r : Int32) (h' : HP) (hf : f_X6_lower x1 h = some (r, h')) : CC mX6_lower 2 X [.ref (X.1 0), .int x1] h (some (.int r)) h' := by
  refine CC_of rfl (Nat.le_of_ble_eq_true rfl) ?_
  show Run mX6_lower 2 X 0 [(0, .ref (X.1 0)), (1, .int x1)] [] h (some (.int r)) h'
  unfold f_X6_lower at hf
  refine r_aload_n 1 rfl 0 rfl rfl (ck DX6_lower_0 0 rfl) ?_
  refine r_getr (q := 6) 4 rfl (lq_6_0) sh_0 kd_6_0 fl_X6_17 (ck DX6_lower_0 1 rfl) ?_
  refine r_iload_n 5 rfl 1 rfl rfl (ck DX6_lower_0 2 rfl) ?_
  obtain ⟨v1, e2, hf⟩ := bo_so hf
  refine r_callVi 8 rfl (A_X1_has X 6 dk_6 x1 h v1 e2) (by omega) cw_X6_90 sh_6 cl_1 rfl rfl (Nat.le_of_ble_eq_true rfl) (ck DX6_lower_0 3 rfl) ?_
  rcases if_so hf with ⟨c3, hf⟩ | ⟨c3, hf⟩
  · refine r_if_ne_t 11 rfl 13 (ck DX6_lower_0 4 rfl) (by decide) c3 ?_
    refine r_iconst 12 rfl ic_m1 (ck DX6_lower_0 5 rfl) ?_
    obtain ⟨rfl, rfl⟩ := so2 hf
    exact r_iret rfl rfl (ck DX6_lower_0 6 rfl)
  · refine r_if_ne_f 13 (ck DX6_lower_0 4 rfl) (by decide) c3 ?_
    refine r_aload_n 14 rfl 0 rfl rfl (ck DX6_lower_0 7 rfl) ?_
    refine r_getr (q := 6) 17 rfl (lq_6_0) sh_0 kd_6_0 fl_X6_17 (ck DX6_lower_0 8 rfl) ?_
    refine r_iload_n 18 rfl 1 rfl rfl (ck DX6_lower_0 9 rfl) ?_
    obtain ⟨v4, e5, hf⟩ := bo_so hf
    refine r_callVi 21 rfl (A_X1_placeOf X 6 dk_6 x1 h v4 e5) (by omega) cw_X6_122 sh_6 cl_1 rfl rfl (Nat.le_of_ble_eq_true rfl) (ck DX6_lower_0 10 rfl) ?_
    refine r_istore_n (lv' := [(2, .int v4), (0, .ref (X.1 0)), (1, .int x1)]) 22 rfl (ck DX6_lower_0 11 rfl) (by decide) rfl rfl ?_
    refine r_iload_n 23 rfl 0 rfl rfl (ck DX6_lower_0 12 rfl) ?_
    rcases if_so hf with ⟨c6, hf⟩ | ⟨c6, hf⟩
    · refine r_if_ge_t 29 (ck DX6_lower_0 13 rfl) (by decide) c6 ?_
      refine r_aload_n 30 rfl 1 rfl rfl (ck DX6_lower_0 16 rfl) ?_
      refine r_getr (q := 6) 33 rfl (lq_6_0) sh_0 kd_6_0 fl_X6_17 (ck DX6_lower_0 17 rfl) ?_
      refine r_iload_n 34 rfl 0 rfl rfl (ck DX6_lower_0 18 rfl) ?_
      obtain ⟨g7, e8, hf⟩ := lt_so hf
      refine r_puti 37 rfl sh_6 kd_1_8 fw_X6_134 rfl rfl (ck DX6_lower_0 19 rfl) ?_
      refine r_heap e8 ?_
      refine r_iload_n 38 rfl 0 rfl rfl (ck DX6_lower_0 20 rfl) ?_
      obtain ⟨rfl, rfl⟩ := so2 hf
      exact r_iret rfl rfl (ck DX6_lower_0 21 rfl)
    · refine r_if_ge_f 26 rfl 29 (ck DX6_lower_0 13 rfl) (by decide) c6 ?_
      refine r_bipush 28 rfl bp_m3 (ck DX6_lower_0 14 rfl) ?_
      obtain ⟨rfl, rfl⟩ := so2 hf
      exact r_iret rfl rfl (ck DX6_lower_0 15 rfl)
-- X6_trim
def f_X6_trim_J45 (x1 : Int32) (x2 : Int32) (s0 : Int32) (h : HP) : Option (Int32 × HP) := if x1 = 0 then (lt (si h 6 9 x2) fun g9 => some (s0, g9)) else (lt (si h 6 10 x2) fun g11 => some (s0, g11))
set_option maxHeartbeats 4000000 in
set_option maxRecDepth 100000 in
theorem A_X6_trim_J45 (X : XE) (r : Int32) (h' : HP) (x1 : Int32) (x2 : Int32) (s0 : Int32) (h : HP) (hf : f_X6_trim_J45 x1 x2 s0 h = some (r, h')) : Run mX6_trim 2 X 45 [(0, .ref (X.1 0)), (1, .int x1), (2, .int x2)] [.int s0] h (some (.int r)) h' := by
  unfold f_X6_trim_J45 at hf
  refine r_istore_n (lv' := [(3, .int s0), (0, .ref (X.1 0)), (1, .int x1), (2, .int x2)]) 46 rfl (ck DX6_trim_0 23 rfl) (by decide) rfl rfl ?_
  refine r_iload_n 47 rfl 2 rfl rfl (ck DX6_trim_0 24 rfl) ?_
  rcases if_so hf with ⟨c8, hf⟩ | ⟨c8, hf⟩
  · refine r_if_ne_t 50 rfl 61 (ck DX6_trim_0 25 rfl) (by decide) c8 ?_
    refine r_aload_n 51 rfl 1 rfl rfl (ck DX6_trim_0 26 rfl) ?_
    refine r_getr (q := 6) 54 rfl (lq_6_0) sh_0 kd_6_0 fl_X6_17 (ck DX6_trim_0 27 rfl) ?_
    refine r_iload_n 55 rfl 3 rfl rfl (ck DX6_trim_0 28 rfl) ?_
    obtain ⟨g9, e10, hf⟩ := lt_so hf
    refine r_puti 58 rfl sh_6 kd_1_9 fw_X6_140 rfl rfl (ck DX6_trim_0 29 rfl) ?_
    refine r_heap e10 ?_
    refine r_goto 69 (ck DX6_trim_0 30 rfl) (by decide) ?_
    refine r_iload_n 70 rfl 0 rfl rfl (ck DX6_trim_0 35 rfl) ?_
    obtain ⟨rfl, rfl⟩ := so2 hf
    exact r_iret rfl rfl (ck DX6_trim_0 36 rfl)
  · refine r_if_ne_f 61 (ck DX6_trim_0 25 rfl) (by decide) c8 ?_
    refine r_aload_n 62 rfl 1 rfl rfl (ck DX6_trim_0 31 rfl) ?_
    refine r_getr (q := 6) 65 rfl (lq_6_0) sh_0 kd_6_0 fl_X6_17 (ck DX6_trim_0 32 rfl) ?_
    refine r_iload_n 66 rfl 3 rfl rfl (ck DX6_trim_0 33 rfl) ?_
    obtain ⟨g11, e12, hf⟩ := lt_so hf
    refine r_puti 69 rfl sh_6 kd_1_10 fw_X6_143 rfl rfl (ck DX6_trim_0 34 rfl) ?_
    refine r_heap e12 ?_
    refine r_iload_n 70 rfl 0 rfl rfl (ck DX6_trim_0 35 rfl) ?_
    obtain ⟨rfl, rfl⟩ := so2 hf
    exact r_iret rfl rfl (ck DX6_trim_0 36 rfl)
def f_X6_trim (x1 : Int32) (x2 : Int32) (h : HP) : Option (Int32 × HP) := bo (f_X6_within x1 0 1) fun v1 => if v1 = 0 then (some ((-1), h)) else (bo (f_X6_within x2 0 9) fun v4 => if v4 = 0 then (some ((-2), h)) else (if x1 = 0 then (f_X6_trim_J45 x1 x2 (h.1 6 9) h) else (f_X6_trim_J45 x1 x2 (h.1 6 10) h)))
set_option maxHeartbeats 4000000 in
set_option maxRecDepth 100000 in
theorem A_X6_trim (X : XE) (x1 : Int32) (x2 : Int32) (h : HP) (r : Int32) (h' : HP) (hf : f_X6_trim x1 x2 h = some (r, h')) : CC mX6_trim 2 X [.ref (X.1 0), .int x1, .int x2] h (some (.int r)) h' := by
  refine CC_of rfl (Nat.le_of_ble_eq_true rfl) ?_
  show Run mX6_trim 2 X 0 [(0, .ref (X.1 0)), (1, .int x1), (2, .int x2)] [] h (some (.int r)) h'
  unfold f_X6_trim at hf
  refine r_iload_n 1 rfl 1 rfl rfl (ck DX6_trim_0 0 rfl) ?_
  refine r_iconst 2 rfl ic_0 (ck DX6_trim_0 1 rfl) ?_
  refine r_iconst 3 rfl ic_1 (ck DX6_trim_0 2 rfl) ?_
  obtain ⟨v1, e2, hf⟩ := bo_so hf
  refine r_callSi 6 rfl (A_X6_within X x1 0 1 h v1 e2) (by omega) cs_X6_78 rfl rfl (Nat.le_of_ble_eq_true rfl) (ck DX6_trim_0 3 rfl) ?_
  rcases if_so hf with ⟨c3, hf⟩ | ⟨c3, hf⟩
  · refine r_if_ne_t 9 rfl 11 (ck DX6_trim_0 4 rfl) (by decide) c3 ?_
    refine r_iconst 10 rfl ic_m1 (ck DX6_trim_0 5 rfl) ?_
    obtain ⟨rfl, rfl⟩ := so2 hf
    exact r_iret rfl rfl (ck DX6_trim_0 6 rfl)
  · refine r_if_ne_f 11 (ck DX6_trim_0 4 rfl) (by decide) c3 ?_
    refine r_iload_n 12 rfl 2 rfl rfl (ck DX6_trim_0 7 rfl) ?_
    refine r_iconst 13 rfl ic_0 (ck DX6_trim_0 8 rfl) ?_
    refine r_bipush 15 rfl bp_9 (ck DX6_trim_0 9 rfl) ?_
    obtain ⟨v4, e5, hf⟩ := bo_so hf
    refine r_callSi 18 rfl (A_X6_within X x2 0 9 h v4 e5) (by omega) cs_X6_78 rfl rfl (Nat.le_of_ble_eq_true rfl) (ck DX6_trim_0 10 rfl) ?_
    rcases if_so hf with ⟨c6, hf⟩ | ⟨c6, hf⟩
    · refine r_if_ne_t 21 rfl 24 (ck DX6_trim_0 11 rfl) (by decide) c6 ?_
      refine r_bipush 23 rfl bp_m2 (ck DX6_trim_0 12 rfl) ?_
      obtain ⟨rfl, rfl⟩ := so2 hf
      exact r_iret rfl rfl (ck DX6_trim_0 13 rfl)
    · refine r_if_ne_f 24 (ck DX6_trim_0 11 rfl) (by decide) c6 ?_
      refine r_iload_n 25 rfl 1 rfl rfl (ck DX6_trim_0 14 rfl) ?_
      rcases if_so hf with ⟨c7, hf⟩ | ⟨c7, hf⟩
      · refine r_if_ne_t 28 rfl 38 (ck DX6_trim_0 15 rfl) (by decide) c7 ?_
        refine r_aload_n 29 rfl 0 rfl rfl (ck DX6_trim_0 16 rfl) ?_
        refine r_getr (q := 6) 32 rfl (lq_6_0) sh_0 kd_6_0 fl_X6_17 (ck DX6_trim_0 17 rfl) ?_
        refine r_geti 35 rfl sh_6 kd_1_9 fl_X6_140 (ck DX6_trim_0 18 rfl) ?_
        refine r_goto 45 (ck DX6_trim_0 19 rfl) (by decide) ?_
        refine r_sub (lv' := [(0, .ref (X.1 0)), (1, .int x1), (2, .int x2)]) [0, 1, 2] rfl ?_
        exact A_X6_trim_J45 X _ _ x1 x2 (h.1 6 9) h hf
      · refine r_if_ne_f 38 (ck DX6_trim_0 15 rfl) (by decide) c7 ?_
        refine r_aload_n 39 rfl 0 rfl rfl (ck DX6_trim_0 20 rfl) ?_
        refine r_getr (q := 6) 42 rfl (lq_6_0) sh_0 kd_6_0 fl_X6_17 (ck DX6_trim_0 21 rfl) ?_
        refine r_geti 45 rfl sh_6 kd_1_10 fl_X6_143 (ck DX6_trim_0 22 rfl) ?_
        refine r_sub (lv' := [(0, .ref (X.1 0)), (1, .int x1), (2, .int x2)]) [0, 1, 2] rfl ?_
        exact A_X6_trim_J45 X _ _ x1 x2 (h.1 6 10) h hf
-- X6_feed
def f_X6_feed (x1 : Int32) (h : HP) : Option (Int32 × HP) := bo (f_X6_within x1 0 127) fun v1 => if v1 = 0 then (some ((-2), h)) else (bd (f_X5_add (Int8.toInt32 (Int32.toInt8 x1)) h) fun v6 g4 => if v6 = 0 then (some ((-4), g4)) else (some ((g4.1 79 3), g4)))
set_option maxHeartbeats 4000000 in
set_option maxRecDepth 100000 in
theorem A_X6_feed (X : XE) (x1 : Int32) (h : HP) (r : Int32) (h' : HP) (hf : f_X6_feed x1 h = some (r, h')) : CC mX6_feed 2 X [.ref (X.1 0), .int x1] h (some (.int r)) h' := by
  refine CC_of rfl (Nat.le_of_ble_eq_true rfl) ?_
  show Run mX6_feed 2 X 0 [(0, .ref (X.1 0)), (1, .int x1)] [] h (some (.int r)) h'
  unfold f_X6_feed at hf
  refine r_iload_n 1 rfl 1 rfl rfl (ck DX6_feed_0 0 rfl) ?_
  refine r_iconst 2 rfl ic_0 (ck DX6_feed_0 1 rfl) ?_
  refine r_bipush 4 rfl bp_127 (ck DX6_feed_0 2 rfl) ?_
  obtain ⟨v1, e2, hf⟩ := bo_so hf
  refine r_callSi 7 rfl (A_X6_within X x1 0 127 h v1 e2) (by omega) cs_X6_78 rfl rfl (Nat.le_of_ble_eq_true rfl) (ck DX6_feed_0 3 rfl) ?_
  rcases if_so hf with ⟨c3, hf⟩ | ⟨c3, hf⟩
  · refine r_if_ne_t 10 rfl 13 (ck DX6_feed_0 4 rfl) (by decide) c3 ?_
    refine r_bipush 12 rfl bp_m2 (ck DX6_feed_0 5 rfl) ?_
    obtain ⟨rfl, rfl⟩ := so2 hf
    exact r_iret rfl rfl (ck DX6_feed_0 6 rfl)
  · refine r_if_ne_f 13 (ck DX6_feed_0 4 rfl) (by decide) c3 ?_
    refine r_aload_n 14 rfl 0 rfl rfl (ck DX6_feed_0 7 rfl) ?_
    refine r_getr (q := 79) 17 rfl (lq_6_12) sh_0 kd_6_12 fl_X6_60 (ck DX6_feed_0 8 rfl) ?_
    refine r_iload_n 18 rfl 1 rfl rfl (ck DX6_feed_0 9 rfl) ?_
    refine r_i2b 19 rfl (ck DX6_feed_0 10 rfl) ?_
    obtain ⟨v6, g4, e5, hf⟩ := bd_so hf
    refine r_callVi 22 rfl (A_X5_add X (Int8.toInt32 (Int32.toInt8 x1)) h v6 g4 e5) (by omega) cw_X6_146 sh_79 cl_5 rfl rfl (Nat.le_of_ble_eq_true rfl) (ck DX6_feed_0 11 rfl) ?_
    rcases if_so hf with ⟨c7, hf⟩ | ⟨c7, hf⟩
    · refine r_if_eq_t 35 (ck DX6_feed_0 12 rfl) (by decide) c7 ?_
      refine r_bipush 37 rfl bp_m4 (ck DX6_feed_0 17 rfl) ?_
      obtain ⟨rfl, rfl⟩ := so2 hf
      exact r_iret rfl rfl (ck DX6_feed_0 18 rfl)
    · refine r_if_eq_f 25 rfl 35 (ck DX6_feed_0 12 rfl) (by decide) c7 ?_
      refine r_aload_n 26 rfl 0 rfl rfl (ck DX6_feed_0 13 rfl) ?_
      refine r_getr (q := 79) 29 rfl (lq_6_12) sh_0 kd_6_12 fl_X6_60 (ck DX6_feed_0 14 rfl) ?_
      refine r_geti 32 rfl sh_79 kd_5_3 fl_X6_150 (ck DX6_feed_0 15 rfl) ?_
      refine r_goto 37 (ck DX6_feed_0 16 rfl) (by decide) ?_
      obtain ⟨rfl, rfl⟩ := so2 hf
      exact r_iret rfl rfl (ck DX6_feed_0 18 rfl)
-- X6_ocean
def f_X6_ocean (h : HP) : Option (Int32 × HP) := if (h.1 0 11) < 6 then (gd (inb (h.1 0 11) 6) (lt (lra 5 (Int32.toNatClampNeg (h.1 0 11))) fun w3 => bd (f_X5_readInto w3 h) fun v7 g5 => lt (si g5 79 3 0) fun g8 => if v7 < 0 then (gd (inb (g8.1 0 11) 6) (lt (lra 5 (Int32.toNatClampNeg (g8.1 0 11))) fun w12 => lt (sr g8 6 (some w12)) fun g14 => lt (si g14 0 11 ((g14.1 0 11) + 1)) fun g16 => some (((g16.1 0 11) - 1), g16))) else (some (((-10) - v7), g8)))) else (some ((-4), h))
set_option maxHeartbeats 4000000 in
set_option maxRecDepth 100000 in
theorem A_X6_ocean (X : XE) (h : HP) (r : Int32) (h' : HP) (hf : f_X6_ocean h = some (r, h')) : CC mX6_ocean 86 X [.ref (X.1 0)] h (some (.int r)) h' := by
  refine CC_of rfl (Nat.le_of_ble_eq_true rfl) ?_
  show Run mX6_ocean 86 X 0 [(0, .ref (X.1 0))] [] h (some (.int r)) h'
  unfold f_X6_ocean at hf
  refine r_aload_n 1 rfl 0 rfl rfl (ck DX6_ocean_0 0 rfl) ?_
  refine r_geti 4 rfl sh_0 kd_6_11 fl_X6_153 (ck DX6_ocean_0 1 rfl) ?_
  refine r_bipush 6 rfl bp_6 (ck DX6_ocean_0 2 rfl) ?_
  rcases if_so hf with ⟨c1, hf⟩ | ⟨c1, hf⟩
  · refine r_icmp_lt_t 12 (ck DX6_ocean_0 3 rfl) (by decide) c1 ?_
    refine r_aload_n 13 rfl 0 rfl rfl (ck DX6_ocean_0 6 rfl) ?_
    refine r_getr (q := 79) 16 rfl (lq_6_12) sh_0 kd_6_12 fl_X6_60 (ck DX6_ocean_0 7 rfl) ?_
    refine r_aload_n 17 rfl 0 rfl rfl (ck DX6_ocean_0 8 rfl) ?_
    refine r_getr (q := 48) 20 rfl (lq_6_10) sh_0 kd_6_10 fl_X6_53 (ck DX6_ocean_0 9 rfl) ?_
    refine r_aload_n 21 rfl 0 rfl rfl (ck DX6_ocean_0 10 rfl) ?_
    refine r_geti 24 rfl sh_0 kd_6_11 fl_X6_153 (ck DX6_ocean_0 11 rfl) ?_
    obtain ⟨b2, hf⟩ := gd_so hf
    have ow3 := oca b2
    obtain ⟨w3, e4, hf⟩ := lt_so hf
    rw [← e4] at ow3
    refine r_aald 25 rfl sh_48 (Or.inl rfl) e4.symm (inb_vp b2) (ck DX6_ocean_0 12 rfl) ?_
    obtain ⟨v7, g5, e6, hf⟩ := bd_so hf
    refine r_callVi 28 rfl (A_X5_readInto X w3 ow3 h v7 g5 e6) (by omega) cw_X6_156 sh_79 cl_5 rfl rfl (Nat.le_of_ble_eq_true rfl) (ck DX6_ocean_0 13 rfl) ?_
    refine r_istore_n (lv' := [(1, .int v7), (0, .ref (X.1 0))]) 29 rfl (ck DX6_ocean_0 14 rfl) (by decide) rfl rfl ?_
    refine r_aload_n 30 rfl 1 rfl rfl (ck DX6_ocean_0 15 rfl) ?_
    refine r_getr (q := 79) 33 rfl (lq_6_12) sh_0 kd_6_12 fl_X6_60 (ck DX6_ocean_0 16 rfl) ?_
    refine r_iconst 34 rfl ic_0 (ck DX6_ocean_0 17 rfl) ?_
    obtain ⟨g8, e9, hf⟩ := lt_so hf
    refine r_puti 37 rfl sh_79 kd_5_3 fw_X6_150 rfl rfl (ck DX6_ocean_0 18 rfl) ?_
    refine r_heap e9 ?_
    refine r_iload_n 38 rfl 0 rfl rfl (ck DX6_ocean_0 19 rfl) ?_
    rcases if_so hf with ⟨c10, hf⟩ | ⟨c10, hf⟩
    · refine r_if_lt_t 46 (ck DX6_ocean_0 20 rfl) (by decide) c10 ?_
      refine r_aload_n 47 rfl 1 rfl rfl (ck DX6_ocean_0 25 rfl) ?_
      refine r_getr (q := 6) 50 rfl (lq_6_0) sh_0 kd_6_0 fl_X6_17 (ck DX6_ocean_0 26 rfl) ?_
      refine r_aload_n 51 rfl 1 rfl rfl (ck DX6_ocean_0 27 rfl) ?_
      refine r_getr (q := 48) 54 rfl (lq_6_10) sh_0 kd_6_10 fl_X6_53 (ck DX6_ocean_0 28 rfl) ?_
      refine r_aload_n 55 rfl 1 rfl rfl (ck DX6_ocean_0 29 rfl) ?_
      refine r_geti 58 rfl sh_0 kd_6_11 fl_X6_153 (ck DX6_ocean_0 30 rfl) ?_
      obtain ⟨b11, hf⟩ := gd_so hf
      have ow12 := oca b11
      obtain ⟨w12, e13, hf⟩ := lt_so hf
      rw [← e13] at ow12
      refine r_aald 59 rfl sh_48 (Or.inl rfl) e13.symm (inb_vp b11) (ck DX6_ocean_0 31 rfl) ?_
      obtain ⟨g14, e15, hf⟩ := lt_so hf
      refine r_puts 62 rfl sh_6 kd_1_13 ho_D fw_X6_110 rfl rfl (ck DX6_ocean_0 32 rfl) ?_
      refine r_heap e15 ?_
      refine r_aload_n 63 rfl 1 rfl rfl (ck DX6_ocean_0 33 rfl) ?_
      refine r_dup 64 rfl rfl (ck DX6_ocean_0 34 rfl) ?_
      refine r_geti 67 rfl sh_0 kd_6_11 fl_X6_153 (ck DX6_ocean_0 35 rfl) ?_
      refine r_iconst 68 rfl ic_1 (ck DX6_ocean_0 36 rfl) ?_
      refine r_iadd 69 rfl (ck DX6_ocean_0 37 rfl) ?_
      obtain ⟨g16, e17, hf⟩ := lt_so hf
      refine r_puti 72 rfl sh_0 kd_6_11 fw_X6_153 rfl rfl (ck DX6_ocean_0 38 rfl) ?_
      refine r_heap e17 ?_
      refine r_aload_n 73 rfl 1 rfl rfl (ck DX6_ocean_0 39 rfl) ?_
      refine r_geti 76 rfl sh_0 kd_6_11 fl_X6_153 (ck DX6_ocean_0 40 rfl) ?_
      refine r_iconst 77 rfl ic_1 (ck DX6_ocean_0 41 rfl) ?_
      refine r_isub 78 rfl (ck DX6_ocean_0 42 rfl) ?_
      obtain ⟨rfl, rfl⟩ := so2 hf
      exact r_iret rfl rfl (ck DX6_ocean_0 43 rfl)
    · refine r_if_lt_f 41 rfl 46 (ck DX6_ocean_0 20 rfl) (by decide) c10 ?_
      refine r_bipush 43 rfl bp_m10 (ck DX6_ocean_0 21 rfl) ?_
      refine r_iload_n 44 rfl 0 rfl rfl (ck DX6_ocean_0 22 rfl) ?_
      refine r_isub 45 rfl (ck DX6_ocean_0 23 rfl) ?_
      obtain ⟨rfl, rfl⟩ := so2 hf
      exact r_iret rfl rfl (ck DX6_ocean_0 24 rfl)
  · refine r_icmp_lt_f 9 rfl 12 (ck DX6_ocean_0 3 rfl) (by decide) c1 ?_
    refine r_bipush 11 rfl bp_m4 (ck DX6_ocean_0 4 rfl) ?_
    obtain ⟨rfl, rfl⟩ := so2 hf
    exact r_iret rfl rfl (ck DX6_ocean_0 5 rfl)
-- X6_told
def f_X6_told (x1 : Int32) (h : HP) : Option Int32 := if x1 = 0 then (some (h.1 6 12)) else (if x1 = 1 then (bo (h.2.2 6) fun w3 => gd (isOc w3) (some (h.1 w3 5))) else (if x1 = 2 then (bo (h.2.2 6) fun w7 => gd (isOc w7) (some (h.1 w7 6))) else (if x1 = 3 then (some (h.1 6 9)) else (if x1 = 4 then (some (h.1 6 10)) else (if x1 = 5 then (some (h.1 6 11)) else (if x1 = 6 then (bo (f_X1_height 6 h) fun v14 => some v14) else (if x1 = 7 then (bo (f_X1_miles 6 h) fun v17 => some v17) else ((bo (f_X6_within x1 10 (9 + (h.1 6 8))) fun v19 => if v19 = 0 then (some (-1)) else (gd (inb (x1 - 10) 3) (some (h.1 13 (Int32.toNatClampNeg (x1 - 10))))))))))))))
set_option maxHeartbeats 4000000 in
set_option maxRecDepth 100000 in
theorem A_X6_told (X : XE) (x1 : Int32) (h : HP) (r : Int32) (hf : f_X6_told x1 h = some r) : CC mX6_told 4 X [.ref (X.1 0), .int x1] h (some (.int r)) h := by
  refine CC_of rfl (Nat.le_of_ble_eq_true rfl) ?_
  show Run mX6_told 4 X 0 [(0, .ref (X.1 0)), (1, .int x1)] [] h (some (.int r)) h
  unfold f_X6_told at hf
  refine r_iload_n 1 rfl 1 rfl rfl (ck DX6_told_0 0 rfl) ?_
  rcases if_so hf with ⟨c1, hf⟩ | ⟨c1, hf⟩
  · refine r_tsw_in (v := 0) 48 (ck DX6_told_0 1 rfl) c1 (by decide) (by decide) rfl (by decide) ?_
    refine r_aload_n 49 rfl 0 rfl rfl (ck DX6_told_0 2 rfl) ?_
    refine r_getr (q := 6) 52 rfl (lq_6_0) sh_0 kd_6_0 fl_X6_17 (ck DX6_told_0 3 rfl) ?_
    refine r_geti 55 rfl sh_6 kd_1_12 fl_X6_160 (ck DX6_told_0 4 rfl) ?_
    obtain rfl := so1 hf
    exact r_iret rfl rfl (ck DX6_told_0 5 rfl)
  · skip
    rcases if_so hf with ⟨c2, hf⟩ | ⟨c2, hf⟩
    · refine r_tsw_in (v := 1) 56 (ck DX6_told_0 1 rfl) c2 (by decide) (by decide) rfl (by decide) ?_
      refine r_aload_n 57 rfl 0 rfl rfl (ck DX6_told_0 6 rfl) ?_
      refine r_getr (q := 6) 60 rfl (lq_6_0) sh_0 kd_6_0 fl_X6_17 (ck DX6_told_0 7 rfl) ?_
      obtain ⟨w3, e4, hf⟩ := bo_so hf
      obtain ⟨b5, hf⟩ := gd_so hf
      have ow3 := oc_of b5
      refine r_gets 63 rfl e4 sh_6 kd_1_13 fl_X6_110 (ck DX6_told_0 8 rfl) ?_
      refine r_geti 66 rfl ow3.1 kd_2_5 fl_X6_163 (ck DX6_told_0 9 rfl) ?_
      obtain rfl := so1 hf
      exact r_iret rfl rfl (ck DX6_told_0 10 rfl)
    · skip
      rcases if_so hf with ⟨c6, hf⟩ | ⟨c6, hf⟩
      · refine r_tsw_in (v := 2) 67 (ck DX6_told_0 1 rfl) c6 (by decide) (by decide) rfl (by decide) ?_
        refine r_aload_n 68 rfl 0 rfl rfl (ck DX6_told_0 11 rfl) ?_
        refine r_getr (q := 6) 71 rfl (lq_6_0) sh_0 kd_6_0 fl_X6_17 (ck DX6_told_0 12 rfl) ?_
        obtain ⟨w7, e8, hf⟩ := bo_so hf
        obtain ⟨b9, hf⟩ := gd_so hf
        have ow7 := oc_of b9
        refine r_gets 74 rfl e8 sh_6 kd_1_13 fl_X6_110 (ck DX6_told_0 13 rfl) ?_
        refine r_geti 77 rfl ow7.1 kd_2_6 fl_X6_166 (ck DX6_told_0 14 rfl) ?_
        obtain rfl := so1 hf
        exact r_iret rfl rfl (ck DX6_told_0 15 rfl)
      · skip
        rcases if_so hf with ⟨c10, hf⟩ | ⟨c10, hf⟩
        · refine r_tsw_in (v := 3) 78 (ck DX6_told_0 1 rfl) c10 (by decide) (by decide) rfl (by decide) ?_
          refine r_aload_n 79 rfl 0 rfl rfl (ck DX6_told_0 16 rfl) ?_
          refine r_getr (q := 6) 82 rfl (lq_6_0) sh_0 kd_6_0 fl_X6_17 (ck DX6_told_0 17 rfl) ?_
          refine r_geti 85 rfl sh_6 kd_1_9 fl_X6_140 (ck DX6_told_0 18 rfl) ?_
          obtain rfl := so1 hf
          exact r_iret rfl rfl (ck DX6_told_0 19 rfl)
        · skip
          rcases if_so hf with ⟨c11, hf⟩ | ⟨c11, hf⟩
          · refine r_tsw_in (v := 4) 86 (ck DX6_told_0 1 rfl) c11 (by decide) (by decide) rfl (by decide) ?_
            refine r_aload_n 87 rfl 0 rfl rfl (ck DX6_told_0 20 rfl) ?_
            refine r_getr (q := 6) 90 rfl (lq_6_0) sh_0 kd_6_0 fl_X6_17 (ck DX6_told_0 21 rfl) ?_
            refine r_geti 93 rfl sh_6 kd_1_10 fl_X6_143 (ck DX6_told_0 22 rfl) ?_
            obtain rfl := so1 hf
            exact r_iret rfl rfl (ck DX6_told_0 23 rfl)
          · skip
            rcases if_so hf with ⟨c12, hf⟩ | ⟨c12, hf⟩
            · refine r_tsw_in (v := 5) 94 (ck DX6_told_0 1 rfl) c12 (by decide) (by decide) rfl (by decide) ?_
              refine r_aload_n 95 rfl 0 rfl rfl (ck DX6_told_0 24 rfl) ?_
              refine r_getr (q := 6) 98 rfl (lq_6_0) sh_0 kd_6_0 fl_X6_17 (ck DX6_told_0 25 rfl) ?_
              refine r_geti 101 rfl sh_6 kd_1_11 fl_X6_169 (ck DX6_told_0 26 rfl) ?_
              obtain rfl := so1 hf
              exact r_iret rfl rfl (ck DX6_told_0 27 rfl)
            · skip
              rcases if_so hf with ⟨c13, hf⟩ | ⟨c13, hf⟩
              · refine r_tsw_in (v := 6) 102 (ck DX6_told_0 1 rfl) c13 (by decide) (by decide) rfl (by decide) ?_
                refine r_aload_n 103 rfl 0 rfl rfl (ck DX6_told_0 28 rfl) ?_
                refine r_getr (q := 6) 106 rfl (lq_6_0) sh_0 kd_6_0 fl_X6_17 (ck DX6_told_0 29 rfl) ?_
                obtain ⟨v14, e15, hf⟩ := bo_so hf
                refine r_callVi 109 rfl (A_X1_height X 6 dk_6 h v14 e15) (by omega) cw_X6_172 sh_6 cl_1 rfl rfl (Nat.le_of_ble_eq_true rfl) (ck DX6_told_0 30 rfl) ?_
                obtain rfl := so1 hf
                exact r_iret rfl rfl (ck DX6_told_0 31 rfl)
              · skip
                rcases if_so hf with ⟨c16, hf⟩ | ⟨c16, hf⟩
                · refine r_tsw_in (v := 7) 110 (ck DX6_told_0 1 rfl) c16 (by decide) (by decide) rfl (by decide) ?_
                  refine r_aload_n 111 rfl 0 rfl rfl (ck DX6_told_0 32 rfl) ?_
                  refine r_getr (q := 6) 114 rfl (lq_6_0) sh_0 kd_6_0 fl_X6_17 (ck DX6_told_0 33 rfl) ?_
                  obtain ⟨v17, e18, hf⟩ := bo_so hf
                  refine r_callVi 117 rfl (A_X1_miles X 6 dk_6 h v17 e18) (by omega) cw_X6_176 sh_6 cl_1 rfl rfl (Nat.le_of_ble_eq_true rfl) (ck DX6_told_0 34 rfl) ?_
                  obtain rfl := so1 hf
                  exact r_iret rfl rfl (ck DX6_told_0 35 rfl)
                · skip
                  have hx9 : x1.toInt < 0 ∨ (7 : Int) < x1.toInt := by
                    have h8 := tsw_o (x := x1) 0 8 (fun k hk => by
                      match k, hk with
                      | 0, _ => exact ne_int c1
                      | 1, _ => exact ne_int c2
                      | 2, _ => exact ne_int c6
                      | 3, _ => exact ne_int c10
                      | 4, _ => exact ne_int c11
                      | 5, _ => exact ne_int c12
                      | 6, _ => exact ne_int c13
                      | 7, _ => exact ne_int c16
                      | k + 8, hk => exact absurd hk (by omega))
                    exact h8
                  refine r_tsw_out 118 (ck DX6_told_0 1 rfl) hx9 (by decide) ?_
                  refine r_iload_n 119 rfl 1 rfl rfl (ck DX6_told_0 36 rfl) ?_
                  refine r_bipush 121 rfl bp_10 (ck DX6_told_0 37 rfl) ?_
                  refine r_bipush 123 rfl bp_9 (ck DX6_told_0 38 rfl) ?_
                  refine r_aload_n 124 rfl 0 rfl rfl (ck DX6_told_0 39 rfl) ?_
                  refine r_getr (q := 6) 127 rfl (lq_6_0) sh_0 kd_6_0 fl_X6_17 (ck DX6_told_0 40 rfl) ?_
                  refine r_geti 130 rfl sh_6 kd_1_8 fl_X6_134 (ck DX6_told_0 41 rfl) ?_
                  refine r_iadd 131 rfl (ck DX6_told_0 42 rfl) ?_
                  obtain ⟨v19, e20, hf⟩ := bo_so hf
                  refine r_callSi 134 rfl (A_X6_within X x1 10 (9 + (h.1 6 8)) h v19 e20) (by omega) cs_X6_78 rfl rfl (Nat.le_of_ble_eq_true rfl) (ck DX6_told_0 43 rfl) ?_
                  rcases if_so hf with ⟨c21, hf⟩ | ⟨c21, hf⟩
                  · refine r_if_eq_t 152 (ck DX6_told_0 44 rfl) (by decide) c21 ?_
                    refine r_iconst 153 rfl ic_m1 (ck DX6_told_1 3 rfl) ?_
                    obtain rfl := so1 hf
                    exact r_iret rfl rfl (ck DX6_told_1 4 rfl)
                  · refine r_if_eq_f 137 rfl 152 (ck DX6_told_0 44 rfl) (by decide) c21 ?_
                    refine r_aload_n 138 rfl 0 rfl rfl (ck DX6_told_0 45 rfl) ?_
                    refine r_getr (q := 6) 141 rfl (lq_6_0) sh_0 kd_6_0 fl_X6_17 (ck DX6_told_0 46 rfl) ?_
                    refine r_getr (q := 13) 144 rfl (lq_1_6 6) sh_6 kd_1_6 fl_X6_179 (ck DX6_told_0 47 rfl) ?_
                    refine r_iload_n 145 rfl 1 rfl rfl (ck DX6_told_0 48 rfl) ?_
                    refine r_bipush 147 rfl bp_10 (ck DX6_told_0 49 rfl) ?_
                    refine r_isub 148 rfl (ck DX6_told_1 0 rfl) ?_
                    obtain ⟨b22, hf⟩ := gd_so hf
                    refine r_iald 149 rfl sh_13 (inb_vp b22) (ck DX6_told_1 1 rfl) ?_
                    refine r_goto 153 (ck DX6_told_1 2 rfl) (by decide) ?_
                    obtain rfl := so1 hf
                    exact r_iret rfl rfl (ck DX6_told_1 4 rfl)
-- X6_pass
def f_X6_pass_L33 : Nat → Int32 → Int32 → HP → Option (Int32 × HP)
  | 0, _, _, _ => none
  | n + 1, x1, x2, h => if x1 ≤ x2 then (some ((h.1 6 11), h)) else (bd (f_X1_dayGoes 6 h) fun v8 g6 => lt (x2 + 1 : Int32) fun v9 => f_X6_pass_L33 n x1 v9 g6)
set_option maxHeartbeats 4000000 in
set_option maxRecDepth 100000 in
theorem A_X6_pass_L33 (X : XE) (r : Int32) (h' : HP) : ∀ (n : Nat) (x1 : Int32) (x2 : Int32) (h : HP), f_X6_pass_L33 n x1 x2 h = some (r, h') → Run mX6_pass 5 X 33 [(0, .ref (X.1 0)), (1, .int x1), (2, .int x2)] [] h (some (.int r)) h' := by
  intro n
  induction n with
  | zero => intro x1 x2 h hf; cases hf
  | succ n ih =>
    intro x1 x2 h hf
    rw [f_X6_pass_L33] at hf
    refine r_iload_n 34 rfl 2 rfl rfl (ck DX6_pass_0 18 rfl) ?_
    refine r_iload_n 35 rfl 1 rfl rfl (ck DX6_pass_0 19 rfl) ?_
    rcases if_so hf with ⟨c5, hf⟩ | ⟨c5, hf⟩
    · refine r_icmp_ge_t 52 (ck DX6_pass_0 20 rfl) (by decide) c5 ?_
      refine r_aload_n 53 rfl 0 rfl rfl (ck DX6_pass_0 27 rfl) ?_
      refine r_getr (q := 6) 56 rfl (lq_6_0) sh_0 kd_6_0 fl_X6_17 (ck DX6_pass_0 28 rfl) ?_
      refine r_geti 59 rfl sh_6 kd_1_11 fl_X6_169 (ck DX6_pass_0 29 rfl) ?_
      obtain ⟨rfl, rfl⟩ := so2 hf
      exact r_iret rfl rfl (ck DX6_pass_0 30 rfl)
    · refine r_icmp_ge_f 38 rfl 52 (ck DX6_pass_0 20 rfl) (by decide) c5 ?_
      refine r_aload_n 39 rfl 0 rfl rfl (ck DX6_pass_0 21 rfl) ?_
      refine r_getr (q := 6) 42 rfl (lq_6_0) sh_0 kd_6_0 fl_X6_17 (ck DX6_pass_0 22 rfl) ?_
      obtain ⟨v8, g6, e7, hf⟩ := bd_so hf
      refine r_callVi 45 rfl (A_X1_dayGoes X 6 dk_6 h v8 g6 e7) (by omega) cw_X6_182 sh_6 cl_1 rfl rfl (Nat.le_of_ble_eq_true rfl) (ck DX6_pass_0 23 rfl) ?_
      refine r_pop 46 rfl rfl (ck DX6_pass_0 24 rfl) ?_
      obtain ⟨v9, e10, hf⟩ := lt_so hf
      refine r_iinc (lv' := [(2, .int v9), (0, .ref (X.1 0)), (1, .int x1)]) 49 rfl 2 (ck DX6_pass_0 25 rfl) rfl (by rw [e10, ic_1]) (by decide) rfl ?_
      refine r_goto 33 (ck DX6_pass_0 26 rfl) (by decide) ?_
      refine r_sub (lv' := [(0, .ref (X.1 0)), (1, .int x1), (2, .int v9)]) [1, 2, 0] rfl ?_
      exact ih x1 v9 g6 hf
def f_X6_pass (x1 : Int32) (h : HP) : Option (Int32 × HP) := bo (f_X6_within x1 0 60) fun v1 => if v1 = 0 then (some ((-2), h)) else (if ((h.1 6 12) + x1) ≤ 9999 then (f_X6_pass_L33 FZ x1 0 h) else (some ((-3), h)))
set_option maxHeartbeats 4000000 in
set_option maxRecDepth 100000 in
theorem A_X6_pass (X : XE) (x1 : Int32) (h : HP) (r : Int32) (h' : HP) (hf : f_X6_pass x1 h = some (r, h')) : CC mX6_pass 5 X [.ref (X.1 0), .int x1] h (some (.int r)) h' := by
  refine CC_of rfl (Nat.le_of_ble_eq_true rfl) ?_
  show Run mX6_pass 5 X 0 [(0, .ref (X.1 0)), (1, .int x1)] [] h (some (.int r)) h'
  unfold f_X6_pass at hf
  refine r_iload_n 1 rfl 1 rfl rfl (ck DX6_pass_0 0 rfl) ?_
  refine r_iconst 2 rfl ic_0 (ck DX6_pass_0 1 rfl) ?_
  refine r_bipush 4 rfl bp_60 (ck DX6_pass_0 2 rfl) ?_
  obtain ⟨v1, e2, hf⟩ := bo_so hf
  refine r_callSi 7 rfl (A_X6_within X x1 0 60 h v1 e2) (by omega) cs_X6_78 rfl rfl (Nat.le_of_ble_eq_true rfl) (ck DX6_pass_0 3 rfl) ?_
  rcases if_so hf with ⟨c3, hf⟩ | ⟨c3, hf⟩
  · refine r_if_ne_t 10 rfl 13 (ck DX6_pass_0 4 rfl) (by decide) c3 ?_
    refine r_bipush 12 rfl bp_m2 (ck DX6_pass_0 5 rfl) ?_
    obtain ⟨rfl, rfl⟩ := so2 hf
    exact r_iret rfl rfl (ck DX6_pass_0 6 rfl)
  · refine r_if_ne_f 13 (ck DX6_pass_0 4 rfl) (by decide) c3 ?_
    refine r_aload_n 14 rfl 0 rfl rfl (ck DX6_pass_0 7 rfl) ?_
    refine r_getr (q := 6) 17 rfl (lq_6_0) sh_0 kd_6_0 fl_X6_17 (ck DX6_pass_0 8 rfl) ?_
    refine r_geti 20 rfl sh_6 kd_1_12 fl_X6_160 (ck DX6_pass_0 9 rfl) ?_
    refine r_iload_n 21 rfl 1 rfl rfl (ck DX6_pass_0 10 rfl) ?_
    refine r_iadd 22 rfl (ck DX6_pass_0 11 rfl) ?_
    refine r_sipush 25 rfl sp_9999 (ck DX6_pass_0 12 rfl) ?_
    rcases if_so hf with ⟨c4, hf⟩ | ⟨c4, hf⟩
    · refine r_icmp_le_t 31 (ck DX6_pass_0 13 rfl) (by decide) c4 ?_
      refine r_iconst 32 rfl ic_0 (ck DX6_pass_0 16 rfl) ?_
      refine r_istore_n (lv' := [(2, .int 0), (0, .ref (X.1 0)), (1, .int x1)]) 33 rfl (ck DX6_pass_0 17 rfl) (by decide) rfl rfl ?_
      refine r_sub (lv' := [(0, .ref (X.1 0)), (1, .int x1), (2, .int 0)]) [1, 2, 0] rfl ?_
      exact A_X6_pass_L33 X _ _ FZ x1 0 h hf
    · refine r_icmp_le_f 28 rfl 31 (ck DX6_pass_0 13 rfl) (by decide) c4 ?_
      refine r_bipush 30 rfl bp_m3 (ck DX6_pass_0 14 rfl) ?_
      obtain ⟨rfl, rfl⟩ := so2 hf
      exact r_iret rfl rfl (ck DX6_pass_0 15 rfl)
-- X6_on
def f_X6_on_L82 : Nat → Int32 → Int32 → Int32 → Int32 → Int32 → HP → Option (Int32 × HP)
  | 0, _, _, _, _, _, _ => none
  | n + 1, x1, x2, x3, x4, x5, h => if x1 ≤ x5 then (if x3 = 0 then (if x4 = 0 then (if x2 = 0 then (some ((h.1 22 11), h)) else (if x2 = 1 then (bo (f_X1_height 22 h) fun v20 => some (v20, h)) else (some ((h.1 22 8), h)))) else (gd (inb (x2 - 20) 6) (some ((h.1 26 (Int32.toNatClampNeg (x2 - 20))), h)))) else (gd (inb (x2 - 10) 6) (some ((h.1 25 (Int32.toNatClampNeg (x2 - 10))), h)))) else (bd (f_X1_dayGoes 22 h) fun v26 g24 => lt (x5 + 1 : Int32) fun v27 => f_X6_on_L82 n x1 x2 x3 x4 v27 g24)
set_option maxHeartbeats 4000000 in
set_option maxRecDepth 100000 in
theorem A_X6_on_L82 (X : XE) (r : Int32) (h' : HP) : ∀ (n : Nat) (x1 : Int32) (x2 : Int32) (x3 : Int32) (x4 : Int32) (x5 : Int32) (h : HP), f_X6_on_L82 n x1 x2 x3 x4 x5 h = some (r, h') → Run mX6_on 5 X 82 [(0, .ref (X.1 0)), (1, .int x1), (2, .int x2), (3, .int x3), (4, .int x4), (5, .int x5)] [] h (some (.int r)) h' := by
  intro n
  induction n with
  | zero => intro x1 x2 x3 x4 x5 h hf; cases hf
  | succ n ih =>
    intro x1 x2 x3 x4 x5 h hf
    rw [f_X6_on_L82] at hf
    refine r_iload 84 rfl 5 rfl (ck DX6_on_0 43 rfl) ?_
    refine r_iload_n 85 rfl 1 rfl rfl (ck DX6_on_0 44 rfl) ?_
    rcases if_so hf with ⟨c15, hf⟩ | ⟨c15, hf⟩
    · refine r_icmp_ge_t 102 (ck DX6_on_0 45 rfl) (by decide) c15 ?_
      refine r_iload_n 103 rfl 3 rfl rfl (ck DX6_on_1 2 rfl) ?_
      rcases if_so hf with ⟨c16, hf⟩ | ⟨c16, hf⟩
      · refine r_if_eq_t 119 (ck DX6_on_1 3 rfl) (by decide) c16 ?_
        refine r_iload 121 rfl 4 rfl (ck DX6_on_1 12 rfl) ?_
        rcases if_so hf with ⟨c17, hf⟩ | ⟨c17, hf⟩
        · refine r_if_eq_t 137 (ck DX6_on_1 13 rfl) (by decide) c17 ?_
          refine r_iload_n 138 rfl 2 rfl rfl (ck DX6_on_1 22 rfl) ?_
          rcases if_so hf with ⟨c18, hf⟩ | ⟨c18, hf⟩
          · refine r_if_ne_t 141 rfl 151 (ck DX6_on_1 23 rfl) (by decide) c18 ?_
            refine r_aload_n 142 rfl 0 rfl rfl (ck DX6_on_1 24 rfl) ?_
            refine r_getr (q := 22) 145 rfl (lq_6_2) sh_0 kd_6_2 fl_X6_26 (ck DX6_on_1 25 rfl) ?_
            refine r_geti 148 rfl sh_22 kd_1_11 fl_X6_169 (ck DX6_on_1 26 rfl) ?_
            refine r_goto 173 (ck DX6_on_1 27 rfl) (by decide) ?_
            obtain ⟨rfl, rfl⟩ := so2 hf
            exact r_iret rfl rfl (ck DX6_on_1 38 rfl)
          · refine r_if_ne_f 151 (ck DX6_on_1 23 rfl) (by decide) c18 ?_
            refine r_iload_n 152 rfl 2 rfl rfl (ck DX6_on_1 28 rfl) ?_
            refine r_iconst 153 rfl ic_1 (ck DX6_on_1 29 rfl) ?_
            rcases if_so hf with ⟨c19, hf⟩ | ⟨c19, hf⟩
            · refine r_icmp_ne_t 156 rfl 166 (ck DX6_on_1 30 rfl) (by decide) c19 ?_
              refine r_aload_n 157 rfl 0 rfl rfl (ck DX6_on_1 31 rfl) ?_
              refine r_getr (q := 22) 160 rfl (lq_6_2) sh_0 kd_6_2 fl_X6_26 (ck DX6_on_1 32 rfl) ?_
              obtain ⟨v20, e21, hf⟩ := bo_so hf
              refine r_callVi 163 rfl (A_X1_height X 22 dk_22 h v20 e21) (by omega) cw_X6_172 sh_22 cl_1 rfl rfl (Nat.le_of_ble_eq_true rfl) (ck DX6_on_1 33 rfl) ?_
              refine r_goto 173 (ck DX6_on_1 34 rfl) (by decide) ?_
              obtain ⟨rfl, rfl⟩ := so2 hf
              exact r_iret rfl rfl (ck DX6_on_1 38 rfl)
            · refine r_icmp_ne_f 166 (ck DX6_on_1 30 rfl) (by decide) c19 ?_
              refine r_aload_n 167 rfl 0 rfl rfl (ck DX6_on_1 35 rfl) ?_
              refine r_getr (q := 22) 170 rfl (lq_6_2) sh_0 kd_6_2 fl_X6_26 (ck DX6_on_1 36 rfl) ?_
              refine r_geti 173 rfl sh_22 kd_1_8 fl_X6_134 (ck DX6_on_1 37 rfl) ?_
              obtain ⟨rfl, rfl⟩ := so2 hf
              exact r_iret rfl rfl (ck DX6_on_1 38 rfl)
        · refine r_if_eq_f 124 rfl 137 (ck DX6_on_1 13 rfl) (by decide) c17 ?_
          refine r_aload_n 125 rfl 0 rfl rfl (ck DX6_on_1 14 rfl) ?_
          refine r_getr (q := 22) 128 rfl (lq_6_2) sh_0 kd_6_2 fl_X6_26 (ck DX6_on_1 15 rfl) ?_
          refine r_getr (q := 26) 131 rfl (lq_1_3 22) sh_22 kd_1_3 fl_X6_104 (ck DX6_on_1 16 rfl) ?_
          refine r_iload_n 132 rfl 2 rfl rfl (ck DX6_on_1 17 rfl) ?_
          refine r_bipush 134 rfl bp_20 (ck DX6_on_1 18 rfl) ?_
          refine r_isub 135 rfl (ck DX6_on_1 19 rfl) ?_
          obtain ⟨b22, hf⟩ := gd_so hf
          refine r_iald 136 rfl sh_26 (inb_vp b22) (ck DX6_on_1 20 rfl) ?_
          obtain ⟨rfl, rfl⟩ := so2 hf
          exact r_iret rfl rfl (ck DX6_on_1 21 rfl)
      · refine r_if_eq_f 106 rfl 119 (ck DX6_on_1 3 rfl) (by decide) c16 ?_
        refine r_aload_n 107 rfl 0 rfl rfl (ck DX6_on_1 4 rfl) ?_
        refine r_getr (q := 22) 110 rfl (lq_6_2) sh_0 kd_6_2 fl_X6_26 (ck DX6_on_1 5 rfl) ?_
        refine r_getr (q := 25) 113 rfl (lq_1_2 22) sh_22 kd_1_2 fl_X6_101 (ck DX6_on_1 6 rfl) ?_
        refine r_iload_n 114 rfl 2 rfl rfl (ck DX6_on_1 7 rfl) ?_
        refine r_bipush 116 rfl bp_10 (ck DX6_on_1 8 rfl) ?_
        refine r_isub 117 rfl (ck DX6_on_1 9 rfl) ?_
        obtain ⟨b23, hf⟩ := gd_so hf
        refine r_iald 118 rfl sh_25 (inb_vp b23) (ck DX6_on_1 10 rfl) ?_
        obtain ⟨rfl, rfl⟩ := so2 hf
        exact r_iret rfl rfl (ck DX6_on_1 11 rfl)
    · refine r_icmp_ge_f 88 rfl 102 (ck DX6_on_0 45 rfl) (by decide) c15 ?_
      refine r_aload_n 89 rfl 0 rfl rfl (ck DX6_on_0 46 rfl) ?_
      refine r_getr (q := 22) 92 rfl (lq_6_2) sh_0 kd_6_2 fl_X6_26 (ck DX6_on_0 47 rfl) ?_
      obtain ⟨v26, g24, e25, hf⟩ := bd_so hf
      refine r_callVi 95 rfl (A_X1_dayGoes X 22 dk_22 h v26 g24 e25) (by omega) cw_X6_182 sh_22 cl_1 rfl rfl (Nat.le_of_ble_eq_true rfl) (ck DX6_on_0 48 rfl) ?_
      refine r_pop 96 rfl rfl (ck DX6_on_0 49 rfl) ?_
      obtain ⟨v27, e28, hf⟩ := lt_so hf
      refine r_iinc (lv' := [(5, .int v27), (0, .ref (X.1 0)), (1, .int x1), (2, .int x2), (3, .int x3), (4, .int x4)]) 99 rfl 5 (ck DX6_on_1 0 rfl) rfl (by rw [e28, ic_1]) (by decide) rfl ?_
      refine r_goto 82 (ck DX6_on_1 1 rfl) (by decide) ?_
      refine r_sub (lv' := [(0, .ref (X.1 0)), (1, .int x1), (2, .int x2), (3, .int x3), (4, .int x4), (5, .int v27)]) [1, 2, 3, 4, 5, 0] rfl ?_
      exact ih x1 x2 x3 x4 v27 g24 hf
def f_X6_on_J55 (x1 : Int32) (x2 : Int32) (x3 : Int32) (x4 : Int32) (h : HP) : Option (Int32 × HP) := bo (f_X6_within x1 0 60) fun v10 => if v10 = 0 then (some ((-2), h)) else (bo (f_X1_startFrom 22 6 h) fun g13 => f_X6_on_L82 FZ x1 x2 x3 x4 0 g13)
set_option maxHeartbeats 4000000 in
set_option maxRecDepth 100000 in
theorem A_X6_on_J55 (X : XE) (r : Int32) (h' : HP) (x1 : Int32) (x2 : Int32) (x3 : Int32) (x4 : Int32) (h : HP) (hf : f_X6_on_J55 x1 x2 x3 x4 h = some (r, h')) : Run mX6_on 5 X 55 [(0, .ref (X.1 0)), (1, .int x1), (2, .int x2), (3, .int x3), (4, .int x4)] [] h (some (.int r)) h' := by
  unfold f_X6_on_J55 at hf
  refine r_iload_n 56 rfl 1 rfl rfl (ck DX6_on_0 29 rfl) ?_
  refine r_iconst 57 rfl ic_0 (ck DX6_on_0 30 rfl) ?_
  refine r_bipush 59 rfl bp_60 (ck DX6_on_0 31 rfl) ?_
  obtain ⟨v10, e11, hf⟩ := bo_so hf
  refine r_callSi 62 rfl (A_X6_within X x1 0 60 h v10 e11) (by omega) cs_X6_78 rfl rfl (Nat.le_of_ble_eq_true rfl) (ck DX6_on_0 32 rfl) ?_
  rcases if_so hf with ⟨c12, hf⟩ | ⟨c12, hf⟩
  · refine r_if_ne_t 65 rfl 68 (ck DX6_on_0 33 rfl) (by decide) c12 ?_
    refine r_bipush 67 rfl bp_m2 (ck DX6_on_0 34 rfl) ?_
    obtain ⟨rfl, rfl⟩ := so2 hf
    exact r_iret rfl rfl (ck DX6_on_0 35 rfl)
  · refine r_if_ne_f 68 (ck DX6_on_0 33 rfl) (by decide) c12 ?_
    refine r_aload_n 69 rfl 0 rfl rfl (ck DX6_on_0 36 rfl) ?_
    refine r_getr (q := 22) 72 rfl (lq_6_2) sh_0 kd_6_2 fl_X6_26 (ck DX6_on_0 37 rfl) ?_
    refine r_aload_n 73 rfl 0 rfl rfl (ck DX6_on_0 38 rfl) ?_
    refine r_getr (q := 6) 76 rfl (lq_6_0) sh_0 kd_6_0 fl_X6_17 (ck DX6_on_0 39 rfl) ?_
    obtain ⟨g13, e14, hf⟩ := bo_so hf
    refine r_callVv 79 rfl (A_X1_startFrom X 22 dk_22 6 dk_6 h g13 e14) (by omega) cw_X6_185 sh_22 cl_1 rfl rfl (Nat.le_of_ble_eq_true rfl) (ck DX6_on_0 40 rfl) ?_
    refine r_iconst 80 rfl ic_0 (ck DX6_on_0 41 rfl) ?_
    refine r_istore (lv' := [(5, .int 0), (0, .ref (X.1 0)), (1, .int x1), (2, .int x2), (3, .int x3), (4, .int x4)]) 82 rfl (ck DX6_on_0 42 rfl) (by decide) rfl ?_
    refine r_sub (lv' := [(0, .ref (X.1 0)), (1, .int x1), (2, .int x2), (3, .int x3), (4, .int x4), (5, .int 0)]) [1, 2, 3, 4, 5, 0] rfl ?_
    exact A_X6_on_L82 X _ _ FZ x1 x2 x3 x4 0 g13 hf
def f_X6_on (x1 : Int32) (x2 : Int32) (h : HP) : Option (Int32 × HP) := bo (f_X6_within x2 10 (9 + (h.1 6 7))) fun v1 => bo (f_X6_within x2 20 (19 + (h.1 6 7))) fun v3 => bo (f_X6_within x2 0 2) fun v5 => if v5 = 0 then (if v1 = 0 then (if v3 = 0 then (some ((-1), h)) else (f_X6_on_J55 x1 x2 v1 v3 h)) else (f_X6_on_J55 x1 x2 v1 v3 h)) else (f_X6_on_J55 x1 x2 v1 v3 h)
set_option maxHeartbeats 4000000 in
set_option maxRecDepth 100000 in
theorem A_X6_on (X : XE) (x1 : Int32) (x2 : Int32) (h : HP) (r : Int32) (h' : HP) (hf : f_X6_on x1 x2 h = some (r, h')) : CC mX6_on 5 X [.ref (X.1 0), .int x1, .int x2] h (some (.int r)) h' := by
  refine CC_of rfl (Nat.le_of_ble_eq_true rfl) ?_
  show Run mX6_on 5 X 0 [(0, .ref (X.1 0)), (1, .int x1), (2, .int x2)] [] h (some (.int r)) h'
  unfold f_X6_on at hf
  refine r_iload_n 1 rfl 2 rfl rfl (ck DX6_on_0 0 rfl) ?_
  refine r_bipush 3 rfl bp_10 (ck DX6_on_0 1 rfl) ?_
  refine r_bipush 5 rfl bp_9 (ck DX6_on_0 2 rfl) ?_
  refine r_aload_n 6 rfl 0 rfl rfl (ck DX6_on_0 3 rfl) ?_
  refine r_getr (q := 6) 9 rfl (lq_6_0) sh_0 kd_6_0 fl_X6_17 (ck DX6_on_0 4 rfl) ?_
  refine r_geti 12 rfl sh_6 kd_1_7 fl_X6_82 (ck DX6_on_0 5 rfl) ?_
  refine r_iadd 13 rfl (ck DX6_on_0 6 rfl) ?_
  obtain ⟨v1, e2, hf⟩ := bo_so hf
  refine r_callSi 16 rfl (A_X6_within X x2 10 (9 + (h.1 6 7)) h v1 e2) (by omega) cs_X6_78 rfl rfl (Nat.le_of_ble_eq_true rfl) (ck DX6_on_0 7 rfl) ?_
  refine r_istore_n (lv' := [(3, .int v1), (0, .ref (X.1 0)), (1, .int x1), (2, .int x2)]) 17 rfl (ck DX6_on_0 8 rfl) (by decide) rfl rfl ?_
  refine r_iload_n 18 rfl 3 rfl rfl (ck DX6_on_0 9 rfl) ?_
  refine r_bipush 20 rfl bp_20 (ck DX6_on_0 10 rfl) ?_
  refine r_bipush 22 rfl bp_19 (ck DX6_on_0 11 rfl) ?_
  refine r_aload_n 23 rfl 1 rfl rfl (ck DX6_on_0 12 rfl) ?_
  refine r_getr (q := 6) 26 rfl (lq_6_0) sh_0 kd_6_0 fl_X6_17 (ck DX6_on_0 13 rfl) ?_
  refine r_geti 29 rfl sh_6 kd_1_7 fl_X6_82 (ck DX6_on_0 14 rfl) ?_
  refine r_iadd 30 rfl (ck DX6_on_0 15 rfl) ?_
  obtain ⟨v3, e4, hf⟩ := bo_so hf
  refine r_callSi 33 rfl (A_X6_within X x2 20 (19 + (h.1 6 7)) h v3 e4) (by omega) cs_X6_78 rfl rfl (Nat.le_of_ble_eq_true rfl) (ck DX6_on_0 16 rfl) ?_
  refine r_istore (lv' := [(4, .int v3), (3, .int v1), (0, .ref (X.1 0)), (1, .int x1), (2, .int x2)]) 35 rfl (ck DX6_on_0 17 rfl) (by decide) rfl ?_
  refine r_iload_n 36 rfl 4 rfl rfl (ck DX6_on_0 18 rfl) ?_
  refine r_iconst 37 rfl ic_0 (ck DX6_on_0 19 rfl) ?_
  refine r_iconst 38 rfl ic_2 (ck DX6_on_0 20 rfl) ?_
  obtain ⟨v5, e6, hf⟩ := bo_so hf
  refine r_callSi 41 rfl (A_X6_within X x2 0 2 h v5 e6) (by omega) cs_X6_78 rfl rfl (Nat.le_of_ble_eq_true rfl) (ck DX6_on_0 21 rfl) ?_
  rcases if_so hf with ⟨c7, hf⟩ | ⟨c7, hf⟩
  · refine r_if_ne_t 44 rfl 55 (ck DX6_on_0 22 rfl) (by decide) c7 ?_
    refine r_iload_n 45 rfl 1 rfl rfl (ck DX6_on_0 23 rfl) ?_
    rcases if_so hf with ⟨c8, hf⟩ | ⟨c8, hf⟩
    · refine r_if_ne_t 48 rfl 55 (ck DX6_on_0 24 rfl) (by decide) c8 ?_
      refine r_iload 50 rfl 0 rfl (ck DX6_on_0 25 rfl) ?_
      rcases if_so hf with ⟨c9, hf⟩ | ⟨c9, hf⟩
      · refine r_if_ne_t 53 rfl 55 (ck DX6_on_0 26 rfl) (by decide) c9 ?_
        refine r_iconst 54 rfl ic_m1 (ck DX6_on_0 27 rfl) ?_
        obtain ⟨rfl, rfl⟩ := so2 hf
        exact r_iret rfl rfl (ck DX6_on_0 28 rfl)
      · refine r_if_ne_f 55 (ck DX6_on_0 26 rfl) (by decide) c9 ?_
        refine r_sub (lv' := [(0, .ref (X.1 0)), (1, .int x1), (2, .int x2), (3, .int v1), (4, .int v3)]) [2, 3, 4, 1, 0] rfl ?_
        exact A_X6_on_J55 X _ _ x1 x2 v1 v3 h hf
    · refine r_if_ne_f 55 (ck DX6_on_0 24 rfl) (by decide) c8 ?_
      refine r_sub (lv' := [(0, .ref (X.1 0)), (1, .int x1), (2, .int x2), (3, .int v1), (4, .int v3)]) [2, 3, 4, 1, 0] rfl ?_
      exact A_X6_on_J55 X _ _ x1 x2 v1 v3 h hf
  · refine r_if_ne_f 55 (ck DX6_on_0 22 rfl) (by decide) c7 ?_
    refine r_sub (lv' := [(0, .ref (X.1 0)), (1, .int x1), (2, .int x2), (3, .int v1), (4, .int v3)]) [2, 3, 4, 1, 0] rfl ?_
    exact A_X6_on_J55 X _ _ x1 x2 v1 v3 h hf
-- X6_first
def f_X6_first_L24 : Nat → Int32 → Int32 → HP → Option (Int32 × HP)
  | 0, _, _, _ => none
  | n + 1, x1, x2, h => if (60 : Int32) < x2 then (some ((-5), h)) else (bd (f_X1_dayGoes 22 h) fun v9 g7 => if v9 < 0 then (lt (x2 + 1 : Int32) fun v11 => f_X6_first_L24 n x1 v11 g7) else (if x1 = 0 then (some (x2, g7)) else (some (v9, g7))))
set_option maxHeartbeats 4000000 in
set_option maxRecDepth 100000 in
theorem A_X6_first_L24 (X : XE) (r : Int32) (h' : HP) : ∀ (n : Nat) (x1 : Int32) (x2 : Int32) (h : HP), f_X6_first_L24 n x1 x2 h = some (r, h') → Run mX6_first 5 X 24 [(0, .ref (X.1 0)), (1, .int x1), (2, .int x2)] [] h (some (.int r)) h' := by
  intro n
  induction n with
  | zero => intro x1 x2 h hf; cases hf
  | succ n ih =>
    intro x1 x2 h hf
    rw [f_X6_first_L24] at hf
    refine r_iload_n 25 rfl 2 rfl rfl (ck DX6_first_0 14 rfl) ?_
    refine r_bipush 27 rfl bp_60 (ck DX6_first_0 15 rfl) ?_
    rcases if_so hf with ⟨c6, hf⟩ | ⟨c6, hf⟩
    · refine r_icmp_gt_t 58 (ck DX6_first_0 16 rfl) (by decide) c6 ?_
      refine r_bipush 60 rfl bp_m5 (ck DX6_first_0 31 rfl) ?_
      obtain ⟨rfl, rfl⟩ := so2 hf
      exact r_iret rfl rfl (ck DX6_first_0 32 rfl)
    · refine r_icmp_gt_f 30 rfl 58 (ck DX6_first_0 16 rfl) (by decide) c6 ?_
      refine r_aload_n 31 rfl 0 rfl rfl (ck DX6_first_0 17 rfl) ?_
      refine r_getr (q := 22) 34 rfl (lq_6_2) sh_0 kd_6_2 fl_X6_26 (ck DX6_first_0 18 rfl) ?_
      obtain ⟨v9, g7, e8, hf⟩ := bd_so hf
      refine r_callVi 37 rfl (A_X1_dayGoes X 22 dk_22 h v9 g7 e8) (by omega) cw_X6_182 sh_22 cl_1 rfl rfl (Nat.le_of_ble_eq_true rfl) (ck DX6_first_0 19 rfl) ?_
      refine r_istore_n (lv' := [(3, .int v9), (0, .ref (X.1 0)), (1, .int x1), (2, .int x2)]) 38 rfl (ck DX6_first_0 20 rfl) (by decide) rfl rfl ?_
      refine r_iload_n 39 rfl 0 rfl rfl (ck DX6_first_0 21 rfl) ?_
      rcases if_so hf with ⟨c10, hf⟩ | ⟨c10, hf⟩
      · refine r_if_lt_t 52 (ck DX6_first_0 22 rfl) (by decide) c10 ?_
        obtain ⟨v11, e12, hf⟩ := lt_so hf
        refine r_iinc (lv' := [(2, .int v11), (3, .int v9), (0, .ref (X.1 0)), (1, .int x1)]) 55 rfl 3 (ck DX6_first_0 29 rfl) rfl (by rw [e12, ic_1]) (by decide) rfl ?_
        refine r_goto 24 (ck DX6_first_0 30 rfl) (by decide) ?_
        refine r_sub (lv' := [(0, .ref (X.1 0)), (1, .int x1), (2, .int v11)]) [2, 3, 0] rfl ?_
        exact ih x1 v11 g7 hf
      · refine r_if_lt_f 42 rfl 52 (ck DX6_first_0 22 rfl) (by decide) c10 ?_
        refine r_iload_n 43 rfl 2 rfl rfl (ck DX6_first_0 23 rfl) ?_
        rcases if_so hf with ⟨c13, hf⟩ | ⟨c13, hf⟩
        · refine r_if_ne_t 46 rfl 50 (ck DX6_first_0 24 rfl) (by decide) c13 ?_
          refine r_iload_n 47 rfl 3 rfl rfl (ck DX6_first_0 25 rfl) ?_
          refine r_goto 51 (ck DX6_first_0 26 rfl) (by decide) ?_
          obtain ⟨rfl, rfl⟩ := so2 hf
          exact r_iret rfl rfl (ck DX6_first_0 28 rfl)
        · refine r_if_ne_f 50 (ck DX6_first_0 24 rfl) (by decide) c13 ?_
          refine r_iload_n 51 rfl 0 rfl rfl (ck DX6_first_0 27 rfl) ?_
          obtain ⟨rfl, rfl⟩ := so2 hf
          exact r_iret rfl rfl (ck DX6_first_0 28 rfl)
def f_X6_first (x1 : Int32) (h : HP) : Option (Int32 × HP) := bo (f_X6_within x1 0 1) fun v1 => if v1 = 0 then (some ((-1), h)) else (bo (f_X1_startFrom 22 6 h) fun g4 => f_X6_first_L24 FZ x1 0 g4)
set_option maxHeartbeats 4000000 in
set_option maxRecDepth 100000 in
theorem A_X6_first (X : XE) (x1 : Int32) (h : HP) (r : Int32) (h' : HP) (hf : f_X6_first x1 h = some (r, h')) : CC mX6_first 5 X [.ref (X.1 0), .int x1] h (some (.int r)) h' := by
  refine CC_of rfl (Nat.le_of_ble_eq_true rfl) ?_
  show Run mX6_first 5 X 0 [(0, .ref (X.1 0)), (1, .int x1)] [] h (some (.int r)) h'
  unfold f_X6_first at hf
  refine r_iload_n 1 rfl 1 rfl rfl (ck DX6_first_0 0 rfl) ?_
  refine r_iconst 2 rfl ic_0 (ck DX6_first_0 1 rfl) ?_
  refine r_iconst 3 rfl ic_1 (ck DX6_first_0 2 rfl) ?_
  obtain ⟨v1, e2, hf⟩ := bo_so hf
  refine r_callSi 6 rfl (A_X6_within X x1 0 1 h v1 e2) (by omega) cs_X6_78 rfl rfl (Nat.le_of_ble_eq_true rfl) (ck DX6_first_0 3 rfl) ?_
  rcases if_so hf with ⟨c3, hf⟩ | ⟨c3, hf⟩
  · refine r_if_ne_t 9 rfl 11 (ck DX6_first_0 4 rfl) (by decide) c3 ?_
    refine r_iconst 10 rfl ic_m1 (ck DX6_first_0 5 rfl) ?_
    obtain ⟨rfl, rfl⟩ := so2 hf
    exact r_iret rfl rfl (ck DX6_first_0 6 rfl)
  · refine r_if_ne_f 11 (ck DX6_first_0 4 rfl) (by decide) c3 ?_
    refine r_aload_n 12 rfl 0 rfl rfl (ck DX6_first_0 7 rfl) ?_
    refine r_getr (q := 22) 15 rfl (lq_6_2) sh_0 kd_6_2 fl_X6_26 (ck DX6_first_0 8 rfl) ?_
    refine r_aload_n 16 rfl 0 rfl rfl (ck DX6_first_0 9 rfl) ?_
    refine r_getr (q := 6) 19 rfl (lq_6_0) sh_0 kd_6_0 fl_X6_17 (ck DX6_first_0 10 rfl) ?_
    obtain ⟨g4, e5, hf⟩ := bo_so hf
    refine r_callVv 22 rfl (A_X1_startFrom X 22 dk_22 6 dk_6 h g4 e5) (by omega) cw_X6_185 sh_22 cl_1 rfl rfl (Nat.le_of_ble_eq_true rfl) (ck DX6_first_0 11 rfl) ?_
    refine r_iconst 23 rfl ic_0 (ck DX6_first_0 12 rfl) ?_
    refine r_istore_n (lv' := [(2, .int 0), (0, .ref (X.1 0)), (1, .int x1)]) 24 rfl (ck DX6_first_0 13 rfl) (by decide) rfl rfl ?_
    refine r_sub (lv' := [(0, .ref (X.1 0)), (1, .int x1), (2, .int 0)]) [1, 2, 0] rfl ?_
    exact A_X6_first_L24 X _ _ FZ x1 0 g4 hf
-- X6_port
def f_X6_port_L27 : Nat → Int32 → Int32 → HP → Option (Int32 × HP)
  | 0, _, _, _ => none
  | n + 1, x1, x2, h => if (99 : Int32) < x2 then (some ((-5), h)) else (if (h.1 22 11) < x1 then (bd (f_X1_dayGoes 22 h) fun v10 g8 => lt (x2 + 1 : Int32) fun v11 => f_X6_port_L27 n x1 v11 g8) else (some (x2, h)))
set_option maxHeartbeats 4000000 in
set_option maxRecDepth 100000 in
theorem A_X6_port_L27 (X : XE) (r : Int32) (h' : HP) : ∀ (n : Nat) (x1 : Int32) (x2 : Int32) (h : HP), f_X6_port_L27 n x1 x2 h = some (r, h') → Run mX6_port 5 X 27 [(0, .ref (X.1 0)), (1, .int x1), (2, .int x2)] [] h (some (.int r)) h' := by
  intro n
  induction n with
  | zero => intro x1 x2 h hf; cases hf
  | succ n ih =>
    intro x1 x2 h hf
    rw [f_X6_port_L27] at hf
    refine r_iload_n 28 rfl 2 rfl rfl (ck DX6_port_0 14 rfl) ?_
    refine r_bipush 30 rfl bp_99 (ck DX6_port_0 15 rfl) ?_
    rcases if_so hf with ⟨c6, hf⟩ | ⟨c6, hf⟩
    · refine r_icmp_gt_t 60 (ck DX6_port_0 16 rfl) (by decide) c6 ?_
      refine r_bipush 62 rfl bp_m5 (ck DX6_port_0 30 rfl) ?_
      obtain ⟨rfl, rfl⟩ := so2 hf
      exact r_iret rfl rfl (ck DX6_port_0 31 rfl)
    · refine r_icmp_gt_f 33 rfl 60 (ck DX6_port_0 16 rfl) (by decide) c6 ?_
      refine r_aload_n 34 rfl 0 rfl rfl (ck DX6_port_0 17 rfl) ?_
      refine r_getr (q := 22) 37 rfl (lq_6_2) sh_0 kd_6_2 fl_X6_26 (ck DX6_port_0 18 rfl) ?_
      refine r_geti 40 rfl sh_22 kd_1_11 fl_X6_169 (ck DX6_port_0 19 rfl) ?_
      refine r_iload_n 41 rfl 1 rfl rfl (ck DX6_port_0 20 rfl) ?_
      rcases if_so hf with ⟨c7, hf⟩ | ⟨c7, hf⟩
      · refine r_icmp_lt_t 46 (ck DX6_port_0 21 rfl) (by decide) c7 ?_
        refine r_aload_n 47 rfl 0 rfl rfl (ck DX6_port_0 24 rfl) ?_
        refine r_getr (q := 22) 50 rfl (lq_6_2) sh_0 kd_6_2 fl_X6_26 (ck DX6_port_0 25 rfl) ?_
        obtain ⟨v10, g8, e9, hf⟩ := bd_so hf
        refine r_callVi 53 rfl (A_X1_dayGoes X 22 dk_22 h v10 g8 e9) (by omega) cw_X6_182 sh_22 cl_1 rfl rfl (Nat.le_of_ble_eq_true rfl) (ck DX6_port_0 26 rfl) ?_
        refine r_pop 54 rfl rfl (ck DX6_port_0 27 rfl) ?_
        obtain ⟨v11, e12, hf⟩ := lt_so hf
        refine r_iinc (lv' := [(2, .int v11), (0, .ref (X.1 0)), (1, .int x1)]) 57 rfl 2 (ck DX6_port_0 28 rfl) rfl (by rw [e12, ic_1]) (by decide) rfl ?_
        refine r_goto 27 (ck DX6_port_0 29 rfl) (by decide) ?_
        refine r_sub (lv' := [(0, .ref (X.1 0)), (1, .int x1), (2, .int v11)]) [1, 2, 0] rfl ?_
        exact ih x1 v11 g8 hf
      · refine r_icmp_lt_f 44 rfl 46 (ck DX6_port_0 21 rfl) (by decide) c7 ?_
        refine r_iload_n 45 rfl 2 rfl rfl (ck DX6_port_0 22 rfl) ?_
        obtain ⟨rfl, rfl⟩ := so2 hf
        exact r_iret rfl rfl (ck DX6_port_0 23 rfl)
def f_X6_port (x1 : Int32) (h : HP) : Option (Int32 × HP) := bo (f_X6_within x1 0 9999) fun v1 => if v1 = 0 then (some ((-2), h)) else (bo (f_X1_startFrom 22 6 h) fun g4 => f_X6_port_L27 FZ x1 0 g4)
set_option maxHeartbeats 4000000 in
set_option maxRecDepth 100000 in
theorem A_X6_port (X : XE) (x1 : Int32) (h : HP) (r : Int32) (h' : HP) (hf : f_X6_port x1 h = some (r, h')) : CC mX6_port 5 X [.ref (X.1 0), .int x1] h (some (.int r)) h' := by
  refine CC_of rfl (Nat.le_of_ble_eq_true rfl) ?_
  show Run mX6_port 5 X 0 [(0, .ref (X.1 0)), (1, .int x1)] [] h (some (.int r)) h'
  unfold f_X6_port at hf
  refine r_iload_n 1 rfl 1 rfl rfl (ck DX6_port_0 0 rfl) ?_
  refine r_iconst 2 rfl ic_0 (ck DX6_port_0 1 rfl) ?_
  refine r_sipush 5 rfl sp_9999 (ck DX6_port_0 2 rfl) ?_
  obtain ⟨v1, e2, hf⟩ := bo_so hf
  refine r_callSi 8 rfl (A_X6_within X x1 0 9999 h v1 e2) (by omega) cs_X6_78 rfl rfl (Nat.le_of_ble_eq_true rfl) (ck DX6_port_0 3 rfl) ?_
  rcases if_so hf with ⟨c3, hf⟩ | ⟨c3, hf⟩
  · refine r_if_ne_t 11 rfl 14 (ck DX6_port_0 4 rfl) (by decide) c3 ?_
    refine r_bipush 13 rfl bp_m2 (ck DX6_port_0 5 rfl) ?_
    obtain ⟨rfl, rfl⟩ := so2 hf
    exact r_iret rfl rfl (ck DX6_port_0 6 rfl)
  · refine r_if_ne_f 14 (ck DX6_port_0 4 rfl) (by decide) c3 ?_
    refine r_aload_n 15 rfl 0 rfl rfl (ck DX6_port_0 7 rfl) ?_
    refine r_getr (q := 22) 18 rfl (lq_6_2) sh_0 kd_6_2 fl_X6_26 (ck DX6_port_0 8 rfl) ?_
    refine r_aload_n 19 rfl 0 rfl rfl (ck DX6_port_0 9 rfl) ?_
    refine r_getr (q := 6) 22 rfl (lq_6_0) sh_0 kd_6_0 fl_X6_17 (ck DX6_port_0 10 rfl) ?_
    obtain ⟨g4, e5, hf⟩ := bo_so hf
    refine r_callVv 25 rfl (A_X1_startFrom X 22 dk_22 6 dk_6 h g4 e5) (by omega) cw_X6_185 sh_22 cl_1 rfl rfl (Nat.le_of_ble_eq_true rfl) (ck DX6_port_0 11 rfl) ?_
    refine r_iconst 26 rfl ic_0 (ck DX6_port_0 12 rfl) ?_
    refine r_istore_n (lv' := [(2, .int 0), (0, .ref (X.1 0)), (1, .int x1)]) 27 rfl (ck DX6_port_0 13 rfl) (by decide) rfl rfl ?_
    refine r_sub (lv' := [(0, .ref (X.1 0)), (1, .int x1), (2, .int 0)]) [1, 2, 0] rfl ?_
    exact A_X6_port_L27 X _ _ FZ x1 0 g4 hf
-- X6_spread
def f_X6_spread_L34 (rc6 : Int32 → Int32 → Int32 → HP → Option (Int32 × HP)) : Nat → Int32 → Int32 → Int32 → Int32 → HP → Option (Int32 × HP)
  | 0, _, _, _, _, _ => none
  | n + 1, x1, x2, x3, x4, h => if (30 : Int32) ≤ x4 then (if (h.1 22 11) ≤ x1 then (lt (x3 + 1 : Int32) fun v8 => rc6 x1 x2 v8 h) else (lt ((h.1 22 11) : Int32) fun v10 => lt (x3 + 1 : Int32) fun v12 => rc6 v10 x3 v12 h)) else (bd (f_X1_dayGoes 22 h) fun v16 g14 => lt (x4 + 1 : Int32) fun v17 => f_X6_spread_L34 rc6 n x1 x2 x3 v17 g14)
set_option maxHeartbeats 4000000 in
set_option maxRecDepth 100000 in
theorem A_X6_spread_L34 (X : XE) (rc6 : Int32 → Int32 → Int32 → HP → Option (Int32 × HP)) (r : Int32) (h' : HP) (hr6 : ∀ (x1 : Int32) (x2 : Int32) (x3 : Int32) (h : HP), rc6 x1 x2 x3 h = some (r, h') → Run mX6_spread 5 X 6 [(0, .ref (X.1 0)), (1, .int x1), (2, .int x2), (3, .int x3)] [] h (some (.int r)) h') : ∀ (n : Nat) (x1 : Int32) (x2 : Int32) (x3 : Int32) (x4 : Int32) (h : HP), f_X6_spread_L34 rc6 n x1 x2 x3 x4 h = some (r, h') → Run mX6_spread 5 X 34 [(0, .ref (X.1 0)), (1, .int x1), (2, .int x2), (3, .int x3), (4, .int x4)] [] h (some (.int r)) h' := by
  intro n
  induction n with
  | zero => intro x1 x2 x3 x4 h hf; cases hf
  | succ n ih =>
    intro x1 x2 x3 x4 h hf
    rw [f_X6_spread_L34] at hf
    refine r_iload 36 rfl 4 rfl (ck DX6_spread_0 20 rfl) ?_
    refine r_bipush 38 rfl bp_30 (ck DX6_spread_0 21 rfl) ?_
    rcases if_so hf with ⟨c6, hf⟩ | ⟨c6, hf⟩
    · refine r_icmp_ge_t 55 (ck DX6_spread_0 22 rfl) (by decide) c6 ?_
      refine r_aload_n 56 rfl 0 rfl rfl (ck DX6_spread_0 29 rfl) ?_
      refine r_getr (q := 22) 59 rfl (lq_6_2) sh_0 kd_6_2 fl_X6_26 (ck DX6_spread_0 30 rfl) ?_
      refine r_geti 62 rfl sh_22 kd_1_11 fl_X6_169 (ck DX6_spread_0 31 rfl) ?_
      refine r_iload_n 63 rfl 1 rfl rfl (ck DX6_spread_0 32 rfl) ?_
      rcases if_so hf with ⟨c7, hf⟩ | ⟨c7, hf⟩
      · refine r_icmp_le_t 76 (ck DX6_spread_0 33 rfl) (by decide) c7 ?_
        obtain ⟨v8, e9, hf⟩ := lt_so hf
        refine r_iinc (lv' := [(3, .int v8), (0, .ref (X.1 0)), (1, .int x1), (2, .int x2), (4, .int x4)]) 79 rfl 3 (ck DX6_spread_0 40 rfl) rfl (by rw [e9, ic_1]) (by decide) rfl ?_
        refine r_goto 6 (ck DX6_spread_0 41 rfl) (by decide) ?_
        refine r_sub (lv' := [(0, .ref (X.1 0)), (1, .int x1), (2, .int x2), (3, .int v8)]) [1, 2, 3, 0] rfl ?_
        exact hr6 x1 x2 v8 h hf
      · refine r_icmp_le_f 66 rfl 76 (ck DX6_spread_0 33 rfl) (by decide) c7 ?_
        refine r_aload_n 67 rfl 0 rfl rfl (ck DX6_spread_0 34 rfl) ?_
        refine r_getr (q := 22) 70 rfl (lq_6_2) sh_0 kd_6_2 fl_X6_26 (ck DX6_spread_0 35 rfl) ?_
        refine r_geti 73 rfl sh_22 kd_1_11 fl_X6_169 (ck DX6_spread_0 36 rfl) ?_
        obtain ⟨v10, e11, hf⟩ := lt_so hf
        refine r_top e11 ?_
        refine r_istore_n (lv' := [(1, .int v10), (0, .ref (X.1 0)), (2, .int x2), (3, .int x3), (4, .int x4)]) 74 rfl (ck DX6_spread_0 37 rfl) (by decide) rfl rfl ?_
        refine r_iload_n 75 rfl 3 rfl rfl (ck DX6_spread_0 38 rfl) ?_
        refine r_istore_n (lv' := [(2, .int x3), (1, .int v10), (0, .ref (X.1 0)), (3, .int x3), (4, .int x4)]) 76 rfl (ck DX6_spread_0 39 rfl) (by decide) rfl rfl ?_
        obtain ⟨v12, e13, hf⟩ := lt_so hf
        refine r_iinc (lv' := [(3, .int v12), (2, .int x3), (1, .int v10), (0, .ref (X.1 0)), (4, .int x4)]) 79 rfl 3 (ck DX6_spread_0 40 rfl) rfl (by rw [e13, ic_1]) (by decide) rfl ?_
        refine r_goto 6 (ck DX6_spread_0 41 rfl) (by decide) ?_
        refine r_sub (lv' := [(0, .ref (X.1 0)), (1, .int v10), (2, .int x3), (3, .int v12)]) [3, 2, 1, 0] rfl ?_
        exact hr6 v10 x3 v12 h hf
    · refine r_icmp_ge_f 41 rfl 55 (ck DX6_spread_0 22 rfl) (by decide) c6 ?_
      refine r_aload_n 42 rfl 0 rfl rfl (ck DX6_spread_0 23 rfl) ?_
      refine r_getr (q := 22) 45 rfl (lq_6_2) sh_0 kd_6_2 fl_X6_26 (ck DX6_spread_0 24 rfl) ?_
      obtain ⟨v16, g14, e15, hf⟩ := bd_so hf
      refine r_callVi 48 rfl (A_X1_dayGoes X 22 dk_22 h v16 g14 e15) (by omega) cw_X6_182 sh_22 cl_1 rfl rfl (Nat.le_of_ble_eq_true rfl) (ck DX6_spread_0 25 rfl) ?_
      refine r_pop 49 rfl rfl (ck DX6_spread_0 26 rfl) ?_
      obtain ⟨v17, e18, hf⟩ := lt_so hf
      refine r_iinc (lv' := [(4, .int v17), (0, .ref (X.1 0)), (1, .int x1), (2, .int x2), (3, .int x3)]) 52 rfl 4 (ck DX6_spread_0 27 rfl) rfl (by rw [e18, ic_1]) (by decide) rfl ?_
      refine r_goto 34 (ck DX6_spread_0 28 rfl) (by decide) ?_
      refine r_sub (lv' := [(0, .ref (X.1 0)), (1, .int x1), (2, .int x2), (3, .int x3), (4, .int v17)]) [1, 2, 3, 4, 0] rfl ?_
      exact ih x1 x2 x3 v17 g14 hf
def f_X6_spread_L6 : Nat → Int32 → Int32 → Int32 → HP → Option (Int32 × HP)
  | 0, _, _, _, _ => none
  | n + 1, x1, x2, x3, h => if (9 : Int32) < x3 then (some (x2, h)) else (bo (f_X1_startFrom 22 6 h) fun g2 => lt (si g2 22 9 x3) fun g4 => f_X6_spread_L34 (fun z0 z1 z2 z3 => f_X6_spread_L6 n z0 z1 z2 z3) FZ x1 x2 x3 0 g4)
set_option maxHeartbeats 4000000 in
set_option maxRecDepth 100000 in
theorem A_X6_spread_L6 (X : XE) (r : Int32) (h' : HP) : ∀ (n : Nat) (x1 : Int32) (x2 : Int32) (x3 : Int32) (h : HP), f_X6_spread_L6 n x1 x2 x3 h = some (r, h') → Run mX6_spread 5 X 6 [(0, .ref (X.1 0)), (1, .int x1), (2, .int x2), (3, .int x3)] [] h (some (.int r)) h' := by
  intro n
  induction n with
  | zero => intro x1 x2 x3 h hf; cases hf
  | succ n ih =>
    intro x1 x2 x3 h hf
    rw [f_X6_spread_L6] at hf
    refine r_iload_n 7 rfl 3 rfl rfl (ck DX6_spread_0 6 rfl) ?_
    refine r_bipush 9 rfl bp_9 (ck DX6_spread_0 7 rfl) ?_
    rcases if_so hf with ⟨c1, hf⟩ | ⟨c1, hf⟩
    · refine r_icmp_gt_t 82 (ck DX6_spread_0 8 rfl) (by decide) c1 ?_
      refine r_iload_n 83 rfl 2 rfl rfl (ck DX6_spread_0 42 rfl) ?_
      obtain ⟨rfl, rfl⟩ := so2 hf
      exact r_iret rfl rfl (ck DX6_spread_0 43 rfl)
    · refine r_icmp_gt_f 12 rfl 82 (ck DX6_spread_0 8 rfl) (by decide) c1 ?_
      refine r_aload_n 13 rfl 0 rfl rfl (ck DX6_spread_0 9 rfl) ?_
      refine r_getr (q := 22) 16 rfl (lq_6_2) sh_0 kd_6_2 fl_X6_26 (ck DX6_spread_0 10 rfl) ?_
      refine r_aload_n 17 rfl 0 rfl rfl (ck DX6_spread_0 11 rfl) ?_
      refine r_getr (q := 6) 20 rfl (lq_6_0) sh_0 kd_6_0 fl_X6_17 (ck DX6_spread_0 12 rfl) ?_
      obtain ⟨g2, e3, hf⟩ := bo_so hf
      refine r_callVv 23 rfl (A_X1_startFrom X 22 dk_22 6 dk_6 h g2 e3) (by omega) cw_X6_185 sh_22 cl_1 rfl rfl (Nat.le_of_ble_eq_true rfl) (ck DX6_spread_0 13 rfl) ?_
      refine r_aload_n 24 rfl 0 rfl rfl (ck DX6_spread_0 14 rfl) ?_
      refine r_getr (q := 22) 27 rfl (lq_6_2) sh_0 kd_6_2 fl_X6_26 (ck DX6_spread_0 15 rfl) ?_
      refine r_iload_n 28 rfl 3 rfl rfl (ck DX6_spread_0 16 rfl) ?_
      obtain ⟨g4, e5, hf⟩ := lt_so hf
      refine r_puti 31 rfl sh_22 kd_1_9 fw_X6_140 rfl rfl (ck DX6_spread_0 17 rfl) ?_
      refine r_heap e5 ?_
      refine r_iconst 32 rfl ic_0 (ck DX6_spread_0 18 rfl) ?_
      refine r_istore (lv' := [(4, .int 0), (0, .ref (X.1 0)), (1, .int x1), (2, .int x2), (3, .int x3)]) 34 rfl (ck DX6_spread_0 19 rfl) (by decide) rfl ?_
      refine r_sub (lv' := [(0, .ref (X.1 0)), (1, .int x1), (2, .int x2), (3, .int x3), (4, .int 0)]) [1, 2, 3, 4, 0] rfl ?_
      exact A_X6_spread_L34 X (fun z0 z1 z2 z3 => f_X6_spread_L6 n z0 z1 z2 z3) _ _ ih FZ x1 x2 x3 0 g4 hf
def f_X6_spread (h : HP) : Option (Int32 × HP) := f_X6_spread_L6 FZ (-1) 0 0 h
set_option maxHeartbeats 4000000 in
set_option maxRecDepth 100000 in
theorem A_X6_spread (X : XE) (h : HP) (r : Int32) (h' : HP) (hf : f_X6_spread h = some (r, h')) : CC mX6_spread 5 X [.ref (X.1 0)] h (some (.int r)) h' := by
  refine CC_of rfl (Nat.le_of_ble_eq_true rfl) ?_
  show Run mX6_spread 5 X 0 [(0, .ref (X.1 0))] [] h (some (.int r)) h'
  unfold f_X6_spread at hf
  refine r_iconst 1 rfl ic_m1 (ck DX6_spread_0 0 rfl) ?_
  refine r_istore_n (lv' := [(1, .int (-1)), (0, .ref (X.1 0))]) 2 rfl (ck DX6_spread_0 1 rfl) (by decide) rfl rfl ?_
  refine r_iconst 3 rfl ic_0 (ck DX6_spread_0 2 rfl) ?_
  refine r_istore_n (lv' := [(2, .int 0), (1, .int (-1)), (0, .ref (X.1 0))]) 4 rfl (ck DX6_spread_0 3 rfl) (by decide) rfl rfl ?_
  refine r_iconst 5 rfl ic_0 (ck DX6_spread_0 4 rfl) ?_
  refine r_istore_n (lv' := [(3, .int 0), (2, .int 0), (1, .int (-1)), (0, .ref (X.1 0))]) 6 rfl (ck DX6_spread_0 5 rfl) (by decide) rfl rfl ?_
  refine r_sub (lv' := [(0, .ref (X.1 0)), (1, .int (-1)), (2, .int 0), (3, .int 0)]) [3, 2, 1, 0] rfl ?_
  exact A_X6_spread_L6 X _ _ FZ (-1) 0 0 h hf
-- X6_fewest
def f_X6_fewest_L15 : Nat → Int32 → Int32 → HP → Option (Int32 × HP)
  | 0, _, _, _ => none
  | n + 1, x1, x2, h => if (9 : Int32) < x2 then (some ((-5), h)) else (bo (f_X1_startFrom 22 6 h) fun g5 => lt (si g5 22 10 x2) fun g7 => bd (f_X1_nothingBreaksIn 22 x1 g7) fun v11 g9 => if v11 = 0 then (lt (x2 + 1 : Int32) fun v13 => f_X6_fewest_L15 n x1 v13 g9) else (some (x2, g9)))
set_option maxHeartbeats 4000000 in
set_option maxRecDepth 100000 in
theorem A_X6_fewest_L15 (X : XE) (r : Int32) (h' : HP) : ∀ (n : Nat) (x1 : Int32) (x2 : Int32) (h : HP), f_X6_fewest_L15 n x1 x2 h = some (r, h') → Run mX6_fewest 6 X 15 [(0, .ref (X.1 0)), (1, .int x1), (2, .int x2)] [] h (some (.int r)) h' := by
  intro n
  induction n with
  | zero => intro x1 x2 h hf; cases hf
  | succ n ih =>
    intro x1 x2 h hf
    rw [f_X6_fewest_L15] at hf
    refine r_iload_n 16 rfl 2 rfl rfl (ck DX6_fewest_0 9 rfl) ?_
    refine r_bipush 18 rfl bp_9 (ck DX6_fewest_0 10 rfl) ?_
    rcases if_so hf with ⟨c4, hf⟩ | ⟨c4, hf⟩
    · refine r_icmp_gt_t 59 (ck DX6_fewest_0 11 rfl) (by decide) c4 ?_
      refine r_bipush 61 rfl bp_m5 (ck DX6_fewest_0 30 rfl) ?_
      obtain ⟨rfl, rfl⟩ := so2 hf
      exact r_iret rfl rfl (ck DX6_fewest_0 31 rfl)
    · refine r_icmp_gt_f 21 rfl 59 (ck DX6_fewest_0 11 rfl) (by decide) c4 ?_
      refine r_aload_n 22 rfl 0 rfl rfl (ck DX6_fewest_0 12 rfl) ?_
      refine r_getr (q := 22) 25 rfl (lq_6_2) sh_0 kd_6_2 fl_X6_26 (ck DX6_fewest_0 13 rfl) ?_
      refine r_aload_n 26 rfl 0 rfl rfl (ck DX6_fewest_0 14 rfl) ?_
      refine r_getr (q := 6) 29 rfl (lq_6_0) sh_0 kd_6_0 fl_X6_17 (ck DX6_fewest_0 15 rfl) ?_
      obtain ⟨g5, e6, hf⟩ := bo_so hf
      refine r_callVv 32 rfl (A_X1_startFrom X 22 dk_22 6 dk_6 h g5 e6) (by omega) cw_X6_185 sh_22 cl_1 rfl rfl (Nat.le_of_ble_eq_true rfl) (ck DX6_fewest_0 16 rfl) ?_
      refine r_aload_n 33 rfl 0 rfl rfl (ck DX6_fewest_0 17 rfl) ?_
      refine r_getr (q := 22) 36 rfl (lq_6_2) sh_0 kd_6_2 fl_X6_26 (ck DX6_fewest_0 18 rfl) ?_
      refine r_iload_n 37 rfl 2 rfl rfl (ck DX6_fewest_0 19 rfl) ?_
      obtain ⟨g7, e8, hf⟩ := lt_so hf
      refine r_puti 40 rfl sh_22 kd_1_10 fw_X6_143 rfl rfl (ck DX6_fewest_0 20 rfl) ?_
      refine r_heap e8 ?_
      refine r_aload_n 41 rfl 0 rfl rfl (ck DX6_fewest_0 21 rfl) ?_
      refine r_getr (q := 22) 44 rfl (lq_6_2) sh_0 kd_6_2 fl_X6_26 (ck DX6_fewest_0 22 rfl) ?_
      refine r_iload_n 45 rfl 1 rfl rfl (ck DX6_fewest_0 23 rfl) ?_
      obtain ⟨v11, g9, e10, hf⟩ := bd_so hf
      refine r_callVi 48 rfl (A_X1_nothingBreaksIn X 22 dk_22 x1 g7 v11 g9 e10) (by omega) cw_X6_189 sh_22 cl_1 rfl rfl (Nat.le_of_ble_eq_true rfl) (ck DX6_fewest_0 24 rfl) ?_
      rcases if_so hf with ⟨c12, hf⟩ | ⟨c12, hf⟩
      · refine r_if_eq_t 53 (ck DX6_fewest_0 25 rfl) (by decide) c12 ?_
        obtain ⟨v13, e14, hf⟩ := lt_so hf
        refine r_iinc (lv' := [(2, .int v13), (0, .ref (X.1 0)), (1, .int x1)]) 56 rfl 2 (ck DX6_fewest_0 28 rfl) rfl (by rw [e14, ic_1]) (by decide) rfl ?_
        refine r_goto 15 (ck DX6_fewest_0 29 rfl) (by decide) ?_
        refine r_sub (lv' := [(0, .ref (X.1 0)), (1, .int x1), (2, .int v13)]) [1, 2, 0] rfl ?_
        exact ih x1 v13 g9 hf
      · refine r_if_eq_f 51 rfl 53 (ck DX6_fewest_0 25 rfl) (by decide) c12 ?_
        refine r_iload_n 52 rfl 2 rfl rfl (ck DX6_fewest_0 26 rfl) ?_
        obtain ⟨rfl, rfl⟩ := so2 hf
        exact r_iret rfl rfl (ck DX6_fewest_0 27 rfl)
def f_X6_fewest (x1 : Int32) (h : HP) : Option (Int32 × HP) := bo (f_X6_within x1 1 30) fun v1 => if v1 = 0 then (some ((-2), h)) else (f_X6_fewest_L15 FZ x1 0 h)
set_option maxHeartbeats 4000000 in
set_option maxRecDepth 100000 in
theorem A_X6_fewest (X : XE) (x1 : Int32) (h : HP) (r : Int32) (h' : HP) (hf : f_X6_fewest x1 h = some (r, h')) : CC mX6_fewest 6 X [.ref (X.1 0), .int x1] h (some (.int r)) h' := by
  refine CC_of rfl (Nat.le_of_ble_eq_true rfl) ?_
  show Run mX6_fewest 6 X 0 [(0, .ref (X.1 0)), (1, .int x1)] [] h (some (.int r)) h'
  unfold f_X6_fewest at hf
  refine r_iload_n 1 rfl 1 rfl rfl (ck DX6_fewest_0 0 rfl) ?_
  refine r_iconst 2 rfl ic_1 (ck DX6_fewest_0 1 rfl) ?_
  refine r_bipush 4 rfl bp_30 (ck DX6_fewest_0 2 rfl) ?_
  obtain ⟨v1, e2, hf⟩ := bo_so hf
  refine r_callSi 7 rfl (A_X6_within X x1 1 30 h v1 e2) (by omega) cs_X6_78 rfl rfl (Nat.le_of_ble_eq_true rfl) (ck DX6_fewest_0 3 rfl) ?_
  rcases if_so hf with ⟨c3, hf⟩ | ⟨c3, hf⟩
  · refine r_if_ne_t 10 rfl 13 (ck DX6_fewest_0 4 rfl) (by decide) c3 ?_
    refine r_bipush 12 rfl bp_m2 (ck DX6_fewest_0 5 rfl) ?_
    obtain ⟨rfl, rfl⟩ := so2 hf
    exact r_iret rfl rfl (ck DX6_fewest_0 6 rfl)
  · refine r_if_ne_f 13 (ck DX6_fewest_0 4 rfl) (by decide) c3 ?_
    refine r_iconst 14 rfl ic_0 (ck DX6_fewest_0 7 rfl) ?_
    refine r_istore_n (lv' := [(2, .int 0), (0, .ref (X.1 0)), (1, .int x1)]) 15 rfl (ck DX6_fewest_0 8 rfl) (by decide) rfl rfl ?_
    refine r_sub (lv' := [(0, .ref (X.1 0)), (1, .int x1), (2, .int 0)]) [1, 2, 0] rfl ?_
    exact A_X6_fewest_L15 X _ _ FZ x1 0 h hf
-- X6_worth
def f_X6_worth_L59 : Nat → Int32 → HP → Option (Int32 × HP)
  | 0, _, _ => none
  | n + 1, x3, h => if (10 : Int32) ≤ x3 then (some ((h.1 22 11), h)) else (bd (f_X1_dayGoes 22 h) fun v18 g16 => lt (x3 + 1 : Int32) fun v19 => f_X6_worth_L59 n v19 g16)
set_option maxHeartbeats 4000000 in
set_option maxRecDepth 100000 in
theorem A_X6_worth_L59 (X : XE) (r : Int32) (h' : HP) : ∀ (n : Nat) (x3 : Int32) (h : HP), f_X6_worth_L59 n x3 h = some (r, h') → Run mX6_worth 5 X 59 [(0, .ref (X.1 0)), (3, .int x3)] [] h (some (.int r)) h' := by
  intro n
  induction n with
  | zero => intro x3 h hf; cases hf
  | succ n ih =>
    intro x3 h hf
    rw [f_X6_worth_L59] at hf
    refine r_iload_n 60 rfl 1 rfl rfl (ck DX6_worth_0 29 rfl) ?_
    refine r_bipush 62 rfl bp_10 (ck DX6_worth_0 30 rfl) ?_
    rcases if_so hf with ⟨c15, hf⟩ | ⟨c15, hf⟩
    · refine r_icmp_ge_t 79 (ck DX6_worth_0 31 rfl) (by decide) c15 ?_
      refine r_aload_n 80 rfl 0 rfl rfl (ck DX6_worth_0 38 rfl) ?_
      refine r_getr (q := 22) 83 rfl (lq_6_2) sh_0 kd_6_2 fl_X6_26 (ck DX6_worth_0 39 rfl) ?_
      refine r_geti 86 rfl sh_22 kd_1_11 fl_X6_169 (ck DX6_worth_0 40 rfl) ?_
      obtain ⟨rfl, rfl⟩ := so2 hf
      exact r_iret rfl rfl (ck DX6_worth_0 41 rfl)
    · refine r_icmp_ge_f 65 rfl 79 (ck DX6_worth_0 31 rfl) (by decide) c15 ?_
      refine r_aload_n 66 rfl 0 rfl rfl (ck DX6_worth_0 32 rfl) ?_
      refine r_getr (q := 22) 69 rfl (lq_6_2) sh_0 kd_6_2 fl_X6_26 (ck DX6_worth_0 33 rfl) ?_
      obtain ⟨v18, g16, e17, hf⟩ := bd_so hf
      refine r_callVi 72 rfl (A_X1_dayGoes X 22 dk_22 h v18 g16 e17) (by omega) cw_X6_182 sh_22 cl_1 rfl rfl (Nat.le_of_ble_eq_true rfl) (ck DX6_worth_0 34 rfl) ?_
      refine r_pop 73 rfl rfl (ck DX6_worth_0 35 rfl) ?_
      obtain ⟨v19, e20, hf⟩ := lt_so hf
      refine r_iinc (lv' := [(3, .int v19), (0, .ref (X.1 0))]) 76 rfl 1 (ck DX6_worth_0 36 rfl) rfl (by rw [e20, ic_1]) (by decide) rfl ?_
      refine r_goto 59 (ck DX6_worth_0 37 rfl) (by decide) ?_
      refine r_sub (lv' := [(0, .ref (X.1 0)), (3, .int v19)]) [1, 0] rfl ?_
      exact ih v19 g16 hf
def f_X6_worth_L106 : Nat → Int32 → HP → Option (Int32 × HP)
  | 0, _, _ => none
  | n + 1, x3, h => if (60 : Int32) < x3 then (some (61, h)) else (bd (f_X1_dayGoes 22 h) fun v27 g25 => if v27 < 0 then (lt (x3 + 1 : Int32) fun v29 => f_X6_worth_L106 n v29 g25) else (some (x3, g25)))
set_option maxHeartbeats 4000000 in
set_option maxRecDepth 100000 in
theorem A_X6_worth_L106 (X : XE) (r : Int32) (h' : HP) : ∀ (n : Nat) (x3 : Int32) (h : HP), f_X6_worth_L106 n x3 h = some (r, h') → Run mX6_worth 5 X 106 [(0, .ref (X.1 0)), (3, .int x3)] [] h (some (.int r)) h' := by
  intro n
  induction n with
  | zero => intro x3 h hf; cases hf
  | succ n ih =>
    intro x3 h hf
    rw [f_X6_worth_L106] at hf
    refine r_iload_n 107 rfl 1 rfl rfl (ck DX6_worth_1 2 rfl) ?_
    refine r_bipush 109 rfl bp_60 (ck DX6_worth_1 3 rfl) ?_
    rcases if_so hf with ⟨c24, hf⟩ | ⟨c24, hf⟩
    · refine r_icmp_gt_t 130 (ck DX6_worth_1 4 rfl) (by decide) c24 ?_
      refine r_bipush 132 rfl bp_61 (ck DX6_worth_1 13 rfl) ?_
      obtain ⟨rfl, rfl⟩ := so2 hf
      exact r_iret rfl rfl (ck DX6_worth_1 14 rfl)
    · refine r_icmp_gt_f 112 rfl 130 (ck DX6_worth_1 4 rfl) (by decide) c24 ?_
      refine r_aload_n 113 rfl 0 rfl rfl (ck DX6_worth_1 5 rfl) ?_
      refine r_getr (q := 22) 116 rfl (lq_6_2) sh_0 kd_6_2 fl_X6_26 (ck DX6_worth_1 6 rfl) ?_
      obtain ⟨v27, g25, e26, hf⟩ := bd_so hf
      refine r_callVi 119 rfl (A_X1_dayGoes X 22 dk_22 h v27 g25 e26) (by omega) cw_X6_182 sh_22 cl_1 rfl rfl (Nat.le_of_ble_eq_true rfl) (ck DX6_worth_1 7 rfl) ?_
      rcases if_so hf with ⟨c28, hf⟩ | ⟨c28, hf⟩
      · refine r_if_lt_t 124 (ck DX6_worth_1 8 rfl) (by decide) c28 ?_
        obtain ⟨v29, e30, hf⟩ := lt_so hf
        refine r_iinc (lv' := [(3, .int v29), (0, .ref (X.1 0))]) 127 rfl 1 (ck DX6_worth_1 11 rfl) rfl (by rw [e30, ic_1]) (by decide) rfl ?_
        refine r_goto 106 (ck DX6_worth_1 12 rfl) (by decide) ?_
        refine r_sub (lv' := [(0, .ref (X.1 0)), (3, .int v29)]) [1, 0] rfl ?_
        exact ih v29 g25 hf
      · refine r_if_lt_f 122 rfl 124 (ck DX6_worth_1 8 rfl) (by decide) c28 ?_
        refine r_iload_n 123 rfl 1 rfl rfl (ck DX6_worth_1 9 rfl) ?_
        obtain ⟨rfl, rfl⟩ := so2 hf
        exact r_iret rfl rfl (ck DX6_worth_1 10 rfl)
def f_X6_worth (x1 : Int32) (x2 : Int32) (h : HP) : Option (Int32 × HP) := bo (f_X1_startFrom 22 6 h) fun g1 => bd (f_X1_lashRow 22 x2 g1) fun v5 g3 => if v5 = 0 then (some ((-5), g3)) else (if x1 = 1 then (bd (f_X1_breaking 22 g3) fun v10 g8 => if (0 : Int32) ≤ v10 then (some ((-5), g8)) else (bo (f_X1_height 22 g8) fun v12 => some (v12, g8))) else (if x1 = 0 then (f_X6_worth_L59 FZ 0 g3) else (bo (f_X1_standsOfTheSame 22 6 g3) fun v21 => if v21 = 0 then (some ((-5), g3)) else (f_X6_worth_L106 FZ 0 g3))))
set_option maxHeartbeats 4000000 in
set_option maxRecDepth 100000 in
theorem A_X6_worth (X : XE) (x1 : Int32) (x2 : Int32) (h : HP) (r : Int32) (h' : HP) (hf : f_X6_worth x1 x2 h = some (r, h')) : CC mX6_worth 5 X [.ref (X.1 0), .int x1, .int x2] h (some (.int r)) h' := by
  refine CC_of rfl (Nat.le_of_ble_eq_true rfl) ?_
  show Run mX6_worth 5 X 0 [(0, .ref (X.1 0)), (1, .int x1), (2, .int x2)] [] h (some (.int r)) h'
  unfold f_X6_worth at hf
  refine r_aload_n 1 rfl 0 rfl rfl (ck DX6_worth_0 0 rfl) ?_
  refine r_getr (q := 22) 4 rfl (lq_6_2) sh_0 kd_6_2 fl_X6_26 (ck DX6_worth_0 1 rfl) ?_
  refine r_aload_n 5 rfl 0 rfl rfl (ck DX6_worth_0 2 rfl) ?_
  refine r_getr (q := 6) 8 rfl (lq_6_0) sh_0 kd_6_0 fl_X6_17 (ck DX6_worth_0 3 rfl) ?_
  obtain ⟨g1, e2, hf⟩ := bo_so hf
  refine r_callVv 11 rfl (A_X1_startFrom X 22 dk_22 6 dk_6 h g1 e2) (by omega) cw_X6_185 sh_22 cl_1 rfl rfl (Nat.le_of_ble_eq_true rfl) (ck DX6_worth_0 4 rfl) ?_
  refine r_aload_n 12 rfl 0 rfl rfl (ck DX6_worth_0 5 rfl) ?_
  refine r_getr (q := 22) 15 rfl (lq_6_2) sh_0 kd_6_2 fl_X6_26 (ck DX6_worth_0 6 rfl) ?_
  refine r_iload_n 16 rfl 2 rfl rfl (ck DX6_worth_0 7 rfl) ?_
  obtain ⟨v5, g3, e4, hf⟩ := bd_so hf
  refine r_callVi 19 rfl (A_X1_lashRow X 22 dk_22 x2 g1 v5 g3 e4) (by omega) cw_X6_199 sh_22 cl_1 rfl rfl (Nat.le_of_ble_eq_true rfl) (ck DX6_worth_0 8 rfl) ?_
  rcases if_so hf with ⟨c6, hf⟩ | ⟨c6, hf⟩
  · refine r_if_ne_t 22 rfl 25 (ck DX6_worth_0 9 rfl) (by decide) c6 ?_
    refine r_bipush 24 rfl bp_m5 (ck DX6_worth_0 10 rfl) ?_
    obtain ⟨rfl, rfl⟩ := so2 hf
    exact r_iret rfl rfl (ck DX6_worth_0 11 rfl)
  · refine r_if_ne_f 25 (ck DX6_worth_0 9 rfl) (by decide) c6 ?_
    refine r_iload_n 26 rfl 1 rfl rfl (ck DX6_worth_0 12 rfl) ?_
    refine r_iconst 27 rfl ic_1 (ck DX6_worth_0 13 rfl) ?_
    rcases if_so hf with ⟨c7, hf⟩ | ⟨c7, hf⟩
    · refine r_icmp_ne_t 30 rfl 53 (ck DX6_worth_0 14 rfl) (by decide) c7 ?_
      refine r_aload_n 31 rfl 0 rfl rfl (ck DX6_worth_0 15 rfl) ?_
      refine r_getr (q := 22) 34 rfl (lq_6_2) sh_0 kd_6_2 fl_X6_26 (ck DX6_worth_0 16 rfl) ?_
      obtain ⟨v10, g8, e9, hf⟩ := bd_so hf
      refine r_callVi 37 rfl (A_X1_breaking X 22 dk_22 g3 v10 g8 e9) (by omega) cw_X6_202 sh_22 cl_1 rfl rfl (Nat.le_of_ble_eq_true rfl) (ck DX6_worth_0 17 rfl) ?_
      rcases if_so hf with ⟨c11, hf⟩ | ⟨c11, hf⟩
      · refine r_if_ge_t 50 (ck DX6_worth_0 18 rfl) (by decide) c11 ?_
        refine r_bipush 52 rfl bp_m5 (ck DX6_worth_0 23 rfl) ?_
        obtain ⟨rfl, rfl⟩ := so2 hf
        exact r_iret rfl rfl (ck DX6_worth_0 24 rfl)
      · refine r_if_ge_f 40 rfl 50 (ck DX6_worth_0 18 rfl) (by decide) c11 ?_
        refine r_aload_n 41 rfl 0 rfl rfl (ck DX6_worth_0 19 rfl) ?_
        refine r_getr (q := 22) 44 rfl (lq_6_2) sh_0 kd_6_2 fl_X6_26 (ck DX6_worth_0 20 rfl) ?_
        obtain ⟨v12, e13, hf⟩ := bo_so hf
        refine r_callVi 47 rfl (A_X1_height X 22 dk_22 g8 v12 e13) (by omega) cw_X6_172 sh_22 cl_1 rfl rfl (Nat.le_of_ble_eq_true rfl) (ck DX6_worth_0 21 rfl) ?_
        refine r_goto 52 (ck DX6_worth_0 22 rfl) (by decide) ?_
        obtain ⟨rfl, rfl⟩ := so2 hf
        exact r_iret rfl rfl (ck DX6_worth_0 24 rfl)
    · refine r_icmp_ne_f 53 (ck DX6_worth_0 14 rfl) (by decide) c7 ?_
      refine r_iload_n 54 rfl 1 rfl rfl (ck DX6_worth_0 25 rfl) ?_
      rcases if_so hf with ⟨c14, hf⟩ | ⟨c14, hf⟩
      · refine r_if_ne_t 57 rfl 87 (ck DX6_worth_0 26 rfl) (by decide) c14 ?_
        refine r_iconst 58 rfl ic_0 (ck DX6_worth_0 27 rfl) ?_
        refine r_istore_n (lv' := [(3, .int 0), (0, .ref (X.1 0)), (1, .int x1), (2, .int x2)]) 59 rfl (ck DX6_worth_0 28 rfl) (by decide) rfl rfl ?_
        refine r_sub (lv' := [(0, .ref (X.1 0)), (3, .int 0)]) [1, 0] rfl ?_
        exact A_X6_worth_L59 X _ _ FZ 0 g3 hf
      · refine r_if_ne_f 87 (ck DX6_worth_0 26 rfl) (by decide) c14 ?_
        refine r_aload_n 88 rfl 0 rfl rfl (ck DX6_worth_0 42 rfl) ?_
        refine r_getr (q := 22) 91 rfl (lq_6_2) sh_0 kd_6_2 fl_X6_26 (ck DX6_worth_0 43 rfl) ?_
        refine r_aload_n 92 rfl 0 rfl rfl (ck DX6_worth_0 44 rfl) ?_
        refine r_getr (q := 6) 95 rfl (lq_6_0) sh_0 kd_6_0 fl_X6_17 (ck DX6_worth_0 45 rfl) ?_
        obtain ⟨v21, e22, hf⟩ := bo_so hf
        refine r_callVi 98 rfl (A_X1_standsOfTheSame X 22 dk_22 6 dk_6 g3 v21 e22) (by omega) cw_X6_205 sh_22 cl_1 rfl rfl (Nat.le_of_ble_eq_true rfl) (ck DX6_worth_0 46 rfl) ?_
        rcases if_so hf with ⟨c23, hf⟩ | ⟨c23, hf⟩
        · refine r_if_ne_t 101 rfl 104 (ck DX6_worth_0 47 rfl) (by decide) c23 ?_
          refine r_bipush 103 rfl bp_m5 (ck DX6_worth_0 48 rfl) ?_
          obtain ⟨rfl, rfl⟩ := so2 hf
          exact r_iret rfl rfl (ck DX6_worth_0 49 rfl)
        · refine r_if_ne_f 104 (ck DX6_worth_0 47 rfl) (by decide) c23 ?_
          refine r_iconst 105 rfl ic_0 (ck DX6_worth_1 0 rfl) ?_
          refine r_istore_n (lv' := [(3, .int 0), (0, .ref (X.1 0)), (1, .int x1), (2, .int x2)]) 106 rfl (ck DX6_worth_1 1 rfl) (by decide) rfl rfl ?_
          refine r_sub (lv' := [(0, .ref (X.1 0)), (3, .int 0)]) [1, 0] rfl ?_
          exact A_X6_worth_L106 X _ _ FZ 0 g3 hf
-- X6_bestRow
def f_X6_bestRow_L8 : Nat → Int32 → Int32 → Int32 → Int32 → HP → Option (Int32 × HP)
  | 0, _, _, _, _, _ => none
  | n + 1, x1, x2, x3, x4, h => if (294 : Int32) ≤ x4 then (some (x3, h)) else (bd (f_X6_worth x1 x4 h) fun v4 g2 => if v4 ≤ x2 then (lt (x4 + 1 : Int32) fun v6 => f_X6_bestRow_L8 n x1 x2 x3 v6 g2) else (lt (x4 + 1 : Int32) fun v8 => f_X6_bestRow_L8 n x1 v4 x4 v8 g2))
set_option maxHeartbeats 4000000 in
set_option maxRecDepth 100000 in
theorem A_X6_bestRow_L8 (X : XE) (r : Int32) (h' : HP) : ∀ (n : Nat) (x1 : Int32) (x2 : Int32) (x3 : Int32) (x4 : Int32) (h : HP), f_X6_bestRow_L8 n x1 x2 x3 x4 h = some (r, h') → Run mX6_bestRow 6 X 8 [(0, .ref (X.1 0)), (1, .int x1), (2, .int x2), (3, .int x3), (4, .int x4)] [] h (some (.int r)) h' := by
  intro n
  induction n with
  | zero => intro x1 x2 x3 x4 h hf; cases hf
  | succ n ih =>
    intro x1 x2 x3 x4 h hf
    rw [f_X6_bestRow_L8] at hf
    refine r_iload 10 rfl 4 rfl (ck DX6_bestRow_0 6 rfl) ?_
    refine r_sipush 13 rfl sp_294 (ck DX6_bestRow_0 7 rfl) ?_
    rcases if_so hf with ⟨c1, hf⟩ | ⟨c1, hf⟩
    · refine r_icmp_ge_t 43 (ck DX6_bestRow_0 8 rfl) (by decide) c1 ?_
      refine r_iload_n 44 rfl 3 rfl rfl (ck DX6_bestRow_0 23 rfl) ?_
      obtain ⟨rfl, rfl⟩ := so2 hf
      exact r_iret rfl rfl (ck DX6_bestRow_0 24 rfl)
    · refine r_icmp_ge_f 16 rfl 43 (ck DX6_bestRow_0 8 rfl) (by decide) c1 ?_
      refine r_aload_n 17 rfl 0 rfl rfl (ck DX6_bestRow_0 9 rfl) ?_
      refine r_iload_n 18 rfl 1 rfl rfl (ck DX6_bestRow_0 10 rfl) ?_
      refine r_iload 20 rfl 4 rfl (ck DX6_bestRow_0 11 rfl) ?_
      obtain ⟨v4, g2, e3, hf⟩ := bd_so hf
      refine r_callVi 23 rfl (A_X6_worth X x1 x4 h v4 g2 e3) (by omega) cw_X6_195 sh_0 cl_6 rfl rfl (Nat.le_of_ble_eq_true rfl) (ck DX6_bestRow_0 12 rfl) ?_
      refine r_istore (lv' := [(5, .int v4), (0, .ref (X.1 0)), (1, .int x1), (2, .int x2), (3, .int x3), (4, .int x4)]) 25 rfl (ck DX6_bestRow_0 13 rfl) (by decide) rfl ?_
      refine r_iload 27 rfl 0 rfl (ck DX6_bestRow_0 14 rfl) ?_
      refine r_iload_n 28 rfl 3 rfl rfl (ck DX6_bestRow_0 15 rfl) ?_
      rcases if_so hf with ⟨c5, hf⟩ | ⟨c5, hf⟩
      · refine r_icmp_le_t 37 (ck DX6_bestRow_0 16 rfl) (by decide) c5 ?_
        obtain ⟨v6, e7, hf⟩ := lt_so hf
        refine r_iinc (lv' := [(4, .int v6), (5, .int v4), (0, .ref (X.1 0)), (1, .int x1), (2, .int x2), (3, .int x3)]) 40 rfl 5 (ck DX6_bestRow_0 21 rfl) rfl (by rw [e7, ic_1]) (by decide) rfl ?_
        refine r_goto 8 (ck DX6_bestRow_0 22 rfl) (by decide) ?_
        refine r_sub (lv' := [(0, .ref (X.1 0)), (1, .int x1), (2, .int x2), (3, .int x3), (4, .int v6)]) [2, 3, 4, 5, 0] rfl ?_
        exact ih x1 x2 x3 v6 g2 hf
      · refine r_icmp_le_f 31 rfl 37 (ck DX6_bestRow_0 16 rfl) (by decide) c5 ?_
        refine r_iload 33 rfl 0 rfl (ck DX6_bestRow_0 17 rfl) ?_
        refine r_istore_n (lv' := [(2, .int v4), (5, .int v4), (0, .ref (X.1 0)), (1, .int x1), (3, .int x3), (4, .int x4)]) 34 rfl (ck DX6_bestRow_0 18 rfl) (by decide) rfl rfl ?_
        refine r_iload 36 rfl 5 rfl (ck DX6_bestRow_0 19 rfl) ?_
        refine r_istore_n (lv' := [(3, .int x4), (2, .int v4), (5, .int v4), (0, .ref (X.1 0)), (1, .int x1), (4, .int x4)]) 37 rfl (ck DX6_bestRow_0 20 rfl) (by decide) rfl rfl ?_
        obtain ⟨v8, e9, hf⟩ := lt_so hf
        refine r_iinc (lv' := [(4, .int v8), (3, .int x4), (2, .int v4), (5, .int v4), (0, .ref (X.1 0)), (1, .int x1)]) 40 rfl 5 (ck DX6_bestRow_0 21 rfl) rfl (by rw [e9, ic_1]) (by decide) rfl ?_
        refine r_goto 8 (ck DX6_bestRow_0 22 rfl) (by decide) ?_
        refine r_sub (lv' := [(0, .ref (X.1 0)), (1, .int x1), (2, .int v4), (3, .int x4), (4, .int v8)]) [4, 5, 2, 1, 0] rfl ?_
        exact ih x1 v4 x4 v8 g2 hf
def f_X6_bestRow (x1 : Int32) (h : HP) : Option (Int32 × HP) := f_X6_bestRow_L8 FZ x1 (-5) (-1) 0 h
set_option maxHeartbeats 4000000 in
set_option maxRecDepth 100000 in
theorem A_X6_bestRow (X : XE) (x1 : Int32) (h : HP) (r : Int32) (h' : HP) (hf : f_X6_bestRow x1 h = some (r, h')) : CC mX6_bestRow 6 X [.ref (X.1 0), .int x1] h (some (.int r)) h' := by
  refine CC_of rfl (Nat.le_of_ble_eq_true rfl) ?_
  show Run mX6_bestRow 6 X 0 [(0, .ref (X.1 0)), (1, .int x1)] [] h (some (.int r)) h'
  unfold f_X6_bestRow at hf
  refine r_bipush 2 rfl bp_m5 (ck DX6_bestRow_0 0 rfl) ?_
  refine r_istore_n (lv' := [(2, .int (-5)), (0, .ref (X.1 0)), (1, .int x1)]) 3 rfl (ck DX6_bestRow_0 1 rfl) (by decide) rfl rfl ?_
  refine r_iconst 4 rfl ic_m1 (ck DX6_bestRow_0 2 rfl) ?_
  refine r_istore_n (lv' := [(3, .int (-1)), (2, .int (-5)), (0, .ref (X.1 0)), (1, .int x1)]) 5 rfl (ck DX6_bestRow_0 3 rfl) (by decide) rfl rfl ?_
  refine r_iconst 6 rfl ic_0 (ck DX6_bestRow_0 4 rfl) ?_
  refine r_istore (lv' := [(4, .int 0), (3, .int (-1)), (2, .int (-5)), (0, .ref (X.1 0)), (1, .int x1)]) 8 rfl (ck DX6_bestRow_0 5 rfl) (by decide) rfl ?_
  refine r_sub (lv' := [(0, .ref (X.1 0)), (1, .int x1), (2, .int (-5)), (3, .int (-1)), (4, .int 0)]) [3, 4, 2, 1, 0] rfl ?_
  exact A_X6_bestRow_L8 X _ _ FZ x1 (-5) (-1) 0 h hf
-- X6_best
def f_X6_best (x1 : Int32) (x2 : Int32) (h : HP) : Option (Int32 × HP) := bo (f_X6_within x1 0 1) fun v1 => if v1 = 0 then (some ((-1), h)) else (bo (f_X6_within x2 0 3) fun v4 => if v4 = 0 then (some ((-1), h)) else (bd (f_X6_bestRow x1 h) fun v9 g7 => if x2 = 3 then (bd (f_X6_worth x1 v9 g7) fun v13 g11 => some (v13, g11)) else (bd (f_X1_lashRow 22 v9 g7) fun v16 g14 => if v16 = 0 then (some ((-5), g14)) else (if (g14.1 22 8) ≤ x2 then (some ((-5), g14)) else (gd (inb x2 3) (some ((g14.1 29 (Int32.toNatClampNeg x2)), g14)))))))
set_option maxHeartbeats 4000000 in
set_option maxRecDepth 100000 in
theorem A_X6_best (X : XE) (x1 : Int32) (x2 : Int32) (h : HP) (r : Int32) (h' : HP) (hf : f_X6_best x1 x2 h = some (r, h')) : CC mX6_best 7 X [.ref (X.1 0), .int x1, .int x2] h (some (.int r)) h' := by
  refine CC_of rfl (Nat.le_of_ble_eq_true rfl) ?_
  show Run mX6_best 7 X 0 [(0, .ref (X.1 0)), (1, .int x1), (2, .int x2)] [] h (some (.int r)) h'
  unfold f_X6_best at hf
  refine r_iload_n 1 rfl 1 rfl rfl (ck DX6_best_0 0 rfl) ?_
  refine r_iconst 2 rfl ic_0 (ck DX6_best_0 1 rfl) ?_
  refine r_iconst 3 rfl ic_1 (ck DX6_best_0 2 rfl) ?_
  obtain ⟨v1, e2, hf⟩ := bo_so hf
  refine r_callSi 6 rfl (A_X6_within X x1 0 1 h v1 e2) (by omega) cs_X6_78 rfl rfl (Nat.le_of_ble_eq_true rfl) (ck DX6_best_0 3 rfl) ?_
  rcases if_so hf with ⟨c3, hf⟩ | ⟨c3, hf⟩
  · refine r_if_eq_t 18 (ck DX6_best_0 4 rfl) (by decide) c3 ?_
    refine r_iconst 19 rfl ic_m1 (ck DX6_best_0 10 rfl) ?_
    obtain ⟨rfl, rfl⟩ := so2 hf
    exact r_iret rfl rfl (ck DX6_best_0 11 rfl)
  · refine r_if_eq_f 9 rfl 18 (ck DX6_best_0 4 rfl) (by decide) c3 ?_
    refine r_iload_n 10 rfl 2 rfl rfl (ck DX6_best_0 5 rfl) ?_
    refine r_iconst 11 rfl ic_0 (ck DX6_best_0 6 rfl) ?_
    refine r_iconst 12 rfl ic_3 (ck DX6_best_0 7 rfl) ?_
    obtain ⟨v4, e5, hf⟩ := bo_so hf
    refine r_callSi 15 rfl (A_X6_within X x2 0 3 h v4 e5) (by omega) cs_X6_78 rfl rfl (Nat.le_of_ble_eq_true rfl) (ck DX6_best_0 8 rfl) ?_
    rcases if_so hf with ⟨c6, hf⟩ | ⟨c6, hf⟩
    · refine r_if_ne_t 18 rfl 20 (ck DX6_best_0 9 rfl) (by decide) c6 ?_
      refine r_iconst 19 rfl ic_m1 (ck DX6_best_0 10 rfl) ?_
      obtain ⟨rfl, rfl⟩ := so2 hf
      exact r_iret rfl rfl (ck DX6_best_0 11 rfl)
    · refine r_if_ne_f 20 (ck DX6_best_0 9 rfl) (by decide) c6 ?_
      refine r_aload_n 21 rfl 0 rfl rfl (ck DX6_best_0 12 rfl) ?_
      refine r_iload_n 22 rfl 1 rfl rfl (ck DX6_best_0 13 rfl) ?_
      obtain ⟨v9, g7, e8, hf⟩ := bd_so hf
      refine r_callVi 25 rfl (A_X6_bestRow X x1 h v9 g7 e8) (by omega) cw_X6_192 sh_0 cl_6 rfl rfl (Nat.le_of_ble_eq_true rfl) (ck DX6_best_0 14 rfl) ?_
      refine r_istore_n (lv' := [(3, .int v9), (0, .ref (X.1 0)), (1, .int x1), (2, .int x2)]) 26 rfl (ck DX6_best_0 15 rfl) (by decide) rfl rfl ?_
      refine r_iload_n 27 rfl 3 rfl rfl (ck DX6_best_0 16 rfl) ?_
      refine r_iconst 28 rfl ic_3 (ck DX6_best_0 17 rfl) ?_
      rcases if_so hf with ⟨c10, hf⟩ | ⟨c10, hf⟩
      · refine r_icmp_ne_t 31 rfl 40 (ck DX6_best_0 18 rfl) (by decide) c10 ?_
        refine r_aload_n 32 rfl 1 rfl rfl (ck DX6_best_0 19 rfl) ?_
        refine r_iload_n 33 rfl 2 rfl rfl (ck DX6_best_0 20 rfl) ?_
        refine r_iload_n 34 rfl 0 rfl rfl (ck DX6_best_0 21 rfl) ?_
        obtain ⟨v13, g11, e12, hf⟩ := bd_so hf
        refine r_callVi 37 rfl (A_X6_worth X x1 v9 g7 v13 g11 e12) (by omega) cw_X6_195 sh_0 cl_6 rfl rfl (Nat.le_of_ble_eq_true rfl) (ck DX6_best_0 22 rfl) ?_
        refine r_goto 76 (ck DX6_best_0 23 rfl) (by decide) ?_
        obtain ⟨rfl, rfl⟩ := so2 hf
        exact r_iret rfl rfl (ck DX6_best_0 41 rfl)
      · refine r_icmp_ne_f 40 (ck DX6_best_0 18 rfl) (by decide) c10 ?_
        refine r_aload_n 41 rfl 1 rfl rfl (ck DX6_best_0 24 rfl) ?_
        refine r_getr (q := 22) 44 rfl (lq_6_2) sh_0 kd_6_2 fl_X6_26 (ck DX6_best_0 25 rfl) ?_
        refine r_iload_n 45 rfl 0 rfl rfl (ck DX6_best_0 26 rfl) ?_
        obtain ⟨v16, g14, e15, hf⟩ := bd_so hf
        refine r_callVi 48 rfl (A_X1_lashRow X 22 dk_22 v9 g7 v16 g14 e15) (by omega) cw_X6_199 sh_22 cl_1 rfl rfl (Nat.le_of_ble_eq_true rfl) (ck DX6_best_0 27 rfl) ?_
        rcases if_so hf with ⟨c17, hf⟩ | ⟨c17, hf⟩
        · refine r_if_eq_t 74 (ck DX6_best_0 28 rfl) (by decide) c17 ?_
          refine r_bipush 76 rfl bp_m5 (ck DX6_best_0 40 rfl) ?_
          obtain ⟨rfl, rfl⟩ := so2 hf
          exact r_iret rfl rfl (ck DX6_best_0 41 rfl)
        · refine r_if_eq_f 51 rfl 74 (ck DX6_best_0 28 rfl) (by decide) c17 ?_
          refine r_iload_n 52 rfl 3 rfl rfl (ck DX6_best_0 29 rfl) ?_
          refine r_aload_n 53 rfl 1 rfl rfl (ck DX6_best_0 30 rfl) ?_
          refine r_getr (q := 22) 56 rfl (lq_6_2) sh_0 kd_6_2 fl_X6_26 (ck DX6_best_0 31 rfl) ?_
          refine r_geti 59 rfl sh_22 kd_1_8 fl_X6_134 (ck DX6_best_0 32 rfl) ?_
          rcases if_so hf with ⟨c18, hf⟩ | ⟨c18, hf⟩
          · refine r_icmp_ge_t 74 (ck DX6_best_0 33 rfl) (by decide) c18 ?_
            refine r_bipush 76 rfl bp_m5 (ck DX6_best_0 40 rfl) ?_
            obtain ⟨rfl, rfl⟩ := so2 hf
            exact r_iret rfl rfl (ck DX6_best_0 41 rfl)
          · refine r_icmp_ge_f 62 rfl 74 (ck DX6_best_0 33 rfl) (by decide) c18 ?_
            refine r_aload_n 63 rfl 1 rfl rfl (ck DX6_best_0 34 rfl) ?_
            refine r_getr (q := 22) 66 rfl (lq_6_2) sh_0 kd_6_2 fl_X6_26 (ck DX6_best_0 35 rfl) ?_
            refine r_getr (q := 29) 69 rfl (lq_1_6 22) sh_22 kd_1_6 fl_X6_179 (ck DX6_best_0 36 rfl) ?_
            refine r_iload_n 70 rfl 3 rfl rfl (ck DX6_best_0 37 rfl) ?_
            obtain ⟨b19, hf⟩ := gd_so hf
            refine r_iald 71 rfl sh_29 (inb_vp b19) (ck DX6_best_0 38 rfl) ?_
            refine r_goto 76 (ck DX6_best_0 39 rfl) (by decide) ?_
            obtain ⟨rfl, rfl⟩ := so2 hf
            exact r_iret rfl rfl (ck DX6_best_0 41 rfl)
-- X6_longest
def f_X6_longest (x1 : Int32) (h : HP) : Option (Int32 × HP) := bo (f_X6_within x1 0 3) fun v1 => if v1 = 0 then (some ((-1), h)) else (bd (f_X6_bestRow 2 h) fun v6 g4 => if x1 = 3 then (bd (f_X6_worth 2 v6 g4) fun v10 g8 => if v10 ≤ 60 then (some (v10, g8)) else (some ((-5), g8))) else (bd (f_X1_lashRow 22 v6 g4) fun v14 g12 => if v14 = 0 then (some ((-5), g12)) else (if (g12.1 22 8) ≤ x1 then (some ((-5), g12)) else (gd (inb x1 3) (some ((g12.1 29 (Int32.toNatClampNeg x1)), g12))))))
set_option maxHeartbeats 4000000 in
set_option maxRecDepth 100000 in
theorem A_X6_longest (X : XE) (x1 : Int32) (h : HP) (r : Int32) (h' : HP) (hf : f_X6_longest x1 h = some (r, h')) : CC mX6_longest 7 X [.ref (X.1 0), .int x1] h (some (.int r)) h' := by
  refine CC_of rfl (Nat.le_of_ble_eq_true rfl) ?_
  show Run mX6_longest 7 X 0 [(0, .ref (X.1 0)), (1, .int x1)] [] h (some (.int r)) h'
  unfold f_X6_longest at hf
  refine r_iload_n 1 rfl 1 rfl rfl (ck DX6_longest_0 0 rfl) ?_
  refine r_iconst 2 rfl ic_0 (ck DX6_longest_0 1 rfl) ?_
  refine r_iconst 3 rfl ic_3 (ck DX6_longest_0 2 rfl) ?_
  obtain ⟨v1, e2, hf⟩ := bo_so hf
  refine r_callSi 6 rfl (A_X6_within X x1 0 3 h v1 e2) (by omega) cs_X6_78 rfl rfl (Nat.le_of_ble_eq_true rfl) (ck DX6_longest_0 3 rfl) ?_
  rcases if_so hf with ⟨c3, hf⟩ | ⟨c3, hf⟩
  · refine r_if_ne_t 9 rfl 11 (ck DX6_longest_0 4 rfl) (by decide) c3 ?_
    refine r_iconst 10 rfl ic_m1 (ck DX6_longest_0 5 rfl) ?_
    obtain ⟨rfl, rfl⟩ := so2 hf
    exact r_iret rfl rfl (ck DX6_longest_0 6 rfl)
  · refine r_if_ne_f 11 (ck DX6_longest_0 4 rfl) (by decide) c3 ?_
    refine r_aload_n 12 rfl 0 rfl rfl (ck DX6_longest_0 7 rfl) ?_
    refine r_iconst 13 rfl ic_2 (ck DX6_longest_0 8 rfl) ?_
    obtain ⟨v6, g4, e5, hf⟩ := bd_so hf
    refine r_callVi 16 rfl (A_X6_bestRow X 2 h v6 g4 e5) (by omega) cw_X6_192 sh_0 cl_6 rfl rfl (Nat.le_of_ble_eq_true rfl) (ck DX6_longest_0 9 rfl) ?_
    refine r_istore_n (lv' := [(2, .int v6), (0, .ref (X.1 0)), (1, .int x1)]) 17 rfl (ck DX6_longest_0 10 rfl) (by decide) rfl rfl ?_
    refine r_iload_n 18 rfl 2 rfl rfl (ck DX6_longest_0 11 rfl) ?_
    refine r_iconst 19 rfl ic_3 (ck DX6_longest_0 12 rfl) ?_
    rcases if_so hf with ⟨c7, hf⟩ | ⟨c7, hf⟩
    · refine r_icmp_ne_t 22 rfl 42 (ck DX6_longest_0 13 rfl) (by decide) c7 ?_
      refine r_aload_n 23 rfl 1 rfl rfl (ck DX6_longest_0 14 rfl) ?_
      refine r_iconst 24 rfl ic_2 (ck DX6_longest_0 15 rfl) ?_
      refine r_iload_n 25 rfl 0 rfl rfl (ck DX6_longest_0 16 rfl) ?_
      obtain ⟨v10, g8, e9, hf⟩ := bd_so hf
      refine r_callVi 28 rfl (A_X6_worth X 2 v6 g4 v10 g8 e9) (by omega) cw_X6_195 sh_0 cl_6 rfl rfl (Nat.le_of_ble_eq_true rfl) (ck DX6_longest_0 17 rfl) ?_
      refine r_istore_n (lv' := [(3, .int v10), (2, .int v6), (0, .ref (X.1 0)), (1, .int x1)]) 29 rfl (ck DX6_longest_0 18 rfl) (by decide) rfl rfl ?_
      refine r_iload_n 30 rfl 0 rfl rfl (ck DX6_longest_0 19 rfl) ?_
      refine r_bipush 32 rfl bp_60 (ck DX6_longest_0 20 rfl) ?_
      rcases if_so hf with ⟨c11, hf⟩ | ⟨c11, hf⟩
      · refine r_icmp_le_t 40 (ck DX6_longest_0 21 rfl) (by decide) c11 ?_
        refine r_iload_n 41 rfl 0 rfl rfl (ck DX6_longest_0 24 rfl) ?_
        obtain ⟨rfl, rfl⟩ := so2 hf
        exact r_iret rfl rfl (ck DX6_longest_0 25 rfl)
      · refine r_icmp_le_f 35 rfl 40 (ck DX6_longest_0 21 rfl) (by decide) c11 ?_
        refine r_bipush 37 rfl bp_m5 (ck DX6_longest_0 22 rfl) ?_
        refine r_goto 41 (ck DX6_longest_0 23 rfl) (by decide) ?_
        obtain ⟨rfl, rfl⟩ := so2 hf
        exact r_iret rfl rfl (ck DX6_longest_0 25 rfl)
    · refine r_icmp_ne_f 42 (ck DX6_longest_0 13 rfl) (by decide) c7 ?_
      refine r_aload_n 43 rfl 1 rfl rfl (ck DX6_longest_0 26 rfl) ?_
      refine r_getr (q := 22) 46 rfl (lq_6_2) sh_0 kd_6_2 fl_X6_26 (ck DX6_longest_0 27 rfl) ?_
      refine r_iload_n 47 rfl 0 rfl rfl (ck DX6_longest_0 28 rfl) ?_
      obtain ⟨v14, g12, e13, hf⟩ := bd_so hf
      refine r_callVi 50 rfl (A_X1_lashRow X 22 dk_22 v6 g4 v14 g12 e13) (by omega) cw_X6_199 sh_22 cl_1 rfl rfl (Nat.le_of_ble_eq_true rfl) (ck DX6_longest_0 29 rfl) ?_
      rcases if_so hf with ⟨c15, hf⟩ | ⟨c15, hf⟩
      · refine r_if_eq_t 76 (ck DX6_longest_0 30 rfl) (by decide) c15 ?_
        refine r_bipush 78 rfl bp_m5 (ck DX6_longest_0 42 rfl) ?_
        obtain ⟨rfl, rfl⟩ := so2 hf
        exact r_iret rfl rfl (ck DX6_longest_0 43 rfl)
      · refine r_if_eq_f 53 rfl 76 (ck DX6_longest_0 30 rfl) (by decide) c15 ?_
        refine r_iload_n 54 rfl 2 rfl rfl (ck DX6_longest_0 31 rfl) ?_
        refine r_aload_n 55 rfl 1 rfl rfl (ck DX6_longest_0 32 rfl) ?_
        refine r_getr (q := 22) 58 rfl (lq_6_2) sh_0 kd_6_2 fl_X6_26 (ck DX6_longest_0 33 rfl) ?_
        refine r_geti 61 rfl sh_22 kd_1_8 fl_X6_134 (ck DX6_longest_0 34 rfl) ?_
        rcases if_so hf with ⟨c16, hf⟩ | ⟨c16, hf⟩
        · refine r_icmp_ge_t 76 (ck DX6_longest_0 35 rfl) (by decide) c16 ?_
          refine r_bipush 78 rfl bp_m5 (ck DX6_longest_0 42 rfl) ?_
          obtain ⟨rfl, rfl⟩ := so2 hf
          exact r_iret rfl rfl (ck DX6_longest_0 43 rfl)
        · refine r_icmp_ge_f 64 rfl 76 (ck DX6_longest_0 35 rfl) (by decide) c16 ?_
          refine r_aload_n 65 rfl 1 rfl rfl (ck DX6_longest_0 36 rfl) ?_
          refine r_getr (q := 22) 68 rfl (lq_6_2) sh_0 kd_6_2 fl_X6_26 (ck DX6_longest_0 37 rfl) ?_
          refine r_getr (q := 29) 71 rfl (lq_1_6 22) sh_22 kd_1_6 fl_X6_179 (ck DX6_longest_0 38 rfl) ?_
          refine r_iload_n 72 rfl 2 rfl rfl (ck DX6_longest_0 39 rfl) ?_
          obtain ⟨b17, hf⟩ := gd_so hf
          refine r_iald 73 rfl sh_29 (inb_vp b17) (ck DX6_longest_0 40 rfl) ?_
          refine r_goto 78 (ck DX6_longest_0 41 rfl) (by decide) ?_
          obtain ⟨rfl, rfl⟩ := so2 hf
          exact r_iret rfl rfl (ck DX6_longest_0 43 rfl)
-- X6_see
def f_X6_see (x1 : Int32) (x2 : Int32) (h : HP) : Option (Int32 × HP) := if x1 = (-1) then (bd (f_X3_clear 30 h) fun v4 g2 => some (v4, g2)) else (bo (f_X6_within x1 0 3) fun v5 => if v5 = 0 then (some ((-2), h)) else (bo (f_X6_within x2 0 20) fun v8 => if v8 = 0 then (some ((-2), h)) else (bd (f_X3_add 30 x1 x2 h) fun v13 g11 => if v13 = 0 then (some ((-4), g11)) else (some ((g11.1 30 2), g11)))))
set_option maxHeartbeats 4000000 in
set_option maxRecDepth 100000 in
theorem A_X6_see (X : XE) (x1 : Int32) (x2 : Int32) (h : HP) (r : Int32) (h' : HP) (hf : f_X6_see x1 x2 h = some (r, h')) : CC mX6_see 2 X [.ref (X.1 0), .int x1, .int x2] h (some (.int r)) h' := by
  refine CC_of rfl (Nat.le_of_ble_eq_true rfl) ?_
  show Run mX6_see 2 X 0 [(0, .ref (X.1 0)), (1, .int x1), (2, .int x2)] [] h (some (.int r)) h'
  unfold f_X6_see at hf
  refine r_iload_n 1 rfl 1 rfl rfl (ck DX6_see_0 0 rfl) ?_
  refine r_iconst 2 rfl ic_m1 (ck DX6_see_0 1 rfl) ?_
  rcases if_so hf with ⟨c1, hf⟩ | ⟨c1, hf⟩
  · refine r_icmp_ne_t 5 rfl 13 (ck DX6_see_0 2 rfl) (by decide) c1 ?_
    refine r_aload_n 6 rfl 0 rfl rfl (ck DX6_see_0 3 rfl) ?_
    refine r_getr (q := 30) 9 rfl (lq_6_3) sh_0 kd_6_3 fl_X6_34 (ck DX6_see_0 4 rfl) ?_
    obtain ⟨v4, g2, e3, hf⟩ := bd_so hf
    refine r_callVi 12 rfl (A_X3_clear X 30 pr_30 h v4 g2 e3) (by omega) cw_X6_209 sh_30 cl_3 rfl rfl (Nat.le_of_ble_eq_true rfl) (ck DX6_see_0 5 rfl) ?_
    obtain ⟨rfl, rfl⟩ := so2 hf
    exact r_iret rfl rfl (ck DX6_see_0 6 rfl)
  · refine r_icmp_ne_f 13 (ck DX6_see_0 2 rfl) (by decide) c1 ?_
    refine r_iload_n 14 rfl 1 rfl rfl (ck DX6_see_0 7 rfl) ?_
    refine r_iconst 15 rfl ic_0 (ck DX6_see_0 8 rfl) ?_
    refine r_iconst 16 rfl ic_3 (ck DX6_see_0 9 rfl) ?_
    obtain ⟨v5, e6, hf⟩ := bo_so hf
    refine r_callSi 19 rfl (A_X6_within X x1 0 3 h v5 e6) (by omega) cs_X6_78 rfl rfl (Nat.le_of_ble_eq_true rfl) (ck DX6_see_0 10 rfl) ?_
    rcases if_so hf with ⟨c7, hf⟩ | ⟨c7, hf⟩
    · refine r_if_eq_t 32 (ck DX6_see_0 11 rfl) (by decide) c7 ?_
      refine r_bipush 34 rfl bp_m2 (ck DX6_see_0 17 rfl) ?_
      obtain ⟨rfl, rfl⟩ := so2 hf
      exact r_iret rfl rfl (ck DX6_see_0 18 rfl)
    · refine r_if_eq_f 22 rfl 32 (ck DX6_see_0 11 rfl) (by decide) c7 ?_
      refine r_iload_n 23 rfl 2 rfl rfl (ck DX6_see_0 12 rfl) ?_
      refine r_iconst 24 rfl ic_0 (ck DX6_see_0 13 rfl) ?_
      refine r_bipush 26 rfl bp_20 (ck DX6_see_0 14 rfl) ?_
      obtain ⟨v8, e9, hf⟩ := bo_so hf
      refine r_callSi 29 rfl (A_X6_within X x2 0 20 h v8 e9) (by omega) cs_X6_78 rfl rfl (Nat.le_of_ble_eq_true rfl) (ck DX6_see_0 15 rfl) ?_
      rcases if_so hf with ⟨c10, hf⟩ | ⟨c10, hf⟩
      · refine r_if_ne_t 32 rfl 35 (ck DX6_see_0 16 rfl) (by decide) c10 ?_
        refine r_bipush 34 rfl bp_m2 (ck DX6_see_0 17 rfl) ?_
        obtain ⟨rfl, rfl⟩ := so2 hf
        exact r_iret rfl rfl (ck DX6_see_0 18 rfl)
      · refine r_if_ne_f 35 (ck DX6_see_0 16 rfl) (by decide) c10 ?_
        refine r_aload_n 36 rfl 0 rfl rfl (ck DX6_see_0 19 rfl) ?_
        refine r_getr (q := 30) 39 rfl (lq_6_3) sh_0 kd_6_3 fl_X6_34 (ck DX6_see_0 20 rfl) ?_
        refine r_iload_n 40 rfl 1 rfl rfl (ck DX6_see_0 21 rfl) ?_
        refine r_iload_n 41 rfl 2 rfl rfl (ck DX6_see_0 22 rfl) ?_
        obtain ⟨v13, g11, e12, hf⟩ := bd_so hf
        refine r_callVi 44 rfl (A_X3_add X 30 pr_30 x1 x2 h v13 g11 e12) (by omega) cw_X6_212 sh_30 cl_3 rfl rfl (Nat.le_of_ble_eq_true rfl) (ck DX6_see_0 23 rfl) ?_
        rcases if_so hf with ⟨c14, hf⟩ | ⟨c14, hf⟩
        · refine r_if_eq_t 57 (ck DX6_see_0 24 rfl) (by decide) c14 ?_
          refine r_bipush 59 rfl bp_m4 (ck DX6_see_0 29 rfl) ?_
          obtain ⟨rfl, rfl⟩ := so2 hf
          exact r_iret rfl rfl (ck DX6_see_0 30 rfl)
        · refine r_if_eq_f 47 rfl 57 (ck DX6_see_0 24 rfl) (by decide) c14 ?_
          refine r_aload_n 48 rfl 0 rfl rfl (ck DX6_see_0 25 rfl) ?_
          refine r_getr (q := 30) 51 rfl (lq_6_3) sh_0 kd_6_3 fl_X6_34 (ck DX6_see_0 26 rfl) ?_
          refine r_geti 54 rfl sh_30 kd_3_2 fl_X6_215 (ck DX6_see_0 27 rfl) ?_
          refine r_goto 59 (ck DX6_see_0 28 rfl) (by decide) ?_
          obtain ⟨rfl, rfl⟩ := so2 hf
          exact r_iret rfl rfl (ck DX6_see_0 30 rfl)
-- X6_seenIsSo
def f_X6_seenIsSo_L44 (rc37 : Int32 → Int32 → HP → Option (Int32 × HP)) : Nat → Int32 → Int32 → Int32 → HP → Option (Int32 × HP)
  | 0, _, _, _, _ => none
  | n + 1, x1, x2, x3, h => if (h.1 30 2) ≤ x3 then (bd (f_X1_dayGoes 22 h) fun v6 g4 => lt (x2 + 1 : Int32) fun v7 => rc37 x1 v7 g4) else (gd (inb x3 5) (if (h.1 32 (Int32.toNatClampNeg x3)) = x2 then (gd (inb x3 5) (if (h.1 31 (Int32.toNatClampNeg x3)) = (h.1 22 8) then (lt (x3 + 1 : Int32) fun v13 => f_X6_seenIsSo_L44 rc37 n x1 x2 v13 h) else (some (0, h)))) else (lt (x3 + 1 : Int32) fun v15 => f_X6_seenIsSo_L44 rc37 n x1 x2 v15 h)))
set_option maxHeartbeats 4000000 in
set_option maxRecDepth 100000 in
theorem A_X6_seenIsSo_L44 (X : XE) (rc37 : Int32 → Int32 → HP → Option (Int32 × HP)) (r : Int32) (h' : HP) (hr37 : ∀ (x1 : Int32) (x2 : Int32) (h : HP), rc37 x1 x2 h = some (r, h') → Run mX6_seenIsSo 5 X 37 [(0, .ref (X.1 0)), (1, .int x1), (2, .int x2)] [] h (some (.int r)) h') : ∀ (n : Nat) (x1 : Int32) (x2 : Int32) (x3 : Int32) (h : HP), f_X6_seenIsSo_L44 rc37 n x1 x2 x3 h = some (r, h') → Run mX6_seenIsSo 5 X 44 [(0, .ref (X.1 0)), (1, .int x1), (2, .int x2), (3, .int x3)] [] h (some (.int r)) h' := by
  intro n
  induction n with
  | zero => intro x1 x2 x3 h hf; cases hf
  | succ n ih =>
    intro x1 x2 x3 h hf
    rw [f_X6_seenIsSo_L44] at hf
    refine r_iload_n 45 rfl 3 rfl rfl (ck DX6_seenIsSo_0 26 rfl) ?_
    refine r_aload_n 46 rfl 0 rfl rfl (ck DX6_seenIsSo_0 27 rfl) ?_
    refine r_getr (q := 30) 49 rfl (lq_6_3) sh_0 kd_6_3 fl_X6_34 (ck DX6_seenIsSo_0 28 rfl) ?_
    refine r_geti 52 rfl sh_30 kd_3_2 fl_X6_215 (ck DX6_seenIsSo_0 29 rfl) ?_
    rcases if_so hf with ⟨c3, hf⟩ | ⟨c3, hf⟩
    · refine r_icmp_ge_t 95 (ck DX6_seenIsSo_0 30 rfl) (by decide) c3 ?_
      refine r_aload_n 96 rfl 0 rfl rfl (ck DX6_seenIsSo_1 1 rfl) ?_
      refine r_getr (q := 22) 99 rfl (lq_6_2) sh_0 kd_6_2 fl_X6_26 (ck DX6_seenIsSo_1 2 rfl) ?_
      obtain ⟨v6, g4, e5, hf⟩ := bd_so hf
      refine r_callVi 102 rfl (A_X1_dayGoes X 22 dk_22 h v6 g4 e5) (by omega) cw_X6_182 sh_22 cl_1 rfl rfl (Nat.le_of_ble_eq_true rfl) (ck DX6_seenIsSo_1 3 rfl) ?_
      refine r_pop 103 rfl rfl (ck DX6_seenIsSo_1 4 rfl) ?_
      obtain ⟨v7, e8, hf⟩ := lt_so hf
      refine r_iinc (lv' := [(2, .int v7), (0, .ref (X.1 0)), (1, .int x1), (3, .int x3)]) 106 rfl 2 (ck DX6_seenIsSo_1 5 rfl) rfl (by rw [e8, ic_1]) (by decide) rfl ?_
      refine r_goto 37 (ck DX6_seenIsSo_1 6 rfl) (by decide) ?_
      refine r_sub (lv' := [(0, .ref (X.1 0)), (1, .int x1), (2, .int v7)]) [1, 2, 0] rfl ?_
      exact hr37 x1 v7 g4 hf
    · refine r_icmp_ge_f 55 rfl 95 (ck DX6_seenIsSo_0 30 rfl) (by decide) c3 ?_
      refine r_aload_n 56 rfl 0 rfl rfl (ck DX6_seenIsSo_0 31 rfl) ?_
      refine r_getr (q := 30) 59 rfl (lq_6_3) sh_0 kd_6_3 fl_X6_34 (ck DX6_seenIsSo_0 32 rfl) ?_
      refine r_getr (q := 32) 62 rfl (lq_3_1 30) sh_30 kd_3_1 fl_X6_224 (ck DX6_seenIsSo_0 33 rfl) ?_
      refine r_iload_n 63 rfl 3 rfl rfl (ck DX6_seenIsSo_0 34 rfl) ?_
      obtain ⟨b9, hf⟩ := gd_so hf
      refine r_iald 64 rfl sh_32 (inb_vp b9) (ck DX6_seenIsSo_0 35 rfl) ?_
      refine r_iload_n 65 rfl 2 rfl rfl (ck DX6_seenIsSo_0 36 rfl) ?_
      rcases if_so hf with ⟨c10, hf⟩ | ⟨c10, hf⟩
      · refine r_icmp_ne_t 68 rfl 89 (ck DX6_seenIsSo_0 37 rfl) (by decide) c10 ?_
        refine r_aload_n 69 rfl 0 rfl rfl (ck DX6_seenIsSo_0 38 rfl) ?_
        refine r_getr (q := 30) 72 rfl (lq_6_3) sh_0 kd_6_3 fl_X6_34 (ck DX6_seenIsSo_0 39 rfl) ?_
        refine r_getr (q := 31) 75 rfl (lq_3_0 30) sh_30 kd_3_0 fl_X6_232 (ck DX6_seenIsSo_0 40 rfl) ?_
        refine r_iload_n 76 rfl 3 rfl rfl (ck DX6_seenIsSo_0 41 rfl) ?_
        obtain ⟨b11, hf⟩ := gd_so hf
        refine r_iald 77 rfl sh_31 (inb_vp b11) (ck DX6_seenIsSo_0 42 rfl) ?_
        refine r_aload_n 78 rfl 0 rfl rfl (ck DX6_seenIsSo_0 43 rfl) ?_
        refine r_getr (q := 22) 81 rfl (lq_6_2) sh_0 kd_6_2 fl_X6_26 (ck DX6_seenIsSo_0 44 rfl) ?_
        refine r_geti 84 rfl sh_22 kd_1_8 fl_X6_134 (ck DX6_seenIsSo_0 45 rfl) ?_
        rcases if_so hf with ⟨c12, hf⟩ | ⟨c12, hf⟩
        · refine r_icmp_eq_t 89 (ck DX6_seenIsSo_0 46 rfl) (by decide) c12 ?_
          obtain ⟨v13, e14, hf⟩ := lt_so hf
          refine r_iinc (lv' := [(3, .int v13), (0, .ref (X.1 0)), (1, .int x1), (2, .int x2)]) 92 rfl 3 (ck DX6_seenIsSo_0 49 rfl) rfl (by rw [e14, ic_1]) (by decide) rfl ?_
          refine r_goto 44 (ck DX6_seenIsSo_1 0 rfl) (by decide) ?_
          refine r_sub (lv' := [(0, .ref (X.1 0)), (1, .int x1), (2, .int x2), (3, .int v13)]) [1, 2, 3, 0] rfl ?_
          exact ih x1 x2 v13 h hf
        · refine r_icmp_eq_f 87 rfl 89 (ck DX6_seenIsSo_0 46 rfl) (by decide) c12 ?_
          refine r_iconst 88 rfl ic_0 (ck DX6_seenIsSo_0 47 rfl) ?_
          obtain ⟨rfl, rfl⟩ := so2 hf
          exact r_iret rfl rfl (ck DX6_seenIsSo_0 48 rfl)
      · refine r_icmp_ne_f 89 (ck DX6_seenIsSo_0 37 rfl) (by decide) c10 ?_
        obtain ⟨v15, e16, hf⟩ := lt_so hf
        refine r_iinc (lv' := [(3, .int v15), (0, .ref (X.1 0)), (1, .int x1), (2, .int x2)]) 92 rfl 3 (ck DX6_seenIsSo_0 49 rfl) rfl (by rw [e16, ic_1]) (by decide) rfl ?_
        refine r_goto 44 (ck DX6_seenIsSo_1 0 rfl) (by decide) ?_
        refine r_sub (lv' := [(0, .ref (X.1 0)), (1, .int x1), (2, .int x2), (3, .int v15)]) [1, 2, 3, 0] rfl ?_
        exact ih x1 x2 v15 h hf
def f_X6_seenIsSo_L37 : Nat → Int32 → Int32 → HP → Option (Int32 × HP)
  | 0, _, _, _ => none
  | n + 1, x1, x2, h => if x1 < x2 then (some (1, h)) else (f_X6_seenIsSo_L44 (fun z0 z1 z2 => f_X6_seenIsSo_L37 n z0 z1 z2) FZ x1 x2 0 h)
set_option maxHeartbeats 4000000 in
set_option maxRecDepth 100000 in
theorem A_X6_seenIsSo_L37 (X : XE) (r : Int32) (h' : HP) : ∀ (n : Nat) (x1 : Int32) (x2 : Int32) (h : HP), f_X6_seenIsSo_L37 n x1 x2 h = some (r, h') → Run mX6_seenIsSo 5 X 37 [(0, .ref (X.1 0)), (1, .int x1), (2, .int x2)] [] h (some (.int r)) h' := by
  intro n
  induction n with
  | zero => intro x1 x2 h hf; cases hf
  | succ n ih =>
    intro x1 x2 h hf
    rw [f_X6_seenIsSo_L37] at hf
    refine r_iload_n 38 rfl 2 rfl rfl (ck DX6_seenIsSo_0 21 rfl) ?_
    refine r_iload_n 39 rfl 1 rfl rfl (ck DX6_seenIsSo_0 22 rfl) ?_
    rcases if_so hf with ⟨c2, hf⟩ | ⟨c2, hf⟩
    · refine r_icmp_gt_t 109 (ck DX6_seenIsSo_0 23 rfl) (by decide) c2 ?_
      refine r_iconst 110 rfl ic_1 (ck DX6_seenIsSo_1 7 rfl) ?_
      obtain ⟨rfl, rfl⟩ := so2 hf
      exact r_iret rfl rfl (ck DX6_seenIsSo_1 8 rfl)
    · refine r_icmp_gt_f 42 rfl 109 (ck DX6_seenIsSo_0 23 rfl) (by decide) c2 ?_
      refine r_iconst 43 rfl ic_0 (ck DX6_seenIsSo_0 24 rfl) ?_
      refine r_istore_n (lv' := [(3, .int 0), (0, .ref (X.1 0)), (1, .int x1), (2, .int x2)]) 44 rfl (ck DX6_seenIsSo_0 25 rfl) (by decide) rfl rfl ?_
      refine r_sub (lv' := [(0, .ref (X.1 0)), (1, .int x1), (2, .int x2), (3, .int 0)]) [1, 2, 3, 0] rfl ?_
      exact A_X6_seenIsSo_L44 X (fun z0 z1 z2 => f_X6_seenIsSo_L37 n z0 z1 z2) _ _ ih FZ x1 x2 0 h hf
def f_X6_seenIsSo_L4 : Nat → Int32 → Int32 → HP → Option (Int32 × HP)
  | 0, _, _, _ => none
  | n + 1, x1, x2, h => if (h.1 30 2) ≤ x2 then (f_X6_seenIsSo_L37 FZ x1 0 h) else (gd (inb x2 5) (lt ((if x1 < (h.1 32 (Int32.toNatClampNeg x2)) then (h.1 32 (Int32.toNatClampNeg x2)) else x1) : Int32) fun v18 => lt (x2 + 1 : Int32) fun v20 => f_X6_seenIsSo_L4 n v18 v20 h))
set_option maxHeartbeats 4000000 in
set_option maxRecDepth 100000 in
theorem A_X6_seenIsSo_L4 (X : XE) (r : Int32) (h' : HP) : ∀ (n : Nat) (x1 : Int32) (x2 : Int32) (h : HP), f_X6_seenIsSo_L4 n x1 x2 h = some (r, h') → Run mX6_seenIsSo 5 X 4 [(0, .ref (X.1 0)), (1, .int x1), (2, .int x2)] [] h (some (.int r)) h' := by
  intro n
  induction n with
  | zero => intro x1 x2 h hf; cases hf
  | succ n ih =>
    intro x1 x2 h hf
    rw [f_X6_seenIsSo_L4] at hf
    refine r_iload_n 5 rfl 2 rfl rfl (ck DX6_seenIsSo_0 4 rfl) ?_
    refine r_aload_n 6 rfl 0 rfl rfl (ck DX6_seenIsSo_0 5 rfl) ?_
    refine r_getr (q := 30) 9 rfl (lq_6_3) sh_0 kd_6_3 fl_X6_34 (ck DX6_seenIsSo_0 6 rfl) ?_
    refine r_geti 12 rfl sh_30 kd_3_2 fl_X6_215 (ck DX6_seenIsSo_0 7 rfl) ?_
    rcases if_so hf with ⟨c1, hf⟩ | ⟨c1, hf⟩
    · refine r_icmp_ge_t 35 (ck DX6_seenIsSo_0 8 rfl) (by decide) c1 ?_
      refine r_iconst 36 rfl ic_0 (ck DX6_seenIsSo_0 19 rfl) ?_
      refine r_istore_n (lv' := [(2, .int 0), (0, .ref (X.1 0)), (1, .int x1)]) 37 rfl (ck DX6_seenIsSo_0 20 rfl) (by decide) rfl rfl ?_
      refine r_sub (lv' := [(0, .ref (X.1 0)), (1, .int x1), (2, .int 0)]) [1, 2, 0] rfl ?_
      exact A_X6_seenIsSo_L37 X _ _ FZ x1 0 h hf
    · refine r_icmp_ge_f 15 rfl 35 (ck DX6_seenIsSo_0 8 rfl) (by decide) c1 ?_
      refine r_iload_n 16 rfl 1 rfl rfl (ck DX6_seenIsSo_0 9 rfl) ?_
      refine r_aload_n 17 rfl 0 rfl rfl (ck DX6_seenIsSo_0 10 rfl) ?_
      refine r_getr (q := 30) 20 rfl (lq_6_3) sh_0 kd_6_3 fl_X6_34 (ck DX6_seenIsSo_0 11 rfl) ?_
      refine r_getr (q := 32) 23 rfl (lq_3_1 30) sh_30 kd_3_1 fl_X6_224 (ck DX6_seenIsSo_0 12 rfl) ?_
      refine r_iload_n 24 rfl 2 rfl rfl (ck DX6_seenIsSo_0 13 rfl) ?_
      obtain ⟨b17, hf⟩ := gd_so hf
      refine r_iald 25 rfl sh_32 (inb_vp b17) (ck DX6_seenIsSo_0 14 rfl) ?_
      refine r_max 28 rfl (by decide) ml_X6_227 ms_max ini_Math mc_max (Nat.le_of_ble_eq_true rfl) (ck DX6_seenIsSo_0 15 rfl) ?_
      obtain ⟨v18, e19, hf⟩ := lt_so hf
      refine r_top e19 ?_
      refine r_istore_n (lv' := [(1, .int v18), (0, .ref (X.1 0)), (2, .int x2)]) 29 rfl (ck DX6_seenIsSo_0 16 rfl) (by decide) rfl rfl ?_
      obtain ⟨v20, e21, hf⟩ := lt_so hf
      refine r_iinc (lv' := [(2, .int v20), (1, .int v18), (0, .ref (X.1 0))]) 32 rfl 2 (ck DX6_seenIsSo_0 17 rfl) rfl (by rw [e21, ic_1]) (by decide) rfl ?_
      refine r_goto 4 (ck DX6_seenIsSo_0 18 rfl) (by decide) ?_
      refine r_sub (lv' := [(0, .ref (X.1 0)), (1, .int v18), (2, .int v20)]) [2, 1, 0] rfl ?_
      exact ih v18 v20 h hf
def f_X6_seenIsSo (h : HP) : Option (Int32 × HP) := f_X6_seenIsSo_L4 FZ 0 0 h
set_option maxHeartbeats 4000000 in
set_option maxRecDepth 100000 in
theorem A_X6_seenIsSo (X : XE) (h : HP) (r : Int32) (h' : HP) (hf : f_X6_seenIsSo h = some (r, h')) : CC mX6_seenIsSo 5 X [.ref (X.1 0)] h (some (.int r)) h' := by
  refine CC_of rfl (Nat.le_of_ble_eq_true rfl) ?_
  show Run mX6_seenIsSo 5 X 0 [(0, .ref (X.1 0))] [] h (some (.int r)) h'
  unfold f_X6_seenIsSo at hf
  refine r_iconst 1 rfl ic_0 (ck DX6_seenIsSo_0 0 rfl) ?_
  refine r_istore_n (lv' := [(1, .int 0), (0, .ref (X.1 0))]) 2 rfl (ck DX6_seenIsSo_0 1 rfl) (by decide) rfl rfl ?_
  refine r_iconst 3 rfl ic_0 (ck DX6_seenIsSo_0 2 rfl) ?_
  refine r_istore_n (lv' := [(2, .int 0), (1, .int 0), (0, .ref (X.1 0))]) 4 rfl (ck DX6_seenIsSo_0 3 rfl) (by decide) rfl rfl ?_
  refine r_sub (lv' := [(0, .ref (X.1 0)), (1, .int 0), (2, .int 0)]) [2, 1, 0] rfl ?_
  exact A_X6_seenIsSo_L4 X _ _ FZ 0 0 h hf
-- X6_fitting
def f_X6_fitting_L10 (q1 : Nat) : Nat → Int32 → Int32 → Int32 → Int32 → Int32 → Int32 → HP → Option (Int32 × HP)
  | 0, _, _, _, _, _, _, _ => none
  | n + 1, x2, x3, x4, x5, x6, x7, h => if x3 < x7 then (if x4 = 0 then (some (x5, h)) else (some (x6, h))) else (bo (f_X1_startFrom 22 6 h) fun g3 => gd (inb x2 6) (lt (si g3 q1 (Int32.toNatClampNeg x2) x7) fun g6 => bd (f_X6_seenIsSo g6) fun v10 g8 => if v10 = 0 then (lt (x7 + 1 : Int32) fun v12 => f_X6_fitting_L10 q1 n x2 x3 x4 x5 x6 v12 g8) else (if x5 = 0 then (lt (x5 + 1 : Int32) fun v15 => lt (x7 + 1 : Int32) fun v17 => f_X6_fitting_L10 q1 n x2 x3 x4 v15 x7 v17 g8) else (lt (x5 + 1 : Int32) fun v19 => lt (x7 + 1 : Int32) fun v21 => f_X6_fitting_L10 q1 n x2 x3 x4 v19 x6 v21 g8))))
set_option maxHeartbeats 4000000 in
set_option maxRecDepth 100000 in
theorem A_X6_fitting_L10 (X : XE) (q1 : Nat) (hq1 : AR6 q1) (r : Int32) (h' : HP) : ∀ (n : Nat) (x2 : Int32) (x3 : Int32) (x4 : Int32) (x5 : Int32) (x6 : Int32) (x7 : Int32) (h : HP), f_X6_fitting_L10 q1 n x2 x3 x4 x5 x6 x7 h = some (r, h') → Run mX6_fitting 6 X 10 [(0, .ref (X.1 0)), (1, .ref (X.1 q1)), (2, .int x2), (3, .int x3), (4, .int x4), (5, .int x5), (6, .int x6), (7, .int x7)] [] h (some (.int r)) h' := by
  intro n
  induction n with
  | zero => intro x2 x3 x4 x5 x6 x7 h hf; cases hf
  | succ n ih =>
    intro x2 x3 x4 x5 x6 x7 h hf
    rw [f_X6_fitting_L10] at hf
    refine r_iload 12 rfl 7 rfl (ck DX6_fitting_0 6 rfl) ?_
    refine r_iload_n 13 rfl 3 rfl rfl (ck DX6_fitting_0 7 rfl) ?_
    rcases if_so hf with ⟨c1, hf⟩ | ⟨c1, hf⟩
    · refine r_icmp_gt_t 62 (ck DX6_fitting_0 8 rfl) (by decide) c1 ?_
      refine r_iload 64 rfl 4 rfl (ck DX6_fitting_0 30 rfl) ?_
      rcases if_so hf with ⟨c2, hf⟩ | ⟨c2, hf⟩
      · refine r_if_ne_t 67 rfl 72 (ck DX6_fitting_0 31 rfl) (by decide) c2 ?_
        refine r_iload 69 rfl 5 rfl (ck DX6_fitting_0 32 rfl) ?_
        refine r_goto 74 (ck DX6_fitting_0 33 rfl) (by decide) ?_
        obtain ⟨rfl, rfl⟩ := so2 hf
        exact r_iret rfl rfl (ck DX6_fitting_0 35 rfl)
      · refine r_if_ne_f 72 (ck DX6_fitting_0 31 rfl) (by decide) c2 ?_
        refine r_iload 74 rfl 6 rfl (ck DX6_fitting_0 34 rfl) ?_
        obtain ⟨rfl, rfl⟩ := so2 hf
        exact r_iret rfl rfl (ck DX6_fitting_0 35 rfl)
    · refine r_icmp_gt_f 16 rfl 62 (ck DX6_fitting_0 8 rfl) (by decide) c1 ?_
      refine r_aload_n 17 rfl 0 rfl rfl (ck DX6_fitting_0 9 rfl) ?_
      refine r_getr (q := 22) 20 rfl (lq_6_2) sh_0 kd_6_2 fl_X6_26 (ck DX6_fitting_0 10 rfl) ?_
      refine r_aload_n 21 rfl 0 rfl rfl (ck DX6_fitting_0 11 rfl) ?_
      refine r_getr (q := 6) 24 rfl (lq_6_0) sh_0 kd_6_0 fl_X6_17 (ck DX6_fitting_0 12 rfl) ?_
      obtain ⟨g3, e4, hf⟩ := bo_so hf
      refine r_callVv 27 rfl (A_X1_startFrom X 22 dk_22 6 dk_6 h g3 e4) (by omega) cw_X6_185 sh_22 cl_1 rfl rfl (Nat.le_of_ble_eq_true rfl) (ck DX6_fitting_0 13 rfl) ?_
      refine r_aload_n 28 rfl 1 rfl rfl (ck DX6_fitting_0 14 rfl) ?_
      refine r_iload_n 29 rfl 2 rfl rfl (ck DX6_fitting_0 15 rfl) ?_
      refine r_iload 31 rfl 7 rfl (ck DX6_fitting_0 16 rfl) ?_
      obtain ⟨b5, hf⟩ := gd_so hf
      obtain ⟨g6, e7, hf⟩ := lt_so hf
      refine r_iast 32 rfl hq1 (inb_vp b5) (ck DX6_fitting_0 17 rfl) ?_
      refine r_heap e7 ?_
      refine r_aload_n 33 rfl 0 rfl rfl (ck DX6_fitting_0 18 rfl) ?_
      obtain ⟨v10, g8, e9, hf⟩ := bd_so hf
      refine r_callVi 36 rfl (A_X6_seenIsSo X g6 v10 g8 e9) (by omega) cw_X6_220 sh_0 cl_6 rfl rfl (Nat.le_of_ble_eq_true rfl) (ck DX6_fitting_0 19 rfl) ?_
      rcases if_so hf with ⟨c11, hf⟩ | ⟨c11, hf⟩
      · refine r_if_eq_t 56 (ck DX6_fitting_0 20 rfl) (by decide) c11 ?_
        obtain ⟨v12, e13, hf⟩ := lt_so hf
        refine r_iinc (lv' := [(7, .int v12), (0, .ref (X.1 0)), (1, .ref (X.1 q1)), (2, .int x2), (3, .int x3), (4, .int x4), (5, .int x5), (6, .int x6)]) 59 rfl 7 (ck DX6_fitting_0 28 rfl) rfl (by rw [e13, ic_1]) (by decide) rfl ?_
        refine r_goto 10 (ck DX6_fitting_0 29 rfl) (by decide) ?_
        refine r_sub (lv' := [(0, .ref (X.1 0)), (1, .ref (X.1 q1)), (2, .int x2), (3, .int x3), (4, .int x4), (5, .int x5), (6, .int x6), (7, .int v12)]) [1, 2, 3, 4, 5, 6, 7, 0] rfl ?_
        exact ih x2 x3 x4 x5 x6 v12 g8 hf
      · refine r_if_eq_f 39 rfl 56 (ck DX6_fitting_0 20 rfl) (by decide) c11 ?_
        refine r_iload 41 rfl 5 rfl (ck DX6_fitting_0 21 rfl) ?_
        rcases if_so hf with ⟨c14, hf⟩ | ⟨c14, hf⟩
        · refine r_if_ne_t 44 rfl 49 (ck DX6_fitting_0 22 rfl) (by decide) c14 ?_
          refine r_iload 46 rfl 7 rfl (ck DX6_fitting_0 23 rfl) ?_
          refine r_goto 51 (ck DX6_fitting_0 24 rfl) (by decide) ?_
          refine r_istore (lv' := [(6, .int x7), (0, .ref (X.1 0)), (1, .ref (X.1 q1)), (2, .int x2), (3, .int x3), (4, .int x4), (5, .int x5), (7, .int x7)]) 53 rfl (ck DX6_fitting_0 26 rfl) (by decide) rfl ?_
          obtain ⟨v15, e16, hf⟩ := lt_so hf
          refine r_iinc (lv' := [(5, .int v15), (6, .int x7), (0, .ref (X.1 0)), (1, .ref (X.1 q1)), (2, .int x2), (3, .int x3), (4, .int x4), (7, .int x7)]) 56 rfl 6 (ck DX6_fitting_0 27 rfl) rfl (by rw [e16, ic_1]) (by decide) rfl ?_
          obtain ⟨v17, e18, hf⟩ := lt_so hf
          refine r_iinc (lv' := [(7, .int v17), (5, .int v15), (6, .int x7), (0, .ref (X.1 0)), (1, .ref (X.1 q1)), (2, .int x2), (3, .int x3), (4, .int x4)]) 59 rfl 7 (ck DX6_fitting_0 28 rfl) rfl (by rw [e18, ic_1]) (by decide) rfl ?_
          refine r_goto 10 (ck DX6_fitting_0 29 rfl) (by decide) ?_
          refine r_sub (lv' := [(0, .ref (X.1 0)), (1, .ref (X.1 q1)), (2, .int x2), (3, .int x3), (4, .int x4), (5, .int v15), (6, .int x7), (7, .int v17)]) [3, 4, 5, 6, 7, 1, 2, 0] rfl ?_
          exact ih x2 x3 x4 v15 x7 v17 g8 hf
        · refine r_if_ne_f 49 (ck DX6_fitting_0 22 rfl) (by decide) c14 ?_
          refine r_iload 51 rfl 6 rfl (ck DX6_fitting_0 25 rfl) ?_
          refine r_istore (lv' := [(6, .int x6), (0, .ref (X.1 0)), (1, .ref (X.1 q1)), (2, .int x2), (3, .int x3), (4, .int x4), (5, .int x5), (7, .int x7)]) 53 rfl (ck DX6_fitting_0 26 rfl) (by decide) rfl ?_
          obtain ⟨v19, e20, hf⟩ := lt_so hf
          refine r_iinc (lv' := [(5, .int v19), (6, .int x6), (0, .ref (X.1 0)), (1, .ref (X.1 q1)), (2, .int x2), (3, .int x3), (4, .int x4), (7, .int x7)]) 56 rfl 6 (ck DX6_fitting_0 27 rfl) rfl (by rw [e20, ic_1]) (by decide) rfl ?_
          obtain ⟨v21, e22, hf⟩ := lt_so hf
          refine r_iinc (lv' := [(7, .int v21), (5, .int v19), (6, .int x6), (0, .ref (X.1 0)), (1, .ref (X.1 q1)), (2, .int x2), (3, .int x3), (4, .int x4)]) 59 rfl 7 (ck DX6_fitting_0 28 rfl) rfl (by rw [e22, ic_1]) (by decide) rfl ?_
          refine r_goto 10 (ck DX6_fitting_0 29 rfl) (by decide) ?_
          refine r_sub (lv' := [(0, .ref (X.1 0)), (1, .ref (X.1 q1)), (2, .int x2), (3, .int x3), (4, .int x4), (5, .int v19), (6, .int x6), (7, .int v21)]) [3, 4, 5, 6, 7, 1, 2, 0] rfl ?_
          exact ih x2 x3 x4 v19 x6 v21 g8 hf
def f_X6_fitting (q1 : Nat) (x2 : Int32) (x3 : Int32) (x4 : Int32) (h : HP) : Option (Int32 × HP) := f_X6_fitting_L10 q1 FZ x2 x3 x4 0 (-5) 0 h
set_option maxHeartbeats 4000000 in
set_option maxRecDepth 100000 in
theorem A_X6_fitting (X : XE) (q1 : Nat) (hq1 : AR6 q1) (x2 : Int32) (x3 : Int32) (x4 : Int32) (h : HP) (r : Int32) (h' : HP) (hf : f_X6_fitting q1 x2 x3 x4 h = some (r, h')) : CC mX6_fitting 6 X [.ref (X.1 0), .ref (X.1 q1), .int x2, .int x3, .int x4] h (some (.int r)) h' := by
  refine CC_of rfl (Nat.le_of_ble_eq_true rfl) ?_
  show Run mX6_fitting 6 X 0 [(0, .ref (X.1 0)), (1, .ref (X.1 q1)), (2, .int x2), (3, .int x3), (4, .int x4)] [] h (some (.int r)) h'
  unfold f_X6_fitting at hf
  refine r_iconst 1 rfl ic_0 (ck DX6_fitting_0 0 rfl) ?_
  refine r_istore (lv' := [(5, .int 0), (0, .ref (X.1 0)), (1, .ref (X.1 q1)), (2, .int x2), (3, .int x3), (4, .int x4)]) 3 rfl (ck DX6_fitting_0 1 rfl) (by decide) rfl ?_
  refine r_bipush 5 rfl bp_m5 (ck DX6_fitting_0 2 rfl) ?_
  refine r_istore (lv' := [(6, .int (-5)), (5, .int 0), (0, .ref (X.1 0)), (1, .ref (X.1 q1)), (2, .int x2), (3, .int x3), (4, .int x4)]) 7 rfl (ck DX6_fitting_0 3 rfl) (by decide) rfl ?_
  refine r_iconst 8 rfl ic_0 (ck DX6_fitting_0 4 rfl) ?_
  refine r_istore (lv' := [(7, .int 0), (6, .int (-5)), (5, .int 0), (0, .ref (X.1 0)), (1, .ref (X.1 q1)), (2, .int x2), (3, .int x3), (4, .int x4)]) 10 rfl (ck DX6_fitting_0 5 rfl) (by decide) rfl ?_
  refine r_sub (lv' := [(0, .ref (X.1 0)), (1, .ref (X.1 q1)), (2, .int x2), (3, .int x3), (4, .int x4), (5, .int 0), (6, .int (-5)), (7, .int 0)]) [3, 4, 5, 6, 7, 2, 1, 0] rfl ?_
  exact A_X6_fitting_L10 X q1 hq1 _ _ FZ x2 x3 x4 0 (-5) 0 h hf
-- X6_worn
def f_X6_worn (x1 : Int32) (x2 : Int32) (h : HP) : Option (Int32 × HP) := bo (f_X1_has 6 x1 h) fun v1 => if v1 = 0 then (some ((-1), h)) else (bo (f_X6_within x2 0 1) fun v4 => if v4 = 0 then (some ((-1), h)) else (bd (f_X6_fitting 26 x1 60 x2 h) fun v9 g7 => some (v9, g7)))
set_option maxHeartbeats 4000000 in
set_option maxRecDepth 100000 in
theorem A_X6_worn (X : XE) (x1 : Int32) (x2 : Int32) (h : HP) (r : Int32) (h' : HP) (hf : f_X6_worn x1 x2 h = some (r, h')) : CC mX6_worn 7 X [.ref (X.1 0), .int x1, .int x2] h (some (.int r)) h' := by
  refine CC_of rfl (Nat.le_of_ble_eq_true rfl) ?_
  show Run mX6_worn 7 X 0 [(0, .ref (X.1 0)), (1, .int x1), (2, .int x2)] [] h (some (.int r)) h'
  unfold f_X6_worn at hf
  refine r_aload_n 1 rfl 0 rfl rfl (ck DX6_worn_0 0 rfl) ?_
  refine r_getr (q := 6) 4 rfl (lq_6_0) sh_0 kd_6_0 fl_X6_17 (ck DX6_worn_0 1 rfl) ?_
  refine r_iload_n 5 rfl 1 rfl rfl (ck DX6_worn_0 2 rfl) ?_
  obtain ⟨v1, e2, hf⟩ := bo_so hf
  refine r_callVi 8 rfl (A_X1_has X 6 dk_6 x1 h v1 e2) (by omega) cw_X6_90 sh_6 cl_1 rfl rfl (Nat.le_of_ble_eq_true rfl) (ck DX6_worn_0 3 rfl) ?_
  rcases if_so hf with ⟨c3, hf⟩ | ⟨c3, hf⟩
  · refine r_if_eq_t 20 (ck DX6_worn_0 4 rfl) (by decide) c3 ?_
    refine r_iconst 21 rfl ic_m1 (ck DX6_worn_0 10 rfl) ?_
    obtain ⟨rfl, rfl⟩ := so2 hf
    exact r_iret rfl rfl (ck DX6_worn_0 11 rfl)
  · refine r_if_eq_f 11 rfl 20 (ck DX6_worn_0 4 rfl) (by decide) c3 ?_
    refine r_iload_n 12 rfl 2 rfl rfl (ck DX6_worn_0 5 rfl) ?_
    refine r_iconst 13 rfl ic_0 (ck DX6_worn_0 6 rfl) ?_
    refine r_iconst 14 rfl ic_1 (ck DX6_worn_0 7 rfl) ?_
    obtain ⟨v4, e5, hf⟩ := bo_so hf
    refine r_callSi 17 rfl (A_X6_within X x2 0 1 h v4 e5) (by omega) cs_X6_78 rfl rfl (Nat.le_of_ble_eq_true rfl) (ck DX6_worn_0 8 rfl) ?_
    rcases if_so hf with ⟨c6, hf⟩ | ⟨c6, hf⟩
    · refine r_if_ne_t 20 rfl 22 (ck DX6_worn_0 9 rfl) (by decide) c6 ?_
      refine r_iconst 21 rfl ic_m1 (ck DX6_worn_0 10 rfl) ?_
      obtain ⟨rfl, rfl⟩ := so2 hf
      exact r_iret rfl rfl (ck DX6_worn_0 11 rfl)
    · refine r_if_ne_f 22 (ck DX6_worn_0 9 rfl) (by decide) c6 ?_
      refine r_aload_n 23 rfl 0 rfl rfl (ck DX6_worn_0 12 rfl) ?_
      refine r_aload_n 24 rfl 0 rfl rfl (ck DX6_worn_0 13 rfl) ?_
      refine r_getr (q := 22) 27 rfl (lq_6_2) sh_0 kd_6_2 fl_X6_26 (ck DX6_worn_0 14 rfl) ?_
      refine r_getr (q := 26) 30 rfl (lq_1_3 22) sh_22 kd_1_3 fl_X6_104 (ck DX6_worn_0 15 rfl) ?_
      refine r_iload_n 31 rfl 1 rfl rfl (ck DX6_worn_0 16 rfl) ?_
      refine r_bipush 33 rfl bp_60 (ck DX6_worn_0 17 rfl) ?_
      refine r_iload_n 34 rfl 2 rfl rfl (ck DX6_worn_0 18 rfl) ?_
      obtain ⟨v9, g7, e8, hf⟩ := bd_so hf
      refine r_callVi 37 rfl (A_X6_fitting X 26 sh_26 x1 60 x2 h v9 g7 e8) (by omega) cw_X6_216 sh_0 cl_6 rfl rfl (Nat.le_of_ble_eq_true rfl) (ck DX6_worn_0 19 rfl) ?_
      obtain ⟨rfl, rfl⟩ := so2 hf
      exact r_iret rfl rfl (ck DX6_worn_0 20 rfl)
-- X6_can
def f_X6_can (x1 : Int32) (x2 : Int32) (h : HP) : Option (Int32 × HP) := bo (f_X1_has 6 x1 h) fun v1 => if v1 = 0 then (some ((-1), h)) else (bo (f_X6_within x2 0 1) fun v4 => if v4 = 0 then (some ((-1), h)) else (bd (f_X6_fitting 24 x1 9 x2 h) fun v9 g7 => some (v9, g7)))
set_option maxHeartbeats 4000000 in
set_option maxRecDepth 100000 in
theorem A_X6_can (X : XE) (x1 : Int32) (x2 : Int32) (h : HP) (r : Int32) (h' : HP) (hf : f_X6_can x1 x2 h = some (r, h')) : CC mX6_can 7 X [.ref (X.1 0), .int x1, .int x2] h (some (.int r)) h' := by
  refine CC_of rfl (Nat.le_of_ble_eq_true rfl) ?_
  show Run mX6_can 7 X 0 [(0, .ref (X.1 0)), (1, .int x1), (2, .int x2)] [] h (some (.int r)) h'
  unfold f_X6_can at hf
  refine r_aload_n 1 rfl 0 rfl rfl (ck DX6_can_0 0 rfl) ?_
  refine r_getr (q := 6) 4 rfl (lq_6_0) sh_0 kd_6_0 fl_X6_17 (ck DX6_can_0 1 rfl) ?_
  refine r_iload_n 5 rfl 1 rfl rfl (ck DX6_can_0 2 rfl) ?_
  obtain ⟨v1, e2, hf⟩ := bo_so hf
  refine r_callVi 8 rfl (A_X1_has X 6 dk_6 x1 h v1 e2) (by omega) cw_X6_90 sh_6 cl_1 rfl rfl (Nat.le_of_ble_eq_true rfl) (ck DX6_can_0 3 rfl) ?_
  rcases if_so hf with ⟨c3, hf⟩ | ⟨c3, hf⟩
  · refine r_if_eq_t 20 (ck DX6_can_0 4 rfl) (by decide) c3 ?_
    refine r_iconst 21 rfl ic_m1 (ck DX6_can_0 10 rfl) ?_
    obtain ⟨rfl, rfl⟩ := so2 hf
    exact r_iret rfl rfl (ck DX6_can_0 11 rfl)
  · refine r_if_eq_f 11 rfl 20 (ck DX6_can_0 4 rfl) (by decide) c3 ?_
    refine r_iload_n 12 rfl 2 rfl rfl (ck DX6_can_0 5 rfl) ?_
    refine r_iconst 13 rfl ic_0 (ck DX6_can_0 6 rfl) ?_
    refine r_iconst 14 rfl ic_1 (ck DX6_can_0 7 rfl) ?_
    obtain ⟨v4, e5, hf⟩ := bo_so hf
    refine r_callSi 17 rfl (A_X6_within X x2 0 1 h v4 e5) (by omega) cs_X6_78 rfl rfl (Nat.le_of_ble_eq_true rfl) (ck DX6_can_0 8 rfl) ?_
    rcases if_so hf with ⟨c6, hf⟩ | ⟨c6, hf⟩
    · refine r_if_ne_t 20 rfl 22 (ck DX6_can_0 9 rfl) (by decide) c6 ?_
      refine r_iconst 21 rfl ic_m1 (ck DX6_can_0 10 rfl) ?_
      obtain ⟨rfl, rfl⟩ := so2 hf
      exact r_iret rfl rfl (ck DX6_can_0 11 rfl)
    · refine r_if_ne_f 22 (ck DX6_can_0 9 rfl) (by decide) c6 ?_
      refine r_aload_n 23 rfl 0 rfl rfl (ck DX6_can_0 12 rfl) ?_
      refine r_aload_n 24 rfl 0 rfl rfl (ck DX6_can_0 13 rfl) ?_
      refine r_getr (q := 22) 27 rfl (lq_6_2) sh_0 kd_6_2 fl_X6_26 (ck DX6_can_0 14 rfl) ?_
      refine r_getr (q := 24) 30 rfl (lq_1_1 22) sh_22 kd_1_1 fl_X6_98 (ck DX6_can_0 15 rfl) ?_
      refine r_iload_n 31 rfl 1 rfl rfl (ck DX6_can_0 16 rfl) ?_
      refine r_bipush 33 rfl bp_9 (ck DX6_can_0 17 rfl) ?_
      refine r_iload_n 34 rfl 2 rfl rfl (ck DX6_can_0 18 rfl) ?_
      obtain ⟨v9, g7, e8, hf⟩ := bd_so hf
      refine r_callVi 37 rfl (A_X6_fitting X 24 sh_24 x1 9 x2 h v9 g7 e8) (by omega) cw_X6_216 sh_0 cl_6 rfl rfl (Nat.le_of_ble_eq_true rfl) (ck DX6_can_0 19 rfl) ?_
      obtain ⟨rfl, rfl⟩ := so2 hf
      exact r_iret rfl rfl (ck DX6_can_0 20 rfl)
-- X6_inLowestTerms
def f_X6_inLowestTerms_J15 (x0 : Int32) (x1 : Int32) (x2 : Int32) (s0 : Int32) : Option Int64 := if x2 = 0 then (if s0 = 0 then (some (Int32.toInt64 x0)) else (gd (nz x1) (some (Int32.toInt64 (x0 / x1))))) else (if s0 = 0 then (some (Int32.toInt64 x1)) else (some 1))
set_option maxHeartbeats 4000000 in
set_option maxRecDepth 100000 in
theorem A_X6_inLowestTerms_J15 (X : XE) (h : HP) (r : Int64) (x0 : Int32) (x1 : Int32) (x2 : Int32) (s0 : Int32) (hf : f_X6_inLowestTerms_J15 x0 x1 x2 s0 = some r) : Run mX6_inLowestTerms 1 X 15 [(0, .int x0), (1, .int x1), (2, .int x2)] [.int s0] h (some (.long r)) h := by
  unfold f_X6_inLowestTerms_J15 at hf
  refine r_istore_n (lv' := [(3, .int s0), (0, .int x0), (1, .int x1), (2, .int x2)]) 16 rfl (ck DX6_inLowestTerms_0 9 rfl) (by decide) rfl rfl ?_
  refine r_iload_n 17 rfl 3 rfl rfl (ck DX6_inLowestTerms_0 10 rfl) ?_
  rcases if_so hf with ⟨c2, hf⟩ | ⟨c2, hf⟩
  · refine r_if_ne_t 20 rfl 34 (ck DX6_inLowestTerms_0 11 rfl) (by decide) c2 ?_
    refine r_iload_n 21 rfl 0 rfl rfl (ck DX6_inLowestTerms_0 12 rfl) ?_
    rcases if_so hf with ⟨c3, hf⟩ | ⟨c3, hf⟩
    · refine r_if_eq_t 31 (ck DX6_inLowestTerms_0 13 rfl) (by decide) c3 ?_
      refine r_iload_n 32 rfl 1 rfl rfl (ck DX6_inLowestTerms_0 19 rfl) ?_
      refine r_i2l 33 rfl (ck DX6_inLowestTerms_0 20 rfl) ?_
      obtain rfl := so1 hf
      exact r_lret rfl (ck DX6_inLowestTerms_0 21 rfl)
    · refine r_if_eq_f 24 rfl 31 (ck DX6_inLowestTerms_0 13 rfl) (by decide) c3 ?_
      refine r_iload_n 25 rfl 1 rfl rfl (ck DX6_inLowestTerms_0 14 rfl) ?_
      refine r_iload_n 26 rfl 2 rfl rfl (ck DX6_inLowestTerms_0 15 rfl) ?_
      obtain ⟨b4, hf⟩ := gd_so hf
      refine r_idiv 27 rfl (nz_of b4) (ck DX6_inLowestTerms_0 16 rfl) ?_
      refine r_i2l 28 rfl (ck DX6_inLowestTerms_0 17 rfl) ?_
      refine r_goto 33 (ck DX6_inLowestTerms_0 18 rfl) (by decide) ?_
      obtain rfl := so1 hf
      exact r_lret rfl (ck DX6_inLowestTerms_0 21 rfl)
  · refine r_if_ne_f 34 (ck DX6_inLowestTerms_0 11 rfl) (by decide) c2 ?_
    refine r_iload_n 35 rfl 0 rfl rfl (ck DX6_inLowestTerms_0 22 rfl) ?_
    rcases if_so hf with ⟨c5, hf⟩ | ⟨c5, hf⟩
    · refine r_if_eq_t 42 (ck DX6_inLowestTerms_0 23 rfl) (by decide) c5 ?_
      refine r_iload_n 43 rfl 2 rfl rfl (ck DX6_inLowestTerms_0 26 rfl) ?_
      refine r_i2l 44 rfl (ck DX6_inLowestTerms_0 27 rfl) ?_
      obtain rfl := so1 hf
      exact r_lret rfl (ck DX6_inLowestTerms_0 28 rfl)
    · refine r_if_eq_f 38 rfl 42 (ck DX6_inLowestTerms_0 23 rfl) (by decide) c5 ?_
      refine r_lconst (v := 1) 39 rfl rfl (ck DX6_inLowestTerms_0 24 rfl) ?_
      refine r_goto 44 (ck DX6_inLowestTerms_0 25 rfl) (by decide) ?_
      obtain rfl := so1 hf
      exact r_lret rfl (ck DX6_inLowestTerms_0 28 rfl)
def f_X6_inLowestTerms (x0 : Int32) (x1 : Int32) (x2 : Int32) : Option Int64 := if x1 ≤ 0 then (f_X6_inLowestTerms_J15 x0 x1 x2 0) else (gd (nz x1) (if (x0 - x0 / x1 * x1) = 0 then (f_X6_inLowestTerms_J15 x0 x1 x2 1) else (f_X6_inLowestTerms_J15 x0 x1 x2 0)))
set_option maxHeartbeats 4000000 in
set_option maxRecDepth 100000 in
theorem A_X6_inLowestTerms (X : XE) (x0 : Int32) (x1 : Int32) (x2 : Int32) (h : HP) (r : Int64) (hf : f_X6_inLowestTerms x0 x1 x2 = some r) : CC mX6_inLowestTerms 1 X [.int x0, .int x1, .int x2] h (some (.long r)) h := by
  refine CC_of rfl (Nat.le_of_ble_eq_true rfl) ?_
  show Run mX6_inLowestTerms 1 X 0 [(0, .int x0), (1, .int x1), (2, .int x2)] [] h (some (.long r)) h
  unfold f_X6_inLowestTerms at hf
  refine r_iload_n 1 rfl 1 rfl rfl (ck DX6_inLowestTerms_0 0 rfl) ?_
  rcases if_so hf with ⟨c1, hf⟩ | ⟨c1, hf⟩
  · refine r_if_le_t 14 (ck DX6_inLowestTerms_0 1 rfl) (by decide) c1 ?_
    refine r_iconst 15 rfl ic_0 (ck DX6_inLowestTerms_0 8 rfl) ?_
    refine r_sub (lv' := [(0, .int x0), (1, .int x1), (2, .int x2)]) [0, 1, 2] rfl ?_
    exact A_X6_inLowestTerms_J15 X h _ x0 x1 x2 0 hf
  · refine r_if_le_f 4 rfl 14 (ck DX6_inLowestTerms_0 1 rfl) (by decide) c1 ?_
    refine r_iload_n 5 rfl 0 rfl rfl (ck DX6_inLowestTerms_0 2 rfl) ?_
    refine r_iload_n 6 rfl 1 rfl rfl (ck DX6_inLowestTerms_0 3 rfl) ?_
    obtain ⟨b6, hf⟩ := gd_so hf
    refine r_irem 7 rfl (nz_of b6) (ck DX6_inLowestTerms_0 4 rfl) ?_
    rcases if_so hf with ⟨c7, hf⟩ | ⟨c7, hf⟩
    · refine r_if_ne_t 10 rfl 14 (ck DX6_inLowestTerms_0 5 rfl) (by decide) c7 ?_
      refine r_iconst 11 rfl ic_1 (ck DX6_inLowestTerms_0 6 rfl) ?_
      refine r_goto 15 (ck DX6_inLowestTerms_0 7 rfl) (by decide) ?_
      refine r_sub (lv' := [(0, .int x0), (1, .int x1), (2, .int x2)]) [0, 1, 2] rfl ?_
      exact A_X6_inLowestTerms_J15 X h _ x0 x1 x2 1 hf
    · refine r_if_ne_f 14 (ck DX6_inLowestTerms_0 5 rfl) (by decide) c7 ?_
      refine r_iconst 15 rfl ic_0 (ck DX6_inLowestTerms_0 8 rfl) ?_
      refine r_sub (lv' := [(0, .int x0), (1, .int x1), (2, .int x2)]) [0, 1, 2] rfl ?_
      exact A_X6_inLowestTerms_J15 X h _ x0 x1 x2 0 hf
-- X6_odds
def f_X6_odds_L38 : Nat → Int32 → Int32 → Int32 → Int32 → HP → Option (Int64 × HP)
  | 0, _, _, _, _, _ => none
  | n + 1, x1, x2, x3, x4, h => if (h.1 6 8) ≤ x4 then (bo (f_X6_inLowestTerms x3 (h.1 6 8) x2) fun v9 => some (v9, h)) else (bo (f_X1_startFrom 22 6 h) fun g11 => lt (si g11 22 8 x4) fun g13 => bd (f_X1_nothingBreaksIn 22 x1 g13) fun v17 g15 => if v17 = 0 then (lt (x4 + 1 : Int32) fun v19 => f_X6_odds_L38 n x1 x2 x3 v19 g15) else (lt (x3 + 1 : Int32) fun v21 => lt (x4 + 1 : Int32) fun v23 => f_X6_odds_L38 n x1 x2 v21 v23 g15))
set_option maxHeartbeats 4000000 in
set_option maxRecDepth 100000 in
theorem A_X6_odds_L38 (X : XE) (r : Int64) (h' : HP) : ∀ (n : Nat) (x1 : Int32) (x2 : Int32) (x3 : Int32) (x4 : Int32) (h : HP), f_X6_odds_L38 n x1 x2 x3 x4 h = some (r, h') → Run mX6_odds 6 X 38 [(0, .ref (X.1 0)), (1, .int x1), (2, .int x2), (3, .int x3), (4, .int x4)] [] h (some (.long r)) h' := by
  intro n
  induction n with
  | zero => intro x1 x2 x3 x4 h hf; cases hf
  | succ n ih =>
    intro x1 x2 x3 x4 h hf
    rw [f_X6_odds_L38] at hf
    refine r_iload 40 rfl 4 rfl (ck DX6_odds_0 20 rfl) ?_
    refine r_aload_n 41 rfl 0 rfl rfl (ck DX6_odds_0 21 rfl) ?_
    refine r_getr (q := 6) 44 rfl (lq_6_0) sh_0 kd_6_0 fl_X6_17 (ck DX6_odds_0 22 rfl) ?_
    refine r_geti 47 rfl sh_6 kd_1_8 fl_X6_134 (ck DX6_odds_0 23 rfl) ?_
    rcases if_so hf with ⟨c8, hf⟩ | ⟨c8, hf⟩
    · refine r_icmp_ge_t 90 (ck DX6_odds_0 24 rfl) (by decide) c8 ?_
      refine r_iload_n 91 rfl 3 rfl rfl (ck DX6_odds_0 42 rfl) ?_
      refine r_aload_n 92 rfl 0 rfl rfl (ck DX6_odds_0 43 rfl) ?_
      refine r_getr (q := 6) 95 rfl (lq_6_0) sh_0 kd_6_0 fl_X6_17 (ck DX6_odds_0 44 rfl) ?_
      refine r_geti 98 rfl sh_6 kd_1_8 fl_X6_134 (ck DX6_odds_0 45 rfl) ?_
      refine r_iload_n 99 rfl 2 rfl rfl (ck DX6_odds_0 46 rfl) ?_
      obtain ⟨v9, e10, hf⟩ := bo_so hf
      refine r_callSl 102 rfl (A_X6_inLowestTerms X x3 (h.1 6 8) x2 h v9 e10) (by omega) cs_X6_237 rfl rfl (Nat.le_of_ble_eq_true rfl) (ck DX6_odds_0 47 rfl) ?_
      obtain ⟨rfl, rfl⟩ := so2 hf
      exact r_lret rfl (ck DX6_odds_0 48 rfl)
    · refine r_icmp_ge_f 50 rfl 90 (ck DX6_odds_0 24 rfl) (by decide) c8 ?_
      refine r_aload_n 51 rfl 0 rfl rfl (ck DX6_odds_0 25 rfl) ?_
      refine r_getr (q := 22) 54 rfl (lq_6_2) sh_0 kd_6_2 fl_X6_26 (ck DX6_odds_0 26 rfl) ?_
      refine r_aload_n 55 rfl 0 rfl rfl (ck DX6_odds_0 27 rfl) ?_
      refine r_getr (q := 6) 58 rfl (lq_6_0) sh_0 kd_6_0 fl_X6_17 (ck DX6_odds_0 28 rfl) ?_
      obtain ⟨g11, e12, hf⟩ := bo_so hf
      refine r_callVv 61 rfl (A_X1_startFrom X 22 dk_22 6 dk_6 h g11 e12) (by omega) cw_X6_185 sh_22 cl_1 rfl rfl (Nat.le_of_ble_eq_true rfl) (ck DX6_odds_0 29 rfl) ?_
      refine r_aload_n 62 rfl 0 rfl rfl (ck DX6_odds_0 30 rfl) ?_
      refine r_getr (q := 22) 65 rfl (lq_6_2) sh_0 kd_6_2 fl_X6_26 (ck DX6_odds_0 31 rfl) ?_
      refine r_iload 67 rfl 4 rfl (ck DX6_odds_0 32 rfl) ?_
      obtain ⟨g13, e14, hf⟩ := lt_so hf
      refine r_puti 70 rfl sh_22 kd_1_8 fw_X6_134 rfl rfl (ck DX6_odds_0 33 rfl) ?_
      refine r_heap e14 ?_
      refine r_aload_n 71 rfl 0 rfl rfl (ck DX6_odds_0 34 rfl) ?_
      refine r_getr (q := 22) 74 rfl (lq_6_2) sh_0 kd_6_2 fl_X6_26 (ck DX6_odds_0 35 rfl) ?_
      refine r_iload_n 75 rfl 1 rfl rfl (ck DX6_odds_0 36 rfl) ?_
      obtain ⟨v17, g15, e16, hf⟩ := bd_so hf
      refine r_callVi 78 rfl (A_X1_nothingBreaksIn X 22 dk_22 x1 g13 v17 g15 e16) (by omega) cw_X6_189 sh_22 cl_1 rfl rfl (Nat.le_of_ble_eq_true rfl) (ck DX6_odds_0 37 rfl) ?_
      rcases if_so hf with ⟨c18, hf⟩ | ⟨c18, hf⟩
      · refine r_if_eq_t 84 (ck DX6_odds_0 38 rfl) (by decide) c18 ?_
        obtain ⟨v19, e20, hf⟩ := lt_so hf
        refine r_iinc (lv' := [(4, .int v19), (0, .ref (X.1 0)), (1, .int x1), (2, .int x2), (3, .int x3)]) 87 rfl 4 (ck DX6_odds_0 40 rfl) rfl (by rw [e20, ic_1]) (by decide) rfl ?_
        refine r_goto 38 (ck DX6_odds_0 41 rfl) (by decide) ?_
        refine r_sub (lv' := [(0, .ref (X.1 0)), (1, .int x1), (2, .int x2), (3, .int x3), (4, .int v19)]) [1, 2, 3, 4, 0] rfl ?_
        exact ih x1 x2 x3 v19 g15 hf
      · refine r_if_eq_f 81 rfl 84 (ck DX6_odds_0 38 rfl) (by decide) c18 ?_
        obtain ⟨v21, e22, hf⟩ := lt_so hf
        refine r_iinc (lv' := [(3, .int v21), (0, .ref (X.1 0)), (1, .int x1), (2, .int x2), (4, .int x4)]) 84 rfl 3 (ck DX6_odds_0 39 rfl) rfl (by rw [e22, ic_1]) (by decide) rfl ?_
        obtain ⟨v23, e24, hf⟩ := lt_so hf
        refine r_iinc (lv' := [(4, .int v23), (3, .int v21), (0, .ref (X.1 0)), (1, .int x1), (2, .int x2)]) 87 rfl 4 (ck DX6_odds_0 40 rfl) rfl (by rw [e24, ic_1]) (by decide) rfl ?_
        refine r_goto 38 (ck DX6_odds_0 41 rfl) (by decide) ?_
        refine r_sub (lv' := [(0, .ref (X.1 0)), (1, .int x1), (2, .int x2), (3, .int v21), (4, .int v23)]) [2, 3, 4, 1, 0] rfl ?_
        exact ih x1 x2 v21 v23 g15 hf
def f_X6_odds (x1 : Int32) (x2 : Int32) (h : HP) : Option (Int64 × HP) := bo (f_X6_within x1 0 60) fun v1 => if v1 = 0 then (some ((-9223372036854775808), h)) else (bo (f_X6_within x2 0 1) fun v4 => if v4 = 0 then (some ((-9223372036854775808), h)) else (if (h.1 6 8) = 0 then (some ((-9223372036854775808), h)) else (f_X6_odds_L38 FZ x1 x2 0 0 h)))
set_option maxHeartbeats 4000000 in
set_option maxRecDepth 100000 in
theorem A_X6_odds (X : XE) (x1 : Int32) (x2 : Int32) (h : HP) (r : Int64) (h' : HP) (hf : f_X6_odds x1 x2 h = some (r, h')) : CC mX6_odds 6 X [.ref (X.1 0), .int x1, .int x2] h (some (.long r)) h' := by
  refine CC_of rfl (Nat.le_of_ble_eq_true rfl) ?_
  show Run mX6_odds 6 X 0 [(0, .ref (X.1 0)), (1, .int x1), (2, .int x2)] [] h (some (.long r)) h'
  unfold f_X6_odds at hf
  refine r_iload_n 1 rfl 1 rfl rfl (ck DX6_odds_0 0 rfl) ?_
  refine r_iconst 2 rfl ic_0 (ck DX6_odds_0 1 rfl) ?_
  refine r_bipush 4 rfl bp_60 (ck DX6_odds_0 2 rfl) ?_
  obtain ⟨v1, e2, hf⟩ := bo_so hf
  refine r_callSi 7 rfl (A_X6_within X x1 0 60 h v1 e2) (by omega) cs_X6_78 rfl rfl (Nat.le_of_ble_eq_true rfl) (ck DX6_odds_0 3 rfl) ?_
  rcases if_so hf with ⟨c3, hf⟩ | ⟨c3, hf⟩
  · refine r_if_eq_t 29 (ck DX6_odds_0 4 rfl) (by decide) c3 ?_
    refine r_ldc2 32 rfl cn_X6_235 (ck DX6_odds_0 14 rfl) ?_
    obtain ⟨rfl, rfl⟩ := so2 hf
    exact r_lret rfl (ck DX6_odds_0 15 rfl)
  · refine r_if_eq_f 10 rfl 29 (ck DX6_odds_0 4 rfl) (by decide) c3 ?_
    refine r_iload_n 11 rfl 2 rfl rfl (ck DX6_odds_0 5 rfl) ?_
    refine r_iconst 12 rfl ic_0 (ck DX6_odds_0 6 rfl) ?_
    refine r_iconst 13 rfl ic_1 (ck DX6_odds_0 7 rfl) ?_
    obtain ⟨v4, e5, hf⟩ := bo_so hf
    refine r_callSi 16 rfl (A_X6_within X x2 0 1 h v4 e5) (by omega) cs_X6_78 rfl rfl (Nat.le_of_ble_eq_true rfl) (ck DX6_odds_0 8 rfl) ?_
    rcases if_so hf with ⟨c6, hf⟩ | ⟨c6, hf⟩
    · refine r_if_eq_t 29 (ck DX6_odds_0 9 rfl) (by decide) c6 ?_
      refine r_ldc2 32 rfl cn_X6_235 (ck DX6_odds_0 14 rfl) ?_
      obtain ⟨rfl, rfl⟩ := so2 hf
      exact r_lret rfl (ck DX6_odds_0 15 rfl)
    · refine r_if_eq_f 19 rfl 29 (ck DX6_odds_0 9 rfl) (by decide) c6 ?_
      refine r_aload_n 20 rfl 0 rfl rfl (ck DX6_odds_0 10 rfl) ?_
      refine r_getr (q := 6) 23 rfl (lq_6_0) sh_0 kd_6_0 fl_X6_17 (ck DX6_odds_0 11 rfl) ?_
      refine r_geti 26 rfl sh_6 kd_1_8 fl_X6_134 (ck DX6_odds_0 12 rfl) ?_
      rcases if_so hf with ⟨c7, hf⟩ | ⟨c7, hf⟩
      · refine r_if_ne_t 29 rfl 33 (ck DX6_odds_0 13 rfl) (by decide) c7 ?_
        refine r_ldc2 32 rfl cn_X6_235 (ck DX6_odds_0 14 rfl) ?_
        obtain ⟨rfl, rfl⟩ := so2 hf
        exact r_lret rfl (ck DX6_odds_0 15 rfl)
      · refine r_if_ne_f 33 (ck DX6_odds_0 13 rfl) (by decide) c7 ?_
        refine r_iconst 34 rfl ic_0 (ck DX6_odds_0 16 rfl) ?_
        refine r_istore_n (lv' := [(3, .int 0), (0, .ref (X.1 0)), (1, .int x1), (2, .int x2)]) 35 rfl (ck DX6_odds_0 17 rfl) (by decide) rfl rfl ?_
        refine r_iconst 36 rfl ic_0 (ck DX6_odds_0 18 rfl) ?_
        refine r_istore (lv' := [(4, .int 0), (3, .int 0), (0, .ref (X.1 0)), (1, .int x1), (2, .int x2)]) 38 rfl (ck DX6_odds_0 19 rfl) (by decide) rfl ?_
        refine r_sub (lv' := [(0, .ref (X.1 0)), (1, .int x1), (2, .int x2), (3, .int 0), (4, .int 0)]) [2, 3, 4, 1, 0] rfl ?_
        exact A_X6_odds_L38 X _ _ FZ x1 x2 0 0 h hf
-- X6_mean
def f_X6_mean_L27 (h : HP) : Nat → Int32 → Int32 → Int32 → Option Int64
  | 0, _, _, _ => none
  | n + 1, x1, x2, x3 => if (h.1 6 8) ≤ x3 then (bo (f_X6_inLowestTerms x2 (h.1 6 8) x1) fun v6 => some v6) else (bo (f_X1_load 6 x3 h) fun v8 => lt ((x2 + v8) : Int32) fun v10 => lt (x3 + 1 : Int32) fun v12 => f_X6_mean_L27 h n x1 v10 v12)
set_option maxHeartbeats 4000000 in
set_option maxRecDepth 100000 in
theorem A_X6_mean_L27 (X : XE) (h : HP) (r : Int64) : ∀ (n : Nat) (x1 : Int32) (x2 : Int32) (x3 : Int32), f_X6_mean_L27 h n x1 x2 x3 = some r → Run mX6_mean 3 X 27 [(0, .ref (X.1 0)), (1, .int x1), (2, .int x2), (3, .int x3)] [] h (some (.long r)) h := by
  intro n
  induction n with
  | zero => intro x1 x2 x3 hf; cases hf
  | succ n ih =>
    intro x1 x2 x3 hf
    rw [f_X6_mean_L27] at hf
    refine r_iload_n 28 rfl 3 rfl rfl (ck DX6_mean_0 15 rfl) ?_
    refine r_aload_n 29 rfl 0 rfl rfl (ck DX6_mean_0 16 rfl) ?_
    refine r_getr (q := 6) 32 rfl (lq_6_0) sh_0 kd_6_0 fl_X6_17 (ck DX6_mean_0 17 rfl) ?_
    refine r_geti 35 rfl sh_6 kd_1_8 fl_X6_134 (ck DX6_mean_0 18 rfl) ?_
    rcases if_so hf with ⟨c5, hf⟩ | ⟨c5, hf⟩
    · refine r_icmp_ge_t 55 (ck DX6_mean_0 19 rfl) (by decide) c5 ?_
      refine r_iload_n 56 rfl 2 rfl rfl (ck DX6_mean_0 29 rfl) ?_
      refine r_aload_n 57 rfl 0 rfl rfl (ck DX6_mean_0 30 rfl) ?_
      refine r_getr (q := 6) 60 rfl (lq_6_0) sh_0 kd_6_0 fl_X6_17 (ck DX6_mean_0 31 rfl) ?_
      refine r_geti 63 rfl sh_6 kd_1_8 fl_X6_134 (ck DX6_mean_0 32 rfl) ?_
      refine r_iload_n 64 rfl 1 rfl rfl (ck DX6_mean_0 33 rfl) ?_
      obtain ⟨v6, e7, hf⟩ := bo_so hf
      refine r_callSl 67 rfl (A_X6_inLowestTerms X x2 (h.1 6 8) x1 h v6 e7) (by omega) cs_X6_237 rfl rfl (Nat.le_of_ble_eq_true rfl) (ck DX6_mean_0 34 rfl) ?_
      obtain rfl := so1 hf
      exact r_lret rfl (ck DX6_mean_0 35 rfl)
    · refine r_icmp_ge_f 38 rfl 55 (ck DX6_mean_0 19 rfl) (by decide) c5 ?_
      refine r_iload_n 39 rfl 2 rfl rfl (ck DX6_mean_0 20 rfl) ?_
      refine r_aload_n 40 rfl 0 rfl rfl (ck DX6_mean_0 21 rfl) ?_
      refine r_getr (q := 6) 43 rfl (lq_6_0) sh_0 kd_6_0 fl_X6_17 (ck DX6_mean_0 22 rfl) ?_
      refine r_iload_n 44 rfl 3 rfl rfl (ck DX6_mean_0 23 rfl) ?_
      obtain ⟨v8, e9, hf⟩ := bo_so hf
      refine r_callVi 47 rfl (A_X1_load X 6 dk_6 x3 h v8 e9) (by omega) cw_X6_128 sh_6 cl_1 rfl rfl (Nat.le_of_ble_eq_true rfl) (ck DX6_mean_0 24 rfl) ?_
      refine r_iadd 48 rfl (ck DX6_mean_0 25 rfl) ?_
      obtain ⟨v10, e11, hf⟩ := lt_so hf
      refine r_top e11 ?_
      refine r_istore_n (lv' := [(2, .int v10), (0, .ref (X.1 0)), (1, .int x1), (3, .int x3)]) 49 rfl (ck DX6_mean_0 26 rfl) (by decide) rfl rfl ?_
      obtain ⟨v12, e13, hf⟩ := lt_so hf
      refine r_iinc (lv' := [(3, .int v12), (2, .int v10), (0, .ref (X.1 0)), (1, .int x1)]) 52 rfl 3 (ck DX6_mean_0 27 rfl) rfl (by rw [e13, ic_1]) (by decide) rfl ?_
      refine r_goto 27 (ck DX6_mean_0 28 rfl) (by decide) ?_
      refine r_sub (lv' := [(0, .ref (X.1 0)), (1, .int x1), (2, .int v10), (3, .int v12)]) [2, 3, 1, 0] rfl ?_
      exact ih x1 v10 v12 hf
def f_X6_mean (x1 : Int32) (h : HP) : Option Int64 := bo (f_X6_within x1 0 1) fun v1 => if v1 = 0 then (some (-9223372036854775808)) else (if (h.1 6 8) = 0 then (some (-9223372036854775808)) else (f_X6_mean_L27 h FZ x1 0 0))
set_option maxHeartbeats 4000000 in
set_option maxRecDepth 100000 in
theorem A_X6_mean (X : XE) (x1 : Int32) (h : HP) (r : Int64) (hf : f_X6_mean x1 h = some r) : CC mX6_mean 3 X [.ref (X.1 0), .int x1] h (some (.long r)) h := by
  refine CC_of rfl (Nat.le_of_ble_eq_true rfl) ?_
  show Run mX6_mean 3 X 0 [(0, .ref (X.1 0)), (1, .int x1)] [] h (some (.long r)) h
  unfold f_X6_mean at hf
  refine r_iload_n 1 rfl 1 rfl rfl (ck DX6_mean_0 0 rfl) ?_
  refine r_iconst 2 rfl ic_0 (ck DX6_mean_0 1 rfl) ?_
  refine r_iconst 3 rfl ic_1 (ck DX6_mean_0 2 rfl) ?_
  obtain ⟨v1, e2, hf⟩ := bo_so hf
  refine r_callSi 6 rfl (A_X6_within X x1 0 1 h v1 e2) (by omega) cs_X6_78 rfl rfl (Nat.le_of_ble_eq_true rfl) (ck DX6_mean_0 3 rfl) ?_
  rcases if_so hf with ⟨c3, hf⟩ | ⟨c3, hf⟩
  · refine r_if_eq_t 19 (ck DX6_mean_0 4 rfl) (by decide) c3 ?_
    refine r_ldc2 22 rfl cn_X6_235 (ck DX6_mean_0 9 rfl) ?_
    obtain rfl := so1 hf
    exact r_lret rfl (ck DX6_mean_0 10 rfl)
  · refine r_if_eq_f 9 rfl 19 (ck DX6_mean_0 4 rfl) (by decide) c3 ?_
    refine r_aload_n 10 rfl 0 rfl rfl (ck DX6_mean_0 5 rfl) ?_
    refine r_getr (q := 6) 13 rfl (lq_6_0) sh_0 kd_6_0 fl_X6_17 (ck DX6_mean_0 6 rfl) ?_
    refine r_geti 16 rfl sh_6 kd_1_8 fl_X6_134 (ck DX6_mean_0 7 rfl) ?_
    rcases if_so hf with ⟨c4, hf⟩ | ⟨c4, hf⟩
    · refine r_if_ne_t 19 rfl 23 (ck DX6_mean_0 8 rfl) (by decide) c4 ?_
      refine r_ldc2 22 rfl cn_X6_235 (ck DX6_mean_0 9 rfl) ?_
      obtain rfl := so1 hf
      exact r_lret rfl (ck DX6_mean_0 10 rfl)
    · refine r_if_ne_f 23 (ck DX6_mean_0 8 rfl) (by decide) c4 ?_
      refine r_iconst 24 rfl ic_0 (ck DX6_mean_0 11 rfl) ?_
      refine r_istore_n (lv' := [(2, .int 0), (0, .ref (X.1 0)), (1, .int x1)]) 25 rfl (ck DX6_mean_0 12 rfl) (by decide) rfl rfl ?_
      refine r_iconst 26 rfl ic_0 (ck DX6_mean_0 13 rfl) ?_
      refine r_istore_n (lv' := [(3, .int 0), (2, .int 0), (0, .ref (X.1 0)), (1, .int x1)]) 27 rfl (ck DX6_mean_0 14 rfl) (by decide) rfl rfl ?_
      refine r_sub (lv' := [(0, .ref (X.1 0)), (1, .int x1), (2, .int 0), (3, .int 0)]) [2, 3, 1, 0] rfl ?_
      exact A_X6_mean_L27 X h _ FZ x1 0 0 hf
-- X6_plan
def f_X6_plan_J50 (x1 : Int32) (x2 : Int32) (h : HP) : Option (Int32 × HP) := bo (f_X6_within x2 0 9) fun v13 => if v13 = 0 then (some ((-2), h)) else (bd (f_X3_add 33 x1 x2 h) fun v18 g16 => if v18 = 0 then (some ((-4), g16)) else (some ((g16.1 33 2), g16)))
set_option maxHeartbeats 4000000 in
set_option maxRecDepth 100000 in
theorem A_X6_plan_J50 (X : XE) (r : Int32) (h' : HP) (x1 : Int32) (x2 : Int32) (h : HP) (hf : f_X6_plan_J50 x1 x2 h = some (r, h')) : Run mX6_plan 2 X 50 [(0, .ref (X.1 0)), (1, .int x1), (2, .int x2)] [] h (some (.int r)) h' := by
  unfold f_X6_plan_J50 at hf
  refine r_iload_n 51 rfl 2 rfl rfl (ck DX6_plan_0 28 rfl) ?_
  refine r_iconst 52 rfl ic_0 (ck DX6_plan_0 29 rfl) ?_
  refine r_bipush 54 rfl bp_9 (ck DX6_plan_0 30 rfl) ?_
  obtain ⟨v13, e14, hf⟩ := bo_so hf
  refine r_callSi 57 rfl (A_X6_within X x2 0 9 h v13 e14) (by omega) cs_X6_78 rfl rfl (Nat.le_of_ble_eq_true rfl) (ck DX6_plan_0 31 rfl) ?_
  rcases if_so hf with ⟨c15, hf⟩ | ⟨c15, hf⟩
  · refine r_if_ne_t 60 rfl 63 (ck DX6_plan_0 32 rfl) (by decide) c15 ?_
    refine r_bipush 62 rfl bp_m2 (ck DX6_plan_0 33 rfl) ?_
    obtain ⟨rfl, rfl⟩ := so2 hf
    exact r_iret rfl rfl (ck DX6_plan_0 34 rfl)
  · refine r_if_ne_f 63 (ck DX6_plan_0 32 rfl) (by decide) c15 ?_
    refine r_aload_n 64 rfl 0 rfl rfl (ck DX6_plan_0 35 rfl) ?_
    refine r_getr (q := 33) 67 rfl (lq_6_4) sh_0 kd_6_4 fl_X6_38 (ck DX6_plan_0 36 rfl) ?_
    refine r_iload_n 68 rfl 1 rfl rfl (ck DX6_plan_0 37 rfl) ?_
    refine r_iload_n 69 rfl 2 rfl rfl (ck DX6_plan_0 38 rfl) ?_
    obtain ⟨v18, g16, e17, hf⟩ := bd_so hf
    refine r_callVi 72 rfl (A_X3_add X 33 pr_33 x1 x2 h v18 g16 e17) (by omega) cw_X6_212 sh_33 cl_3 rfl rfl (Nat.le_of_ble_eq_true rfl) (ck DX6_plan_0 39 rfl) ?_
    rcases if_so hf with ⟨c19, hf⟩ | ⟨c19, hf⟩
    · refine r_if_eq_t 85 (ck DX6_plan_0 40 rfl) (by decide) c19 ?_
      refine r_bipush 87 rfl bp_m4 (ck DX6_plan_0 45 rfl) ?_
      obtain ⟨rfl, rfl⟩ := so2 hf
      exact r_iret rfl rfl (ck DX6_plan_0 46 rfl)
    · refine r_if_eq_f 75 rfl 85 (ck DX6_plan_0 40 rfl) (by decide) c19 ?_
      refine r_aload_n 76 rfl 0 rfl rfl (ck DX6_plan_0 41 rfl) ?_
      refine r_getr (q := 33) 79 rfl (lq_6_4) sh_0 kd_6_4 fl_X6_38 (ck DX6_plan_0 42 rfl) ?_
      refine r_geti 82 rfl sh_33 kd_3_2 fl_X6_215 (ck DX6_plan_0 43 rfl) ?_
      refine r_goto 87 (ck DX6_plan_0 44 rfl) (by decide) ?_
      obtain ⟨rfl, rfl⟩ := so2 hf
      exact r_iret rfl rfl (ck DX6_plan_0 46 rfl)
def f_X6_plan_J40 (x1 : Int32) (x2 : Int32) (h : HP) : Option (Int32 × HP) := if x1 = 1 then (f_X6_plan_J50 x1 x2 h) else (if x1 = 2 then (f_X6_plan_J50 x1 x2 h) else (bd (f_X3_add 33 x1 x2 h) fun v23 g21 => if v23 = 0 then (some ((-4), g21)) else (some ((g21.1 33 2), g21))))
set_option maxHeartbeats 4000000 in
set_option maxRecDepth 100000 in
theorem A_X6_plan_J40 (X : XE) (r : Int32) (h' : HP) (x1 : Int32) (x2 : Int32) (h : HP) (hf : f_X6_plan_J40 x1 x2 h = some (r, h')) : Run mX6_plan 2 X 40 [(0, .ref (X.1 0)), (1, .int x1), (2, .int x2)] [] h (some (.int r)) h' := by
  unfold f_X6_plan_J40 at hf
  refine r_iload_n 41 rfl 1 rfl rfl (ck DX6_plan_0 22 rfl) ?_
  refine r_iconst 42 rfl ic_1 (ck DX6_plan_0 23 rfl) ?_
  rcases if_so hf with ⟨c12, hf⟩ | ⟨c12, hf⟩
  · refine r_icmp_eq_t 50 (ck DX6_plan_0 24 rfl) (by decide) c12 ?_
    refine r_sub (lv' := [(0, .ref (X.1 0)), (1, .int x1), (2, .int x2)]) [0, 1, 2] rfl ?_
    exact A_X6_plan_J50 X _ _ x1 x2 h hf
  · refine r_icmp_eq_f 45 rfl 50 (ck DX6_plan_0 24 rfl) (by decide) c12 ?_
    refine r_iload_n 46 rfl 1 rfl rfl (ck DX6_plan_0 25 rfl) ?_
    refine r_iconst 47 rfl ic_2 (ck DX6_plan_0 26 rfl) ?_
    rcases if_so hf with ⟨c20, hf⟩ | ⟨c20, hf⟩
    · refine r_icmp_ne_t 50 rfl 63 (ck DX6_plan_0 27 rfl) (by decide) c20 ?_
      refine r_sub (lv' := [(0, .ref (X.1 0)), (1, .int x1), (2, .int x2)]) [0, 1, 2] rfl ?_
      exact A_X6_plan_J50 X _ _ x1 x2 h hf
    · refine r_icmp_ne_f 63 (ck DX6_plan_0 27 rfl) (by decide) c20 ?_
      refine r_aload_n 64 rfl 0 rfl rfl (ck DX6_plan_0 35 rfl) ?_
      refine r_getr (q := 33) 67 rfl (lq_6_4) sh_0 kd_6_4 fl_X6_38 (ck DX6_plan_0 36 rfl) ?_
      refine r_iload_n 68 rfl 1 rfl rfl (ck DX6_plan_0 37 rfl) ?_
      refine r_iload_n 69 rfl 2 rfl rfl (ck DX6_plan_0 38 rfl) ?_
      obtain ⟨v23, g21, e22, hf⟩ := bd_so hf
      refine r_callVi 72 rfl (A_X3_add X 33 pr_33 x1 x2 h v23 g21 e22) (by omega) cw_X6_212 sh_33 cl_3 rfl rfl (Nat.le_of_ble_eq_true rfl) (ck DX6_plan_0 39 rfl) ?_
      rcases if_so hf with ⟨c24, hf⟩ | ⟨c24, hf⟩
      · refine r_if_eq_t 85 (ck DX6_plan_0 40 rfl) (by decide) c24 ?_
        refine r_bipush 87 rfl bp_m4 (ck DX6_plan_0 45 rfl) ?_
        obtain ⟨rfl, rfl⟩ := so2 hf
        exact r_iret rfl rfl (ck DX6_plan_0 46 rfl)
      · refine r_if_eq_f 75 rfl 85 (ck DX6_plan_0 40 rfl) (by decide) c24 ?_
        refine r_aload_n 76 rfl 0 rfl rfl (ck DX6_plan_0 41 rfl) ?_
        refine r_getr (q := 33) 79 rfl (lq_6_4) sh_0 kd_6_4 fl_X6_38 (ck DX6_plan_0 42 rfl) ?_
        refine r_geti 82 rfl sh_33 kd_3_2 fl_X6_215 (ck DX6_plan_0 43 rfl) ?_
        refine r_goto 87 (ck DX6_plan_0 44 rfl) (by decide) ?_
        obtain ⟨rfl, rfl⟩ := so2 hf
        exact r_iret rfl rfl (ck DX6_plan_0 46 rfl)
def f_X6_plan (x1 : Int32) (x2 : Int32) (h : HP) : Option (Int32 × HP) := if x1 = (-1) then (bd (f_X3_clear 33 h) fun v4 g2 => some (v4, g2)) else (bo (f_X6_within x1 0 4) fun v5 => if v5 = 0 then (some ((-1), h)) else (if x1 = 3 then (bo (f_X1_has 6 x2 h) fun v9 => if v9 = 0 then (some ((-1), h)) else (f_X6_plan_J40 x1 x2 h)) else (f_X6_plan_J40 x1 x2 h)))
set_option maxHeartbeats 4000000 in
set_option maxRecDepth 100000 in
theorem A_X6_plan (X : XE) (x1 : Int32) (x2 : Int32) (h : HP) (r : Int32) (h' : HP) (hf : f_X6_plan x1 x2 h = some (r, h')) : CC mX6_plan 2 X [.ref (X.1 0), .int x1, .int x2] h (some (.int r)) h' := by
  refine CC_of rfl (Nat.le_of_ble_eq_true rfl) ?_
  show Run mX6_plan 2 X 0 [(0, .ref (X.1 0)), (1, .int x1), (2, .int x2)] [] h (some (.int r)) h'
  unfold f_X6_plan at hf
  refine r_iload_n 1 rfl 1 rfl rfl (ck DX6_plan_0 0 rfl) ?_
  refine r_iconst 2 rfl ic_m1 (ck DX6_plan_0 1 rfl) ?_
  rcases if_so hf with ⟨c1, hf⟩ | ⟨c1, hf⟩
  · refine r_icmp_ne_t 5 rfl 13 (ck DX6_plan_0 2 rfl) (by decide) c1 ?_
    refine r_aload_n 6 rfl 0 rfl rfl (ck DX6_plan_0 3 rfl) ?_
    refine r_getr (q := 33) 9 rfl (lq_6_4) sh_0 kd_6_4 fl_X6_38 (ck DX6_plan_0 4 rfl) ?_
    obtain ⟨v4, g2, e3, hf⟩ := bd_so hf
    refine r_callVi 12 rfl (A_X3_clear X 33 pr_33 h v4 g2 e3) (by omega) cw_X6_209 sh_33 cl_3 rfl rfl (Nat.le_of_ble_eq_true rfl) (ck DX6_plan_0 5 rfl) ?_
    obtain ⟨rfl, rfl⟩ := so2 hf
    exact r_iret rfl rfl (ck DX6_plan_0 6 rfl)
  · refine r_icmp_ne_f 13 (ck DX6_plan_0 2 rfl) (by decide) c1 ?_
    refine r_iload_n 14 rfl 1 rfl rfl (ck DX6_plan_0 7 rfl) ?_
    refine r_iconst 15 rfl ic_0 (ck DX6_plan_0 8 rfl) ?_
    refine r_iconst 16 rfl ic_4 (ck DX6_plan_0 9 rfl) ?_
    obtain ⟨v5, e6, hf⟩ := bo_so hf
    refine r_callSi 19 rfl (A_X6_within X x1 0 4 h v5 e6) (by omega) cs_X6_78 rfl rfl (Nat.le_of_ble_eq_true rfl) (ck DX6_plan_0 10 rfl) ?_
    rcases if_so hf with ⟨c7, hf⟩ | ⟨c7, hf⟩
    · refine r_if_eq_t 38 (ck DX6_plan_0 11 rfl) (by decide) c7 ?_
      refine r_iconst 39 rfl ic_m1 (ck DX6_plan_0 20 rfl) ?_
      obtain ⟨rfl, rfl⟩ := so2 hf
      exact r_iret rfl rfl (ck DX6_plan_0 21 rfl)
    · refine r_if_eq_f 22 rfl 38 (ck DX6_plan_0 11 rfl) (by decide) c7 ?_
      refine r_iload_n 23 rfl 1 rfl rfl (ck DX6_plan_0 12 rfl) ?_
      refine r_iconst 24 rfl ic_3 (ck DX6_plan_0 13 rfl) ?_
      rcases if_so hf with ⟨c8, hf⟩ | ⟨c8, hf⟩
      · refine r_icmp_ne_t 27 rfl 40 (ck DX6_plan_0 14 rfl) (by decide) c8 ?_
        refine r_aload_n 28 rfl 0 rfl rfl (ck DX6_plan_0 15 rfl) ?_
        refine r_getr (q := 6) 31 rfl (lq_6_0) sh_0 kd_6_0 fl_X6_17 (ck DX6_plan_0 16 rfl) ?_
        refine r_iload_n 32 rfl 2 rfl rfl (ck DX6_plan_0 17 rfl) ?_
        obtain ⟨v9, e10, hf⟩ := bo_so hf
        refine r_callVi 35 rfl (A_X1_has X 6 dk_6 x2 h v9 e10) (by omega) cw_X6_90 sh_6 cl_1 rfl rfl (Nat.le_of_ble_eq_true rfl) (ck DX6_plan_0 18 rfl) ?_
        rcases if_so hf with ⟨c11, hf⟩ | ⟨c11, hf⟩
        · refine r_if_ne_t 38 rfl 40 (ck DX6_plan_0 19 rfl) (by decide) c11 ?_
          refine r_iconst 39 rfl ic_m1 (ck DX6_plan_0 20 rfl) ?_
          obtain ⟨rfl, rfl⟩ := so2 hf
          exact r_iret rfl rfl (ck DX6_plan_0 21 rfl)
        · refine r_if_ne_f 40 (ck DX6_plan_0 19 rfl) (by decide) c11 ?_
          refine r_sub (lv' := [(0, .ref (X.1 0)), (1, .int x1), (2, .int x2)]) [0, 1, 2] rfl ?_
          exact A_X6_plan_J40 X _ _ x1 x2 h hf
      · refine r_icmp_ne_f 40 (ck DX6_plan_0 14 rfl) (by decide) c8 ?_
        refine r_sub (lv' := [(0, .ref (X.1 0)), (1, .int x1), (2, .int x2)]) [0, 1, 2] rfl ?_
        exact A_X6_plan_J40 X _ _ x1 x2 h hf
-- X6_followPlan
def f_X6_followPlan (x1 : Int32) (x2 : Int32) (h : HP) : Option HP := if x1 = 0 then (bd (f_X1_dayGoes 22 h) fun v4 g2 => some g2) else (if x1 = 1 then (lt (si h 22 9 x2) fun g6 => some g6) else (if x1 = 2 then (lt (si h 22 10 x2) fun g9 => some g9) else (if x1 = 3 then (bo (f_X1_has 22 x2 h) fun v12 => if v12 = 0 then (some h) else (bo (f_X1_placeOf 22 x2 h) fun v15 => if (0 : Int32) ≤ v15 then (some h) else (bo (f_X1_putUpon 22 x2 h) fun g18 => some g18))) else ((lt (si h 22 8 0) fun g20 => some g20)))))
set_option maxHeartbeats 4000000 in
set_option maxRecDepth 100000 in
theorem A_X6_followPlan (X : XE) (x1 : Int32) (x2 : Int32) (h : HP) (h' : HP) (hf : f_X6_followPlan x1 x2 h = some h') : CC mX6_followPlan 5 X [.ref (X.1 0), .int x1, .int x2] h none h' := by
  refine CC_of rfl (Nat.le_of_ble_eq_true rfl) ?_
  show Run mX6_followPlan 5 X 0 [(0, .ref (X.1 0)), (1, .int x1), (2, .int x2)] [] h none h'
  unfold f_X6_followPlan at hf
  refine r_iload_n 1 rfl 1 rfl rfl (ck DX6_followPlan_0 0 rfl) ?_
  rcases if_so hf with ⟨c1, hf⟩ | ⟨c1, hf⟩
  · refine r_tsw_in (v := 0) 32 (ck DX6_followPlan_0 1 rfl) c1 (by decide) (by decide) rfl (by decide) ?_
    refine r_aload_n 33 rfl 0 rfl rfl (ck DX6_followPlan_0 2 rfl) ?_
    refine r_getr (q := 22) 36 rfl (lq_6_2) sh_0 kd_6_2 fl_X6_26 (ck DX6_followPlan_0 3 rfl) ?_
    obtain ⟨v4, g2, e3, hf⟩ := bd_so hf
    refine r_callVi 39 rfl (A_X1_dayGoes X 22 dk_22 h v4 g2 e3) (by omega) cw_X6_182 sh_22 cl_1 rfl rfl (Nat.le_of_ble_eq_true rfl) (ck DX6_followPlan_0 4 rfl) ?_
    refine r_pop 40 rfl rfl (ck DX6_followPlan_0 5 rfl) ?_
    refine r_goto 106 (ck DX6_followPlan_0 6 rfl) (by decide) ?_
    obtain rfl := so1 hf
    exact r_vret rfl (ck DX6_followPlan_0 36 rfl)
  · skip
    rcases if_so hf with ⟨c5, hf⟩ | ⟨c5, hf⟩
    · refine r_tsw_in (v := 1) 43 (ck DX6_followPlan_0 1 rfl) c5 (by decide) (by decide) rfl (by decide) ?_
      refine r_aload_n 44 rfl 0 rfl rfl (ck DX6_followPlan_0 7 rfl) ?_
      refine r_getr (q := 22) 47 rfl (lq_6_2) sh_0 kd_6_2 fl_X6_26 (ck DX6_followPlan_0 8 rfl) ?_
      refine r_iload_n 48 rfl 2 rfl rfl (ck DX6_followPlan_0 9 rfl) ?_
      obtain ⟨g6, e7, hf⟩ := lt_so hf
      refine r_puti 51 rfl sh_22 kd_1_9 fw_X6_140 rfl rfl (ck DX6_followPlan_0 10 rfl) ?_
      refine r_heap e7 ?_
      refine r_goto 106 (ck DX6_followPlan_0 11 rfl) (by decide) ?_
      obtain rfl := so1 hf
      exact r_vret rfl (ck DX6_followPlan_0 36 rfl)
    · skip
      rcases if_so hf with ⟨c8, hf⟩ | ⟨c8, hf⟩
      · refine r_tsw_in (v := 2) 54 (ck DX6_followPlan_0 1 rfl) c8 (by decide) (by decide) rfl (by decide) ?_
        refine r_aload_n 55 rfl 0 rfl rfl (ck DX6_followPlan_0 12 rfl) ?_
        refine r_getr (q := 22) 58 rfl (lq_6_2) sh_0 kd_6_2 fl_X6_26 (ck DX6_followPlan_0 13 rfl) ?_
        refine r_iload_n 59 rfl 2 rfl rfl (ck DX6_followPlan_0 14 rfl) ?_
        obtain ⟨g9, e10, hf⟩ := lt_so hf
        refine r_puti 62 rfl sh_22 kd_1_10 fw_X6_143 rfl rfl (ck DX6_followPlan_0 15 rfl) ?_
        refine r_heap e10 ?_
        refine r_goto 106 (ck DX6_followPlan_0 16 rfl) (by decide) ?_
        obtain rfl := so1 hf
        exact r_vret rfl (ck DX6_followPlan_0 36 rfl)
      · skip
        rcases if_so hf with ⟨c11, hf⟩ | ⟨c11, hf⟩
        · refine r_tsw_in (v := 3) 65 (ck DX6_followPlan_0 1 rfl) c11 (by decide) (by decide) rfl (by decide) ?_
          refine r_aload_n 66 rfl 0 rfl rfl (ck DX6_followPlan_0 17 rfl) ?_
          refine r_getr (q := 22) 69 rfl (lq_6_2) sh_0 kd_6_2 fl_X6_26 (ck DX6_followPlan_0 18 rfl) ?_
          refine r_iload_n 70 rfl 2 rfl rfl (ck DX6_followPlan_0 19 rfl) ?_
          obtain ⟨v12, e13, hf⟩ := bo_so hf
          refine r_callVi 73 rfl (A_X1_has X 22 dk_22 x2 h v12 e13) (by omega) cw_X6_90 sh_22 cl_1 rfl rfl (Nat.le_of_ble_eq_true rfl) (ck DX6_followPlan_0 20 rfl) ?_
          rcases if_so hf with ⟨c14, hf⟩ | ⟨c14, hf⟩
          · refine r_if_eq_t 106 (ck DX6_followPlan_0 21 rfl) (by decide) c14 ?_
            obtain rfl := so1 hf
            exact r_vret rfl (ck DX6_followPlan_0 36 rfl)
          · refine r_if_eq_f 76 rfl 106 (ck DX6_followPlan_0 21 rfl) (by decide) c14 ?_
            refine r_aload_n 77 rfl 0 rfl rfl (ck DX6_followPlan_0 22 rfl) ?_
            refine r_getr (q := 22) 80 rfl (lq_6_2) sh_0 kd_6_2 fl_X6_26 (ck DX6_followPlan_0 23 rfl) ?_
            refine r_iload_n 81 rfl 2 rfl rfl (ck DX6_followPlan_0 24 rfl) ?_
            obtain ⟨v15, e16, hf⟩ := bo_so hf
            refine r_callVi 84 rfl (A_X1_placeOf X 22 dk_22 x2 h v15 e16) (by omega) cw_X6_122 sh_22 cl_1 rfl rfl (Nat.le_of_ble_eq_true rfl) (ck DX6_followPlan_0 25 rfl) ?_
            rcases if_so hf with ⟨c17, hf⟩ | ⟨c17, hf⟩
            · refine r_if_ge_t 106 (ck DX6_followPlan_0 26 rfl) (by decide) c17 ?_
              obtain rfl := so1 hf
              exact r_vret rfl (ck DX6_followPlan_0 36 rfl)
            · refine r_if_ge_f 87 rfl 106 (ck DX6_followPlan_0 26 rfl) (by decide) c17 ?_
              refine r_aload_n 88 rfl 0 rfl rfl (ck DX6_followPlan_0 27 rfl) ?_
              refine r_getr (q := 22) 91 rfl (lq_6_2) sh_0 kd_6_2 fl_X6_26 (ck DX6_followPlan_0 28 rfl) ?_
              refine r_iload_n 92 rfl 2 rfl rfl (ck DX6_followPlan_0 29 rfl) ?_
              obtain ⟨g18, e19, hf⟩ := bo_so hf
              refine r_callVv 95 rfl (A_X1_putUpon X 22 dk_22 x2 h g18 e19) (by omega) cw_X6_137 sh_22 cl_1 rfl rfl (Nat.le_of_ble_eq_true rfl) (ck DX6_followPlan_0 30 rfl) ?_
              refine r_goto 106 (ck DX6_followPlan_0 31 rfl) (by decide) ?_
              obtain rfl := so1 hf
              exact r_vret rfl (ck DX6_followPlan_0 36 rfl)
        · skip
          have hx9 : x1.toInt < 0 ∨ (3 : Int) < x1.toInt := by
            have h8 := tsw_o (x := x1) 0 4 (fun k hk => by
              match k, hk with
              | 0, _ => exact ne_int c1
              | 1, _ => exact ne_int c5
              | 2, _ => exact ne_int c8
              | 3, _ => exact ne_int c11
              | k + 4, hk => exact absurd hk (by omega))
            exact h8
          refine r_tsw_out 98 (ck DX6_followPlan_0 1 rfl) hx9 (by decide) ?_
          refine r_aload_n 99 rfl 0 rfl rfl (ck DX6_followPlan_0 32 rfl) ?_
          refine r_getr (q := 22) 102 rfl (lq_6_2) sh_0 kd_6_2 fl_X6_26 (ck DX6_followPlan_0 33 rfl) ?_
          refine r_iconst 103 rfl ic_0 (ck DX6_followPlan_0 34 rfl) ?_
          obtain ⟨g20, e21, hf⟩ := lt_so hf
          refine r_puti 106 rfl sh_22 kd_1_8 fw_X6_134 rfl rfl (ck DX6_followPlan_0 35 rfl) ?_
          refine r_heap e21 ?_
          obtain rfl := so1 hf
          exact r_vret rfl (ck DX6_followPlan_0 36 rfl)
-- X6_ends
def f_X6_ends_L24 : Nat → Int32 → Int32 → HP → Option (Int32 × HP)
  | 0, _, _, _ => none
  | n + 1, x1, x2, h => if (h.1 33 2) ≤ x2 then (if x1 = 0 then (some ((h.1 22 11), h)) else (bo (f_X1_height 22 h) fun v8 => some (v8, h))) else (gd (inb x2 10) (gd (inb x2 10) (bo (f_X6_followPlan (h.1 34 (Int32.toNatClampNeg x2)) (h.1 35 (Int32.toNatClampNeg x2)) h) fun g12 => lt (x2 + 1 : Int32) fun v14 => f_X6_ends_L24 n x1 v14 g12)))
set_option maxHeartbeats 4000000 in
set_option maxRecDepth 100000 in
theorem A_X6_ends_L24 (X : XE) (r : Int32) (h' : HP) : ∀ (n : Nat) (x1 : Int32) (x2 : Int32) (h : HP), f_X6_ends_L24 n x1 x2 h = some (r, h') → Run mX6_ends 6 X 24 [(0, .ref (X.1 0)), (1, .int x1), (2, .int x2)] [] h (some (.int r)) h' := by
  intro n
  induction n with
  | zero => intro x1 x2 h hf; cases hf
  | succ n ih =>
    intro x1 x2 h hf
    rw [f_X6_ends_L24] at hf
    refine r_iload_n 25 rfl 2 rfl rfl (ck DX6_ends_0 14 rfl) ?_
    refine r_aload_n 26 rfl 0 rfl rfl (ck DX6_ends_0 15 rfl) ?_
    refine r_getr (q := 33) 29 rfl (lq_6_4) sh_0 kd_6_4 fl_X6_38 (ck DX6_ends_0 16 rfl) ?_
    refine r_geti 32 rfl sh_33 kd_3_2 fl_X6_215 (ck DX6_ends_0 17 rfl) ?_
    rcases if_so hf with ⟨c6, hf⟩ | ⟨c6, hf⟩
    · refine r_icmp_ge_t 63 (ck DX6_ends_0 18 rfl) (by decide) c6 ?_
      refine r_iload_n 64 rfl 1 rfl rfl (ck DX6_ends_0 33 rfl) ?_
      rcases if_so hf with ⟨c7, hf⟩ | ⟨c7, hf⟩
      · refine r_if_ne_t 67 rfl 77 (ck DX6_ends_0 34 rfl) (by decide) c7 ?_
        refine r_aload_n 68 rfl 0 rfl rfl (ck DX6_ends_0 35 rfl) ?_
        refine r_getr (q := 22) 71 rfl (lq_6_2) sh_0 kd_6_2 fl_X6_26 (ck DX6_ends_0 36 rfl) ?_
        refine r_geti 74 rfl sh_22 kd_1_11 fl_X6_169 (ck DX6_ends_0 37 rfl) ?_
        refine r_goto 84 (ck DX6_ends_0 38 rfl) (by decide) ?_
        obtain ⟨rfl, rfl⟩ := so2 hf
        exact r_iret rfl rfl (ck DX6_ends_0 42 rfl)
      · refine r_if_ne_f 77 (ck DX6_ends_0 34 rfl) (by decide) c7 ?_
        refine r_aload_n 78 rfl 0 rfl rfl (ck DX6_ends_0 39 rfl) ?_
        refine r_getr (q := 22) 81 rfl (lq_6_2) sh_0 kd_6_2 fl_X6_26 (ck DX6_ends_0 40 rfl) ?_
        obtain ⟨v8, e9, hf⟩ := bo_so hf
        refine r_callVi 84 rfl (A_X1_height X 22 dk_22 h v8 e9) (by omega) cw_X6_172 sh_22 cl_1 rfl rfl (Nat.le_of_ble_eq_true rfl) (ck DX6_ends_0 41 rfl) ?_
        obtain ⟨rfl, rfl⟩ := so2 hf
        exact r_iret rfl rfl (ck DX6_ends_0 42 rfl)
    · refine r_icmp_ge_f 35 rfl 63 (ck DX6_ends_0 18 rfl) (by decide) c6 ?_
      refine r_aload_n 36 rfl 0 rfl rfl (ck DX6_ends_0 19 rfl) ?_
      refine r_aload_n 37 rfl 0 rfl rfl (ck DX6_ends_0 20 rfl) ?_
      refine r_getr (q := 33) 40 rfl (lq_6_4) sh_0 kd_6_4 fl_X6_38 (ck DX6_ends_0 21 rfl) ?_
      refine r_getr (q := 34) 43 rfl (lq_3_0 33) sh_33 kd_3_0 fl_X6_232 (ck DX6_ends_0 22 rfl) ?_
      refine r_iload_n 44 rfl 2 rfl rfl (ck DX6_ends_0 23 rfl) ?_
      obtain ⟨b10, hf⟩ := gd_so hf
      refine r_iald 45 rfl sh_34 (inb_vp b10) (ck DX6_ends_0 24 rfl) ?_
      refine r_aload_n 46 rfl 0 rfl rfl (ck DX6_ends_0 25 rfl) ?_
      refine r_getr (q := 33) 49 rfl (lq_6_4) sh_0 kd_6_4 fl_X6_38 (ck DX6_ends_0 26 rfl) ?_
      refine r_getr (q := 35) 52 rfl (lq_3_1 33) sh_33 kd_3_1 fl_X6_224 (ck DX6_ends_0 27 rfl) ?_
      refine r_iload_n 53 rfl 2 rfl rfl (ck DX6_ends_0 28 rfl) ?_
      obtain ⟨b11, hf⟩ := gd_so hf
      refine r_iald 54 rfl sh_35 (inb_vp b11) (ck DX6_ends_0 29 rfl) ?_
      obtain ⟨g12, e13, hf⟩ := bo_so hf
      refine r_callVv 57 rfl (A_X6_followPlan X (h.1 34 (Int32.toNatClampNeg x2)) (h.1 35 (Int32.toNatClampNeg x2)) h g12 e13) (by omega) cw_X6_241 sh_0 cl_6 rfl rfl (Nat.le_of_ble_eq_true rfl) (ck DX6_ends_0 30 rfl) ?_
      obtain ⟨v14, e15, hf⟩ := lt_so hf
      refine r_iinc (lv' := [(2, .int v14), (0, .ref (X.1 0)), (1, .int x1)]) 60 rfl 2 (ck DX6_ends_0 31 rfl) rfl (by rw [e15, ic_1]) (by decide) rfl ?_
      refine r_goto 24 (ck DX6_ends_0 32 rfl) (by decide) ?_
      refine r_sub (lv' := [(0, .ref (X.1 0)), (1, .int x1), (2, .int v14)]) [1, 2, 0] rfl ?_
      exact ih x1 v14 g12 hf
def f_X6_ends (x1 : Int32) (h : HP) : Option (Int32 × HP) := bo (f_X6_within x1 0 1) fun v1 => if v1 = 0 then (some ((-1), h)) else (bo (f_X1_startFrom 22 6 h) fun g4 => f_X6_ends_L24 FZ x1 0 g4)
set_option maxHeartbeats 4000000 in
set_option maxRecDepth 100000 in
theorem A_X6_ends (X : XE) (x1 : Int32) (h : HP) (r : Int32) (h' : HP) (hf : f_X6_ends x1 h = some (r, h')) : CC mX6_ends 6 X [.ref (X.1 0), .int x1] h (some (.int r)) h' := by
  refine CC_of rfl (Nat.le_of_ble_eq_true rfl) ?_
  show Run mX6_ends 6 X 0 [(0, .ref (X.1 0)), (1, .int x1)] [] h (some (.int r)) h'
  unfold f_X6_ends at hf
  refine r_iload_n 1 rfl 1 rfl rfl (ck DX6_ends_0 0 rfl) ?_
  refine r_iconst 2 rfl ic_0 (ck DX6_ends_0 1 rfl) ?_
  refine r_iconst 3 rfl ic_1 (ck DX6_ends_0 2 rfl) ?_
  obtain ⟨v1, e2, hf⟩ := bo_so hf
  refine r_callSi 6 rfl (A_X6_within X x1 0 1 h v1 e2) (by omega) cs_X6_78 rfl rfl (Nat.le_of_ble_eq_true rfl) (ck DX6_ends_0 3 rfl) ?_
  rcases if_so hf with ⟨c3, hf⟩ | ⟨c3, hf⟩
  · refine r_if_ne_t 9 rfl 11 (ck DX6_ends_0 4 rfl) (by decide) c3 ?_
    refine r_iconst 10 rfl ic_m1 (ck DX6_ends_0 5 rfl) ?_
    obtain ⟨rfl, rfl⟩ := so2 hf
    exact r_iret rfl rfl (ck DX6_ends_0 6 rfl)
  · refine r_if_ne_f 11 (ck DX6_ends_0 4 rfl) (by decide) c3 ?_
    refine r_aload_n 12 rfl 0 rfl rfl (ck DX6_ends_0 7 rfl) ?_
    refine r_getr (q := 22) 15 rfl (lq_6_2) sh_0 kd_6_2 fl_X6_26 (ck DX6_ends_0 8 rfl) ?_
    refine r_aload_n 16 rfl 0 rfl rfl (ck DX6_ends_0 9 rfl) ?_
    refine r_getr (q := 6) 19 rfl (lq_6_0) sh_0 kd_6_0 fl_X6_17 (ck DX6_ends_0 10 rfl) ?_
    obtain ⟨g4, e5, hf⟩ := bo_so hf
    refine r_callVv 22 rfl (A_X1_startFrom X 22 dk_22 6 dk_6 h g4 e5) (by omega) cw_X6_185 sh_22 cl_1 rfl rfl (Nat.le_of_ble_eq_true rfl) (ck DX6_ends_0 11 rfl) ?_
    refine r_iconst 23 rfl ic_0 (ck DX6_ends_0 12 rfl) ?_
    refine r_istore_n (lv' := [(2, .int 0), (0, .ref (X.1 0)), (1, .int x1)]) 24 rfl (ck DX6_ends_0 13 rfl) (by decide) rfl rfl ?_
    refine r_sub (lv' := [(0, .ref (X.1 0)), (1, .int x1), (2, .int 0)]) [1, 2, 0] rfl ?_
    exact A_X6_ends_L24 X _ _ FZ x1 0 g4 hf
-- X6_book
def f_X6_book (x1 : Int32) (x2 : Int32) (h : HP) : Option (Int32 × HP) := if x1 = (-1) then (bd (f_X3_clear 36 h) fun v4 g2 => some (v4, g2)) else (bo (f_X1_has 6 x1 h) fun v5 => if v5 = 0 then (some ((-1), h)) else (bo (f_X6_within x2 0 99) fun v8 => if v8 = 0 then (some ((-2), h)) else (bd (f_X3_add 36 x1 x2 h) fun v13 g11 => if v13 = 0 then (some ((-4), g11)) else (some ((g11.1 36 2), g11)))))
set_option maxHeartbeats 4000000 in
set_option maxRecDepth 100000 in
theorem A_X6_book (X : XE) (x1 : Int32) (x2 : Int32) (h : HP) (r : Int32) (h' : HP) (hf : f_X6_book x1 x2 h = some (r, h')) : CC mX6_book 2 X [.ref (X.1 0), .int x1, .int x2] h (some (.int r)) h' := by
  refine CC_of rfl (Nat.le_of_ble_eq_true rfl) ?_
  show Run mX6_book 2 X 0 [(0, .ref (X.1 0)), (1, .int x1), (2, .int x2)] [] h (some (.int r)) h'
  unfold f_X6_book at hf
  refine r_iload_n 1 rfl 1 rfl rfl (ck DX6_book_0 0 rfl) ?_
  refine r_iconst 2 rfl ic_m1 (ck DX6_book_0 1 rfl) ?_
  rcases if_so hf with ⟨c1, hf⟩ | ⟨c1, hf⟩
  · refine r_icmp_ne_t 5 rfl 13 (ck DX6_book_0 2 rfl) (by decide) c1 ?_
    refine r_aload_n 6 rfl 0 rfl rfl (ck DX6_book_0 3 rfl) ?_
    refine r_getr (q := 36) 9 rfl (lq_6_5) sh_0 kd_6_5 fl_X6_41 (ck DX6_book_0 4 rfl) ?_
    obtain ⟨v4, g2, e3, hf⟩ := bd_so hf
    refine r_callVi 12 rfl (A_X3_clear X 36 pr_36 h v4 g2 e3) (by omega) cw_X6_209 sh_36 cl_3 rfl rfl (Nat.le_of_ble_eq_true rfl) (ck DX6_book_0 5 rfl) ?_
    obtain ⟨rfl, rfl⟩ := so2 hf
    exact r_iret rfl rfl (ck DX6_book_0 6 rfl)
  · refine r_icmp_ne_f 13 (ck DX6_book_0 2 rfl) (by decide) c1 ?_
    refine r_aload_n 14 rfl 0 rfl rfl (ck DX6_book_0 7 rfl) ?_
    refine r_getr (q := 6) 17 rfl (lq_6_0) sh_0 kd_6_0 fl_X6_17 (ck DX6_book_0 8 rfl) ?_
    refine r_iload_n 18 rfl 1 rfl rfl (ck DX6_book_0 9 rfl) ?_
    obtain ⟨v5, e6, hf⟩ := bo_so hf
    refine r_callVi 21 rfl (A_X1_has X 6 dk_6 x1 h v5 e6) (by omega) cw_X6_90 sh_6 cl_1 rfl rfl (Nat.le_of_ble_eq_true rfl) (ck DX6_book_0 10 rfl) ?_
    rcases if_so hf with ⟨c7, hf⟩ | ⟨c7, hf⟩
    · refine r_if_ne_t 24 rfl 26 (ck DX6_book_0 11 rfl) (by decide) c7 ?_
      refine r_iconst 25 rfl ic_m1 (ck DX6_book_0 12 rfl) ?_
      obtain ⟨rfl, rfl⟩ := so2 hf
      exact r_iret rfl rfl (ck DX6_book_0 13 rfl)
    · refine r_if_ne_f 26 (ck DX6_book_0 11 rfl) (by decide) c7 ?_
      refine r_iload_n 27 rfl 2 rfl rfl (ck DX6_book_0 14 rfl) ?_
      refine r_iconst 28 rfl ic_0 (ck DX6_book_0 15 rfl) ?_
      refine r_bipush 30 rfl bp_99 (ck DX6_book_0 16 rfl) ?_
      obtain ⟨v8, e9, hf⟩ := bo_so hf
      refine r_callSi 33 rfl (A_X6_within X x2 0 99 h v8 e9) (by omega) cs_X6_78 rfl rfl (Nat.le_of_ble_eq_true rfl) (ck DX6_book_0 17 rfl) ?_
      rcases if_so hf with ⟨c10, hf⟩ | ⟨c10, hf⟩
      · refine r_if_ne_t 36 rfl 39 (ck DX6_book_0 18 rfl) (by decide) c10 ?_
        refine r_bipush 38 rfl bp_m2 (ck DX6_book_0 19 rfl) ?_
        obtain ⟨rfl, rfl⟩ := so2 hf
        exact r_iret rfl rfl (ck DX6_book_0 20 rfl)
      · refine r_if_ne_f 39 (ck DX6_book_0 18 rfl) (by decide) c10 ?_
        refine r_aload_n 40 rfl 0 rfl rfl (ck DX6_book_0 21 rfl) ?_
        refine r_getr (q := 36) 43 rfl (lq_6_5) sh_0 kd_6_5 fl_X6_41 (ck DX6_book_0 22 rfl) ?_
        refine r_iload_n 44 rfl 1 rfl rfl (ck DX6_book_0 23 rfl) ?_
        refine r_iload_n 45 rfl 2 rfl rfl (ck DX6_book_0 24 rfl) ?_
        obtain ⟨v13, g11, e12, hf⟩ := bd_so hf
        refine r_callVi 48 rfl (A_X3_add X 36 pr_36 x1 x2 h v13 g11 e12) (by omega) cw_X6_212 sh_36 cl_3 rfl rfl (Nat.le_of_ble_eq_true rfl) (ck DX6_book_0 25 rfl) ?_
        rcases if_so hf with ⟨c14, hf⟩ | ⟨c14, hf⟩
        · refine r_if_eq_t 61 (ck DX6_book_0 26 rfl) (by decide) c14 ?_
          refine r_bipush 63 rfl bp_m4 (ck DX6_book_0 31 rfl) ?_
          obtain ⟨rfl, rfl⟩ := so2 hf
          exact r_iret rfl rfl (ck DX6_book_0 32 rfl)
        · refine r_if_eq_f 51 rfl 61 (ck DX6_book_0 26 rfl) (by decide) c14 ?_
          refine r_aload_n 52 rfl 0 rfl rfl (ck DX6_book_0 27 rfl) ?_
          refine r_getr (q := 36) 55 rfl (lq_6_5) sh_0 kd_6_5 fl_X6_41 (ck DX6_book_0 28 rfl) ?_
          refine r_geti 58 rfl sh_36 kd_3_2 fl_X6_215 (ck DX6_book_0 29 rfl) ?_
          refine r_goto 63 (ck DX6_book_0 30 rfl) (by decide) ?_
          obtain ⟨rfl, rfl⟩ := so2 hf
          exact r_iret rfl rfl (ck DX6_book_0 32 rfl)
-- X6_looked
def f_X6_looked_L2 (h : HP) : Nat → Int32 → Option Int32
  | 0, _ => none
  | n + 1, x1 => if (h.1 36 2) ≤ x1 then (some (-5)) else (gd (inb x1 8) (lt ((h.1 37 (Int32.toNatClampNeg x1)) : Int32) fun v3 => bo (f_X1_has 6 v3 h) fun v5 => if v5 = 0 then (some x1) else (gd (inb v3 6) (gd (inb x1 8) (if (h.1 9 (Int32.toNatClampNeg v3)) = (h.1 38 (Int32.toNatClampNeg x1)) then (lt (x1 + 1 : Int32) fun v11 => f_X6_looked_L2 h n v11) else (some x1))))))
set_option maxHeartbeats 4000000 in
set_option maxRecDepth 100000 in
theorem A_X6_looked_L2 (X : XE) (h : HP) (r : Int32) : ∀ (n : Nat) (x1 : Int32), f_X6_looked_L2 h n x1 = some r → Run mX6_looked 2 X 2 [(0, .ref (X.1 0)), (1, .int x1)] [] h (some (.int r)) h := by
  intro n
  induction n with
  | zero => intro x1 hf; cases hf
  | succ n ih =>
    intro x1 hf
    rw [f_X6_looked_L2] at hf
    refine r_iload_n 3 rfl 1 rfl rfl (ck DX6_looked_0 2 rfl) ?_
    refine r_aload_n 4 rfl 0 rfl rfl (ck DX6_looked_0 3 rfl) ?_
    refine r_getr (q := 36) 7 rfl (lq_6_5) sh_0 kd_6_5 fl_X6_41 (ck DX6_looked_0 4 rfl) ?_
    refine r_geti 10 rfl sh_36 kd_3_2 fl_X6_215 (ck DX6_looked_0 5 rfl) ?_
    rcases if_so hf with ⟨c1, hf⟩ | ⟨c1, hf⟩
    · refine r_icmp_ge_t 63 (ck DX6_looked_0 6 rfl) (by decide) c1 ?_
      refine r_bipush 65 rfl bp_m5 (ck DX6_looked_0 33 rfl) ?_
      obtain rfl := so1 hf
      exact r_iret rfl rfl (ck DX6_looked_0 34 rfl)
    · refine r_icmp_ge_f 13 rfl 63 (ck DX6_looked_0 6 rfl) (by decide) c1 ?_
      refine r_aload_n 14 rfl 0 rfl rfl (ck DX6_looked_0 7 rfl) ?_
      refine r_getr (q := 36) 17 rfl (lq_6_5) sh_0 kd_6_5 fl_X6_41 (ck DX6_looked_0 8 rfl) ?_
      refine r_getr (q := 37) 20 rfl (lq_3_0 36) sh_36 kd_3_0 fl_X6_232 (ck DX6_looked_0 9 rfl) ?_
      refine r_iload_n 21 rfl 1 rfl rfl (ck DX6_looked_0 10 rfl) ?_
      obtain ⟨b2, hf⟩ := gd_so hf
      refine r_iald 22 rfl sh_37 (inb_vp b2) (ck DX6_looked_0 11 rfl) ?_
      obtain ⟨v3, e4, hf⟩ := lt_so hf
      refine r_top e4 ?_
      refine r_istore_n (lv' := [(2, .int v3), (0, .ref (X.1 0)), (1, .int x1)]) 23 rfl (ck DX6_looked_0 12 rfl) (by decide) rfl rfl ?_
      refine r_aload_n 24 rfl 1 rfl rfl (ck DX6_looked_0 13 rfl) ?_
      refine r_getr (q := 6) 27 rfl (lq_6_0) sh_0 kd_6_0 fl_X6_17 (ck DX6_looked_0 14 rfl) ?_
      refine r_iload_n 28 rfl 0 rfl rfl (ck DX6_looked_0 15 rfl) ?_
      obtain ⟨v5, e6, hf⟩ := bo_so hf
      refine r_callVi 31 rfl (A_X1_has X 6 dk_6 v3 h v5 e6) (by omega) cw_X6_90 sh_6 cl_1 rfl rfl (Nat.le_of_ble_eq_true rfl) (ck DX6_looked_0 16 rfl) ?_
      rcases if_so hf with ⟨c7, hf⟩ | ⟨c7, hf⟩
      · refine r_if_eq_t 55 (ck DX6_looked_0 17 rfl) (by decide) c7 ?_
        refine r_iload_n 56 rfl 2 rfl rfl (ck DX6_looked_0 29 rfl) ?_
        obtain rfl := so1 hf
        exact r_iret rfl rfl (ck DX6_looked_0 30 rfl)
      · refine r_if_eq_f 34 rfl 55 (ck DX6_looked_0 17 rfl) (by decide) c7 ?_
        refine r_aload_n 35 rfl 1 rfl rfl (ck DX6_looked_0 18 rfl) ?_
        refine r_getr (q := 6) 38 rfl (lq_6_0) sh_0 kd_6_0 fl_X6_17 (ck DX6_looked_0 19 rfl) ?_
        refine r_getr (q := 9) 41 rfl (lq_1_2 6) sh_6 kd_1_2 fl_X6_101 (ck DX6_looked_0 20 rfl) ?_
        refine r_iload_n 42 rfl 0 rfl rfl (ck DX6_looked_0 21 rfl) ?_
        obtain ⟨b8, hf⟩ := gd_so hf
        refine r_iald 43 rfl sh_9 (inb_vp b8) (ck DX6_looked_0 22 rfl) ?_
        refine r_aload_n 44 rfl 1 rfl rfl (ck DX6_looked_0 23 rfl) ?_
        refine r_getr (q := 36) 47 rfl (lq_6_5) sh_0 kd_6_5 fl_X6_41 (ck DX6_looked_0 24 rfl) ?_
        refine r_getr (q := 38) 50 rfl (lq_3_1 36) sh_36 kd_3_1 fl_X6_224 (ck DX6_looked_0 25 rfl) ?_
        refine r_iload_n 51 rfl 2 rfl rfl (ck DX6_looked_0 26 rfl) ?_
        obtain ⟨b9, hf⟩ := gd_so hf
        refine r_iald 52 rfl sh_38 (inb_vp b9) (ck DX6_looked_0 27 rfl) ?_
        rcases if_so hf with ⟨c10, hf⟩ | ⟨c10, hf⟩
        · refine r_icmp_eq_t 57 (ck DX6_looked_0 28 rfl) (by decide) c10 ?_
          obtain ⟨v11, e12, hf⟩ := lt_so hf
          refine r_iinc (lv' := [(1, .int v11), (2, .int v3), (0, .ref (X.1 0))]) 60 rfl 2 (ck DX6_looked_0 31 rfl) rfl (by rw [e12, ic_1]) (by decide) rfl ?_
          refine r_goto 2 (ck DX6_looked_0 32 rfl) (by decide) ?_
          refine r_sub (lv' := [(0, .ref (X.1 0)), (1, .int v11)]) [2, 0] rfl ?_
          exact ih v11 hf
        · refine r_icmp_eq_f 55 rfl 57 (ck DX6_looked_0 28 rfl) (by decide) c10 ?_
          refine r_iload_n 56 rfl 2 rfl rfl (ck DX6_looked_0 29 rfl) ?_
          obtain rfl := so1 hf
          exact r_iret rfl rfl (ck DX6_looked_0 30 rfl)
def f_X6_looked (h : HP) : Option Int32 := f_X6_looked_L2 h FZ 0
set_option maxHeartbeats 4000000 in
set_option maxRecDepth 100000 in
theorem A_X6_looked (X : XE) (h : HP) (r : Int32) (hf : f_X6_looked h = some r) : CC mX6_looked 2 X [.ref (X.1 0)] h (some (.int r)) h := by
  refine CC_of rfl (Nat.le_of_ble_eq_true rfl) ?_
  show Run mX6_looked 2 X 0 [(0, .ref (X.1 0))] [] h (some (.int r)) h
  unfold f_X6_looked at hf
  refine r_iconst 1 rfl ic_0 (ck DX6_looked_0 0 rfl) ?_
  refine r_istore_n (lv' := [(1, .int 0), (0, .ref (X.1 0))]) 2 rfl (ck DX6_looked_0 1 rfl) (by decide) rfl rfl ?_
  refine r_sub (lv' := [(0, .ref (X.1 0)), (1, .int 0)]) [1, 0] rfl ?_
  exact A_X6_looked_L2 X h _ FZ 0 hf
-- X6_judge
def f_X6_judge_L39 (w5 : Nat) (h : HP) : Nat → Int32 → Int32 → Option Int32
  | 0, _, _ => none
  | n + 1, x2, x4 => if (h.1 6 7) ≤ x4 then (some (-5)) else (if x2 < 0 then (some (100 + x4)) else (if x2 < ((h.1 w5 2) - x4) then (gd (inb (x2 + x4) 60) (gd (inb x4 6) (if (lg_cmp (h.2.1 (w5 + 1) (Int32.toNatClampNeg (x2 + x4))) (Int32.toInt64 (h.1 9 (Int32.toNatClampNeg x4)))) = 0 then (lt (x4 + 1 : Int32) fun v14 => f_X6_judge_L39 w5 h n x2 v14) else (some x4)))) else (some (100 + x4))))
set_option maxHeartbeats 4000000 in
set_option maxRecDepth 100000 in
theorem A_X6_judge_L39 (X : XE) (w5 : Nat) (ow5 : TP w5) (h : HP) (r : Int32) : ∀ (n : Nat) (x2 : Int32) (x4 : Int32), f_X6_judge_L39 w5 h n x2 x4 = some r → Run mX6_judge 2 X 39 [(0, .ref (X.1 0)), (2, .int x2), (3, .ref (X.1 w5)), (4, .int x4)] [] h (some (.int r)) h := by
  intro n
  induction n with
  | zero => intro x2 x4 hf; cases hf
  | succ n ih =>
    intro x2 x4 hf
    rw [f_X6_judge_L39] at hf
    refine r_iload 41 rfl 3 rfl (ck DX6_judge_0 23 rfl) ?_
    refine r_aload_n 42 rfl 0 rfl rfl (ck DX6_judge_0 24 rfl) ?_
    refine r_getr (q := 6) 45 rfl (lq_6_0) sh_0 kd_6_0 fl_X6_17 (ck DX6_judge_0 25 rfl) ?_
    refine r_geti 48 rfl sh_6 kd_1_7 fl_X6_82 (ck DX6_judge_0 26 rfl) ?_
    rcases if_so hf with ⟨c8, hf⟩ | ⟨c8, hf⟩
    · refine r_icmp_ge_t 105 (ck DX6_judge_0 27 rfl) (by decide) c8 ?_
      refine r_bipush 107 rfl bp_m5 (ck DX6_judge_1 8 rfl) ?_
      obtain rfl := so1 hf
      exact r_iret rfl rfl (ck DX6_judge_1 9 rfl)
    · refine r_icmp_ge_f 51 rfl 105 (ck DX6_judge_0 27 rfl) (by decide) c8 ?_
      refine r_iload_n 52 rfl 1 rfl rfl (ck DX6_judge_0 28 rfl) ?_
      rcases if_so hf with ⟨c9, hf⟩ | ⟨c9, hf⟩
      · refine r_if_lt_t 66 (ck DX6_judge_0 29 rfl) (by decide) c9 ?_
        refine r_bipush 68 rfl bp_100 (ck DX6_judge_0 36 rfl) ?_
        refine r_iload 70 rfl 3 rfl (ck DX6_judge_0 37 rfl) ?_
        refine r_iadd 71 rfl (ck DX6_judge_0 38 rfl) ?_
        obtain rfl := so1 hf
        exact r_iret rfl rfl (ck DX6_judge_0 39 rfl)
      · refine r_if_lt_f 55 rfl 66 (ck DX6_judge_0 29 rfl) (by decide) c9 ?_
        refine r_iload_n 56 rfl 1 rfl rfl (ck DX6_judge_0 30 rfl) ?_
        refine r_aload_n 57 rfl 2 rfl rfl (ck DX6_judge_0 31 rfl) ?_
        refine r_geti 60 rfl ow5.1 kd_4_2 fl_X6_248 (ck DX6_judge_0 32 rfl) ?_
        refine r_iload 62 rfl 3 rfl (ck DX6_judge_0 33 rfl) ?_
        refine r_isub 63 rfl (ck DX6_judge_0 34 rfl) ?_
        rcases if_so hf with ⟨c10, hf⟩ | ⟨c10, hf⟩
        · refine r_icmp_lt_t 72 (ck DX6_judge_0 35 rfl) (by decide) c10 ?_
          refine r_aload_n 73 rfl 2 rfl rfl (ck DX6_judge_0 40 rfl) ?_
          refine r_getr (q := w5 + 1) 76 rfl (lq_4_0 w5) ow5.1 kd_4_0 fl_X6_249 (ck DX6_judge_0 41 rfl) ?_
          refine r_iload_n 77 rfl 1 rfl rfl (ck DX6_judge_0 42 rfl) ?_
          refine r_iload 79 rfl 3 rfl (ck DX6_judge_0 43 rfl) ?_
          refine r_iadd 80 rfl (ck DX6_judge_0 44 rfl) ?_
          obtain ⟨b11, hf⟩ := gd_so hf
          refine r_lald 81 rfl ow5.2 (inb_vp b11) (ck DX6_judge_0 45 rfl) ?_
          refine r_aload_n 82 rfl 0 rfl rfl (ck DX6_judge_0 46 rfl) ?_
          refine r_getr (q := 6) 85 rfl (lq_6_0) sh_0 kd_6_0 fl_X6_17 (ck DX6_judge_0 47 rfl) ?_
          refine r_getr (q := 9) 88 rfl (lq_1_2 6) sh_6 kd_1_2 fl_X6_101 (ck DX6_judge_0 48 rfl) ?_
          refine r_iload 90 rfl 3 rfl (ck DX6_judge_0 49 rfl) ?_
          obtain ⟨b12, hf⟩ := gd_so hf
          refine r_iald 91 rfl sh_9 (inb_vp b12) (ck DX6_judge_1 0 rfl) ?_
          refine r_i2l 92 rfl (ck DX6_judge_1 1 rfl) ?_
          refine r_lcmp 93 rfl (ck DX6_judge_1 2 rfl) ?_
          rcases if_so hf with ⟨c13, hf⟩ | ⟨c13, hf⟩
          · refine r_if_eq_t 99 (ck DX6_judge_1 3 rfl) (by decide) c13 ?_
            obtain ⟨v14, e15, hf⟩ := lt_so hf
            refine r_iinc (lv' := [(4, .int v14), (0, .ref (X.1 0)), (2, .int x2), (3, .ref (X.1 w5))]) 102 rfl 3 (ck DX6_judge_1 6 rfl) rfl (by rw [e15, ic_1]) (by decide) rfl ?_
            refine r_goto 39 (ck DX6_judge_1 7 rfl) (by decide) ?_
            refine r_sub (lv' := [(0, .ref (X.1 0)), (2, .int x2), (3, .ref (X.1 w5)), (4, .int v14)]) [1, 2, 3, 0] rfl ?_
            exact ih x2 v14 hf
          · refine r_if_eq_f 96 rfl 99 (ck DX6_judge_1 3 rfl) (by decide) c13 ?_
            refine r_iload 98 rfl 3 rfl (ck DX6_judge_1 4 rfl) ?_
            obtain rfl := so1 hf
            exact r_iret rfl rfl (ck DX6_judge_1 5 rfl)
        · refine r_icmp_lt_f 66 rfl 72 (ck DX6_judge_0 35 rfl) (by decide) c10 ?_
          refine r_bipush 68 rfl bp_100 (ck DX6_judge_0 36 rfl) ?_
          refine r_iload 70 rfl 3 rfl (ck DX6_judge_0 37 rfl) ?_
          refine r_iadd 71 rfl (ck DX6_judge_0 38 rfl) ?_
          obtain rfl := so1 hf
          exact r_iret rfl rfl (ck DX6_judge_0 39 rfl)
def f_X6_judge (x1 : Int32) (x2 : Int32) (h : HP) : Option Int32 := bo (f_X6_within x1 0 5) fun v1 => if v1 = 0 then (some (-1)) else (gd (inb x1 6) (lt (lra 6 (Int32.toNatClampNeg x1)) fun w5 => if (h.1 w5 1) = (-1) then (f_X6_judge_L39 w5 h FZ x2 0) else (if (h.1 w5 1) = 0 then (f_X6_judge_L39 w5 h FZ x2 0) else (some (-12)))))
set_option maxHeartbeats 4000000 in
set_option maxRecDepth 100000 in
theorem A_X6_judge (X : XE) (x1 : Int32) (x2 : Int32) (h : HP) (r : Int32) (hf : f_X6_judge x1 x2 h = some r) : CC mX6_judge 2 X [.ref (X.1 0), .int x1, .int x2] h (some (.int r)) h := by
  refine CC_of rfl (Nat.le_of_ble_eq_true rfl) ?_
  show Run mX6_judge 2 X 0 [(0, .ref (X.1 0)), (1, .int x1), (2, .int x2)] [] h (some (.int r)) h
  unfold f_X6_judge at hf
  refine r_iload_n 1 rfl 1 rfl rfl (ck DX6_judge_0 0 rfl) ?_
  refine r_iconst 2 rfl ic_0 (ck DX6_judge_0 1 rfl) ?_
  refine r_iconst 3 rfl ic_5 (ck DX6_judge_0 2 rfl) ?_
  obtain ⟨v1, e2, hf⟩ := bo_so hf
  refine r_callSi 6 rfl (A_X6_within X x1 0 5 h v1 e2) (by omega) cs_X6_78 rfl rfl (Nat.le_of_ble_eq_true rfl) (ck DX6_judge_0 3 rfl) ?_
  rcases if_so hf with ⟨c3, hf⟩ | ⟨c3, hf⟩
  · refine r_if_ne_t 9 rfl 11 (ck DX6_judge_0 4 rfl) (by decide) c3 ?_
    refine r_iconst 10 rfl ic_m1 (ck DX6_judge_0 5 rfl) ?_
    obtain rfl := so1 hf
    exact r_iret rfl rfl (ck DX6_judge_0 6 rfl)
  · refine r_if_ne_f 11 (ck DX6_judge_0 4 rfl) (by decide) c3 ?_
    refine r_aload_n 12 rfl 0 rfl rfl (ck DX6_judge_0 7 rfl) ?_
    refine r_getr (q := 83) 15 rfl (lq_6_14) sh_0 kd_6_14 fl_X6_73 (ck DX6_judge_0 8 rfl) ?_
    refine r_iload_n 16 rfl 1 rfl rfl (ck DX6_judge_0 9 rfl) ?_
    obtain ⟨b4, hf⟩ := gd_so hf
    have ow5 := tpa b4
    obtain ⟨w5, e6, hf⟩ := lt_so hf
    rw [← e6] at ow5
    refine r_aald 17 rfl sh_83 (Or.inr rfl) e6.symm (inb_vp b4) (ck DX6_judge_0 10 rfl) ?_
    refine r_astore_n (lv' := [(3, .ref (X.1 w5)), (0, .ref (X.1 0)), (1, .int x1), (2, .int x2)]) 18 rfl (ck DX6_judge_0 11 rfl) (by decide) rfl rfl ?_
    refine r_aload_n 19 rfl 0 rfl rfl (ck DX6_judge_0 12 rfl) ?_
    refine r_geti 22 rfl ow5.1 kd_4_1 fl_X6_245 (ck DX6_judge_0 13 rfl) ?_
    refine r_iconst 23 rfl ic_m1 (ck DX6_judge_0 14 rfl) ?_
    rcases if_so hf with ⟨c7, hf⟩ | ⟨c7, hf⟩
    · refine r_icmp_eq_t 36 (ck DX6_judge_0 15 rfl) (by decide) c7 ?_
      refine r_iconst 37 rfl ic_0 (ck DX6_judge_0 21 rfl) ?_
      refine r_istore (lv' := [(4, .int 0), (3, .ref (X.1 w5)), (0, .ref (X.1 0)), (1, .int x1), (2, .int x2)]) 39 rfl (ck DX6_judge_0 22 rfl) (by decide) rfl ?_
      refine r_sub (lv' := [(0, .ref (X.1 0)), (2, .int x2), (3, .ref (X.1 w5)), (4, .int 0)]) [2, 4, 1, 0] rfl ?_
      exact A_X6_judge_L39 X w5 ow5 h _ FZ x2 0 hf
    · refine r_icmp_eq_f 26 rfl 36 (ck DX6_judge_0 15 rfl) (by decide) c7 ?_
      refine r_aload_n 27 rfl 0 rfl rfl (ck DX6_judge_0 16 rfl) ?_
      refine r_geti 30 rfl ow5.1 kd_4_1 fl_X6_245 (ck DX6_judge_0 17 rfl) ?_
      rcases if_so hf with ⟨c16, hf⟩ | ⟨c16, hf⟩
      · refine r_if_eq_t 36 (ck DX6_judge_0 18 rfl) (by decide) c16 ?_
        refine r_iconst 37 rfl ic_0 (ck DX6_judge_0 21 rfl) ?_
        refine r_istore (lv' := [(4, .int 0), (3, .ref (X.1 w5)), (0, .ref (X.1 0)), (1, .int x1), (2, .int x2)]) 39 rfl (ck DX6_judge_0 22 rfl) (by decide) rfl ?_
        refine r_sub (lv' := [(0, .ref (X.1 0)), (2, .int x2), (3, .ref (X.1 w5)), (4, .int 0)]) [2, 4, 1, 0] rfl ?_
        exact A_X6_judge_L39 X w5 ow5 h _ FZ x2 0 hf
      · refine r_if_eq_f 33 rfl 36 (ck DX6_judge_0 18 rfl) (by decide) c16 ?_
        refine r_bipush 35 rfl bp_m12 (ck DX6_judge_0 19 rfl) ?_
        obtain rfl := so1 hf
        exact r_iret rfl rfl (ck DX6_judge_0 20 rfl)
-- X6_image
def f_X6_image (h : HP) : Option (Int32 × HP) := bo (f_X1_copyFrom 14 6 h) fun g1 => bo (f_X3_copyFrom 39 30 g1) fun g3 => bo (f_X3_copyFrom 42 33 g3) fun g5 => bo (f_X3_copyFrom 45 36 g5) fun g7 => lt (si g7 0 9 1) fun g9 => some ((g9.1 6 7), g9)
set_option maxHeartbeats 4000000 in
set_option maxRecDepth 100000 in
theorem A_X6_image (X : XE) (h : HP) (r : Int32) (h' : HP) (hf : f_X6_image h = some (r, h')) : CC mX6_image 2 X [.ref (X.1 0)] h (some (.int r)) h' := by
  refine CC_of rfl (Nat.le_of_ble_eq_true rfl) ?_
  show Run mX6_image 2 X 0 [(0, .ref (X.1 0))] [] h (some (.int r)) h'
  unfold f_X6_image at hf
  refine r_aload_n 1 rfl 0 rfl rfl (ck DX6_image_0 0 rfl) ?_
  refine r_getr (q := 14) 4 rfl (lq_6_1) sh_0 kd_6_1 fl_X6_23 (ck DX6_image_0 1 rfl) ?_
  refine r_aload_n 5 rfl 0 rfl rfl (ck DX6_image_0 2 rfl) ?_
  refine r_getr (q := 6) 8 rfl (lq_6_0) sh_0 kd_6_0 fl_X6_17 (ck DX6_image_0 3 rfl) ?_
  obtain ⟨g1, e2, hf⟩ := bo_so hf
  refine r_callVv 11 rfl (A_X1_copyFrom X 14 dk_14 6 dk_6 h g1 e2) (by omega) cw_X6_253 sh_14 cl_1 rfl rfl (Nat.le_of_ble_eq_true rfl) (ck DX6_image_0 4 rfl) ?_
  refine r_aload_n 12 rfl 0 rfl rfl (ck DX6_image_0 5 rfl) ?_
  refine r_getr (q := 39) 15 rfl (lq_6_6) sh_0 kd_6_6 fl_X6_44 (ck DX6_image_0 6 rfl) ?_
  refine r_aload_n 16 rfl 0 rfl rfl (ck DX6_image_0 7 rfl) ?_
  refine r_getr (q := 30) 19 rfl (lq_6_3) sh_0 kd_6_3 fl_X6_34 (ck DX6_image_0 8 rfl) ?_
  obtain ⟨g3, e4, hf⟩ := bo_so hf
  refine r_callVv 22 rfl (A_X3_copyFrom X 39 pr_39 30 pr_30 g1 g3 e4) (by omega) cw_X6_256 sh_39 cl_3 rfl rfl (Nat.le_of_ble_eq_true rfl) (ck DX6_image_0 9 rfl) ?_
  refine r_aload_n 23 rfl 0 rfl rfl (ck DX6_image_0 10 rfl) ?_
  refine r_getr (q := 42) 26 rfl (lq_6_7) sh_0 kd_6_7 fl_X6_47 (ck DX6_image_0 11 rfl) ?_
  refine r_aload_n 27 rfl 0 rfl rfl (ck DX6_image_0 12 rfl) ?_
  refine r_getr (q := 33) 30 rfl (lq_6_4) sh_0 kd_6_4 fl_X6_38 (ck DX6_image_0 13 rfl) ?_
  obtain ⟨g5, e6, hf⟩ := bo_so hf
  refine r_callVv 33 rfl (A_X3_copyFrom X 42 pr_42 33 pr_33 g3 g5 e6) (by omega) cw_X6_256 sh_42 cl_3 rfl rfl (Nat.le_of_ble_eq_true rfl) (ck DX6_image_0 14 rfl) ?_
  refine r_aload_n 34 rfl 0 rfl rfl (ck DX6_image_0 15 rfl) ?_
  refine r_getr (q := 45) 37 rfl (lq_6_8) sh_0 kd_6_8 fl_X6_50 (ck DX6_image_0 16 rfl) ?_
  refine r_aload_n 38 rfl 0 rfl rfl (ck DX6_image_0 17 rfl) ?_
  refine r_getr (q := 36) 41 rfl (lq_6_5) sh_0 kd_6_5 fl_X6_41 (ck DX6_image_0 18 rfl) ?_
  obtain ⟨g7, e8, hf⟩ := bo_so hf
  refine r_callVv 44 rfl (A_X3_copyFrom X 45 pr_45 36 pr_36 g5 g7 e8) (by omega) cw_X6_256 sh_45 cl_3 rfl rfl (Nat.le_of_ble_eq_true rfl) (ck DX6_image_0 19 rfl) ?_
  refine r_aload_n 45 rfl 0 rfl rfl (ck DX6_image_0 20 rfl) ?_
  refine r_iconst 46 rfl ic_1 (ck DX6_image_0 21 rfl) ?_
  obtain ⟨g9, e10, hf⟩ := lt_so hf
  refine r_puti 49 rfl sh_0 kd_6_9 fw_X6_259 rfl rfl (ck DX6_image_0 22 rfl) ?_
  refine r_heap e10 ?_
  refine r_aload_n 50 rfl 0 rfl rfl (ck DX6_image_0 23 rfl) ?_
  refine r_getr (q := 6) 53 rfl (lq_6_0) sh_0 kd_6_0 fl_X6_17 (ck DX6_image_0 24 rfl) ?_
  refine r_geti 56 rfl sh_6 kd_1_7 fl_X6_82 (ck DX6_image_0 25 rfl) ?_
  obtain ⟨rfl, rfl⟩ := so2 hf
  exact r_iret rfl rfl (ck DX6_image_0 26 rfl)
-- X6_undo
def f_X6_undo (h : HP) : Option (Int32 × HP) := if (h.1 0 9) = 0 then (some ((-3), h)) else (bo (f_X1_copyFrom 6 14 h) fun g2 => bo (f_X3_copyFrom 30 39 g2) fun g4 => bo (f_X3_copyFrom 33 42 g4) fun g6 => bo (f_X3_copyFrom 36 45 g6) fun g8 => some ((g8.1 6 7), g8))
set_option maxHeartbeats 4000000 in
set_option maxRecDepth 100000 in
theorem A_X6_undo (X : XE) (h : HP) (r : Int32) (h' : HP) (hf : f_X6_undo h = some (r, h')) : CC mX6_undo 2 X [.ref (X.1 0)] h (some (.int r)) h' := by
  refine CC_of rfl (Nat.le_of_ble_eq_true rfl) ?_
  show Run mX6_undo 2 X 0 [(0, .ref (X.1 0))] [] h (some (.int r)) h'
  unfold f_X6_undo at hf
  refine r_aload_n 1 rfl 0 rfl rfl (ck DX6_undo_0 0 rfl) ?_
  refine r_geti 4 rfl sh_0 kd_6_9 fl_X6_259 (ck DX6_undo_0 1 rfl) ?_
  rcases if_so hf with ⟨c1, hf⟩ | ⟨c1, hf⟩
  · refine r_if_ne_t 7 rfl 10 (ck DX6_undo_0 2 rfl) (by decide) c1 ?_
    refine r_bipush 9 rfl bp_m3 (ck DX6_undo_0 3 rfl) ?_
    obtain ⟨rfl, rfl⟩ := so2 hf
    exact r_iret rfl rfl (ck DX6_undo_0 4 rfl)
  · refine r_if_ne_f 10 (ck DX6_undo_0 2 rfl) (by decide) c1 ?_
    refine r_aload_n 11 rfl 0 rfl rfl (ck DX6_undo_0 5 rfl) ?_
    refine r_getr (q := 6) 14 rfl (lq_6_0) sh_0 kd_6_0 fl_X6_17 (ck DX6_undo_0 6 rfl) ?_
    refine r_aload_n 15 rfl 0 rfl rfl (ck DX6_undo_0 7 rfl) ?_
    refine r_getr (q := 14) 18 rfl (lq_6_1) sh_0 kd_6_1 fl_X6_23 (ck DX6_undo_0 8 rfl) ?_
    obtain ⟨g2, e3, hf⟩ := bo_so hf
    refine r_callVv 21 rfl (A_X1_copyFrom X 6 dk_6 14 dk_14 h g2 e3) (by omega) cw_X6_253 sh_6 cl_1 rfl rfl (Nat.le_of_ble_eq_true rfl) (ck DX6_undo_0 9 rfl) ?_
    refine r_aload_n 22 rfl 0 rfl rfl (ck DX6_undo_0 10 rfl) ?_
    refine r_getr (q := 30) 25 rfl (lq_6_3) sh_0 kd_6_3 fl_X6_34 (ck DX6_undo_0 11 rfl) ?_
    refine r_aload_n 26 rfl 0 rfl rfl (ck DX6_undo_0 12 rfl) ?_
    refine r_getr (q := 39) 29 rfl (lq_6_6) sh_0 kd_6_6 fl_X6_44 (ck DX6_undo_0 13 rfl) ?_
    obtain ⟨g4, e5, hf⟩ := bo_so hf
    refine r_callVv 32 rfl (A_X3_copyFrom X 30 pr_30 39 pr_39 g2 g4 e5) (by omega) cw_X6_256 sh_30 cl_3 rfl rfl (Nat.le_of_ble_eq_true rfl) (ck DX6_undo_0 14 rfl) ?_
    refine r_aload_n 33 rfl 0 rfl rfl (ck DX6_undo_0 15 rfl) ?_
    refine r_getr (q := 33) 36 rfl (lq_6_4) sh_0 kd_6_4 fl_X6_38 (ck DX6_undo_0 16 rfl) ?_
    refine r_aload_n 37 rfl 0 rfl rfl (ck DX6_undo_0 17 rfl) ?_
    refine r_getr (q := 42) 40 rfl (lq_6_7) sh_0 kd_6_7 fl_X6_47 (ck DX6_undo_0 18 rfl) ?_
    obtain ⟨g6, e7, hf⟩ := bo_so hf
    refine r_callVv 43 rfl (A_X3_copyFrom X 33 pr_33 42 pr_42 g4 g6 e7) (by omega) cw_X6_256 sh_33 cl_3 rfl rfl (Nat.le_of_ble_eq_true rfl) (ck DX6_undo_0 19 rfl) ?_
    refine r_aload_n 44 rfl 0 rfl rfl (ck DX6_undo_0 20 rfl) ?_
    refine r_getr (q := 36) 47 rfl (lq_6_5) sh_0 kd_6_5 fl_X6_41 (ck DX6_undo_0 21 rfl) ?_
    refine r_aload_n 48 rfl 0 rfl rfl (ck DX6_undo_0 22 rfl) ?_
    refine r_getr (q := 45) 51 rfl (lq_6_8) sh_0 kd_6_8 fl_X6_50 (ck DX6_undo_0 23 rfl) ?_
    obtain ⟨g8, e9, hf⟩ := bo_so hf
    refine r_callVv 54 rfl (A_X3_copyFrom X 36 pr_36 45 pr_45 g6 g8 e9) (by omega) cw_X6_256 sh_36 cl_3 rfl rfl (Nat.le_of_ble_eq_true rfl) (ck DX6_undo_0 24 rfl) ?_
    refine r_aload_n 55 rfl 0 rfl rfl (ck DX6_undo_0 25 rfl) ?_
    refine r_getr (q := 6) 58 rfl (lq_6_0) sh_0 kd_6_0 fl_X6_17 (ck DX6_undo_0 26 rfl) ?_
    refine r_geti 61 rfl sh_6 kd_1_7 fl_X6_82 (ck DX6_undo_0 27 rfl) ?_
    obtain ⟨rfl, rfl⟩ := so2 hf
    exact r_iret rfl rfl (ck DX6_undo_0 28 rfl)
-- X6_act
def f_X6_act (x1 : Int32) (x2 : Int32) (x3 : Int32) (h : HP) : Option (Int32 × HP) := bo (f_X1_has 6 x1 h) fun v1 => if v1 = 0 then (lt (si h 81 1 0) fun g4 => some (0, g4)) else (bo (f_X6_within x2 0 2) fun v6 => if v6 = 0 then (lt (si h 81 1 0) fun g9 => some (0, g9)) else (gd (inb x1 6) (gd (inb x1 6) (bd (f_X0_start (h.1 7 (Int32.toNatClampNeg x1)) x1 (h.1 8 (Int32.toNatClampNeg x1)) x2 x3 h) fun v15 g13 => some (v15, g13)))))
set_option maxHeartbeats 4000000 in
set_option maxRecDepth 100000 in
theorem A_X6_act (X : XE) (x1 : Int32) (x2 : Int32) (x3 : Int32) (h : HP) (r : Int32) (h' : HP) (hf : f_X6_act x1 x2 x3 h = some (r, h')) : CC mX6_act 102 X [.ref (X.1 0), .int x1, .int x2, .int x3] h (some (.int r)) h' := by
  refine CC_of rfl (Nat.le_of_ble_eq_true rfl) ?_
  show Run mX6_act 102 X 0 [(0, .ref (X.1 0)), (1, .int x1), (2, .int x2), (3, .int x3)] [] h (some (.int r)) h'
  unfold f_X6_act at hf
  refine r_aload_n 1 rfl 0 rfl rfl (ck DX6_act_0 0 rfl) ?_
  refine r_getr (q := 6) 4 rfl (lq_6_0) sh_0 kd_6_0 fl_X6_17 (ck DX6_act_0 1 rfl) ?_
  refine r_iload_n 5 rfl 1 rfl rfl (ck DX6_act_0 2 rfl) ?_
  obtain ⟨v1, e2, hf⟩ := bo_so hf
  refine r_callVi 8 rfl (A_X1_has X 6 dk_6 x1 h v1 e2) (by omega) cw_X6_90 sh_6 cl_1 rfl rfl (Nat.le_of_ble_eq_true rfl) (ck DX6_act_0 3 rfl) ?_
  rcases if_so hf with ⟨c3, hf⟩ | ⟨c3, hf⟩
  · refine r_if_eq_t 20 (ck DX6_act_0 4 rfl) (by decide) c3 ?_
    refine r_aload_n 21 rfl 0 rfl rfl (ck DX6_act_0 10 rfl) ?_
    refine r_getr (q := 81) 24 rfl (lq_6_13) sh_0 kd_6_13 fl_X6_67 (ck DX6_act_0 11 rfl) ?_
    refine r_iconst 25 rfl ic_0 (ck DX6_act_0 12 rfl) ?_
    obtain ⟨g4, e5, hf⟩ := lt_so hf
    refine r_puti 28 rfl sh_81 kd_0_1 fw_X6_263 rfl rfl (ck DX6_act_0 13 rfl) ?_
    refine r_heap e5 ?_
    refine r_iconst 29 rfl ic_0 (ck DX6_act_0 14 rfl) ?_
    obtain ⟨rfl, rfl⟩ := so2 hf
    exact r_iret rfl rfl (ck DX6_act_0 15 rfl)
  · refine r_if_eq_f 11 rfl 20 (ck DX6_act_0 4 rfl) (by decide) c3 ?_
    refine r_iload_n 12 rfl 2 rfl rfl (ck DX6_act_0 5 rfl) ?_
    refine r_iconst 13 rfl ic_0 (ck DX6_act_0 6 rfl) ?_
    refine r_iconst 14 rfl ic_2 (ck DX6_act_0 7 rfl) ?_
    obtain ⟨v6, e7, hf⟩ := bo_so hf
    refine r_callSi 17 rfl (A_X6_within X x2 0 2 h v6 e7) (by omega) cs_X6_78 rfl rfl (Nat.le_of_ble_eq_true rfl) (ck DX6_act_0 8 rfl) ?_
    rcases if_so hf with ⟨c8, hf⟩ | ⟨c8, hf⟩
    · refine r_if_ne_t 20 rfl 30 (ck DX6_act_0 9 rfl) (by decide) c8 ?_
      refine r_aload_n 21 rfl 0 rfl rfl (ck DX6_act_0 10 rfl) ?_
      refine r_getr (q := 81) 24 rfl (lq_6_13) sh_0 kd_6_13 fl_X6_67 (ck DX6_act_0 11 rfl) ?_
      refine r_iconst 25 rfl ic_0 (ck DX6_act_0 12 rfl) ?_
      obtain ⟨g9, e10, hf⟩ := lt_so hf
      refine r_puti 28 rfl sh_81 kd_0_1 fw_X6_263 rfl rfl (ck DX6_act_0 13 rfl) ?_
      refine r_heap e10 ?_
      refine r_iconst 29 rfl ic_0 (ck DX6_act_0 14 rfl) ?_
      obtain ⟨rfl, rfl⟩ := so2 hf
      exact r_iret rfl rfl (ck DX6_act_0 15 rfl)
    · refine r_if_ne_f 30 (ck DX6_act_0 9 rfl) (by decide) c8 ?_
      refine r_aload_n 31 rfl 0 rfl rfl (ck DX6_act_0 16 rfl) ?_
      refine r_getr (q := 81) 34 rfl (lq_6_13) sh_0 kd_6_13 fl_X6_67 (ck DX6_act_0 17 rfl) ?_
      refine r_aload_n 35 rfl 0 rfl rfl (ck DX6_act_0 18 rfl) ?_
      refine r_getr (q := 6) 38 rfl (lq_6_0) sh_0 kd_6_0 fl_X6_17 (ck DX6_act_0 19 rfl) ?_
      refine r_getr (q := 7) 41 rfl (lq_1_0 6) sh_6 kd_1_0 fl_X6_94 (ck DX6_act_0 20 rfl) ?_
      refine r_iload_n 42 rfl 1 rfl rfl (ck DX6_act_0 21 rfl) ?_
      obtain ⟨b11, hf⟩ := gd_so hf
      refine r_iald 43 rfl sh_7 (inb_vp b11) (ck DX6_act_0 22 rfl) ?_
      refine r_iload_n 44 rfl 1 rfl rfl (ck DX6_act_0 23 rfl) ?_
      refine r_aload_n 45 rfl 0 rfl rfl (ck DX6_act_0 24 rfl) ?_
      refine r_getr (q := 6) 48 rfl (lq_6_0) sh_0 kd_6_0 fl_X6_17 (ck DX6_act_0 25 rfl) ?_
      refine r_getr (q := 8) 51 rfl (lq_1_1 6) sh_6 kd_1_1 fl_X6_98 (ck DX6_act_0 26 rfl) ?_
      refine r_iload_n 52 rfl 1 rfl rfl (ck DX6_act_0 27 rfl) ?_
      obtain ⟨b12, hf⟩ := gd_so hf
      refine r_iald 53 rfl sh_8 (inb_vp b12) (ck DX6_act_0 28 rfl) ?_
      refine r_iload_n 54 rfl 2 rfl rfl (ck DX6_act_0 29 rfl) ?_
      refine r_iload_n 55 rfl 3 rfl rfl (ck DX6_act_0 30 rfl) ?_
      obtain ⟨v15, g13, e14, hf⟩ := bd_so hf
      refine r_callVi 58 rfl (A_X0_start X (h.1 7 (Int32.toNatClampNeg x1)) x1 (h.1 8 (Int32.toNatClampNeg x1)) x2 x3 h v15 g13 e14) (by omega) cw_X6_266 sh_81 cl_0 rfl rfl (Nat.le_of_ble_eq_true rfl) (ck DX6_act_0 31 rfl) ?_
      obtain ⟨rfl, rfl⟩ := so2 hf
      exact r_iret rfl rfl (ck DX6_act_0 32 rfl)
-- X6_trace
def f_X6_trace (x1 : Int32) (h : HP) : Option Int32 := if x1 < 0 then (some (-1)) else (if (h.1 81 1) ≤ x1 then (some (-1)) else (if (20 : Int32) ≤ x1 then (some (-1)) else (gd (inb x1 20) (some (h.1 82 (Int32.toNatClampNeg x1))))))
set_option maxHeartbeats 4000000 in
set_option maxRecDepth 100000 in
theorem A_X6_trace (X : XE) (x1 : Int32) (h : HP) (r : Int32) (hf : f_X6_trace x1 h = some r) : CC mX6_trace 1 X [.ref (X.1 0), .int x1] h (some (.int r)) h := by
  refine CC_of rfl (Nat.le_of_ble_eq_true rfl) ?_
  show Run mX6_trace 1 X 0 [(0, .ref (X.1 0)), (1, .int x1)] [] h (some (.int r)) h
  unfold f_X6_trace at hf
  refine r_iload_n 1 rfl 1 rfl rfl (ck DX6_trace_0 0 rfl) ?_
  rcases if_so hf with ⟨c1, hf⟩ | ⟨c1, hf⟩
  · refine r_if_lt_t 33 (ck DX6_trace_0 1 rfl) (by decide) c1 ?_
    refine r_iconst 34 rfl ic_m1 (ck DX6_trace_0 16 rfl) ?_
    obtain rfl := so1 hf
    exact r_iret rfl rfl (ck DX6_trace_0 17 rfl)
  · refine r_if_lt_f 4 rfl 33 (ck DX6_trace_0 1 rfl) (by decide) c1 ?_
    refine r_iload_n 5 rfl 1 rfl rfl (ck DX6_trace_0 2 rfl) ?_
    refine r_aload_n 6 rfl 0 rfl rfl (ck DX6_trace_0 3 rfl) ?_
    refine r_getr (q := 81) 9 rfl (lq_6_13) sh_0 kd_6_13 fl_X6_67 (ck DX6_trace_0 4 rfl) ?_
    refine r_geti 12 rfl sh_81 kd_0_1 fl_X6_263 (ck DX6_trace_0 5 rfl) ?_
    rcases if_so hf with ⟨c2, hf⟩ | ⟨c2, hf⟩
    · refine r_icmp_ge_t 33 (ck DX6_trace_0 6 rfl) (by decide) c2 ?_
      refine r_iconst 34 rfl ic_m1 (ck DX6_trace_0 16 rfl) ?_
      obtain rfl := so1 hf
      exact r_iret rfl rfl (ck DX6_trace_0 17 rfl)
    · refine r_icmp_ge_f 15 rfl 33 (ck DX6_trace_0 6 rfl) (by decide) c2 ?_
      refine r_iload_n 16 rfl 1 rfl rfl (ck DX6_trace_0 7 rfl) ?_
      refine r_bipush 18 rfl bp_20 (ck DX6_trace_0 8 rfl) ?_
      rcases if_so hf with ⟨c3, hf⟩ | ⟨c3, hf⟩
      · refine r_icmp_ge_t 33 (ck DX6_trace_0 9 rfl) (by decide) c3 ?_
        refine r_iconst 34 rfl ic_m1 (ck DX6_trace_0 16 rfl) ?_
        obtain rfl := so1 hf
        exact r_iret rfl rfl (ck DX6_trace_0 17 rfl)
      · refine r_icmp_ge_f 21 rfl 33 (ck DX6_trace_0 9 rfl) (by decide) c3 ?_
        refine r_aload_n 22 rfl 0 rfl rfl (ck DX6_trace_0 10 rfl) ?_
        refine r_getr (q := 81) 25 rfl (lq_6_13) sh_0 kd_6_13 fl_X6_67 (ck DX6_trace_0 11 rfl) ?_
        refine r_getr (q := 82) 28 rfl (lq_0_0 81) sh_81 kd_0_0 fl_X6_270 (ck DX6_trace_0 12 rfl) ?_
        refine r_iload_n 29 rfl 1 rfl rfl (ck DX6_trace_0 13 rfl) ?_
        obtain ⟨b4, hf⟩ := gd_so hf
        refine r_iald 30 rfl sh_82 (inb_vp b4) (ck DX6_trace_0 14 rfl) ?_
        refine r_goto 34 (ck DX6_trace_0 15 rfl) (by decide) ?_
        obtain rfl := so1 hf
        exact r_iret rfl rfl (ck DX6_trace_0 17 rfl)
-- X6_taken
def f_X6_taken_L43 (h : HP) : Nat → Int32 → Int32 → Int32 → Int32 → Option Int32
  | 0, _, _, _, _ => none
  | n + 1, x2, x3, x4, x5 => if (7 : Int32) ≤ x5 then (some (-12)) else (if x4 < 0 then (some (-12)) else (if x4 = x2 then (some x3) else (gd (inb x4 7) (lt ((([-1, 0, 0, 0, 1, 2, 3] : List Int32).getD (Int32.toNatClampNeg x4) 0) : Int32) fun v14 => lt (x5 + 1 : Int32) fun v16 => f_X6_taken_L43 h n x2 x3 v14 v16))))
set_option maxHeartbeats 4000000 in
set_option maxRecDepth 100000 in
theorem A_X6_taken_L43 (X : XE) (h : HP) (r : Int32) : ∀ (n : Nat) (x2 : Int32) (x3 : Int32) (x4 : Int32) (x5 : Int32), f_X6_taken_L43 h n x2 x3 x4 x5 = some r → Run mX6_taken 2 X 43 [(2, .int x2), (3, .int x3), (4, .int x4), (5, .int x5)] [] h (some (.int r)) h := by
  intro n
  induction n with
  | zero => intro x2 x3 x4 x5 hf; cases hf
  | succ n ih =>
    intro x2 x3 x4 x5 hf
    rw [f_X6_taken_L43] at hf
    refine r_iload 45 rfl 3 rfl (ck DX6_taken_0 24 rfl) ?_
    refine r_bipush 47 rfl bp_7 (ck DX6_taken_0 25 rfl) ?_
    rcases if_so hf with ⟨c10, hf⟩ | ⟨c10, hf⟩
    · refine r_icmp_ge_t 77 (ck DX6_taken_0 26 rfl) (by decide) c10 ?_
      refine r_bipush 79 rfl bp_m12 (ck DX6_taken_0 40 rfl) ?_
      obtain rfl := so1 hf
      exact r_iret rfl rfl (ck DX6_taken_0 41 rfl)
    · refine r_icmp_ge_f 50 rfl 77 (ck DX6_taken_0 26 rfl) (by decide) c10 ?_
      refine r_iload 52 rfl 2 rfl (ck DX6_taken_0 27 rfl) ?_
      rcases if_so hf with ⟨c11, hf⟩ | ⟨c11, hf⟩
      · refine r_if_lt_t 77 (ck DX6_taken_0 28 rfl) (by decide) c11 ?_
        refine r_bipush 79 rfl bp_m12 (ck DX6_taken_0 40 rfl) ?_
        obtain rfl := so1 hf
        exact r_iret rfl rfl (ck DX6_taken_0 41 rfl)
      · refine r_if_lt_f 55 rfl 77 (ck DX6_taken_0 28 rfl) (by decide) c11 ?_
        refine r_iload 57 rfl 2 rfl (ck DX6_taken_0 29 rfl) ?_
        refine r_iload_n 58 rfl 0 rfl rfl (ck DX6_taken_0 30 rfl) ?_
        rcases if_so hf with ⟨c12, hf⟩ | ⟨c12, hf⟩
        · refine r_icmp_ne_t 61 rfl 63 (ck DX6_taken_0 31 rfl) (by decide) c12 ?_
          refine r_iload_n 62 rfl 1 rfl rfl (ck DX6_taken_0 32 rfl) ?_
          obtain rfl := so1 hf
          exact r_iret rfl rfl (ck DX6_taken_0 33 rfl)
        · refine r_icmp_ne_f 63 (ck DX6_taken_0 31 rfl) (by decide) c12 ?_
          refine r_gka 66 rfl gs_X6_273 (ck DX6_taken_0 34 rfl) ?_
          refine r_iload 68 rfl 2 rfl (ck DX6_taken_0 35 rfl) ?_
          obtain ⟨b13, hf⟩ := gd_so hf
          refine r_ka 69 rfl (inb_vp b13) (ck DX6_taken_0 36 rfl) ?_
          obtain ⟨v14, e15, hf⟩ := lt_so hf
          refine r_top e15 ?_
          refine r_istore (lv' := [(4, .int v14), (2, .int x2), (3, .int x3), (5, .int x5)]) 71 rfl (ck DX6_taken_0 37 rfl) (by decide) rfl ?_
          obtain ⟨v16, e17, hf⟩ := lt_so hf
          refine r_iinc (lv' := [(5, .int v16), (4, .int v14), (2, .int x2), (3, .int x3)]) 74 rfl 3 (ck DX6_taken_0 38 rfl) rfl (by rw [e17, ic_1]) (by decide) rfl ?_
          refine r_goto 43 (ck DX6_taken_0 39 rfl) (by decide) ?_
          refine r_sub (lv' := [(2, .int x2), (3, .int x3), (4, .int v14), (5, .int v16)]) [2, 3, 1, 0] rfl ?_
          exact ih x2 x3 v14 v16 hf
def f_X6_taken (x1 : Int32) (x2 : Int32) (h : HP) : Option Int32 := bo (f_X6_within x2 0 6) fun v1 => if v1 = 0 then (some (-2)) else (bo (f_X1_has 6 x1 h) fun v4 => if v4 = 0 then (some (-11)) else (gd (inb x1 6) (lt ((h.1 7 (Int32.toNatClampNeg x1)) : Int32) fun v8 => f_X6_taken_L43 h FZ x2 v8 v8 0)))
set_option maxHeartbeats 4000000 in
set_option maxRecDepth 100000 in
theorem A_X6_taken (X : XE) (x1 : Int32) (x2 : Int32) (h : HP) (r : Int32) (hf : f_X6_taken x1 x2 h = some r) : CC mX6_taken 2 X [.ref (X.1 0), .int x1, .int x2] h (some (.int r)) h := by
  refine CC_of rfl (Nat.le_of_ble_eq_true rfl) ?_
  show Run mX6_taken 2 X 0 [(0, .ref (X.1 0)), (1, .int x1), (2, .int x2)] [] h (some (.int r)) h
  unfold f_X6_taken at hf
  refine r_iload_n 1 rfl 2 rfl rfl (ck DX6_taken_0 0 rfl) ?_
  refine r_iconst 2 rfl ic_0 (ck DX6_taken_0 1 rfl) ?_
  refine r_bipush 4 rfl bp_6 (ck DX6_taken_0 2 rfl) ?_
  obtain ⟨v1, e2, hf⟩ := bo_so hf
  refine r_callSi 7 rfl (A_X6_within X x2 0 6 h v1 e2) (by omega) cs_X6_78 rfl rfl (Nat.le_of_ble_eq_true rfl) (ck DX6_taken_0 3 rfl) ?_
  rcases if_so hf with ⟨c3, hf⟩ | ⟨c3, hf⟩
  · refine r_if_ne_t 10 rfl 13 (ck DX6_taken_0 4 rfl) (by decide) c3 ?_
    refine r_bipush 12 rfl bp_m2 (ck DX6_taken_0 5 rfl) ?_
    obtain rfl := so1 hf
    exact r_iret rfl rfl (ck DX6_taken_0 6 rfl)
  · refine r_if_ne_f 13 (ck DX6_taken_0 4 rfl) (by decide) c3 ?_
    refine r_aload_n 14 rfl 0 rfl rfl (ck DX6_taken_0 7 rfl) ?_
    refine r_getr (q := 6) 17 rfl (lq_6_0) sh_0 kd_6_0 fl_X6_17 (ck DX6_taken_0 8 rfl) ?_
    refine r_iload_n 18 rfl 1 rfl rfl (ck DX6_taken_0 9 rfl) ?_
    obtain ⟨v4, e5, hf⟩ := bo_so hf
    refine r_callVi 21 rfl (A_X1_has X 6 dk_6 x1 h v4 e5) (by omega) cw_X6_90 sh_6 cl_1 rfl rfl (Nat.le_of_ble_eq_true rfl) (ck DX6_taken_0 10 rfl) ?_
    rcases if_so hf with ⟨c6, hf⟩ | ⟨c6, hf⟩
    · refine r_if_ne_t 24 rfl 27 (ck DX6_taken_0 11 rfl) (by decide) c6 ?_
      refine r_bipush 26 rfl bp_m11 (ck DX6_taken_0 12 rfl) ?_
      obtain rfl := so1 hf
      exact r_iret rfl rfl (ck DX6_taken_0 13 rfl)
    · refine r_if_ne_f 27 (ck DX6_taken_0 11 rfl) (by decide) c6 ?_
      refine r_aload_n 28 rfl 0 rfl rfl (ck DX6_taken_0 14 rfl) ?_
      refine r_getr (q := 6) 31 rfl (lq_6_0) sh_0 kd_6_0 fl_X6_17 (ck DX6_taken_0 15 rfl) ?_
      refine r_getr (q := 7) 34 rfl (lq_1_0 6) sh_6 kd_1_0 fl_X6_94 (ck DX6_taken_0 16 rfl) ?_
      refine r_iload_n 35 rfl 1 rfl rfl (ck DX6_taken_0 17 rfl) ?_
      obtain ⟨b7, hf⟩ := gd_so hf
      refine r_iald 36 rfl sh_7 (inb_vp b7) (ck DX6_taken_0 18 rfl) ?_
      obtain ⟨v8, e9, hf⟩ := lt_so hf
      refine r_top e9 ?_
      refine r_istore_n (lv' := [(3, .int v8), (0, .ref (X.1 0)), (1, .int x1), (2, .int x2)]) 37 rfl (ck DX6_taken_0 19 rfl) (by decide) rfl rfl ?_
      refine r_iload_n 38 rfl 0 rfl rfl (ck DX6_taken_0 20 rfl) ?_
      refine r_istore (lv' := [(4, .int v8), (3, .int v8), (0, .ref (X.1 0)), (1, .int x1), (2, .int x2)]) 40 rfl (ck DX6_taken_0 21 rfl) (by decide) rfl ?_
      refine r_iconst 41 rfl ic_0 (ck DX6_taken_0 22 rfl) ?_
      refine r_istore (lv' := [(5, .int 0), (4, .int v8), (3, .int v8), (0, .ref (X.1 0)), (1, .int x1), (2, .int x2)]) 43 rfl (ck DX6_taken_0 23 rfl) (by decide) rfl ?_
      refine r_sub (lv' := [(2, .int x2), (3, .int v8), (4, .int v8), (5, .int 0)]) [5, 2, 1, 0] rfl ?_
      exact A_X6_taken_L43 X h _ FZ x2 v8 v8 0 hf
-- X6_count
def f_X6_count (x1 : Int32) (h : HP) : Option Int32 := if x1 = 0 then (some (h.1 6 7)) else (if x1 = 1 then (some (h.1 0 11)) else (if x1 = 2 then (some (h.1 6 8)) else (if x1 = 3 then (some (h.1 30 2)) else (if x1 = 4 then (some (h.1 33 2)) else (if x1 = 5 then (some (h.1 36 2)) else (if x1 = 6 then (some (h.1 79 3)) else (if x1 = 7 then (some (h.1 81 1)) else ((some (-2))))))))))
set_option maxHeartbeats 4000000 in
set_option maxRecDepth 100000 in
theorem A_X6_count (X : XE) (x1 : Int32) (h : HP) (r : Int32) (hf : f_X6_count x1 h = some r) : CC mX6_count 1 X [.ref (X.1 0), .int x1] h (some (.int r)) h := by
  refine CC_of rfl (Nat.le_of_ble_eq_true rfl) ?_
  show Run mX6_count 1 X 0 [(0, .ref (X.1 0)), (1, .int x1)] [] h (some (.int r)) h
  unfold f_X6_count at hf
  refine r_iload_n 1 rfl 1 rfl rfl (ck DX6_count_0 0 rfl) ?_
  rcases if_so hf with ⟨c1, hf⟩ | ⟨c1, hf⟩
  · refine r_tsw_in (v := 0) 48 (ck DX6_count_0 1 rfl) c1 (by decide) (by decide) rfl (by decide) ?_
    refine r_aload_n 49 rfl 0 rfl rfl (ck DX6_count_0 2 rfl) ?_
    refine r_getr (q := 6) 52 rfl (lq_6_0) sh_0 kd_6_0 fl_X6_17 (ck DX6_count_0 3 rfl) ?_
    refine r_geti 55 rfl sh_6 kd_1_7 fl_X6_82 (ck DX6_count_0 4 rfl) ?_
    obtain rfl := so1 hf
    exact r_iret rfl rfl (ck DX6_count_0 5 rfl)
  · skip
    rcases if_so hf with ⟨c2, hf⟩ | ⟨c2, hf⟩
    · refine r_tsw_in (v := 1) 56 (ck DX6_count_0 1 rfl) c2 (by decide) (by decide) rfl (by decide) ?_
      refine r_aload_n 57 rfl 0 rfl rfl (ck DX6_count_0 6 rfl) ?_
      refine r_geti 60 rfl sh_0 kd_6_11 fl_X6_153 (ck DX6_count_0 7 rfl) ?_
      obtain rfl := so1 hf
      exact r_iret rfl rfl (ck DX6_count_0 8 rfl)
    · skip
      rcases if_so hf with ⟨c3, hf⟩ | ⟨c3, hf⟩
      · refine r_tsw_in (v := 2) 61 (ck DX6_count_0 1 rfl) c3 (by decide) (by decide) rfl (by decide) ?_
        refine r_aload_n 62 rfl 0 rfl rfl (ck DX6_count_0 9 rfl) ?_
        refine r_getr (q := 6) 65 rfl (lq_6_0) sh_0 kd_6_0 fl_X6_17 (ck DX6_count_0 10 rfl) ?_
        refine r_geti 68 rfl sh_6 kd_1_8 fl_X6_134 (ck DX6_count_0 11 rfl) ?_
        obtain rfl := so1 hf
        exact r_iret rfl rfl (ck DX6_count_0 12 rfl)
      · skip
        rcases if_so hf with ⟨c4, hf⟩ | ⟨c4, hf⟩
        · refine r_tsw_in (v := 3) 69 (ck DX6_count_0 1 rfl) c4 (by decide) (by decide) rfl (by decide) ?_
          refine r_aload_n 70 rfl 0 rfl rfl (ck DX6_count_0 13 rfl) ?_
          refine r_getr (q := 30) 73 rfl (lq_6_3) sh_0 kd_6_3 fl_X6_34 (ck DX6_count_0 14 rfl) ?_
          refine r_geti 76 rfl sh_30 kd_3_2 fl_X6_215 (ck DX6_count_0 15 rfl) ?_
          obtain rfl := so1 hf
          exact r_iret rfl rfl (ck DX6_count_0 16 rfl)
        · skip
          rcases if_so hf with ⟨c5, hf⟩ | ⟨c5, hf⟩
          · refine r_tsw_in (v := 4) 77 (ck DX6_count_0 1 rfl) c5 (by decide) (by decide) rfl (by decide) ?_
            refine r_aload_n 78 rfl 0 rfl rfl (ck DX6_count_0 17 rfl) ?_
            refine r_getr (q := 33) 81 rfl (lq_6_4) sh_0 kd_6_4 fl_X6_38 (ck DX6_count_0 18 rfl) ?_
            refine r_geti 84 rfl sh_33 kd_3_2 fl_X6_215 (ck DX6_count_0 19 rfl) ?_
            obtain rfl := so1 hf
            exact r_iret rfl rfl (ck DX6_count_0 20 rfl)
          · skip
            rcases if_so hf with ⟨c6, hf⟩ | ⟨c6, hf⟩
            · refine r_tsw_in (v := 5) 85 (ck DX6_count_0 1 rfl) c6 (by decide) (by decide) rfl (by decide) ?_
              refine r_aload_n 86 rfl 0 rfl rfl (ck DX6_count_0 21 rfl) ?_
              refine r_getr (q := 36) 89 rfl (lq_6_5) sh_0 kd_6_5 fl_X6_41 (ck DX6_count_0 22 rfl) ?_
              refine r_geti 92 rfl sh_36 kd_3_2 fl_X6_215 (ck DX6_count_0 23 rfl) ?_
              obtain rfl := so1 hf
              exact r_iret rfl rfl (ck DX6_count_0 24 rfl)
            · skip
              rcases if_so hf with ⟨c7, hf⟩ | ⟨c7, hf⟩
              · refine r_tsw_in (v := 6) 93 (ck DX6_count_0 1 rfl) c7 (by decide) (by decide) rfl (by decide) ?_
                refine r_aload_n 94 rfl 0 rfl rfl (ck DX6_count_0 25 rfl) ?_
                refine r_getr (q := 79) 97 rfl (lq_6_12) sh_0 kd_6_12 fl_X6_60 (ck DX6_count_0 26 rfl) ?_
                refine r_geti 100 rfl sh_79 kd_5_3 fl_X6_150 (ck DX6_count_0 27 rfl) ?_
                obtain rfl := so1 hf
                exact r_iret rfl rfl (ck DX6_count_0 28 rfl)
              · skip
                rcases if_so hf with ⟨c8, hf⟩ | ⟨c8, hf⟩
                · refine r_tsw_in (v := 7) 101 (ck DX6_count_0 1 rfl) c8 (by decide) (by decide) rfl (by decide) ?_
                  refine r_aload_n 102 rfl 0 rfl rfl (ck DX6_count_0 29 rfl) ?_
                  refine r_getr (q := 81) 105 rfl (lq_6_13) sh_0 kd_6_13 fl_X6_67 (ck DX6_count_0 30 rfl) ?_
                  refine r_geti 108 rfl sh_81 kd_0_1 fl_X6_263 (ck DX6_count_0 31 rfl) ?_
                  obtain rfl := so1 hf
                  exact r_iret rfl rfl (ck DX6_count_0 32 rfl)
                · skip
                  have hx9 : x1.toInt < 0 ∨ (7 : Int) < x1.toInt := by
                    have h8 := tsw_o (x := x1) 0 8 (fun k hk => by
                      match k, hk with
                      | 0, _ => exact ne_int c1
                      | 1, _ => exact ne_int c2
                      | 2, _ => exact ne_int c3
                      | 3, _ => exact ne_int c4
                      | 4, _ => exact ne_int c5
                      | 5, _ => exact ne_int c6
                      | 6, _ => exact ne_int c7
                      | 7, _ => exact ne_int c8
                      | k + 8, hk => exact absurd hk (by omega))
                    exact h8
                  refine r_tsw_out 109 (ck DX6_count_0 1 rfl) hx9 (by decide) ?_
                  refine r_bipush 111 rfl bp_m2 (ck DX6_count_0 33 rfl) ?_
                  obtain rfl := so1 hf
                  exact r_iret rfl rfl (ck DX6_count_0 34 rfl)
-- X6_tape
def f_X6_tape (x1 : Int32) (x2 : Int32) (x3 : Int32) (h : HP) : Option (Int32 × HP) := bo (f_X6_within x1 0 5) fun v1 => if v1 = 0 then (some ((-1), h)) else (if x2 = (-1) then (gd (inb x1 6) (lt (lra 6 (Int32.toNatClampNeg x1)) fun w6 => bo (f_X4_become w6 x2 0 h) fun g8 => some (1, g8))) else (bo (f_X6_within x2 0 4) fun v10 => if v10 = 0 then (some ((-2), h)) else (if x3 ≤ 60 then (if (0 : Int32) ≤ x3 then (gd (inb x1 6) (lt (lra 6 (Int32.toNatClampNeg x1)) fun w16 => bo (f_X4_become w16 x2 x3 h) fun g18 => some (1, g18))) else (some ((-14), h))) else (some ((-2), h)))))
set_option maxHeartbeats 4000000 in
set_option maxRecDepth 100000 in
theorem A_X6_tape (X : XE) (x1 : Int32) (x2 : Int32) (x3 : Int32) (h : HP) (r : Int32) (h' : HP) (hf : f_X6_tape x1 x2 x3 h = some (r, h')) : CC mX6_tape 2 X [.ref (X.1 0), .int x1, .int x2, .int x3] h (some (.int r)) h' := by
  refine CC_of rfl (Nat.le_of_ble_eq_true rfl) ?_
  show Run mX6_tape 2 X 0 [(0, .ref (X.1 0)), (1, .int x1), (2, .int x2), (3, .int x3)] [] h (some (.int r)) h'
  unfold f_X6_tape at hf
  refine r_iload_n 1 rfl 1 rfl rfl (ck DX6_tape_0 0 rfl) ?_
  refine r_iconst 2 rfl ic_0 (ck DX6_tape_0 1 rfl) ?_
  refine r_iconst 3 rfl ic_5 (ck DX6_tape_0 2 rfl) ?_
  obtain ⟨v1, e2, hf⟩ := bo_so hf
  refine r_callSi 6 rfl (A_X6_within X x1 0 5 h v1 e2) (by omega) cs_X6_78 rfl rfl (Nat.le_of_ble_eq_true rfl) (ck DX6_tape_0 3 rfl) ?_
  rcases if_so hf with ⟨c3, hf⟩ | ⟨c3, hf⟩
  · refine r_if_ne_t 9 rfl 11 (ck DX6_tape_0 4 rfl) (by decide) c3 ?_
    refine r_iconst 10 rfl ic_m1 (ck DX6_tape_0 5 rfl) ?_
    obtain ⟨rfl, rfl⟩ := so2 hf
    exact r_iret rfl rfl (ck DX6_tape_0 6 rfl)
  · refine r_if_ne_f 11 (ck DX6_tape_0 4 rfl) (by decide) c3 ?_
    refine r_iload_n 12 rfl 2 rfl rfl (ck DX6_tape_0 7 rfl) ?_
    refine r_iconst 13 rfl ic_m1 (ck DX6_tape_0 8 rfl) ?_
    rcases if_so hf with ⟨c4, hf⟩ | ⟨c4, hf⟩
    · refine r_icmp_ne_t 16 rfl 29 (ck DX6_tape_0 9 rfl) (by decide) c4 ?_
      refine r_aload_n 17 rfl 0 rfl rfl (ck DX6_tape_0 10 rfl) ?_
      refine r_getr (q := 83) 20 rfl (lq_6_14) sh_0 kd_6_14 fl_X6_73 (ck DX6_tape_0 11 rfl) ?_
      refine r_iload_n 21 rfl 1 rfl rfl (ck DX6_tape_0 12 rfl) ?_
      obtain ⟨b5, hf⟩ := gd_so hf
      have ow6 := tpa b5
      obtain ⟨w6, e7, hf⟩ := lt_so hf
      rw [← e7] at ow6
      refine r_aald 22 rfl sh_83 (Or.inr rfl) e7.symm (inb_vp b5) (ck DX6_tape_0 13 rfl) ?_
      refine r_iload_n 23 rfl 2 rfl rfl (ck DX6_tape_0 14 rfl) ?_
      refine r_iconst 24 rfl ic_0 (ck DX6_tape_0 15 rfl) ?_
      obtain ⟨g8, e9, hf⟩ := bo_so hf
      refine r_callVv 27 rfl (A_X4_become X w6 ow6 x2 0 h g8 e9) (by omega) cw_X6_276 ow6.1 cl_4 rfl rfl (Nat.le_of_ble_eq_true rfl) (ck DX6_tape_0 16 rfl) ?_
      refine r_iconst 28 rfl ic_1 (ck DX6_tape_0 17 rfl) ?_
      obtain ⟨rfl, rfl⟩ := so2 hf
      exact r_iret rfl rfl (ck DX6_tape_0 18 rfl)
    · refine r_icmp_ne_f 29 (ck DX6_tape_0 9 rfl) (by decide) c4 ?_
      refine r_iload_n 30 rfl 2 rfl rfl (ck DX6_tape_0 19 rfl) ?_
      refine r_iconst 31 rfl ic_0 (ck DX6_tape_0 20 rfl) ?_
      refine r_iconst 32 rfl ic_4 (ck DX6_tape_0 21 rfl) ?_
      obtain ⟨v10, e11, hf⟩ := bo_so hf
      refine r_callSi 35 rfl (A_X6_within X x2 0 4 h v10 e11) (by omega) cs_X6_78 rfl rfl (Nat.le_of_ble_eq_true rfl) (ck DX6_tape_0 22 rfl) ?_
      rcases if_so hf with ⟨c12, hf⟩ | ⟨c12, hf⟩
      · refine r_if_eq_t 44 (ck DX6_tape_0 23 rfl) (by decide) c12 ?_
        refine r_bipush 46 rfl bp_m2 (ck DX6_tape_0 27 rfl) ?_
        obtain ⟨rfl, rfl⟩ := so2 hf
        exact r_iret rfl rfl (ck DX6_tape_0 28 rfl)
      · refine r_if_eq_f 38 rfl 44 (ck DX6_tape_0 23 rfl) (by decide) c12 ?_
        refine r_iload_n 39 rfl 3 rfl rfl (ck DX6_tape_0 24 rfl) ?_
        refine r_bipush 41 rfl bp_60 (ck DX6_tape_0 25 rfl) ?_
        rcases if_so hf with ⟨c13, hf⟩ | ⟨c13, hf⟩
        · refine r_icmp_le_t 47 (ck DX6_tape_0 26 rfl) (by decide) c13 ?_
          refine r_iload_n 48 rfl 3 rfl rfl (ck DX6_tape_0 29 rfl) ?_
          rcases if_so hf with ⟨c14, hf⟩ | ⟨c14, hf⟩
          · refine r_if_ge_t 54 (ck DX6_tape_0 30 rfl) (by decide) c14 ?_
            refine r_aload_n 55 rfl 0 rfl rfl (ck DX6_tape_0 33 rfl) ?_
            refine r_getr (q := 83) 58 rfl (lq_6_14) sh_0 kd_6_14 fl_X6_73 (ck DX6_tape_0 34 rfl) ?_
            refine r_iload_n 59 rfl 1 rfl rfl (ck DX6_tape_0 35 rfl) ?_
            obtain ⟨b15, hf⟩ := gd_so hf
            have ow16 := tpa b15
            obtain ⟨w16, e17, hf⟩ := lt_so hf
            rw [← e17] at ow16
            refine r_aald 60 rfl sh_83 (Or.inr rfl) e17.symm (inb_vp b15) (ck DX6_tape_0 36 rfl) ?_
            refine r_iload_n 61 rfl 2 rfl rfl (ck DX6_tape_0 37 rfl) ?_
            refine r_iload_n 62 rfl 3 rfl rfl (ck DX6_tape_0 38 rfl) ?_
            obtain ⟨g18, e19, hf⟩ := bo_so hf
            refine r_callVv 65 rfl (A_X4_become X w16 ow16 x2 x3 h g18 e19) (by omega) cw_X6_276 ow16.1 cl_4 rfl rfl (Nat.le_of_ble_eq_true rfl) (ck DX6_tape_0 39 rfl) ?_
            refine r_iconst 66 rfl ic_1 (ck DX6_tape_0 40 rfl) ?_
            obtain ⟨rfl, rfl⟩ := so2 hf
            exact r_iret rfl rfl (ck DX6_tape_0 41 rfl)
          · refine r_if_ge_f 51 rfl 54 (ck DX6_tape_0 30 rfl) (by decide) c14 ?_
            refine r_bipush 53 rfl bp_m14 (ck DX6_tape_0 31 rfl) ?_
            obtain ⟨rfl, rfl⟩ := so2 hf
            exact r_iret rfl rfl (ck DX6_tape_0 32 rfl)
        · refine r_icmp_le_f 44 rfl 47 (ck DX6_tape_0 26 rfl) (by decide) c13 ?_
          refine r_bipush 46 rfl bp_m2 (ck DX6_tape_0 27 rfl) ?_
          obtain ⟨rfl, rfl⟩ := so2 hf
          exact r_iret rfl rfl (ck DX6_tape_0 28 rfl)
-- X6_item
def f_X6_item (x1 : Int32) (x2 : Int32) (y3 : Int64) (h : HP) : Option (Int32 × HP) := bo (f_X6_within x1 0 5) fun v1 => if v1 = 0 then (some ((-1), h)) else (gd (inb x1 6) (lt (lra 6 (Int32.toNatClampNeg x1)) fun w5 => if (h.1 w5 1) = (-1) then (some ((-11), h)) else (bo (f_X6_within x2 0 ((h.1 w5 2) - 1)) fun v8 => if v8 = 0 then (some ((-13), h)) else (bo (f_X4_cut w5 y3 h) fun v11 => gd (inb x2 60) (lt (sl h (w5 + 1) (Int32.toNatClampNeg x2) v11) fun g14 => some (1, g14))))))
set_option maxHeartbeats 4000000 in
set_option maxRecDepth 100000 in
theorem A_X6_item (X : XE) (x1 : Int32) (x2 : Int32) (y3 : Int64) (h : HP) (r : Int32) (h' : HP) (hf : f_X6_item x1 x2 y3 h = some (r, h')) : CC mX6_item 2 X [.ref (X.1 0), .int x1, .int x2, .long y3] h (some (.int r)) h' := by
  refine CC_of rfl (Nat.le_of_ble_eq_true rfl) ?_
  show Run mX6_item 2 X 0 [(0, .ref (X.1 0)), (1, .int x1), (2, .int x2), (3, .long y3)] [] h (some (.int r)) h'
  unfold f_X6_item at hf
  refine r_iload_n 1 rfl 1 rfl rfl (ck DX6_item_0 0 rfl) ?_
  refine r_iconst 2 rfl ic_0 (ck DX6_item_0 1 rfl) ?_
  refine r_iconst 3 rfl ic_5 (ck DX6_item_0 2 rfl) ?_
  obtain ⟨v1, e2, hf⟩ := bo_so hf
  refine r_callSi 6 rfl (A_X6_within X x1 0 5 h v1 e2) (by omega) cs_X6_78 rfl rfl (Nat.le_of_ble_eq_true rfl) (ck DX6_item_0 3 rfl) ?_
  rcases if_so hf with ⟨c3, hf⟩ | ⟨c3, hf⟩
  · refine r_if_ne_t 9 rfl 11 (ck DX6_item_0 4 rfl) (by decide) c3 ?_
    refine r_iconst 10 rfl ic_m1 (ck DX6_item_0 5 rfl) ?_
    obtain ⟨rfl, rfl⟩ := so2 hf
    exact r_iret rfl rfl (ck DX6_item_0 6 rfl)
  · refine r_if_ne_f 11 (ck DX6_item_0 4 rfl) (by decide) c3 ?_
    refine r_aload_n 12 rfl 0 rfl rfl (ck DX6_item_0 7 rfl) ?_
    refine r_getr (q := 83) 15 rfl (lq_6_14) sh_0 kd_6_14 fl_X6_73 (ck DX6_item_0 8 rfl) ?_
    refine r_iload_n 16 rfl 1 rfl rfl (ck DX6_item_0 9 rfl) ?_
    obtain ⟨b4, hf⟩ := gd_so hf
    have ow5 := tpa b4
    obtain ⟨w5, e6, hf⟩ := lt_so hf
    rw [← e6] at ow5
    refine r_aald 17 rfl sh_83 (Or.inr rfl) e6.symm (inb_vp b4) (ck DX6_item_0 10 rfl) ?_
    refine r_astore (lv' := [(5, .ref (X.1 w5)), (0, .ref (X.1 0)), (1, .int x1), (2, .int x2), (3, .long y3)]) 19 rfl (ck DX6_item_0 11 rfl) (by decide) rfl ?_
    refine r_aload 21 rfl 0 rfl (ck DX6_item_0 12 rfl) ?_
    refine r_geti 24 rfl ow5.1 kd_4_1 fl_X6_245 (ck DX6_item_0 13 rfl) ?_
    refine r_iconst 25 rfl ic_m1 (ck DX6_item_0 14 rfl) ?_
    rcases if_so hf with ⟨c7, hf⟩ | ⟨c7, hf⟩
    · refine r_icmp_ne_t 28 rfl 31 (ck DX6_item_0 15 rfl) (by decide) c7 ?_
      refine r_bipush 30 rfl bp_m11 (ck DX6_item_0 16 rfl) ?_
      obtain ⟨rfl, rfl⟩ := so2 hf
      exact r_iret rfl rfl (ck DX6_item_0 17 rfl)
    · refine r_icmp_ne_f 31 (ck DX6_item_0 15 rfl) (by decide) c7 ?_
      refine r_iload_n 32 rfl 3 rfl rfl (ck DX6_item_0 18 rfl) ?_
      refine r_iconst 33 rfl ic_0 (ck DX6_item_0 19 rfl) ?_
      refine r_aload 35 rfl 0 rfl (ck DX6_item_0 20 rfl) ?_
      refine r_geti 38 rfl ow5.1 kd_4_2 fl_X6_248 (ck DX6_item_0 21 rfl) ?_
      refine r_iconst 39 rfl ic_1 (ck DX6_item_0 22 rfl) ?_
      refine r_isub 40 rfl (ck DX6_item_0 23 rfl) ?_
      obtain ⟨v8, e9, hf⟩ := bo_so hf
      refine r_callSi 43 rfl (A_X6_within X x2 0 ((h.1 w5 2) - 1) h v8 e9) (by omega) cs_X6_78 rfl rfl (Nat.le_of_ble_eq_true rfl) (ck DX6_item_0 24 rfl) ?_
      rcases if_so hf with ⟨c10, hf⟩ | ⟨c10, hf⟩
      · refine r_if_ne_t 46 rfl 49 (ck DX6_item_0 25 rfl) (by decide) c10 ?_
        refine r_bipush 48 rfl bp_m13 (ck DX6_item_0 26 rfl) ?_
        obtain ⟨rfl, rfl⟩ := so2 hf
        exact r_iret rfl rfl (ck DX6_item_0 27 rfl)
      · refine r_if_ne_f 49 (ck DX6_item_0 25 rfl) (by decide) c10 ?_
        refine r_aload 51 rfl 0 rfl (ck DX6_item_0 28 rfl) ?_
        refine r_getr (q := w5 + 1) 54 rfl (lq_4_0 w5) ow5.1 kd_4_0 fl_X6_249 (ck DX6_item_0 29 rfl) ?_
        refine r_iload_n 55 rfl 3 rfl rfl (ck DX6_item_0 30 rfl) ?_
        refine r_aload 57 rfl 0 rfl (ck DX6_item_0 31 rfl) ?_
        refine r_lload_n 58 rfl 4 rfl rfl (ck DX6_item_0 32 rfl) ?_
        obtain ⟨v11, e12, hf⟩ := bo_so hf
        refine r_callVl 61 rfl (A_X4_cut X w5 ow5 y3 h v11 e12) (by omega) cw_X6_279 ow5.1 cl_4 rfl rfl (Nat.le_of_ble_eq_true rfl) (ck DX6_item_0 33 rfl) ?_
        obtain ⟨b13, hf⟩ := gd_so hf
        obtain ⟨g14, e15, hf⟩ := lt_so hf
        refine r_last 62 rfl ow5.2 (inb_vp b13) (ck DX6_item_0 34 rfl) ?_
        refine r_heap e15 ?_
        refine r_iconst 63 rfl ic_1 (ck DX6_item_0 35 rfl) ?_
        obtain ⟨rfl, rfl⟩ := so2 hf
        exact r_iret rfl rfl (ck DX6_item_0 36 rfl)
-- X6_read
def f_X6_read (x1 : Int32) (x2 : Int32) (h : HP) : Option Int64 := bo (f_X6_within x1 0 5) fun v1 => if v1 = 0 then (some (-9223372036854775808)) else (gd (inb x1 6) (lt (lra 6 (Int32.toNatClampNeg x1)) fun w5 => bo (f_X6_within x2 0 ((h.1 w5 2) - 1)) fun v7 => if v7 = 0 then (some (-9223372036854775808)) else (gd (inb x1 6) (lt (lra 6 (Int32.toNatClampNeg x1)) fun w11 => gd (inb x2 60) (some (h.2.1 (w11 + 1) (Int32.toNatClampNeg x2)))))))
set_option maxHeartbeats 4000000 in
set_option maxRecDepth 100000 in
theorem A_X6_read (X : XE) (x1 : Int32) (x2 : Int32) (h : HP) (r : Int64) (hf : f_X6_read x1 x2 h = some r) : CC mX6_read 2 X [.ref (X.1 0), .int x1, .int x2] h (some (.long r)) h := by
  refine CC_of rfl (Nat.le_of_ble_eq_true rfl) ?_
  show Run mX6_read 2 X 0 [(0, .ref (X.1 0)), (1, .int x1), (2, .int x2)] [] h (some (.long r)) h
  unfold f_X6_read at hf
  refine r_iload_n 1 rfl 1 rfl rfl (ck DX6_read_0 0 rfl) ?_
  refine r_iconst 2 rfl ic_0 (ck DX6_read_0 1 rfl) ?_
  refine r_iconst 3 rfl ic_5 (ck DX6_read_0 2 rfl) ?_
  obtain ⟨v1, e2, hf⟩ := bo_so hf
  refine r_callSi 6 rfl (A_X6_within X x1 0 5 h v1 e2) (by omega) cs_X6_78 rfl rfl (Nat.le_of_ble_eq_true rfl) (ck DX6_read_0 3 rfl) ?_
  rcases if_so hf with ⟨c3, hf⟩ | ⟨c3, hf⟩
  · refine r_if_eq_t 28 (ck DX6_read_0 4 rfl) (by decide) c3 ?_
    refine r_ldc2 31 rfl cn_X6_235 (ck DX6_read_0 16 rfl) ?_
    obtain rfl := so1 hf
    exact r_lret rfl (ck DX6_read_0 17 rfl)
  · refine r_if_eq_f 9 rfl 28 (ck DX6_read_0 4 rfl) (by decide) c3 ?_
    refine r_iload_n 10 rfl 2 rfl rfl (ck DX6_read_0 5 rfl) ?_
    refine r_iconst 11 rfl ic_0 (ck DX6_read_0 6 rfl) ?_
    refine r_aload_n 12 rfl 0 rfl rfl (ck DX6_read_0 7 rfl) ?_
    refine r_getr (q := 83) 15 rfl (lq_6_14) sh_0 kd_6_14 fl_X6_73 (ck DX6_read_0 8 rfl) ?_
    refine r_iload_n 16 rfl 1 rfl rfl (ck DX6_read_0 9 rfl) ?_
    obtain ⟨b4, hf⟩ := gd_so hf
    have ow5 := tpa b4
    obtain ⟨w5, e6, hf⟩ := lt_so hf
    rw [← e6] at ow5
    refine r_aald 17 rfl sh_83 (Or.inr rfl) e6.symm (inb_vp b4) (ck DX6_read_0 10 rfl) ?_
    refine r_geti 20 rfl ow5.1 kd_4_2 fl_X6_248 (ck DX6_read_0 11 rfl) ?_
    refine r_iconst 21 rfl ic_1 (ck DX6_read_0 12 rfl) ?_
    refine r_isub 22 rfl (ck DX6_read_0 13 rfl) ?_
    obtain ⟨v7, e8, hf⟩ := bo_so hf
    refine r_callSi 25 rfl (A_X6_within X x2 0 ((h.1 w5 2) - 1) h v7 e8) (by omega) cs_X6_78 rfl rfl (Nat.le_of_ble_eq_true rfl) (ck DX6_read_0 14 rfl) ?_
    rcases if_so hf with ⟨c9, hf⟩ | ⟨c9, hf⟩
    · refine r_if_ne_t 28 rfl 32 (ck DX6_read_0 15 rfl) (by decide) c9 ?_
      refine r_ldc2 31 rfl cn_X6_235 (ck DX6_read_0 16 rfl) ?_
      obtain rfl := so1 hf
      exact r_lret rfl (ck DX6_read_0 17 rfl)
    · refine r_if_ne_f 32 (ck DX6_read_0 15 rfl) (by decide) c9 ?_
      refine r_aload_n 33 rfl 0 rfl rfl (ck DX6_read_0 18 rfl) ?_
      refine r_getr (q := 83) 36 rfl (lq_6_14) sh_0 kd_6_14 fl_X6_73 (ck DX6_read_0 19 rfl) ?_
      refine r_iload_n 37 rfl 1 rfl rfl (ck DX6_read_0 20 rfl) ?_
      obtain ⟨b10, hf⟩ := gd_so hf
      have ow11 := tpa b10
      obtain ⟨w11, e12, hf⟩ := lt_so hf
      rw [← e12] at ow11
      refine r_aald 38 rfl sh_83 (Or.inr rfl) e12.symm (inb_vp b10) (ck DX6_read_0 21 rfl) ?_
      refine r_getr (q := w11 + 1) 41 rfl (lq_4_0 w11) ow11.1 kd_4_0 fl_X6_249 (ck DX6_read_0 22 rfl) ?_
      refine r_iload_n 42 rfl 2 rfl rfl (ck DX6_read_0 23 rfl) ?_
      obtain ⟨b13, hf⟩ := gd_so hf
      refine r_lald 43 rfl ow11.2 (inb_vp b13) (ck DX6_read_0 24 rfl) ?_
      obtain rfl := so1 hf
      exact r_lret rfl (ck DX6_read_0 25 rfl)
-- X6_shift
def f_X6_shift (x1 : Int32) (x2 : Int32) (x3 : Int32) (x4 : Int32) (x5 : Int32) (h : HP) : Option (Int32 × HP) := bo (f_X6_within x1 0 5) fun v1 => if v1 = 0 then (some ((-1), h)) else (bo (f_X6_within x3 0 5) fun v4 => if v4 = 0 then (some ((-1), h)) else (gd (inb x1 6) (lt (lra 6 (Int32.toNatClampNeg x1)) fun w8 => gd (inb x3 6) (lt (lra 6 (Int32.toNatClampNeg x3)) fun w11 => if (h.1 w8 1) = (-1) then (some ((-11), h)) else (if (h.1 w11 1) = (-1) then (some ((-11), h)) else (if (h.1 w8 1) = (h.1 w11 1) then (if x5 < 0 then (some ((-13), h)) else (if x2 < 0 then (some ((-13), h)) else (if x4 < 0 then (some ((-13), h)) else (if ((h.1 w8 2) - x2) < x5 then (some ((-13), h)) else (if x5 ≤ ((h.1 w11 2) - x4) then (gd (cpk x2 x5 60) (gd (cpk x4 x5 60) (lt (cl h (w8 + 1) (w11 + 1) x2 x4 x5) fun g23 => some (x5, g23)))) else (some ((-13), h))))))) else (some ((-12), h))))))))
set_option maxHeartbeats 4000000 in
set_option maxRecDepth 100000 in
theorem A_X6_shift (X : XE) (x1 : Int32) (x2 : Int32) (x3 : Int32) (x4 : Int32) (x5 : Int32) (h : HP) (r : Int32) (h' : HP) (hf : f_X6_shift x1 x2 x3 x4 x5 h = some (r, h')) : CC mX6_shift 2 X [.ref (X.1 0), .int x1, .int x2, .int x3, .int x4, .int x5] h (some (.int r)) h' := by
  refine CC_of rfl (Nat.le_of_ble_eq_true rfl) ?_
  show Run mX6_shift 2 X 0 [(0, .ref (X.1 0)), (1, .int x1), (2, .int x2), (3, .int x3), (4, .int x4), (5, .int x5)] [] h (some (.int r)) h'
  unfold f_X6_shift at hf
  refine r_iload_n 1 rfl 1 rfl rfl (ck DX6_shift_0 0 rfl) ?_
  refine r_iconst 2 rfl ic_0 (ck DX6_shift_0 1 rfl) ?_
  refine r_iconst 3 rfl ic_5 (ck DX6_shift_0 2 rfl) ?_
  obtain ⟨v1, e2, hf⟩ := bo_so hf
  refine r_callSi 6 rfl (A_X6_within X x1 0 5 h v1 e2) (by omega) cs_X6_78 rfl rfl (Nat.le_of_ble_eq_true rfl) (ck DX6_shift_0 3 rfl) ?_
  rcases if_so hf with ⟨c3, hf⟩ | ⟨c3, hf⟩
  · refine r_if_eq_t 18 (ck DX6_shift_0 4 rfl) (by decide) c3 ?_
    refine r_iconst 19 rfl ic_m1 (ck DX6_shift_0 10 rfl) ?_
    obtain ⟨rfl, rfl⟩ := so2 hf
    exact r_iret rfl rfl (ck DX6_shift_0 11 rfl)
  · refine r_if_eq_f 9 rfl 18 (ck DX6_shift_0 4 rfl) (by decide) c3 ?_
    refine r_iload_n 10 rfl 3 rfl rfl (ck DX6_shift_0 5 rfl) ?_
    refine r_iconst 11 rfl ic_0 (ck DX6_shift_0 6 rfl) ?_
    refine r_iconst 12 rfl ic_5 (ck DX6_shift_0 7 rfl) ?_
    obtain ⟨v4, e5, hf⟩ := bo_so hf
    refine r_callSi 15 rfl (A_X6_within X x3 0 5 h v4 e5) (by omega) cs_X6_78 rfl rfl (Nat.le_of_ble_eq_true rfl) (ck DX6_shift_0 8 rfl) ?_
    rcases if_so hf with ⟨c6, hf⟩ | ⟨c6, hf⟩
    · refine r_if_ne_t 18 rfl 20 (ck DX6_shift_0 9 rfl) (by decide) c6 ?_
      refine r_iconst 19 rfl ic_m1 (ck DX6_shift_0 10 rfl) ?_
      obtain ⟨rfl, rfl⟩ := so2 hf
      exact r_iret rfl rfl (ck DX6_shift_0 11 rfl)
    · refine r_if_ne_f 20 (ck DX6_shift_0 9 rfl) (by decide) c6 ?_
      refine r_aload_n 21 rfl 0 rfl rfl (ck DX6_shift_0 12 rfl) ?_
      refine r_getr (q := 83) 24 rfl (lq_6_14) sh_0 kd_6_14 fl_X6_73 (ck DX6_shift_0 13 rfl) ?_
      refine r_iload_n 25 rfl 1 rfl rfl (ck DX6_shift_0 14 rfl) ?_
      obtain ⟨b7, hf⟩ := gd_so hf
      have ow8 := tpa b7
      obtain ⟨w8, e9, hf⟩ := lt_so hf
      rw [← e9] at ow8
      refine r_aald 26 rfl sh_83 (Or.inr rfl) e9.symm (inb_vp b7) (ck DX6_shift_0 15 rfl) ?_
      refine r_astore (lv' := [(6, .ref (X.1 w8)), (0, .ref (X.1 0)), (1, .int x1), (2, .int x2), (3, .int x3), (4, .int x4), (5, .int x5)]) 28 rfl (ck DX6_shift_0 16 rfl) (by decide) rfl ?_
      refine r_aload_n 29 rfl 1 rfl rfl (ck DX6_shift_0 17 rfl) ?_
      refine r_getr (q := 83) 32 rfl (lq_6_14) sh_0 kd_6_14 fl_X6_73 (ck DX6_shift_0 18 rfl) ?_
      refine r_iload_n 33 rfl 4 rfl rfl (ck DX6_shift_0 19 rfl) ?_
      obtain ⟨b10, hf⟩ := gd_so hf
      have ow11 := tpa b10
      obtain ⟨w11, e12, hf⟩ := lt_so hf
      rw [← e12] at ow11
      refine r_aald 34 rfl sh_83 (Or.inr rfl) e12.symm (inb_vp b10) (ck DX6_shift_0 20 rfl) ?_
      refine r_astore (lv' := [(7, .ref (X.1 w11)), (6, .ref (X.1 w8)), (0, .ref (X.1 0)), (1, .int x1), (2, .int x2), (3, .int x3), (4, .int x4), (5, .int x5)]) 36 rfl (ck DX6_shift_0 21 rfl) (by decide) rfl ?_
      refine r_aload 38 rfl 1 rfl (ck DX6_shift_0 22 rfl) ?_
      refine r_geti 41 rfl ow8.1 kd_4_1 fl_X6_245 (ck DX6_shift_0 23 rfl) ?_
      refine r_iconst 42 rfl ic_m1 (ck DX6_shift_0 24 rfl) ?_
      rcases if_so hf with ⟨c13, hf⟩ | ⟨c13, hf⟩
      · refine r_icmp_eq_t 54 (ck DX6_shift_0 25 rfl) (by decide) c13 ?_
        refine r_bipush 56 rfl bp_m11 (ck DX6_shift_0 30 rfl) ?_
        obtain ⟨rfl, rfl⟩ := so2 hf
        exact r_iret rfl rfl (ck DX6_shift_0 31 rfl)
      · refine r_icmp_eq_f 45 rfl 54 (ck DX6_shift_0 25 rfl) (by decide) c13 ?_
        refine r_aload 47 rfl 0 rfl (ck DX6_shift_0 26 rfl) ?_
        refine r_geti 50 rfl ow11.1 kd_4_1 fl_X6_245 (ck DX6_shift_0 27 rfl) ?_
        refine r_iconst 51 rfl ic_m1 (ck DX6_shift_0 28 rfl) ?_
        rcases if_so hf with ⟨c14, hf⟩ | ⟨c14, hf⟩
        · refine r_icmp_ne_t 54 rfl 57 (ck DX6_shift_0 29 rfl) (by decide) c14 ?_
          refine r_bipush 56 rfl bp_m11 (ck DX6_shift_0 30 rfl) ?_
          obtain ⟨rfl, rfl⟩ := so2 hf
          exact r_iret rfl rfl (ck DX6_shift_0 31 rfl)
        · refine r_icmp_ne_f 57 (ck DX6_shift_0 29 rfl) (by decide) c14 ?_
          refine r_aload 59 rfl 1 rfl (ck DX6_shift_0 32 rfl) ?_
          refine r_geti 62 rfl ow8.1 kd_4_1 fl_X6_245 (ck DX6_shift_0 33 rfl) ?_
          refine r_aload 64 rfl 0 rfl (ck DX6_shift_0 34 rfl) ?_
          refine r_geti 67 rfl ow11.1 kd_4_1 fl_X6_245 (ck DX6_shift_0 35 rfl) ?_
          rcases if_so hf with ⟨c15, hf⟩ | ⟨c15, hf⟩
          · refine r_icmp_eq_t 73 (ck DX6_shift_0 36 rfl) (by decide) c15 ?_
            refine r_iload 75 rfl 7 rfl (ck DX6_shift_0 39 rfl) ?_
            rcases if_so hf with ⟨c16, hf⟩ | ⟨c16, hf⟩
            · refine r_if_lt_t 112 (ck DX6_shift_0 40 rfl) (by decide) c16 ?_
              refine r_bipush 114 rfl bp_m13 (ck DX6_shift_1 7 rfl) ?_
              obtain ⟨rfl, rfl⟩ := so2 hf
              exact r_iret rfl rfl (ck DX6_shift_1 8 rfl)
            · refine r_if_lt_f 78 rfl 112 (ck DX6_shift_0 40 rfl) (by decide) c16 ?_
              refine r_iload_n 79 rfl 4 rfl rfl (ck DX6_shift_0 41 rfl) ?_
              rcases if_so hf with ⟨c17, hf⟩ | ⟨c17, hf⟩
              · refine r_if_lt_t 112 (ck DX6_shift_0 42 rfl) (by decide) c17 ?_
                refine r_bipush 114 rfl bp_m13 (ck DX6_shift_1 7 rfl) ?_
                obtain ⟨rfl, rfl⟩ := so2 hf
                exact r_iret rfl rfl (ck DX6_shift_1 8 rfl)
              · refine r_if_lt_f 82 rfl 112 (ck DX6_shift_0 42 rfl) (by decide) c17 ?_
                refine r_iload 84 rfl 6 rfl (ck DX6_shift_0 43 rfl) ?_
                rcases if_so hf with ⟨c18, hf⟩ | ⟨c18, hf⟩
                · refine r_if_lt_t 112 (ck DX6_shift_0 44 rfl) (by decide) c18 ?_
                  refine r_bipush 114 rfl bp_m13 (ck DX6_shift_1 7 rfl) ?_
                  obtain ⟨rfl, rfl⟩ := so2 hf
                  exact r_iret rfl rfl (ck DX6_shift_1 8 rfl)
                · refine r_if_lt_f 87 rfl 112 (ck DX6_shift_0 44 rfl) (by decide) c18 ?_
                  refine r_iload 89 rfl 7 rfl (ck DX6_shift_0 45 rfl) ?_
                  refine r_aload 91 rfl 1 rfl (ck DX6_shift_0 46 rfl) ?_
                  refine r_geti 94 rfl ow8.1 kd_4_2 fl_X6_248 (ck DX6_shift_0 47 rfl) ?_
                  refine r_iload_n 95 rfl 4 rfl rfl (ck DX6_shift_0 48 rfl) ?_
                  refine r_isub 96 rfl (ck DX6_shift_0 49 rfl) ?_
                  rcases if_so hf with ⟨c19, hf⟩ | ⟨c19, hf⟩
                  · refine r_icmp_gt_t 112 (ck DX6_shift_1 0 rfl) (by decide) c19 ?_
                    refine r_bipush 114 rfl bp_m13 (ck DX6_shift_1 7 rfl) ?_
                    obtain ⟨rfl, rfl⟩ := so2 hf
                    exact r_iret rfl rfl (ck DX6_shift_1 8 rfl)
                  · refine r_icmp_gt_f 99 rfl 112 (ck DX6_shift_1 0 rfl) (by decide) c19 ?_
                    refine r_iload 101 rfl 7 rfl (ck DX6_shift_1 1 rfl) ?_
                    refine r_aload 103 rfl 0 rfl (ck DX6_shift_1 2 rfl) ?_
                    refine r_geti 106 rfl ow11.1 kd_4_2 fl_X6_248 (ck DX6_shift_1 3 rfl) ?_
                    refine r_iload 108 rfl 6 rfl (ck DX6_shift_1 4 rfl) ?_
                    refine r_isub 109 rfl (ck DX6_shift_1 5 rfl) ?_
                    rcases if_so hf with ⟨c20, hf⟩ | ⟨c20, hf⟩
                    · refine r_icmp_le_t 115 (ck DX6_shift_1 6 rfl) (by decide) c20 ?_
                      refine r_aload 117 rfl 1 rfl (ck DX6_shift_1 9 rfl) ?_
                      refine r_getr (q := w8 + 1) 120 rfl (lq_4_0 w8) ow8.1 kd_4_0 fl_X6_249 (ck DX6_shift_1 10 rfl) ?_
                      refine r_iload_n 121 rfl 4 rfl rfl (ck DX6_shift_1 11 rfl) ?_
                      refine r_aload 123 rfl 0 rfl (ck DX6_shift_1 12 rfl) ?_
                      refine r_getr (q := w11 + 1) 126 rfl (lq_4_0 w11) ow11.1 kd_4_0 fl_X6_249 (ck DX6_shift_1 13 rfl) ?_
                      refine r_iload 128 rfl 6 rfl (ck DX6_shift_1 14 rfl) ?_
                      refine r_iload 130 rfl 7 rfl (ck DX6_shift_1 15 rfl) ?_
                      obtain ⟨b21, hf⟩ := gd_so hf
                      obtain ⟨b22, hf⟩ := gd_so hf
                      obtain ⟨g23, e24, hf⟩ := lt_so hf
                      refine r_copyl 133 rfl (by decide) ow8.2 ow11.2 b21 b22 ml_X6_283 ac_nat ac_st ini_Sys (Nat.le_of_ble_eq_true rfl) (ck DX6_shift_1 16 rfl) ?_
                      refine r_heap e24 ?_
                      refine r_iload 135 rfl 7 rfl (ck DX6_shift_1 17 rfl) ?_
                      obtain ⟨rfl, rfl⟩ := so2 hf
                      exact r_iret rfl rfl (ck DX6_shift_1 18 rfl)
                    · refine r_icmp_le_f 112 rfl 115 (ck DX6_shift_1 6 rfl) (by decide) c20 ?_
                      refine r_bipush 114 rfl bp_m13 (ck DX6_shift_1 7 rfl) ?_
                      obtain ⟨rfl, rfl⟩ := so2 hf
                      exact r_iret rfl rfl (ck DX6_shift_1 8 rfl)
          · refine r_icmp_eq_f 70 rfl 73 (ck DX6_shift_0 36 rfl) (by decide) c15 ?_
            refine r_bipush 72 rfl bp_m12 (ck DX6_shift_0 37 rfl) ?_
            obtain ⟨rfl, rfl⟩ := so2 hf
            exact r_iret rfl rfl (ck DX6_shift_0 38 rfl)
end
