noncomputable section
-- X7_in
def f_X7_in (x1 : Int32) (x2 : Int32) (x3 : Int32) : Option Int32 := if x1 < x2 then (some 0) else (if x3 < x1 then (some 0) else (some 1))
set_option maxHeartbeats 4000000 in
set_option maxRecDepth 100000 in
theorem A_X7_in (X : XE) (x1 : Int32) (x2 : Int32) (x3 : Int32) (h : HP) (r : Int32) (hf : f_X7_in x1 x2 x3 = some r) : CC mX7_in 1 X [.ref (X.1 96), .int x1, .int x2, .int x3] h (some (.int r)) h := by
  refine CC_of rfl (Nat.le_of_ble_eq_true rfl) ?_
  show Run mX7_in 1 X 0 [(0, .ref (X.1 96)), (1, .int x1), (2, .int x2), (3, .int x3)] [] h (some (.int r)) h
  unfold f_X7_in at hf
  refine r_iload_n 1 rfl 1 rfl rfl (ck DX7_in_0 0 rfl) ?_
  refine r_iload_n 2 rfl 2 rfl rfl (ck DX7_in_0 1 rfl) ?_
  rcases if_so hf with ⟨c1, hf⟩ | ⟨c1, hf⟩
  · refine r_icmp_lt_t 14 (ck DX7_in_0 2 rfl) (by decide) c1 ?_
    refine r_iconst 15 rfl ic_0 (ck DX7_in_0 8 rfl) ?_
    obtain rfl := so1 hf
    exact r_iret rfl rfl (ck DX7_in_0 9 rfl)
  · refine r_icmp_lt_f 5 rfl 14 (ck DX7_in_0 2 rfl) (by decide) c1 ?_
    refine r_iload_n 6 rfl 1 rfl rfl (ck DX7_in_0 3 rfl) ?_
    refine r_iload_n 7 rfl 3 rfl rfl (ck DX7_in_0 4 rfl) ?_
    rcases if_so hf with ⟨c2, hf⟩ | ⟨c2, hf⟩
    · refine r_icmp_gt_t 14 (ck DX7_in_0 5 rfl) (by decide) c2 ?_
      refine r_iconst 15 rfl ic_0 (ck DX7_in_0 8 rfl) ?_
      obtain rfl := so1 hf
      exact r_iret rfl rfl (ck DX7_in_0 9 rfl)
    · refine r_icmp_gt_f 10 rfl 14 (ck DX7_in_0 5 rfl) (by decide) c2 ?_
      refine r_iconst 11 rfl ic_1 (ck DX7_in_0 6 rfl) ?_
      refine r_goto 15 (ck DX7_in_0 7 rfl) (by decide) ?_
      obtain rfl := so1 hf
      exact r_iret rfl rfl (ck DX7_in_0 9 rfl)
-- X7_least0
def f_X7_least0 (x1 : Int32) : Option Int32 := if (0 : Int32) ≤ x1 then (some x1) else (some 0)
set_option maxHeartbeats 4000000 in
set_option maxRecDepth 100000 in
theorem A_X7_least0 (X : XE) (x1 : Int32) (h : HP) (r : Int32) (hf : f_X7_least0 x1 = some r) : CC mX7_least0 1 X [.ref (X.1 96), .int x1] h (some (.int r)) h := by
  refine CC_of rfl (Nat.le_of_ble_eq_true rfl) ?_
  show Run mX7_least0 1 X 0 [(0, .ref (X.1 96)), (1, .int x1)] [] h (some (.int r)) h
  unfold f_X7_least0 at hf
  refine r_iload_n 1 rfl 1 rfl rfl (ck DX7_least0_0 0 rfl) ?_
  rcases if_so hf with ⟨c1, hf⟩ | ⟨c1, hf⟩
  · refine r_if_ge_t 8 (ck DX7_least0_0 1 rfl) (by decide) c1 ?_
    refine r_iload_n 9 rfl 1 rfl rfl (ck DX7_least0_0 4 rfl) ?_
    obtain rfl := so1 hf
    exact r_iret rfl rfl (ck DX7_least0_0 5 rfl)
  · refine r_if_ge_f 4 rfl 8 (ck DX7_least0_0 1 rfl) (by decide) c1 ?_
    refine r_iconst 5 rfl ic_0 (ck DX7_least0_0 2 rfl) ?_
    refine r_goto 9 (ck DX7_least0_0 3 rfl) (by decide) ?_
    obtain rfl := so1 hf
    exact r_iret rfl rfl (ck DX7_least0_0 5 rfl)
-- X7_least
def f_X7_least (x1 : Int32) (x2 : Int32) : Option Int32 := if x2 ≤ x1 then (some x2) else (some x1)
set_option maxHeartbeats 4000000 in
set_option maxRecDepth 100000 in
theorem A_X7_least (X : XE) (x1 : Int32) (x2 : Int32) (h : HP) (r : Int32) (hf : f_X7_least x1 x2 = some r) : CC mX7_least 1 X [.ref (X.1 96), .int x1, .int x2] h (some (.int r)) h := by
  refine CC_of rfl (Nat.le_of_ble_eq_true rfl) ?_
  show Run mX7_least 1 X 0 [(0, .ref (X.1 96)), (1, .int x1), (2, .int x2)] [] h (some (.int r)) h
  unfold f_X7_least at hf
  refine r_iload_n 1 rfl 1 rfl rfl (ck DX7_least_0 0 rfl) ?_
  refine r_iload_n 2 rfl 2 rfl rfl (ck DX7_least_0 1 rfl) ?_
  rcases if_so hf with ⟨c1, hf⟩ | ⟨c1, hf⟩
  · refine r_icmp_ge_t 9 (ck DX7_least_0 2 rfl) (by decide) c1 ?_
    refine r_iload_n 10 rfl 2 rfl rfl (ck DX7_least_0 5 rfl) ?_
    obtain rfl := so1 hf
    exact r_iret rfl rfl (ck DX7_least_0 6 rfl)
  · refine r_icmp_ge_f 5 rfl 9 (ck DX7_least_0 2 rfl) (by decide) c1 ?_
    refine r_iload_n 6 rfl 1 rfl rfl (ck DX7_least_0 3 rfl) ?_
    refine r_goto 10 (ck DX7_least_0 4 rfl) (by decide) ?_
    obtain rfl := so1 hf
    exact r_iret rfl rfl (ck DX7_least_0 6 rfl)
-- X7_isPiece
def f_X7_isPiece (x1 : Int32) (h : HP) : Option Int32 := bo (f_X7_in x1 0 ((h.1 96 0) - 1)) fun v1 => gd (zok v1) (some v1)
set_option maxHeartbeats 4000000 in
set_option maxRecDepth 100000 in
theorem A_X7_isPiece (X : XE) (x1 : Int32) (h : HP) (r : Int32) (hf : f_X7_isPiece x1 h = some r) : CC mX7_isPiece 2 X [.ref (X.1 96), .int x1] h (some (.int r)) h := by
  refine CC_of rfl (Nat.le_of_ble_eq_true rfl) ?_
  show Run mX7_isPiece 2 X 0 [(0, .ref (X.1 96)), (1, .int x1)] [] h (some (.int r)) h
  unfold f_X7_isPiece at hf
  refine r_aload_n 1 rfl 0 rfl rfl (ck DX7_isPiece_0 0 rfl) ?_
  refine r_iload_n 2 rfl 1 rfl rfl (ck DX7_isPiece_0 1 rfl) ?_
  refine r_iconst 3 rfl ic_0 (ck DX7_isPiece_0 2 rfl) ?_
  refine r_aload_n 4 rfl 0 rfl rfl (ck DX7_isPiece_0 3 rfl) ?_
  refine r_geti 7 rfl sh_96 kd_7_0 fl_X7_7 (ck DX7_isPiece_0 4 rfl) ?_
  refine r_iconst 8 rfl ic_1 (ck DX7_isPiece_0 5 rfl) ?_
  refine r_isub 9 rfl (ck DX7_isPiece_0 6 rfl) ?_
  obtain ⟨v1, e2, hf⟩ := bo_so hf
  refine r_callVi 12 rfl (A_X7_in X x1 0 ((h.1 96 0) - 1) h v1 e2) (by omega) cw_X7_276 sh_96 cl_7 rfl rfl (Nat.le_of_ble_eq_true rfl) (ck DX7_isPiece_0 7 rfl) ?_
  obtain ⟨b3, hf⟩ := gd_so hf
  obtain rfl := so1 hf
  exact r_iret rfl (zok_nar b3) (ck DX7_isPiece_0 8 rfl)
-- X7_isFeet
def f_X7_isFeet (x1 : Int32) : Option Int32 := bo (f_X7_in x1 0 99) fun v1 => gd (zok v1) (some v1)
set_option maxHeartbeats 4000000 in
set_option maxRecDepth 100000 in
theorem A_X7_isFeet (X : XE) (x1 : Int32) (h : HP) (r : Int32) (hf : f_X7_isFeet x1 = some r) : CC mX7_isFeet 2 X [.ref (X.1 96), .int x1] h (some (.int r)) h := by
  refine CC_of rfl (Nat.le_of_ble_eq_true rfl) ?_
  show Run mX7_isFeet 2 X 0 [(0, .ref (X.1 96)), (1, .int x1)] [] h (some (.int r)) h
  unfold f_X7_isFeet at hf
  refine r_aload_n 1 rfl 0 rfl rfl (ck DX7_isFeet_0 0 rfl) ?_
  refine r_iload_n 2 rfl 1 rfl rfl (ck DX7_isFeet_0 1 rfl) ?_
  refine r_iconst 3 rfl ic_0 (ck DX7_isFeet_0 2 rfl) ?_
  refine r_bipush 5 rfl bp_99 (ck DX7_isFeet_0 3 rfl) ?_
  obtain ⟨v1, e2, hf⟩ := bo_so hf
  refine r_callVi 8 rfl (A_X7_in X x1 0 99 h v1 e2) (by omega) cw_X7_276 sh_96 cl_7 rfl rfl (Nat.le_of_ble_eq_true rfl) (ck DX7_isFeet_0 4 rfl) ?_
  obtain ⟨b3, hf⟩ := gd_so hf
  obtain rfl := so1 hf
  exact r_iret rfl (zok_nar b3) (ck DX7_isFeet_0 5 rfl)
-- X7_isDays
def f_X7_isDays (x1 : Int32) : Option Int32 := bo (f_X7_in x1 0 60) fun v1 => gd (zok v1) (some v1)
set_option maxHeartbeats 4000000 in
set_option maxRecDepth 100000 in
theorem A_X7_isDays (X : XE) (x1 : Int32) (h : HP) (r : Int32) (hf : f_X7_isDays x1 = some r) : CC mX7_isDays 2 X [.ref (X.1 96), .int x1] h (some (.int r)) h := by
  refine CC_of rfl (Nat.le_of_ble_eq_true rfl) ?_
  show Run mX7_isDays 2 X 0 [(0, .ref (X.1 96)), (1, .int x1)] [] h (some (.int r)) h
  unfold f_X7_isDays at hf
  refine r_aload_n 1 rfl 0 rfl rfl (ck DX7_isDays_0 0 rfl) ?_
  refine r_iload_n 2 rfl 1 rfl rfl (ck DX7_isDays_0 1 rfl) ?_
  refine r_iconst 3 rfl ic_0 (ck DX7_isDays_0 2 rfl) ?_
  refine r_bipush 5 rfl bp_60 (ck DX7_isDays_0 3 rfl) ?_
  obtain ⟨v1, e2, hf⟩ := bo_so hf
  refine r_callVi 8 rfl (A_X7_in X x1 0 60 h v1 e2) (by omega) cw_X7_276 sh_96 cl_7 rfl rfl (Nat.le_of_ble_eq_true rfl) (ck DX7_isDays_0 4 rfl) ?_
  obtain ⟨b3, hf⟩ := gd_so hf
  obtain rfl := so1 hf
  exact r_iret rfl (zok_nar b3) (ck DX7_isDays_0 5 rfl)
-- X7_isTrim
def f_X7_isTrim (x1 : Int32) : Option Int32 := bo (f_X7_in x1 0 9) fun v1 => gd (zok v1) (some v1)
set_option maxHeartbeats 4000000 in
set_option maxRecDepth 100000 in
theorem A_X7_isTrim (X : XE) (x1 : Int32) (h : HP) (r : Int32) (hf : f_X7_isTrim x1 = some r) : CC mX7_isTrim 2 X [.ref (X.1 96), .int x1] h (some (.int r)) h := by
  refine CC_of rfl (Nat.le_of_ble_eq_true rfl) ?_
  show Run mX7_isTrim 2 X 0 [(0, .ref (X.1 96)), (1, .int x1)] [] h (some (.int r)) h
  unfold f_X7_isTrim at hf
  refine r_aload_n 1 rfl 0 rfl rfl (ck DX7_isTrim_0 0 rfl) ?_
  refine r_iload_n 2 rfl 1 rfl rfl (ck DX7_isTrim_0 1 rfl) ?_
  refine r_iconst 3 rfl ic_0 (ck DX7_isTrim_0 2 rfl) ?_
  refine r_bipush 5 rfl bp_9 (ck DX7_isTrim_0 3 rfl) ?_
  obtain ⟨v1, e2, hf⟩ := bo_so hf
  refine r_callVi 8 rfl (A_X7_in X x1 0 9 h v1 e2) (by omega) cw_X7_276 sh_96 cl_7 rfl rfl (Nat.le_of_ble_eq_true rfl) (ck DX7_isTrim_0 4 rfl) ?_
  obtain ⟨b3, hf⟩ := gd_so hf
  obtain rfl := so1 hf
  exact r_iret rfl (zok_nar b3) (ck DX7_isTrim_0 5 rfl)
-- X7_piece
def f_X7_piece_L103 : Nat → Int32 → HP → Option (Int32 × HP)
  | 0, _, _ => none
  | n + 1, x4, h => if (4 : Int32) ≤ x4 then (lt (si h 96 0 ((h.1 96 0) + 1)) fun g27 => some (((g27.1 96 0) - 1), g27)) else (gd (inb ((4 * (h.1 96 0)) + x4) 24) (lt (si h 102 (Int32.toNatClampNeg ((4 * (h.1 96 0)) + x4)) 0) fun g30 => lt (x4 + 1 : Int32) fun v32 => f_X7_piece_L103 n v32 g30))
set_option maxHeartbeats 4000000 in
set_option maxRecDepth 100000 in
theorem A_X7_piece_L103 (X : XE) (r : Int32) (h' : HP) : ∀ (n : Nat) (x4 : Int32) (h : HP), f_X7_piece_L103 n x4 h = some (r, h') → Run mX7_piece 2 X 103 [(0, .ref (X.1 96)), (4, .int x4)] [] h (some (.int r)) h' := by
  intro n
  induction n with
  | zero => intro x4 h hf; cases hf
  | succ n ih =>
    intro x4 h hf
    rw [f_X7_piece_L103] at hf
    refine r_iload 105 rfl 1 rfl (ck DX7_piece_1 10 rfl) ?_
    refine r_iconst 106 rfl ic_4 (ck DX7_piece_1 11 rfl) ?_
    rcases if_so hf with ⟨c26, hf⟩ | ⟨c26, hf⟩
    · refine r_icmp_ge_t 130 (ck DX7_piece_1 12 rfl) (by decide) c26 ?_
      refine r_aload_n 131 rfl 0 rfl rfl (ck DX7_piece_1 25 rfl) ?_
      refine r_dup 132 rfl rfl (ck DX7_piece_1 26 rfl) ?_
      refine r_geti 135 rfl sh_96 kd_7_0 fl_X7_7 (ck DX7_piece_1 27 rfl) ?_
      refine r_iconst 136 rfl ic_1 (ck DX7_piece_1 28 rfl) ?_
      refine r_iadd 137 rfl (ck DX7_piece_1 29 rfl) ?_
      obtain ⟨g27, e28, hf⟩ := lt_so hf
      refine r_puti 140 rfl sh_96 kd_7_0 fw_X7_7 rfl rfl (ck DX7_piece_1 30 rfl) ?_
      refine r_heap e28 ?_
      refine r_aload_n 141 rfl 0 rfl rfl (ck DX7_piece_1 31 rfl) ?_
      refine r_geti 144 rfl sh_96 kd_7_0 fl_X7_7 (ck DX7_piece_1 32 rfl) ?_
      refine r_iconst 145 rfl ic_1 (ck DX7_piece_1 33 rfl) ?_
      refine r_isub 146 rfl (ck DX7_piece_1 34 rfl) ?_
      obtain ⟨rfl, rfl⟩ := so2 hf
      exact r_iret rfl rfl (ck DX7_piece_1 35 rfl)
    · refine r_icmp_ge_f 109 rfl 130 (ck DX7_piece_1 12 rfl) (by decide) c26 ?_
      refine r_aload_n 110 rfl 0 rfl rfl (ck DX7_piece_1 13 rfl) ?_
      refine r_getr (q := 102) 113 rfl (lq_7_11) sh_96 kd_7_11 fl_X7_44 (ck DX7_piece_1 14 rfl) ?_
      refine r_iconst 114 rfl ic_4 (ck DX7_piece_1 15 rfl) ?_
      refine r_aload_n 115 rfl 0 rfl rfl (ck DX7_piece_1 16 rfl) ?_
      refine r_geti 118 rfl sh_96 kd_7_0 fl_X7_7 (ck DX7_piece_1 17 rfl) ?_
      refine r_imul 119 rfl (ck DX7_piece_1 18 rfl) ?_
      refine r_iload 121 rfl 1 rfl (ck DX7_piece_1 19 rfl) ?_
      refine r_iadd 122 rfl (ck DX7_piece_1 20 rfl) ?_
      refine r_iconst 123 rfl ic_0 (ck DX7_piece_1 21 rfl) ?_
      obtain ⟨b29, hf⟩ := gd_so hf
      obtain ⟨g30, e31, hf⟩ := lt_so hf
      refine r_iast 124 rfl sh_102 (inb_vp b29) (ck DX7_piece_1 22 rfl) ?_
      refine r_heap e31 ?_
      obtain ⟨v32, e33, hf⟩ := lt_so hf
      refine r_iinc (lv' := [(4, .int v32), (0, .ref (X.1 96))]) 127 rfl 1 (ck DX7_piece_1 23 rfl) rfl (by rw [e33, ic_1]) (by decide) rfl ?_
      refine r_goto 103 (ck DX7_piece_1 24 rfl) (by decide) ?_
      refine r_sub (lv' := [(0, .ref (X.1 96)), (4, .int v32)]) [1, 0] rfl ?_
      exact ih v32 g30 hf
def f_X7_piece (x1 : Int32) (x2 : Int32) (x3 : Int32) (h : HP) : Option (Int32 × HP) := bo (f_X7_in x1 0 6) fun v1 => if v1 = 0 then (some ((-1), h)) else (bo (f_X7_in x2 0 9) fun v4 => if v4 = 0 then (some ((-2), h)) else (bo (f_X7_in x3 1 99) fun v7 => if v7 = 0 then (some ((-2), h)) else (if (h.1 96 0) = 6 then (some ((-4), h)) else (gd (inb (h.1 96 0) 6) (lt (si h 97 (Int32.toNatClampNeg (h.1 96 0)) x1) fun g12 => gd (inb (g12.1 96 0) 6) (lt (si g12 98 (Int32.toNatClampNeg (g12.1 96 0)) x2) fun g15 => gd (inb (g15.1 96 0) 6) (lt (si g15 99 (Int32.toNatClampNeg (g15.1 96 0)) x3) fun g18 => gd (inb (g18.1 96 0) 6) (lt (si g18 100 (Int32.toNatClampNeg (g18.1 96 0)) 0) fun g21 => gd (inb (g21.1 96 0) 6) (lt (si g21 101 (Int32.toNatClampNeg (g21.1 96 0)) 0) fun g24 => f_X7_piece_L103 FZ 0 g24)))))))))
set_option maxHeartbeats 4000000 in
set_option maxRecDepth 100000 in
theorem A_X7_piece (X : XE) (x1 : Int32) (x2 : Int32) (x3 : Int32) (h : HP) (r : Int32) (h' : HP) (hf : f_X7_piece x1 x2 x3 h = some (r, h')) : CC mX7_piece 2 X [.ref (X.1 96), .int x1, .int x2, .int x3] h (some (.int r)) h' := by
  refine CC_of rfl (Nat.le_of_ble_eq_true rfl) ?_
  show Run mX7_piece 2 X 0 [(0, .ref (X.1 96)), (1, .int x1), (2, .int x2), (3, .int x3)] [] h (some (.int r)) h'
  unfold f_X7_piece at hf
  refine r_aload_n 1 rfl 0 rfl rfl (ck DX7_piece_0 0 rfl) ?_
  refine r_iload_n 2 rfl 1 rfl rfl (ck DX7_piece_0 1 rfl) ?_
  refine r_iconst 3 rfl ic_0 (ck DX7_piece_0 2 rfl) ?_
  refine r_bipush 5 rfl bp_6 (ck DX7_piece_0 3 rfl) ?_
  obtain ⟨v1, e2, hf⟩ := bo_so hf
  refine r_callVi 8 rfl (A_X7_in X x1 0 6 h v1 e2) (by omega) cw_X7_276 sh_96 cl_7 rfl rfl (Nat.le_of_ble_eq_true rfl) (ck DX7_piece_0 4 rfl) ?_
  rcases if_so hf with ⟨c3, hf⟩ | ⟨c3, hf⟩
  · refine r_if_ne_t 11 rfl 13 (ck DX7_piece_0 5 rfl) (by decide) c3 ?_
    refine r_iconst 12 rfl ic_m1 (ck DX7_piece_0 6 rfl) ?_
    obtain ⟨rfl, rfl⟩ := so2 hf
    exact r_iret rfl rfl (ck DX7_piece_0 7 rfl)
  · refine r_if_ne_f 13 (ck DX7_piece_0 5 rfl) (by decide) c3 ?_
    refine r_aload_n 14 rfl 0 rfl rfl (ck DX7_piece_0 8 rfl) ?_
    refine r_iload_n 15 rfl 2 rfl rfl (ck DX7_piece_0 9 rfl) ?_
    refine r_iconst 16 rfl ic_0 (ck DX7_piece_0 10 rfl) ?_
    refine r_bipush 18 rfl bp_9 (ck DX7_piece_0 11 rfl) ?_
    obtain ⟨v4, e5, hf⟩ := bo_so hf
    refine r_callVi 21 rfl (A_X7_in X x2 0 9 h v4 e5) (by omega) cw_X7_276 sh_96 cl_7 rfl rfl (Nat.le_of_ble_eq_true rfl) (ck DX7_piece_0 12 rfl) ?_
    rcases if_so hf with ⟨c6, hf⟩ | ⟨c6, hf⟩
    · refine r_if_eq_t 35 (ck DX7_piece_0 13 rfl) (by decide) c6 ?_
      refine r_bipush 37 rfl bp_m2 (ck DX7_piece_0 20 rfl) ?_
      obtain ⟨rfl, rfl⟩ := so2 hf
      exact r_iret rfl rfl (ck DX7_piece_0 21 rfl)
    · refine r_if_eq_f 24 rfl 35 (ck DX7_piece_0 13 rfl) (by decide) c6 ?_
      refine r_aload_n 25 rfl 0 rfl rfl (ck DX7_piece_0 14 rfl) ?_
      refine r_iload_n 26 rfl 3 rfl rfl (ck DX7_piece_0 15 rfl) ?_
      refine r_iconst 27 rfl ic_1 (ck DX7_piece_0 16 rfl) ?_
      refine r_bipush 29 rfl bp_99 (ck DX7_piece_0 17 rfl) ?_
      obtain ⟨v7, e8, hf⟩ := bo_so hf
      refine r_callVi 32 rfl (A_X7_in X x3 1 99 h v7 e8) (by omega) cw_X7_276 sh_96 cl_7 rfl rfl (Nat.le_of_ble_eq_true rfl) (ck DX7_piece_0 18 rfl) ?_
      rcases if_so hf with ⟨c9, hf⟩ | ⟨c9, hf⟩
      · refine r_if_ne_t 35 rfl 38 (ck DX7_piece_0 19 rfl) (by decide) c9 ?_
        refine r_bipush 37 rfl bp_m2 (ck DX7_piece_0 20 rfl) ?_
        obtain ⟨rfl, rfl⟩ := so2 hf
        exact r_iret rfl rfl (ck DX7_piece_0 21 rfl)
      · refine r_if_ne_f 38 (ck DX7_piece_0 19 rfl) (by decide) c9 ?_
        refine r_aload_n 39 rfl 0 rfl rfl (ck DX7_piece_0 22 rfl) ?_
        refine r_geti 42 rfl sh_96 kd_7_0 fl_X7_7 (ck DX7_piece_0 23 rfl) ?_
        refine r_bipush 44 rfl bp_6 (ck DX7_piece_0 24 rfl) ?_
        rcases if_so hf with ⟨c10, hf⟩ | ⟨c10, hf⟩
        · refine r_icmp_ne_t 47 rfl 50 (ck DX7_piece_0 25 rfl) (by decide) c10 ?_
          refine r_bipush 49 rfl bp_m4 (ck DX7_piece_0 26 rfl) ?_
          obtain ⟨rfl, rfl⟩ := so2 hf
          exact r_iret rfl rfl (ck DX7_piece_0 27 rfl)
        · refine r_icmp_ne_f 50 (ck DX7_piece_0 25 rfl) (by decide) c10 ?_
          refine r_aload_n 51 rfl 0 rfl rfl (ck DX7_piece_0 28 rfl) ?_
          refine r_getr (q := 97) 54 rfl (lq_7_6) sh_96 kd_7_6 fl_X7_28 (ck DX7_piece_0 29 rfl) ?_
          refine r_aload_n 55 rfl 0 rfl rfl (ck DX7_piece_0 30 rfl) ?_
          refine r_geti 58 rfl sh_96 kd_7_0 fl_X7_7 (ck DX7_piece_0 31 rfl) ?_
          refine r_iload_n 59 rfl 1 rfl rfl (ck DX7_piece_0 32 rfl) ?_
          obtain ⟨b11, hf⟩ := gd_so hf
          obtain ⟨g12, e13, hf⟩ := lt_so hf
          refine r_iast 60 rfl sh_97 (inb_vp b11) (ck DX7_piece_0 33 rfl) ?_
          refine r_heap e13 ?_
          refine r_aload_n 61 rfl 0 rfl rfl (ck DX7_piece_0 34 rfl) ?_
          refine r_getr (q := 98) 64 rfl (lq_7_7) sh_96 kd_7_7 fl_X7_32 (ck DX7_piece_0 35 rfl) ?_
          refine r_aload_n 65 rfl 0 rfl rfl (ck DX7_piece_0 36 rfl) ?_
          refine r_geti 68 rfl sh_96 kd_7_0 fl_X7_7 (ck DX7_piece_0 37 rfl) ?_
          refine r_iload_n 69 rfl 2 rfl rfl (ck DX7_piece_0 38 rfl) ?_
          obtain ⟨b14, hf⟩ := gd_so hf
          obtain ⟨g15, e16, hf⟩ := lt_so hf
          refine r_iast 70 rfl sh_98 (inb_vp b14) (ck DX7_piece_0 39 rfl) ?_
          refine r_heap e16 ?_
          refine r_aload_n 71 rfl 0 rfl rfl (ck DX7_piece_0 40 rfl) ?_
          refine r_getr (q := 99) 74 rfl (lq_7_8) sh_96 kd_7_8 fl_X7_35 (ck DX7_piece_0 41 rfl) ?_
          refine r_aload_n 75 rfl 0 rfl rfl (ck DX7_piece_0 42 rfl) ?_
          refine r_geti 78 rfl sh_96 kd_7_0 fl_X7_7 (ck DX7_piece_0 43 rfl) ?_
          refine r_iload_n 79 rfl 3 rfl rfl (ck DX7_piece_0 44 rfl) ?_
          obtain ⟨b17, hf⟩ := gd_so hf
          obtain ⟨g18, e19, hf⟩ := lt_so hf
          refine r_iast 80 rfl sh_99 (inb_vp b17) (ck DX7_piece_0 45 rfl) ?_
          refine r_heap e19 ?_
          refine r_aload_n 81 rfl 0 rfl rfl (ck DX7_piece_0 46 rfl) ?_
          refine r_getr (q := 100) 84 rfl (lq_7_9) sh_96 kd_7_9 fl_X7_38 (ck DX7_piece_0 47 rfl) ?_
          refine r_aload_n 85 rfl 0 rfl rfl (ck DX7_piece_0 48 rfl) ?_
          refine r_geti 88 rfl sh_96 kd_7_0 fl_X7_7 (ck DX7_piece_0 49 rfl) ?_
          refine r_iconst 89 rfl ic_0 (ck DX7_piece_1 0 rfl) ?_
          obtain ⟨b20, hf⟩ := gd_so hf
          obtain ⟨g21, e22, hf⟩ := lt_so hf
          refine r_iast 90 rfl sh_100 (inb_vp b20) (ck DX7_piece_1 1 rfl) ?_
          refine r_heap e22 ?_
          refine r_aload_n 91 rfl 0 rfl rfl (ck DX7_piece_1 2 rfl) ?_
          refine r_getr (q := 101) 94 rfl (lq_7_10) sh_96 kd_7_10 fl_X7_41 (ck DX7_piece_1 3 rfl) ?_
          refine r_aload_n 95 rfl 0 rfl rfl (ck DX7_piece_1 4 rfl) ?_
          refine r_geti 98 rfl sh_96 kd_7_0 fl_X7_7 (ck DX7_piece_1 5 rfl) ?_
          refine r_iconst 99 rfl ic_0 (ck DX7_piece_1 6 rfl) ?_
          obtain ⟨b23, hf⟩ := gd_so hf
          obtain ⟨g24, e25, hf⟩ := lt_so hf
          refine r_iast 100 rfl sh_101 (inb_vp b23) (ck DX7_piece_1 7 rfl) ?_
          refine r_heap e25 ?_
          refine r_iconst 101 rfl ic_0 (ck DX7_piece_1 8 rfl) ?_
          refine r_istore (lv' := [(4, .int 0), (0, .ref (X.1 96)), (1, .int x1), (2, .int x2), (3, .int x3)]) 103 rfl (ck DX7_piece_1 9 rfl) (by decide) rfl ?_
          refine r_sub (lv' := [(0, .ref (X.1 96)), (4, .int 0)]) [1, 0] rfl ?_
          exact A_X7_piece_L103 X _ _ FZ 0 g24 hf
-- X7_set
def f_X7_set_J50 (x1 : Int32) (x2 : Int32) (x3 : Int32) (s0 : Int32) (h : HP) : Option (Int32 × HP) := if x2 = 0 then (gd (inb x1 6) (lt (si h 99 (Int32.toNatClampNeg x1) x3) fun g14 => some (s0, g14))) else (gd (inb x1 6) (lt (si h 100 (Int32.toNatClampNeg x1) x3) fun g17 => some (s0, g17)))
set_option maxHeartbeats 4000000 in
set_option maxRecDepth 100000 in
theorem A_X7_set_J50 (X : XE) (r : Int32) (h' : HP) (x1 : Int32) (x2 : Int32) (x3 : Int32) (s0 : Int32) (h : HP) (hf : f_X7_set_J50 x1 x2 x3 s0 h = some (r, h')) : Run mX7_set 3 X 50 [(0, .ref (X.1 96)), (1, .int x1), (2, .int x2), (3, .int x3)] [.int s0] h (some (.int r)) h' := by
  unfold f_X7_set_J50 at hf
  refine r_istore (lv' := [(4, .int s0), (0, .ref (X.1 96)), (1, .int x1), (2, .int x2), (3, .int x3)]) 52 rfl (ck DX7_set_0 29 rfl) (by decide) rfl ?_
  refine r_iload_n 53 rfl 3 rfl rfl (ck DX7_set_0 30 rfl) ?_
  rcases if_so hf with ⟨c12, hf⟩ | ⟨c12, hf⟩
  · refine r_if_ne_t 56 rfl 66 (ck DX7_set_0 31 rfl) (by decide) c12 ?_
    refine r_aload_n 57 rfl 1 rfl rfl (ck DX7_set_0 32 rfl) ?_
    refine r_getr (q := 99) 60 rfl (lq_7_8) sh_96 kd_7_8 fl_X7_35 (ck DX7_set_0 33 rfl) ?_
    refine r_iload_n 61 rfl 2 rfl rfl (ck DX7_set_0 34 rfl) ?_
    refine r_iload_n 62 rfl 4 rfl rfl (ck DX7_set_0 35 rfl) ?_
    obtain ⟨b13, hf⟩ := gd_so hf
    obtain ⟨g14, e15, hf⟩ := lt_so hf
    refine r_iast 63 rfl sh_99 (inb_vp b13) (ck DX7_set_0 36 rfl) ?_
    refine r_heap e15 ?_
    refine r_goto 73 (ck DX7_set_0 37 rfl) (by decide) ?_
    refine r_iload 75 rfl 0 rfl (ck DX7_set_0 43 rfl) ?_
    obtain ⟨rfl, rfl⟩ := so2 hf
    exact r_iret rfl rfl (ck DX7_set_0 44 rfl)
  · refine r_if_ne_f 66 (ck DX7_set_0 31 rfl) (by decide) c12 ?_
    refine r_aload_n 67 rfl 1 rfl rfl (ck DX7_set_0 38 rfl) ?_
    refine r_getr (q := 100) 70 rfl (lq_7_9) sh_96 kd_7_9 fl_X7_38 (ck DX7_set_0 39 rfl) ?_
    refine r_iload_n 71 rfl 2 rfl rfl (ck DX7_set_0 40 rfl) ?_
    refine r_iload_n 72 rfl 4 rfl rfl (ck DX7_set_0 41 rfl) ?_
    obtain ⟨b16, hf⟩ := gd_so hf
    obtain ⟨g17, e18, hf⟩ := lt_so hf
    refine r_iast 73 rfl sh_100 (inb_vp b16) (ck DX7_set_0 42 rfl) ?_
    refine r_heap e18 ?_
    refine r_iload 75 rfl 0 rfl (ck DX7_set_0 43 rfl) ?_
    obtain ⟨rfl, rfl⟩ := so2 hf
    exact r_iret rfl rfl (ck DX7_set_0 44 rfl)
def f_X7_set (x1 : Int32) (x2 : Int32) (x3 : Int32) (h : HP) : Option (Int32 × HP) := bo (f_X7_isPiece x1 h) fun v1 => if v1 = 0 then (some ((-1), h)) else (bo (f_X7_in x2 0 1) fun v4 => if v4 = 0 then (some ((-1), h)) else (bo (f_X7_isFeet x3) fun v7 => if v7 = 0 then (some ((-2), h)) else (if x2 = 0 then (gd (inb x1 6) (f_X7_set_J50 x1 x2 x3 (h.1 99 (Int32.toNatClampNeg x1)) h)) else (gd (inb x1 6) (f_X7_set_J50 x1 x2 x3 (h.1 100 (Int32.toNatClampNeg x1)) h)))))
set_option maxHeartbeats 4000000 in
set_option maxRecDepth 100000 in
theorem A_X7_set (X : XE) (x1 : Int32) (x2 : Int32) (x3 : Int32) (h : HP) (r : Int32) (h' : HP) (hf : f_X7_set x1 x2 x3 h = some (r, h')) : CC mX7_set 3 X [.ref (X.1 96), .int x1, .int x2, .int x3] h (some (.int r)) h' := by
  refine CC_of rfl (Nat.le_of_ble_eq_true rfl) ?_
  show Run mX7_set 3 X 0 [(0, .ref (X.1 96)), (1, .int x1), (2, .int x2), (3, .int x3)] [] h (some (.int r)) h'
  unfold f_X7_set at hf
  refine r_aload_n 1 rfl 0 rfl rfl (ck DX7_set_0 0 rfl) ?_
  refine r_iload_n 2 rfl 1 rfl rfl (ck DX7_set_0 1 rfl) ?_
  obtain ⟨v1, e2, hf⟩ := bo_so hf
  refine r_callVi 5 rfl (A_X7_isPiece X x1 h v1 e2) (by omega) cw_X7_280 sh_96 cl_7 rfl rfl (Nat.le_of_ble_eq_true rfl) (ck DX7_set_0 2 rfl) ?_
  rcases if_so hf with ⟨c3, hf⟩ | ⟨c3, hf⟩
  · refine r_if_eq_t 18 (ck DX7_set_0 3 rfl) (by decide) c3 ?_
    refine r_iconst 19 rfl ic_m1 (ck DX7_set_0 10 rfl) ?_
    obtain ⟨rfl, rfl⟩ := so2 hf
    exact r_iret rfl rfl (ck DX7_set_0 11 rfl)
  · refine r_if_eq_f 8 rfl 18 (ck DX7_set_0 3 rfl) (by decide) c3 ?_
    refine r_aload_n 9 rfl 0 rfl rfl (ck DX7_set_0 4 rfl) ?_
    refine r_iload_n 10 rfl 2 rfl rfl (ck DX7_set_0 5 rfl) ?_
    refine r_iconst 11 rfl ic_0 (ck DX7_set_0 6 rfl) ?_
    refine r_iconst 12 rfl ic_1 (ck DX7_set_0 7 rfl) ?_
    obtain ⟨v4, e5, hf⟩ := bo_so hf
    refine r_callVi 15 rfl (A_X7_in X x2 0 1 h v4 e5) (by omega) cw_X7_276 sh_96 cl_7 rfl rfl (Nat.le_of_ble_eq_true rfl) (ck DX7_set_0 8 rfl) ?_
    rcases if_so hf with ⟨c6, hf⟩ | ⟨c6, hf⟩
    · refine r_if_ne_t 18 rfl 20 (ck DX7_set_0 9 rfl) (by decide) c6 ?_
      refine r_iconst 19 rfl ic_m1 (ck DX7_set_0 10 rfl) ?_
      obtain ⟨rfl, rfl⟩ := so2 hf
      exact r_iret rfl rfl (ck DX7_set_0 11 rfl)
    · refine r_if_ne_f 20 (ck DX7_set_0 9 rfl) (by decide) c6 ?_
      refine r_aload_n 21 rfl 0 rfl rfl (ck DX7_set_0 12 rfl) ?_
      refine r_iload_n 22 rfl 3 rfl rfl (ck DX7_set_0 13 rfl) ?_
      obtain ⟨v7, e8, hf⟩ := bo_so hf
      refine r_callVi 25 rfl (A_X7_isFeet X x3 h v7 e8) (by omega) cw_X7_284 sh_96 cl_7 rfl rfl (Nat.le_of_ble_eq_true rfl) (ck DX7_set_0 14 rfl) ?_
      rcases if_so hf with ⟨c9, hf⟩ | ⟨c9, hf⟩
      · refine r_if_ne_t 28 rfl 31 (ck DX7_set_0 15 rfl) (by decide) c9 ?_
        refine r_bipush 30 rfl bp_m2 (ck DX7_set_0 16 rfl) ?_
        obtain ⟨rfl, rfl⟩ := so2 hf
        exact r_iret rfl rfl (ck DX7_set_0 17 rfl)
      · refine r_if_ne_f 31 (ck DX7_set_0 15 rfl) (by decide) c9 ?_
        refine r_iload_n 32 rfl 2 rfl rfl (ck DX7_set_0 18 rfl) ?_
        rcases if_so hf with ⟨c10, hf⟩ | ⟨c10, hf⟩
        · refine r_if_ne_t 35 rfl 44 (ck DX7_set_0 19 rfl) (by decide) c10 ?_
          refine r_aload_n 36 rfl 0 rfl rfl (ck DX7_set_0 20 rfl) ?_
          refine r_getr (q := 99) 39 rfl (lq_7_8) sh_96 kd_7_8 fl_X7_35 (ck DX7_set_0 21 rfl) ?_
          refine r_iload_n 40 rfl 1 rfl rfl (ck DX7_set_0 22 rfl) ?_
          obtain ⟨b11, hf⟩ := gd_so hf
          refine r_iald 41 rfl sh_99 (inb_vp b11) (ck DX7_set_0 23 rfl) ?_
          refine r_goto 50 (ck DX7_set_0 24 rfl) (by decide) ?_
          refine r_sub (lv' := [(0, .ref (X.1 96)), (1, .int x1), (2, .int x2), (3, .int x3)]) [0, 1, 2, 3] rfl ?_
          exact A_X7_set_J50 X _ _ x1 x2 x3 (h.1 99 (Int32.toNatClampNeg x1)) h hf
        · refine r_if_ne_f 44 (ck DX7_set_0 19 rfl) (by decide) c10 ?_
          refine r_aload_n 45 rfl 0 rfl rfl (ck DX7_set_0 25 rfl) ?_
          refine r_getr (q := 100) 48 rfl (lq_7_9) sh_96 kd_7_9 fl_X7_38 (ck DX7_set_0 26 rfl) ?_
          refine r_iload_n 49 rfl 1 rfl rfl (ck DX7_set_0 27 rfl) ?_
          obtain ⟨b19, hf⟩ := gd_so hf
          refine r_iald 50 rfl sh_100 (inb_vp b19) (ck DX7_set_0 28 rfl) ?_
          refine r_sub (lv' := [(0, .ref (X.1 96)), (1, .int x1), (2, .int x2), (3, .int x3)]) [0, 1, 2, 3] rfl ?_
          exact A_X7_set_J50 X _ _ x1 x2 x3 (h.1 100 (Int32.toNatClampNeg x1)) h hf
-- X7_row
def f_X7_row (x1 : Int32) (x2 : Int32) (x3 : Int32) (h : HP) : Option (Int32 × HP) := bo (f_X7_isPiece x1 h) fun v1 => if v1 = 0 then (some ((-1), h)) else (bo (f_X7_in x2 0 3) fun v4 => if v4 = 0 then (some ((-1), h)) else (bo (f_X7_in x3 0 9) fun v7 => if v7 = 0 then (some ((-2), h)) else (gd (inb x1 6) (if (h.1 97 (Int32.toNatClampNeg x1)) = 6 then (gd (inb ((4 * x1) + x2) 24) (lt ((h.1 102 (Int32.toNatClampNeg ((4 * x1) + x2))) : Int32) fun v13 => gd (inb ((4 * x1) + x2) 24) (lt (si h 102 (Int32.toNatClampNeg ((4 * x1) + x2)) x3) fun g16 => some (v13, g16)))) else (some ((-3), h))))))
set_option maxHeartbeats 4000000 in
set_option maxRecDepth 100000 in
theorem A_X7_row (X : XE) (x1 : Int32) (x2 : Int32) (x3 : Int32) (h : HP) (r : Int32) (h' : HP) (hf : f_X7_row x1 x2 x3 h = some (r, h')) : CC mX7_row 3 X [.ref (X.1 96), .int x1, .int x2, .int x3] h (some (.int r)) h' := by
  refine CC_of rfl (Nat.le_of_ble_eq_true rfl) ?_
  show Run mX7_row 3 X 0 [(0, .ref (X.1 96)), (1, .int x1), (2, .int x2), (3, .int x3)] [] h (some (.int r)) h'
  unfold f_X7_row at hf
  refine r_aload_n 1 rfl 0 rfl rfl (ck DX7_row_0 0 rfl) ?_
  refine r_iload_n 2 rfl 1 rfl rfl (ck DX7_row_0 1 rfl) ?_
  obtain ⟨v1, e2, hf⟩ := bo_so hf
  refine r_callVi 5 rfl (A_X7_isPiece X x1 h v1 e2) (by omega) cw_X7_280 sh_96 cl_7 rfl rfl (Nat.le_of_ble_eq_true rfl) (ck DX7_row_0 2 rfl) ?_
  rcases if_so hf with ⟨c3, hf⟩ | ⟨c3, hf⟩
  · refine r_if_eq_t 18 (ck DX7_row_0 3 rfl) (by decide) c3 ?_
    refine r_iconst 19 rfl ic_m1 (ck DX7_row_0 10 rfl) ?_
    obtain ⟨rfl, rfl⟩ := so2 hf
    exact r_iret rfl rfl (ck DX7_row_0 11 rfl)
  · refine r_if_eq_f 8 rfl 18 (ck DX7_row_0 3 rfl) (by decide) c3 ?_
    refine r_aload_n 9 rfl 0 rfl rfl (ck DX7_row_0 4 rfl) ?_
    refine r_iload_n 10 rfl 2 rfl rfl (ck DX7_row_0 5 rfl) ?_
    refine r_iconst 11 rfl ic_0 (ck DX7_row_0 6 rfl) ?_
    refine r_iconst 12 rfl ic_3 (ck DX7_row_0 7 rfl) ?_
    obtain ⟨v4, e5, hf⟩ := bo_so hf
    refine r_callVi 15 rfl (A_X7_in X x2 0 3 h v4 e5) (by omega) cw_X7_276 sh_96 cl_7 rfl rfl (Nat.le_of_ble_eq_true rfl) (ck DX7_row_0 8 rfl) ?_
    rcases if_so hf with ⟨c6, hf⟩ | ⟨c6, hf⟩
    · refine r_if_ne_t 18 rfl 20 (ck DX7_row_0 9 rfl) (by decide) c6 ?_
      refine r_iconst 19 rfl ic_m1 (ck DX7_row_0 10 rfl) ?_
      obtain ⟨rfl, rfl⟩ := so2 hf
      exact r_iret rfl rfl (ck DX7_row_0 11 rfl)
    · refine r_if_ne_f 20 (ck DX7_row_0 9 rfl) (by decide) c6 ?_
      refine r_aload_n 21 rfl 0 rfl rfl (ck DX7_row_0 12 rfl) ?_
      refine r_iload_n 22 rfl 3 rfl rfl (ck DX7_row_0 13 rfl) ?_
      refine r_iconst 23 rfl ic_0 (ck DX7_row_0 14 rfl) ?_
      refine r_bipush 25 rfl bp_9 (ck DX7_row_0 15 rfl) ?_
      obtain ⟨v7, e8, hf⟩ := bo_so hf
      refine r_callVi 28 rfl (A_X7_in X x3 0 9 h v7 e8) (by omega) cw_X7_276 sh_96 cl_7 rfl rfl (Nat.le_of_ble_eq_true rfl) (ck DX7_row_0 16 rfl) ?_
      rcases if_so hf with ⟨c9, hf⟩ | ⟨c9, hf⟩
      · refine r_if_ne_t 31 rfl 34 (ck DX7_row_0 17 rfl) (by decide) c9 ?_
        refine r_bipush 33 rfl bp_m2 (ck DX7_row_0 18 rfl) ?_
        obtain ⟨rfl, rfl⟩ := so2 hf
        exact r_iret rfl rfl (ck DX7_row_0 19 rfl)
      · refine r_if_ne_f 34 (ck DX7_row_0 17 rfl) (by decide) c9 ?_
        refine r_aload_n 35 rfl 0 rfl rfl (ck DX7_row_0 20 rfl) ?_
        refine r_getr (q := 97) 38 rfl (lq_7_6) sh_96 kd_7_6 fl_X7_28 (ck DX7_row_0 21 rfl) ?_
        refine r_iload_n 39 rfl 1 rfl rfl (ck DX7_row_0 22 rfl) ?_
        obtain ⟨b10, hf⟩ := gd_so hf
        refine r_iald 40 rfl sh_97 (inb_vp b10) (ck DX7_row_0 23 rfl) ?_
        refine r_bipush 42 rfl bp_6 (ck DX7_row_0 24 rfl) ?_
        rcases if_so hf with ⟨c11, hf⟩ | ⟨c11, hf⟩
        · refine r_icmp_eq_t 48 (ck DX7_row_0 25 rfl) (by decide) c11 ?_
          refine r_aload_n 49 rfl 0 rfl rfl (ck DX7_row_0 28 rfl) ?_
          refine r_getr (q := 102) 52 rfl (lq_7_11) sh_96 kd_7_11 fl_X7_44 (ck DX7_row_0 29 rfl) ?_
          refine r_iconst 53 rfl ic_4 (ck DX7_row_0 30 rfl) ?_
          refine r_iload_n 54 rfl 1 rfl rfl (ck DX7_row_0 31 rfl) ?_
          refine r_imul 55 rfl (ck DX7_row_0 32 rfl) ?_
          refine r_iload_n 56 rfl 2 rfl rfl (ck DX7_row_0 33 rfl) ?_
          refine r_iadd 57 rfl (ck DX7_row_0 34 rfl) ?_
          obtain ⟨b12, hf⟩ := gd_so hf
          refine r_iald 58 rfl sh_102 (inb_vp b12) (ck DX7_row_0 35 rfl) ?_
          obtain ⟨v13, e14, hf⟩ := lt_so hf
          refine r_top e14 ?_
          refine r_istore (lv' := [(4, .int v13), (0, .ref (X.1 96)), (1, .int x1), (2, .int x2), (3, .int x3)]) 60 rfl (ck DX7_row_0 36 rfl) (by decide) rfl ?_
          refine r_aload_n 61 rfl 1 rfl rfl (ck DX7_row_0 37 rfl) ?_
          refine r_getr (q := 102) 64 rfl (lq_7_11) sh_96 kd_7_11 fl_X7_44 (ck DX7_row_0 38 rfl) ?_
          refine r_iconst 65 rfl ic_4 (ck DX7_row_0 39 rfl) ?_
          refine r_iload_n 66 rfl 2 rfl rfl (ck DX7_row_0 40 rfl) ?_
          refine r_imul 67 rfl (ck DX7_row_0 41 rfl) ?_
          refine r_iload_n 68 rfl 3 rfl rfl (ck DX7_row_0 42 rfl) ?_
          refine r_iadd 69 rfl (ck DX7_row_0 43 rfl) ?_
          refine r_iload_n 70 rfl 4 rfl rfl (ck DX7_row_0 44 rfl) ?_
          obtain ⟨b15, hf⟩ := gd_so hf
          obtain ⟨g16, e17, hf⟩ := lt_so hf
          refine r_iast 71 rfl sh_102 (inb_vp b15) (ck DX7_row_0 45 rfl) ?_
          refine r_heap e17 ?_
          refine r_iload 73 rfl 0 rfl (ck DX7_row_0 46 rfl) ?_
          obtain ⟨rfl, rfl⟩ := so2 hf
          exact r_iret rfl rfl (ck DX7_row_0 47 rfl)
        · refine r_icmp_eq_f 45 rfl 48 (ck DX7_row_0 25 rfl) (by decide) c11 ?_
          refine r_bipush 47 rfl bp_m3 (ck DX7_row_0 26 rfl) ?_
          obtain ⟨rfl, rfl⟩ := so2 hf
          exact r_iret rfl rfl (ck DX7_row_0 27 rfl)
-- X7_placeOf
def f_X7_placeOf_L2 (h : HP) : Nat → Int32 → Int32 → Option Int32
  | 0, _, _ => none
  | n + 1, x1, x2 => if (h.1 96 1) ≤ x2 then (some (-5)) else (gd (inb x2 3) (if (h.1 103 (Int32.toNatClampNeg x2)) = x1 then (some x2) else (lt (x2 + 1 : Int32) fun v4 => f_X7_placeOf_L2 h n x1 v4)))
set_option maxHeartbeats 4000000 in
set_option maxRecDepth 100000 in
theorem A_X7_placeOf_L2 (X : XE) (h : HP) (r : Int32) : ∀ (n : Nat) (x1 : Int32) (x2 : Int32), f_X7_placeOf_L2 h n x1 x2 = some r → Run mX7_placeOf 1 X 2 [(0, .ref (X.1 96)), (1, .int x1), (2, .int x2)] [] h (some (.int r)) h := by
  intro n
  induction n with
  | zero => intro x1 x2 hf; cases hf
  | succ n ih =>
    intro x1 x2 hf
    rw [f_X7_placeOf_L2] at hf
    refine r_iload_n 3 rfl 2 rfl rfl (ck DX7_placeOf_0 2 rfl) ?_
    refine r_aload_n 4 rfl 0 rfl rfl (ck DX7_placeOf_0 3 rfl) ?_
    refine r_geti 7 rfl sh_96 kd_7_1 fl_X7_13 (ck DX7_placeOf_0 4 rfl) ?_
    rcases if_so hf with ⟨c1, hf⟩ | ⟨c1, hf⟩
    · refine r_icmp_ge_t 28 (ck DX7_placeOf_0 5 rfl) (by decide) c1 ?_
      refine r_bipush 30 rfl bp_m5 (ck DX7_placeOf_0 16 rfl) ?_
      obtain rfl := so1 hf
      exact r_iret rfl rfl (ck DX7_placeOf_0 17 rfl)
    · refine r_icmp_ge_f 10 rfl 28 (ck DX7_placeOf_0 5 rfl) (by decide) c1 ?_
      refine r_aload_n 11 rfl 0 rfl rfl (ck DX7_placeOf_0 6 rfl) ?_
      refine r_getr (q := 103) 14 rfl (lq_7_12) sh_96 kd_7_12 fl_X7_47 (ck DX7_placeOf_0 7 rfl) ?_
      refine r_iload_n 15 rfl 2 rfl rfl (ck DX7_placeOf_0 8 rfl) ?_
      obtain ⟨b2, hf⟩ := gd_so hf
      refine r_iald 16 rfl sh_103 (inb_vp b2) (ck DX7_placeOf_0 9 rfl) ?_
      refine r_iload_n 17 rfl 1 rfl rfl (ck DX7_placeOf_0 10 rfl) ?_
      rcases if_so hf with ⟨c3, hf⟩ | ⟨c3, hf⟩
      · refine r_icmp_ne_t 20 rfl 22 (ck DX7_placeOf_0 11 rfl) (by decide) c3 ?_
        refine r_iload_n 21 rfl 2 rfl rfl (ck DX7_placeOf_0 12 rfl) ?_
        obtain rfl := so1 hf
        exact r_iret rfl rfl (ck DX7_placeOf_0 13 rfl)
      · refine r_icmp_ne_f 22 (ck DX7_placeOf_0 11 rfl) (by decide) c3 ?_
        obtain ⟨v4, e5, hf⟩ := lt_so hf
        refine r_iinc (lv' := [(2, .int v4), (0, .ref (X.1 96)), (1, .int x1)]) 25 rfl 2 (ck DX7_placeOf_0 14 rfl) rfl (by rw [e5, ic_1]) (by decide) rfl ?_
        refine r_goto 2 (ck DX7_placeOf_0 15 rfl) (by decide) ?_
        refine r_sub (lv' := [(0, .ref (X.1 96)), (1, .int x1), (2, .int v4)]) [1, 2, 0] rfl ?_
        exact ih x1 v4 hf
def f_X7_placeOf (x1 : Int32) (h : HP) : Option Int32 := f_X7_placeOf_L2 h FZ x1 0
set_option maxHeartbeats 4000000 in
set_option maxRecDepth 100000 in
theorem A_X7_placeOf (X : XE) (x1 : Int32) (h : HP) (r : Int32) (hf : f_X7_placeOf x1 h = some r) : CC mX7_placeOf 1 X [.ref (X.1 96), .int x1] h (some (.int r)) h := by
  refine CC_of rfl (Nat.le_of_ble_eq_true rfl) ?_
  show Run mX7_placeOf 1 X 0 [(0, .ref (X.1 96)), (1, .int x1)] [] h (some (.int r)) h
  unfold f_X7_placeOf at hf
  refine r_iconst 1 rfl ic_0 (ck DX7_placeOf_0 0 rfl) ?_
  refine r_istore_n (lv' := [(2, .int 0), (0, .ref (X.1 96)), (1, .int x1)]) 2 rfl (ck DX7_placeOf_0 1 rfl) (by decide) rfl rfl ?_
  refine r_sub (lv' := [(0, .ref (X.1 96)), (1, .int x1), (2, .int 0)]) [1, 2, 0] rfl ?_
  exact A_X7_placeOf_L2 X h _ FZ x1 0 hf
-- X7_hoists
def f_X7_hoists (x1 : Int32) (h : HP) : Option HP := gd (inb (h.1 96 1) 3) (lt (si h 103 (Int32.toNatClampNeg (h.1 96 1)) x1) fun g2 => lt (si g2 96 1 ((g2.1 96 1) + 1)) fun g4 => some g4)
set_option maxHeartbeats 4000000 in
set_option maxRecDepth 100000 in
theorem A_X7_hoists (X : XE) (x1 : Int32) (h : HP) (h' : HP) (hf : f_X7_hoists x1 h = some h') : CC mX7_hoists 1 X [.ref (X.1 96), .int x1] h none h' := by
  refine CC_of rfl (Nat.le_of_ble_eq_true rfl) ?_
  show Run mX7_hoists 1 X 0 [(0, .ref (X.1 96)), (1, .int x1)] [] h none h'
  unfold f_X7_hoists at hf
  refine r_aload_n 1 rfl 0 rfl rfl (ck DX7_hoists_0 0 rfl) ?_
  refine r_getr (q := 103) 4 rfl (lq_7_12) sh_96 kd_7_12 fl_X7_47 (ck DX7_hoists_0 1 rfl) ?_
  refine r_aload_n 5 rfl 0 rfl rfl (ck DX7_hoists_0 2 rfl) ?_
  refine r_geti 8 rfl sh_96 kd_7_1 fl_X7_13 (ck DX7_hoists_0 3 rfl) ?_
  refine r_iload_n 9 rfl 1 rfl rfl (ck DX7_hoists_0 4 rfl) ?_
  obtain ⟨b1, hf⟩ := gd_so hf
  obtain ⟨g2, e3, hf⟩ := lt_so hf
  refine r_iast 10 rfl sh_103 (inb_vp b1) (ck DX7_hoists_0 5 rfl) ?_
  refine r_heap e3 ?_
  refine r_aload_n 11 rfl 0 rfl rfl (ck DX7_hoists_0 6 rfl) ?_
  refine r_dup 12 rfl rfl (ck DX7_hoists_0 7 rfl) ?_
  refine r_geti 15 rfl sh_96 kd_7_1 fl_X7_13 (ck DX7_hoists_0 8 rfl) ?_
  refine r_iconst 16 rfl ic_1 (ck DX7_hoists_0 9 rfl) ?_
  refine r_iadd 17 rfl (ck DX7_hoists_0 10 rfl) ?_
  obtain ⟨g4, e5, hf⟩ := lt_so hf
  refine r_puti 20 rfl sh_96 kd_7_1 fw_X7_13 rfl rfl (ck DX7_hoists_0 11 rfl) ?_
  refine r_heap e5 ?_
  obtain rfl := so1 hf
  exact r_vret rfl (ck DX7_hoists_0 12 rfl)
-- X7_hoist
def f_X7_hoist (x1 : Int32) (h : HP) : Option (Int32 × HP) := bo (f_X7_isPiece x1 h) fun v1 => if v1 = 0 then (some ((-1), h)) else (bo (f_X7_placeOf x1 h) fun v4 => if v4 < 0 then (if (h.1 96 1) = 3 then (some ((-4), h)) else (bo (f_X7_hoists x1 h) fun g8 => some ((g8.1 96 1), g8))) else (some ((-3), h)))
set_option maxHeartbeats 4000000 in
set_option maxRecDepth 100000 in
theorem A_X7_hoist (X : XE) (x1 : Int32) (h : HP) (r : Int32) (h' : HP) (hf : f_X7_hoist x1 h = some (r, h')) : CC mX7_hoist 3 X [.ref (X.1 96), .int x1] h (some (.int r)) h' := by
  refine CC_of rfl (Nat.le_of_ble_eq_true rfl) ?_
  show Run mX7_hoist 3 X 0 [(0, .ref (X.1 96)), (1, .int x1)] [] h (some (.int r)) h'
  unfold f_X7_hoist at hf
  refine r_aload_n 1 rfl 0 rfl rfl (ck DX7_hoist_0 0 rfl) ?_
  refine r_iload_n 2 rfl 1 rfl rfl (ck DX7_hoist_0 1 rfl) ?_
  obtain ⟨v1, e2, hf⟩ := bo_so hf
  refine r_callVi 5 rfl (A_X7_isPiece X x1 h v1 e2) (by omega) cw_X7_280 sh_96 cl_7 rfl rfl (Nat.le_of_ble_eq_true rfl) (ck DX7_hoist_0 2 rfl) ?_
  rcases if_so hf with ⟨c3, hf⟩ | ⟨c3, hf⟩
  · refine r_if_ne_t 8 rfl 10 (ck DX7_hoist_0 3 rfl) (by decide) c3 ?_
    refine r_iconst 9 rfl ic_m1 (ck DX7_hoist_0 4 rfl) ?_
    obtain ⟨rfl, rfl⟩ := so2 hf
    exact r_iret rfl rfl (ck DX7_hoist_0 5 rfl)
  · refine r_if_ne_f 10 (ck DX7_hoist_0 3 rfl) (by decide) c3 ?_
    refine r_aload_n 11 rfl 0 rfl rfl (ck DX7_hoist_0 6 rfl) ?_
    refine r_iload_n 12 rfl 1 rfl rfl (ck DX7_hoist_0 7 rfl) ?_
    obtain ⟨v4, e5, hf⟩ := bo_so hf
    refine r_callVi 15 rfl (A_X7_placeOf X x1 h v4 e5) (by omega) cw_X7_287 sh_96 cl_7 rfl rfl (Nat.le_of_ble_eq_true rfl) (ck DX7_hoist_0 8 rfl) ?_
    rcases if_so hf with ⟨c6, hf⟩ | ⟨c6, hf⟩
    · refine r_if_lt_t 21 (ck DX7_hoist_0 9 rfl) (by decide) c6 ?_
      refine r_aload_n 22 rfl 0 rfl rfl (ck DX7_hoist_0 12 rfl) ?_
      refine r_geti 25 rfl sh_96 kd_7_1 fl_X7_13 (ck DX7_hoist_0 13 rfl) ?_
      refine r_iconst 26 rfl ic_3 (ck DX7_hoist_0 14 rfl) ?_
      rcases if_so hf with ⟨c7, hf⟩ | ⟨c7, hf⟩
      · refine r_icmp_ne_t 29 rfl 32 (ck DX7_hoist_0 15 rfl) (by decide) c7 ?_
        refine r_bipush 31 rfl bp_m4 (ck DX7_hoist_0 16 rfl) ?_
        obtain ⟨rfl, rfl⟩ := so2 hf
        exact r_iret rfl rfl (ck DX7_hoist_0 17 rfl)
      · refine r_icmp_ne_f 32 (ck DX7_hoist_0 15 rfl) (by decide) c7 ?_
        refine r_aload_n 33 rfl 0 rfl rfl (ck DX7_hoist_0 18 rfl) ?_
        refine r_iload_n 34 rfl 1 rfl rfl (ck DX7_hoist_0 19 rfl) ?_
        obtain ⟨g8, e9, hf⟩ := bo_so hf
        refine r_callVv 37 rfl (A_X7_hoists X x1 h g8 e9) (by omega) cw_X7_291 sh_96 cl_7 rfl rfl (Nat.le_of_ble_eq_true rfl) (ck DX7_hoist_0 20 rfl) ?_
        refine r_aload_n 38 rfl 0 rfl rfl (ck DX7_hoist_0 21 rfl) ?_
        refine r_geti 41 rfl sh_96 kd_7_1 fl_X7_13 (ck DX7_hoist_0 22 rfl) ?_
        obtain ⟨rfl, rfl⟩ := so2 hf
        exact r_iret rfl rfl (ck DX7_hoist_0 23 rfl)
    · refine r_if_lt_f 18 rfl 21 (ck DX7_hoist_0 9 rfl) (by decide) c6 ?_
      refine r_bipush 20 rfl bp_m3 (ck DX7_hoist_0 10 rfl) ?_
      obtain ⟨rfl, rfl⟩ := so2 hf
      exact r_iret rfl rfl (ck DX7_hoist_0 11 rfl)
-- X7_lower
def f_X7_lower (x1 : Int32) (h : HP) : Option (Int32 × HP) := bo (f_X7_isPiece x1 h) fun v1 => if v1 = 0 then (some ((-1), h)) else (bo (f_X7_placeOf x1 h) fun v4 => if (0 : Int32) ≤ v4 then (bo (f_X7_placeOf x1 h) fun v7 => lt (si h 96 1 v7) fun g9 => some ((g9.1 96 1), g9)) else (some ((-3), h)))
set_option maxHeartbeats 4000000 in
set_option maxRecDepth 100000 in
theorem A_X7_lower (X : XE) (x1 : Int32) (h : HP) (r : Int32) (h' : HP) (hf : f_X7_lower x1 h = some (r, h')) : CC mX7_lower 3 X [.ref (X.1 96), .int x1] h (some (.int r)) h' := by
  refine CC_of rfl (Nat.le_of_ble_eq_true rfl) ?_
  show Run mX7_lower 3 X 0 [(0, .ref (X.1 96)), (1, .int x1)] [] h (some (.int r)) h'
  unfold f_X7_lower at hf
  refine r_aload_n 1 rfl 0 rfl rfl (ck DX7_lower_0 0 rfl) ?_
  refine r_iload_n 2 rfl 1 rfl rfl (ck DX7_lower_0 1 rfl) ?_
  obtain ⟨v1, e2, hf⟩ := bo_so hf
  refine r_callVi 5 rfl (A_X7_isPiece X x1 h v1 e2) (by omega) cw_X7_280 sh_96 cl_7 rfl rfl (Nat.le_of_ble_eq_true rfl) (ck DX7_lower_0 2 rfl) ?_
  rcases if_so hf with ⟨c3, hf⟩ | ⟨c3, hf⟩
  · refine r_if_ne_t 8 rfl 10 (ck DX7_lower_0 3 rfl) (by decide) c3 ?_
    refine r_iconst 9 rfl ic_m1 (ck DX7_lower_0 4 rfl) ?_
    obtain ⟨rfl, rfl⟩ := so2 hf
    exact r_iret rfl rfl (ck DX7_lower_0 5 rfl)
  · refine r_if_ne_f 10 (ck DX7_lower_0 3 rfl) (by decide) c3 ?_
    refine r_aload_n 11 rfl 0 rfl rfl (ck DX7_lower_0 6 rfl) ?_
    refine r_iload_n 12 rfl 1 rfl rfl (ck DX7_lower_0 7 rfl) ?_
    obtain ⟨v4, e5, hf⟩ := bo_so hf
    refine r_callVi 15 rfl (A_X7_placeOf X x1 h v4 e5) (by omega) cw_X7_287 sh_96 cl_7 rfl rfl (Nat.le_of_ble_eq_true rfl) (ck DX7_lower_0 8 rfl) ?_
    rcases if_so hf with ⟨c6, hf⟩ | ⟨c6, hf⟩
    · refine r_if_ge_t 21 (ck DX7_lower_0 9 rfl) (by decide) c6 ?_
      refine r_aload_n 22 rfl 0 rfl rfl (ck DX7_lower_0 12 rfl) ?_
      refine r_aload_n 23 rfl 0 rfl rfl (ck DX7_lower_0 13 rfl) ?_
      refine r_iload_n 24 rfl 1 rfl rfl (ck DX7_lower_0 14 rfl) ?_
      obtain ⟨v7, e8, hf⟩ := bo_so hf
      refine r_callVi 27 rfl (A_X7_placeOf X x1 h v7 e8) (by omega) cw_X7_287 sh_96 cl_7 rfl rfl (Nat.le_of_ble_eq_true rfl) (ck DX7_lower_0 15 rfl) ?_
      obtain ⟨g9, e10, hf⟩ := lt_so hf
      refine r_puti 30 rfl sh_96 kd_7_1 fw_X7_13 rfl rfl (ck DX7_lower_0 16 rfl) ?_
      refine r_heap e10 ?_
      refine r_aload_n 31 rfl 0 rfl rfl (ck DX7_lower_0 17 rfl) ?_
      refine r_geti 34 rfl sh_96 kd_7_1 fl_X7_13 (ck DX7_lower_0 18 rfl) ?_
      obtain ⟨rfl, rfl⟩ := so2 hf
      exact r_iret rfl rfl (ck DX7_lower_0 19 rfl)
    · refine r_if_ge_f 18 rfl 21 (ck DX7_lower_0 9 rfl) (by decide) c6 ?_
      refine r_bipush 20 rfl bp_m3 (ck DX7_lower_0 10 rfl) ?_
      obtain ⟨rfl, rfl⟩ := so2 hf
      exact r_iret rfl rfl (ck DX7_lower_0 11 rfl)
-- X7_trim
def f_X7_trim (x1 : Int32) (x2 : Int32) (h : HP) : Option (Int32 × HP) := bo (f_X7_in x1 0 1) fun v1 => if v1 = 0 then (some ((-1), h)) else (bo (f_X7_isTrim x2) fun v4 => if v4 = 0 then (some ((-2), h)) else (if x1 = 0 then (lt ((h.1 96 2) : Int32) fun v8 => if x1 = 0 then (lt (si h 96 2 x2) fun g11 => some (v8, g11)) else (lt (si h 96 3 x2) fun g13 => some (v8, g13))) else (lt ((h.1 96 3) : Int32) fun v15 => if x1 = 0 then (lt (si h 96 2 x2) fun g18 => some (v15, g18)) else (lt (si h 96 3 x2) fun g20 => some (v15, g20)))))
set_option maxHeartbeats 4000000 in
set_option maxRecDepth 100000 in
theorem A_X7_trim (X : XE) (x1 : Int32) (x2 : Int32) (h : HP) (r : Int32) (h' : HP) (hf : f_X7_trim x1 x2 h = some (r, h')) : CC mX7_trim 3 X [.ref (X.1 96), .int x1, .int x2] h (some (.int r)) h' := by
  refine CC_of rfl (Nat.le_of_ble_eq_true rfl) ?_
  show Run mX7_trim 3 X 0 [(0, .ref (X.1 96)), (1, .int x1), (2, .int x2)] [] h (some (.int r)) h'
  unfold f_X7_trim at hf
  refine r_aload_n 1 rfl 0 rfl rfl (ck DX7_trim_0 0 rfl) ?_
  refine r_iload_n 2 rfl 1 rfl rfl (ck DX7_trim_0 1 rfl) ?_
  refine r_iconst 3 rfl ic_0 (ck DX7_trim_0 2 rfl) ?_
  refine r_iconst 4 rfl ic_1 (ck DX7_trim_0 3 rfl) ?_
  obtain ⟨v1, e2, hf⟩ := bo_so hf
  refine r_callVi 7 rfl (A_X7_in X x1 0 1 h v1 e2) (by omega) cw_X7_276 sh_96 cl_7 rfl rfl (Nat.le_of_ble_eq_true rfl) (ck DX7_trim_0 4 rfl) ?_
  rcases if_so hf with ⟨c3, hf⟩ | ⟨c3, hf⟩
  · refine r_if_ne_t 10 rfl 12 (ck DX7_trim_0 5 rfl) (by decide) c3 ?_
    refine r_iconst 11 rfl ic_m1 (ck DX7_trim_0 6 rfl) ?_
    obtain ⟨rfl, rfl⟩ := so2 hf
    exact r_iret rfl rfl (ck DX7_trim_0 7 rfl)
  · refine r_if_ne_f 12 (ck DX7_trim_0 5 rfl) (by decide) c3 ?_
    refine r_aload_n 13 rfl 0 rfl rfl (ck DX7_trim_0 8 rfl) ?_
    refine r_iload_n 14 rfl 2 rfl rfl (ck DX7_trim_0 9 rfl) ?_
    obtain ⟨v4, e5, hf⟩ := bo_so hf
    refine r_callVi 17 rfl (A_X7_isTrim X x2 h v4 e5) (by omega) cw_X7_295 sh_96 cl_7 rfl rfl (Nat.le_of_ble_eq_true rfl) (ck DX7_trim_0 10 rfl) ?_
    rcases if_so hf with ⟨c6, hf⟩ | ⟨c6, hf⟩
    · refine r_if_ne_t 20 rfl 23 (ck DX7_trim_0 11 rfl) (by decide) c6 ?_
      refine r_bipush 22 rfl bp_m2 (ck DX7_trim_0 12 rfl) ?_
      obtain ⟨rfl, rfl⟩ := so2 hf
      exact r_iret rfl rfl (ck DX7_trim_0 13 rfl)
    · refine r_if_ne_f 23 (ck DX7_trim_0 11 rfl) (by decide) c6 ?_
      refine r_iload_n 24 rfl 1 rfl rfl (ck DX7_trim_0 14 rfl) ?_
      rcases if_so hf with ⟨c7, hf⟩ | ⟨c7, hf⟩
      · refine r_if_ne_t 27 rfl 34 (ck DX7_trim_0 15 rfl) (by decide) c7 ?_
        refine r_aload_n 28 rfl 0 rfl rfl (ck DX7_trim_0 16 rfl) ?_
        refine r_geti 31 rfl sh_96 kd_7_2 fl_X7_16 (ck DX7_trim_0 17 rfl) ?_
        refine r_goto 38 (ck DX7_trim_0 18 rfl) (by decide) ?_
        obtain ⟨v8, e9, hf⟩ := lt_so hf
        refine r_top e9 ?_
        refine r_istore_n (lv' := [(3, .int v8), (0, .ref (X.1 96)), (1, .int x1), (2, .int x2)]) 39 rfl (ck DX7_trim_0 21 rfl) (by decide) rfl rfl ?_
        refine r_iload_n 40 rfl 2 rfl rfl (ck DX7_trim_0 22 rfl) ?_
        rcases if_so hf with ⟨c10, hf⟩ | ⟨c10, hf⟩
        · refine r_if_ne_t 43 rfl 51 (ck DX7_trim_0 23 rfl) (by decide) c10 ?_
          refine r_aload_n 44 rfl 1 rfl rfl (ck DX7_trim_0 24 rfl) ?_
          refine r_iload_n 45 rfl 3 rfl rfl (ck DX7_trim_0 25 rfl) ?_
          obtain ⟨g11, e12, hf⟩ := lt_so hf
          refine r_puti 48 rfl sh_96 kd_7_2 fw_X7_16 rfl rfl (ck DX7_trim_0 26 rfl) ?_
          refine r_heap e12 ?_
          refine r_goto 56 (ck DX7_trim_0 27 rfl) (by decide) ?_
          refine r_iload_n 57 rfl 0 rfl rfl (ck DX7_trim_0 31 rfl) ?_
          obtain ⟨rfl, rfl⟩ := so2 hf
          exact r_iret rfl rfl (ck DX7_trim_0 32 rfl)
        · refine r_if_ne_f 51 (ck DX7_trim_0 23 rfl) (by decide) c10 ?_
          refine r_aload_n 52 rfl 1 rfl rfl (ck DX7_trim_0 28 rfl) ?_
          refine r_iload_n 53 rfl 3 rfl rfl (ck DX7_trim_0 29 rfl) ?_
          obtain ⟨g13, e14, hf⟩ := lt_so hf
          refine r_puti 56 rfl sh_96 kd_7_3 fw_X7_19 rfl rfl (ck DX7_trim_0 30 rfl) ?_
          refine r_heap e14 ?_
          refine r_iload_n 57 rfl 0 rfl rfl (ck DX7_trim_0 31 rfl) ?_
          obtain ⟨rfl, rfl⟩ := so2 hf
          exact r_iret rfl rfl (ck DX7_trim_0 32 rfl)
      · refine r_if_ne_f 34 (ck DX7_trim_0 15 rfl) (by decide) c7 ?_
        refine r_aload_n 35 rfl 0 rfl rfl (ck DX7_trim_0 19 rfl) ?_
        refine r_geti 38 rfl sh_96 kd_7_3 fl_X7_19 (ck DX7_trim_0 20 rfl) ?_
        obtain ⟨v15, e16, hf⟩ := lt_so hf
        refine r_top e16 ?_
        refine r_istore_n (lv' := [(3, .int v15), (0, .ref (X.1 96)), (1, .int x1), (2, .int x2)]) 39 rfl (ck DX7_trim_0 21 rfl) (by decide) rfl rfl ?_
        refine r_iload_n 40 rfl 2 rfl rfl (ck DX7_trim_0 22 rfl) ?_
        rcases if_so hf with ⟨c17, hf⟩ | ⟨c17, hf⟩
        · refine r_if_ne_t 43 rfl 51 (ck DX7_trim_0 23 rfl) (by decide) c17 ?_
          refine r_aload_n 44 rfl 1 rfl rfl (ck DX7_trim_0 24 rfl) ?_
          refine r_iload_n 45 rfl 3 rfl rfl (ck DX7_trim_0 25 rfl) ?_
          obtain ⟨g18, e19, hf⟩ := lt_so hf
          refine r_puti 48 rfl sh_96 kd_7_2 fw_X7_16 rfl rfl (ck DX7_trim_0 26 rfl) ?_
          refine r_heap e19 ?_
          refine r_goto 56 (ck DX7_trim_0 27 rfl) (by decide) ?_
          refine r_iload_n 57 rfl 0 rfl rfl (ck DX7_trim_0 31 rfl) ?_
          obtain ⟨rfl, rfl⟩ := so2 hf
          exact r_iret rfl rfl (ck DX7_trim_0 32 rfl)
        · refine r_if_ne_f 51 (ck DX7_trim_0 23 rfl) (by decide) c17 ?_
          refine r_aload_n 52 rfl 1 rfl rfl (ck DX7_trim_0 28 rfl) ?_
          refine r_iload_n 53 rfl 3 rfl rfl (ck DX7_trim_0 29 rfl) ?_
          obtain ⟨g20, e21, hf⟩ := lt_so hf
          refine r_puti 56 rfl sh_96 kd_7_3 fw_X7_19 rfl rfl (ck DX7_trim_0 30 rfl) ?_
          refine r_heap e21 ?_
          refine r_iload_n 57 rfl 0 rfl rfl (ck DX7_trim_0 31 rfl) ?_
          obtain ⟨rfl, rfl⟩ := so2 hf
          exact r_iret rfl rfl (ck DX7_trim_0 32 rfl)
-- X7_feed
def f_X7_feed (x1 : Int32) (h : HP) : Option (Int32 × HP) := bo (f_X7_in x1 0 127) fun v1 => if v1 = 0 then (some ((-2), h)) else (if (h.1 96 15) = 100 then (some ((-4), h)) else (gd (inb (h.1 96 15) 100) (lt (si h 104 (Int32.toNatClampNeg (h.1 96 15)) x1) fun g6 => lt (si g6 96 15 ((g6.1 96 15) + 1)) fun g8 => some ((g8.1 96 15), g8))))
set_option maxHeartbeats 4000000 in
set_option maxRecDepth 100000 in
theorem A_X7_feed (X : XE) (x1 : Int32) (h : HP) (r : Int32) (h' : HP) (hf : f_X7_feed x1 h = some (r, h')) : CC mX7_feed 2 X [.ref (X.1 96), .int x1] h (some (.int r)) h' := by
  refine CC_of rfl (Nat.le_of_ble_eq_true rfl) ?_
  show Run mX7_feed 2 X 0 [(0, .ref (X.1 96)), (1, .int x1)] [] h (some (.int r)) h'
  unfold f_X7_feed at hf
  refine r_aload_n 1 rfl 0 rfl rfl (ck DX7_feed_0 0 rfl) ?_
  refine r_iload_n 2 rfl 1 rfl rfl (ck DX7_feed_0 1 rfl) ?_
  refine r_iconst 3 rfl ic_0 (ck DX7_feed_0 2 rfl) ?_
  refine r_bipush 5 rfl bp_127 (ck DX7_feed_0 3 rfl) ?_
  obtain ⟨v1, e2, hf⟩ := bo_so hf
  refine r_callVi 8 rfl (A_X7_in X x1 0 127 h v1 e2) (by omega) cw_X7_276 sh_96 cl_7 rfl rfl (Nat.le_of_ble_eq_true rfl) (ck DX7_feed_0 4 rfl) ?_
  rcases if_so hf with ⟨c3, hf⟩ | ⟨c3, hf⟩
  · refine r_if_ne_t 11 rfl 14 (ck DX7_feed_0 5 rfl) (by decide) c3 ?_
    refine r_bipush 13 rfl bp_m2 (ck DX7_feed_0 6 rfl) ?_
    obtain ⟨rfl, rfl⟩ := so2 hf
    exact r_iret rfl rfl (ck DX7_feed_0 7 rfl)
  · refine r_if_ne_f 14 (ck DX7_feed_0 5 rfl) (by decide) c3 ?_
    refine r_aload_n 15 rfl 0 rfl rfl (ck DX7_feed_0 8 rfl) ?_
    refine r_geti 18 rfl sh_96 kd_7_15 fl_X7_56 (ck DX7_feed_0 9 rfl) ?_
    refine r_bipush 20 rfl bp_100 (ck DX7_feed_0 10 rfl) ?_
    rcases if_so hf with ⟨c4, hf⟩ | ⟨c4, hf⟩
    · refine r_icmp_ne_t 23 rfl 26 (ck DX7_feed_0 11 rfl) (by decide) c4 ?_
      refine r_bipush 25 rfl bp_m4 (ck DX7_feed_0 12 rfl) ?_
      obtain ⟨rfl, rfl⟩ := so2 hf
      exact r_iret rfl rfl (ck DX7_feed_0 13 rfl)
    · refine r_icmp_ne_f 26 (ck DX7_feed_0 11 rfl) (by decide) c4 ?_
      refine r_aload_n 27 rfl 0 rfl rfl (ck DX7_feed_0 14 rfl) ?_
      refine r_getr (q := 104) 30 rfl (lq_7_18) sh_96 kd_7_18 fl_X7_65 (ck DX7_feed_0 15 rfl) ?_
      refine r_aload_n 31 rfl 0 rfl rfl (ck DX7_feed_0 16 rfl) ?_
      refine r_geti 34 rfl sh_96 kd_7_15 fl_X7_56 (ck DX7_feed_0 17 rfl) ?_
      refine r_iload_n 35 rfl 1 rfl rfl (ck DX7_feed_0 18 rfl) ?_
      obtain ⟨b5, hf⟩ := gd_so hf
      obtain ⟨g6, e7, hf⟩ := lt_so hf
      refine r_iast 36 rfl sh_104 (inb_vp b5) (ck DX7_feed_0 19 rfl) ?_
      refine r_heap e7 ?_
      refine r_aload_n 37 rfl 0 rfl rfl (ck DX7_feed_0 20 rfl) ?_
      refine r_dup 38 rfl rfl (ck DX7_feed_0 21 rfl) ?_
      refine r_geti 41 rfl sh_96 kd_7_15 fl_X7_56 (ck DX7_feed_0 22 rfl) ?_
      refine r_iconst 42 rfl ic_1 (ck DX7_feed_0 23 rfl) ?_
      refine r_iadd 43 rfl (ck DX7_feed_0 24 rfl) ?_
      obtain ⟨g8, e9, hf⟩ := lt_so hf
      refine r_puti 46 rfl sh_96 kd_7_15 fw_X7_56 rfl rfl (ck DX7_feed_0 25 rfl) ?_
      refine r_heap e9 ?_
      refine r_aload_n 47 rfl 0 rfl rfl (ck DX7_feed_0 26 rfl) ?_
      refine r_geti 50 rfl sh_96 kd_7_15 fl_X7_56 (ck DX7_feed_0 27 rfl) ?_
      obtain ⟨rfl, rfl⟩ := so2 hf
      exact r_iret rfl rfl (ck DX7_feed_0 28 rfl)
-- X7_next
def f_X7_next (h : HP) : Option Int32 := if (h.1 96 15) ≤ (h.1 96 16) then (some (-1)) else (gd (inb (h.1 96 16) 100) (some (h.1 104 (Int32.toNatClampNeg (h.1 96 16)))))
set_option maxHeartbeats 4000000 in
set_option maxRecDepth 100000 in
theorem A_X7_next (X : XE) (h : HP) (r : Int32) (hf : f_X7_next h = some r) : CC mX7_next 1 X [.ref (X.1 96)] h (some (.int r)) h := by
  refine CC_of rfl (Nat.le_of_ble_eq_true rfl) ?_
  show Run mX7_next 1 X 0 [(0, .ref (X.1 96))] [] h (some (.int r)) h
  unfold f_X7_next at hf
  refine r_aload_n 1 rfl 0 rfl rfl (ck DX7_next_0 0 rfl) ?_
  refine r_geti 4 rfl sh_96 kd_7_16 fl_X7_59 (ck DX7_next_0 1 rfl) ?_
  refine r_aload_n 5 rfl 0 rfl rfl (ck DX7_next_0 2 rfl) ?_
  refine r_geti 8 rfl sh_96 kd_7_15 fl_X7_56 (ck DX7_next_0 3 rfl) ?_
  rcases if_so hf with ⟨c1, hf⟩ | ⟨c1, hf⟩
  · refine r_icmp_ge_t 23 (ck DX7_next_0 4 rfl) (by decide) c1 ?_
    refine r_iconst 24 rfl ic_m1 (ck DX7_next_0 11 rfl) ?_
    obtain rfl := so1 hf
    exact r_iret rfl rfl (ck DX7_next_0 12 rfl)
  · refine r_icmp_ge_f 11 rfl 23 (ck DX7_next_0 4 rfl) (by decide) c1 ?_
    refine r_aload_n 12 rfl 0 rfl rfl (ck DX7_next_0 5 rfl) ?_
    refine r_getr (q := 104) 15 rfl (lq_7_18) sh_96 kd_7_18 fl_X7_65 (ck DX7_next_0 6 rfl) ?_
    refine r_aload_n 16 rfl 0 rfl rfl (ck DX7_next_0 7 rfl) ?_
    refine r_geti 19 rfl sh_96 kd_7_16 fl_X7_59 (ck DX7_next_0 8 rfl) ?_
    obtain ⟨b2, hf⟩ := gd_so hf
    refine r_iald 20 rfl sh_104 (inb_vp b2) (ck DX7_next_0 9 rfl) ?_
    refine r_goto 24 (ck DX7_next_0 10 rfl) (by decide) ?_
    obtain rfl := so1 hf
    exact r_iret rfl rfl (ck DX7_next_0 12 rfl)
-- X7_second
def f_X7_second (h : HP) : Option Int32 := if (h.1 96 15) ≤ ((h.1 96 16) + 1) then (some (-1)) else (gd (inb ((h.1 96 16) + 1) 100) (some (h.1 104 (Int32.toNatClampNeg ((h.1 96 16) + 1)))))
set_option maxHeartbeats 4000000 in
set_option maxRecDepth 100000 in
theorem A_X7_second (X : XE) (h : HP) (r : Int32) (hf : f_X7_second h = some r) : CC mX7_second 1 X [.ref (X.1 96)] h (some (.int r)) h := by
  refine CC_of rfl (Nat.le_of_ble_eq_true rfl) ?_
  show Run mX7_second 1 X 0 [(0, .ref (X.1 96))] [] h (some (.int r)) h
  unfold f_X7_second at hf
  refine r_aload_n 1 rfl 0 rfl rfl (ck DX7_second_0 0 rfl) ?_
  refine r_geti 4 rfl sh_96 kd_7_16 fl_X7_59 (ck DX7_second_0 1 rfl) ?_
  refine r_iconst 5 rfl ic_1 (ck DX7_second_0 2 rfl) ?_
  refine r_iadd 6 rfl (ck DX7_second_0 3 rfl) ?_
  refine r_aload_n 7 rfl 0 rfl rfl (ck DX7_second_0 4 rfl) ?_
  refine r_geti 10 rfl sh_96 kd_7_15 fl_X7_56 (ck DX7_second_0 5 rfl) ?_
  rcases if_so hf with ⟨c1, hf⟩ | ⟨c1, hf⟩
  · refine r_icmp_ge_t 27 (ck DX7_second_0 6 rfl) (by decide) c1 ?_
    refine r_iconst 28 rfl ic_m1 (ck DX7_second_0 15 rfl) ?_
    obtain rfl := so1 hf
    exact r_iret rfl rfl (ck DX7_second_0 16 rfl)
  · refine r_icmp_ge_f 13 rfl 27 (ck DX7_second_0 6 rfl) (by decide) c1 ?_
    refine r_aload_n 14 rfl 0 rfl rfl (ck DX7_second_0 7 rfl) ?_
    refine r_getr (q := 104) 17 rfl (lq_7_18) sh_96 kd_7_18 fl_X7_65 (ck DX7_second_0 8 rfl) ?_
    refine r_aload_n 18 rfl 0 rfl rfl (ck DX7_second_0 9 rfl) ?_
    refine r_geti 21 rfl sh_96 kd_7_16 fl_X7_59 (ck DX7_second_0 10 rfl) ?_
    refine r_iconst 22 rfl ic_1 (ck DX7_second_0 11 rfl) ?_
    refine r_iadd 23 rfl (ck DX7_second_0 12 rfl) ?_
    obtain ⟨b2, hf⟩ := gd_so hf
    refine r_iald 24 rfl sh_104 (inb_vp b2) (ck DX7_second_0 13 rfl) ?_
    refine r_goto 28 (ck DX7_second_0 14 rfl) (by decide) ?_
    obtain rfl := so1 hf
    exact r_iret rfl rfl (ck DX7_second_0 16 rfl)
-- X7_takes
def f_X7_takes (x1 : Int32) (h : HP) : Option (Int32 × HP) := bo (f_X7_next h) fun v1 => if v1 = x1 then (lt (si h 96 16 ((h.1 96 16) + 1)) fun g4 => some (1, g4)) else (some (0, h))
set_option maxHeartbeats 4000000 in
set_option maxRecDepth 100000 in
theorem A_X7_takes (X : XE) (x1 : Int32) (h : HP) (r : Int32) (h' : HP) (hf : f_X7_takes x1 h = some (r, h')) : CC mX7_takes 2 X [.ref (X.1 96), .int x1] h (some (.int r)) h' := by
  refine CC_of rfl (Nat.le_of_ble_eq_true rfl) ?_
  show Run mX7_takes 2 X 0 [(0, .ref (X.1 96)), (1, .int x1)] [] h (some (.int r)) h'
  unfold f_X7_takes at hf
  refine r_aload_n 1 rfl 0 rfl rfl (ck DX7_takes_0 0 rfl) ?_
  obtain ⟨v1, e2, hf⟩ := bo_so hf
  refine r_callVi 4 rfl (A_X7_next X h v1 e2) (by omega) cw_X7_298 sh_96 cl_7 rfl rfl (Nat.le_of_ble_eq_true rfl) (ck DX7_takes_0 1 rfl) ?_
  refine r_iload_n 5 rfl 1 rfl rfl (ck DX7_takes_0 2 rfl) ?_
  rcases if_so hf with ⟨c3, hf⟩ | ⟨c3, hf⟩
  · refine r_icmp_eq_t 10 (ck DX7_takes_0 3 rfl) (by decide) c3 ?_
    refine r_aload_n 11 rfl 0 rfl rfl (ck DX7_takes_0 6 rfl) ?_
    refine r_dup 12 rfl rfl (ck DX7_takes_0 7 rfl) ?_
    refine r_geti 15 rfl sh_96 kd_7_16 fl_X7_59 (ck DX7_takes_0 8 rfl) ?_
    refine r_iconst 16 rfl ic_1 (ck DX7_takes_0 9 rfl) ?_
    refine r_iadd 17 rfl (ck DX7_takes_0 10 rfl) ?_
    obtain ⟨g4, e5, hf⟩ := lt_so hf
    refine r_puti 20 rfl sh_96 kd_7_16 fw_X7_59 rfl rfl (ck DX7_takes_0 11 rfl) ?_
    refine r_heap e5 ?_
    refine r_iconst 21 rfl ic_1 (ck DX7_takes_0 12 rfl) ?_
    obtain ⟨rfl, rfl⟩ := so2 hf
    exact r_iret rfl rfl (ck DX7_takes_0 13 rfl)
  · refine r_icmp_eq_f 8 rfl 10 (ck DX7_takes_0 3 rfl) (by decide) c3 ?_
    refine r_iconst 9 rfl ic_0 (ck DX7_takes_0 4 rfl) ?_
    obtain ⟨rfl, rfl⟩ := so2 hf
    exact r_iret rfl rfl (ck DX7_takes_0 5 rfl)
-- X7_takesWord
def f_X7_takesWord_L2 : Nat → Int32 → Int32 → Int32 → HP → Option (Int32 × HP)
  | 0, _, _, _, _ => none
  | n + 1, x1, x2, x3, h => if x2 ≤ x3 then (bd (f_X7_takes 32 h) fun v4 g2 => gd (zok v4) (some (v4, g2))) else (gd (inb (x1 + x3) 16) (bd (f_X7_takes (h.1 112 (Int32.toNatClampNeg (x1 + x3))) h) fun v9 g7 => if v9 = 0 then (some (0, g7)) else (lt (x3 + 1 : Int32) fun v11 => f_X7_takesWord_L2 n x1 x2 v11 g7)))
set_option maxHeartbeats 4000000 in
set_option maxRecDepth 100000 in
theorem A_X7_takesWord_L2 (X : XE) (r : Int32) (h' : HP) : ∀ (n : Nat) (x1 : Int32) (x2 : Int32) (x3 : Int32) (h : HP), f_X7_takesWord_L2 n x1 x2 x3 h = some (r, h') → Run mX7_takesWord 3 X 2 [(0, .ref (X.1 96)), (1, .int x1), (2, .int x2), (3, .int x3)] [] h (some (.int r)) h' := by
  intro n
  induction n with
  | zero => intro x1 x2 x3 h hf; cases hf
  | succ n ih =>
    intro x1 x2 x3 h hf
    rw [f_X7_takesWord_L2] at hf
    refine r_iload_n 3 rfl 3 rfl rfl (ck DX7_takesWord_0 2 rfl) ?_
    refine r_iload_n 4 rfl 2 rfl rfl (ck DX7_takesWord_0 3 rfl) ?_
    rcases if_so hf with ⟨c1, hf⟩ | ⟨c1, hf⟩
    · refine r_icmp_ge_t 30 (ck DX7_takesWord_0 4 rfl) (by decide) c1 ?_
      refine r_aload_n 31 rfl 0 rfl rfl (ck DX7_takesWord_0 18 rfl) ?_
      refine r_bipush 33 rfl bp_32 (ck DX7_takesWord_0 19 rfl) ?_
      obtain ⟨v4, g2, e3, hf⟩ := bd_so hf
      refine r_callVi 36 rfl (A_X7_takes X 32 h v4 g2 e3) (by omega) cw_X7_302 sh_96 cl_7 rfl rfl (Nat.le_of_ble_eq_true rfl) (ck DX7_takesWord_0 20 rfl) ?_
      obtain ⟨b5, hf⟩ := gd_so hf
      obtain ⟨rfl, rfl⟩ := so2 hf
      exact r_iret rfl (zok_nar b5) (ck DX7_takesWord_0 21 rfl)
    · refine r_icmp_ge_f 7 rfl 30 (ck DX7_takesWord_0 4 rfl) (by decide) c1 ?_
      refine r_aload_n 8 rfl 0 rfl rfl (ck DX7_takesWord_0 5 rfl) ?_
      refine r_aload_n 9 rfl 0 rfl rfl (ck DX7_takesWord_0 6 rfl) ?_
      refine r_getr (q := 112) 12 rfl (lq_7_29) sh_96 kd_7_29 fl_X7_98 (ck DX7_takesWord_0 7 rfl) ?_
      refine r_iload_n 13 rfl 1 rfl rfl (ck DX7_takesWord_0 8 rfl) ?_
      refine r_iload_n 14 rfl 3 rfl rfl (ck DX7_takesWord_0 9 rfl) ?_
      refine r_iadd 15 rfl (ck DX7_takesWord_0 10 rfl) ?_
      obtain ⟨b6, hf⟩ := gd_so hf
      refine r_iald 16 rfl sh_112 (inb_vp b6) (ck DX7_takesWord_0 11 rfl) ?_
      obtain ⟨v9, g7, e8, hf⟩ := bd_so hf
      refine r_callVi 19 rfl (A_X7_takes X (h.1 112 (Int32.toNatClampNeg (x1 + x3))) h v9 g7 e8) (by omega) cw_X7_302 sh_96 cl_7 rfl rfl (Nat.le_of_ble_eq_true rfl) (ck DX7_takesWord_0 12 rfl) ?_
      rcases if_so hf with ⟨c10, hf⟩ | ⟨c10, hf⟩
      · refine r_if_ne_t 22 rfl 24 (ck DX7_takesWord_0 13 rfl) (by decide) c10 ?_
        refine r_iconst 23 rfl ic_0 (ck DX7_takesWord_0 14 rfl) ?_
        obtain ⟨rfl, rfl⟩ := so2 hf
        exact r_iret rfl rfl (ck DX7_takesWord_0 15 rfl)
      · refine r_if_ne_f 24 (ck DX7_takesWord_0 13 rfl) (by decide) c10 ?_
        obtain ⟨v11, e12, hf⟩ := lt_so hf
        refine r_iinc (lv' := [(3, .int v11), (0, .ref (X.1 96)), (1, .int x1), (2, .int x2)]) 27 rfl 3 (ck DX7_takesWord_0 16 rfl) rfl (by rw [e12, ic_1]) (by decide) rfl ?_
        refine r_goto 2 (ck DX7_takesWord_0 17 rfl) (by decide) ?_
        refine r_sub (lv' := [(0, .ref (X.1 96)), (1, .int x1), (2, .int x2), (3, .int v11)]) [1, 2, 3, 0] rfl ?_
        exact ih x1 x2 v11 g7 hf
def f_X7_takesWord (x1 : Int32) (x2 : Int32) (h : HP) : Option (Int32 × HP) := f_X7_takesWord_L2 FZ x1 x2 0 h
set_option maxHeartbeats 4000000 in
set_option maxRecDepth 100000 in
theorem A_X7_takesWord (X : XE) (x1 : Int32) (x2 : Int32) (h : HP) (r : Int32) (h' : HP) (hf : f_X7_takesWord x1 x2 h = some (r, h')) : CC mX7_takesWord 3 X [.ref (X.1 96), .int x1, .int x2] h (some (.int r)) h' := by
  refine CC_of rfl (Nat.le_of_ble_eq_true rfl) ?_
  show Run mX7_takesWord 3 X 0 [(0, .ref (X.1 96)), (1, .int x1), (2, .int x2)] [] h (some (.int r)) h'
  unfold f_X7_takesWord at hf
  refine r_iconst 1 rfl ic_0 (ck DX7_takesWord_0 0 rfl) ?_
  refine r_istore_n (lv' := [(3, .int 0), (0, .ref (X.1 96)), (1, .int x1), (2, .int x2)]) 2 rfl (ck DX7_takesWord_0 1 rfl) (by decide) rfl rfl ?_
  refine r_sub (lv' := [(0, .ref (X.1 96)), (1, .int x1), (2, .int x2), (3, .int 0)]) [1, 2, 3, 0] rfl ?_
  exact A_X7_takesWord_L2 X _ _ FZ x1 x2 0 h hf
-- X7_isDigit
def f_X7_isDigit (h : HP) : Option Int32 := bo (f_X7_next h) fun v1 => bo (f_X7_in v1 48 57) fun v3 => gd (zok v3) (some v3)
set_option maxHeartbeats 4000000 in
set_option maxRecDepth 100000 in
theorem A_X7_isDigit (X : XE) (h : HP) (r : Int32) (hf : f_X7_isDigit h = some r) : CC mX7_isDigit 2 X [.ref (X.1 96)] h (some (.int r)) h := by
  refine CC_of rfl (Nat.le_of_ble_eq_true rfl) ?_
  show Run mX7_isDigit 2 X 0 [(0, .ref (X.1 96))] [] h (some (.int r)) h
  unfold f_X7_isDigit at hf
  refine r_aload_n 1 rfl 0 rfl rfl (ck DX7_isDigit_0 0 rfl) ?_
  refine r_aload_n 2 rfl 0 rfl rfl (ck DX7_isDigit_0 1 rfl) ?_
  obtain ⟨v1, e2, hf⟩ := bo_so hf
  refine r_callVi 5 rfl (A_X7_next X h v1 e2) (by omega) cw_X7_298 sh_96 cl_7 rfl rfl (Nat.le_of_ble_eq_true rfl) (ck DX7_isDigit_0 2 rfl) ?_
  refine r_bipush 7 rfl bp_48 (ck DX7_isDigit_0 3 rfl) ?_
  refine r_bipush 9 rfl bp_57 (ck DX7_isDigit_0 4 rfl) ?_
  obtain ⟨v3, e4, hf⟩ := bo_so hf
  refine r_callVi 12 rfl (A_X7_in X v1 48 57 h v3 e4) (by omega) cw_X7_276 sh_96 cl_7 rfl rfl (Nat.le_of_ble_eq_true rfl) (ck DX7_isDigit_0 5 rfl) ?_
  obtain ⟨b5, hf⟩ := gd_so hf
  obtain rfl := so1 hf
  exact r_iret rfl (zok_nar b5) (ck DX7_isDigit_0 6 rfl)
-- X7_takesNumber
def f_X7_takesNumber_L16 : Nat → Int32 → HP → Option (Int32 × HP)
  | 0, _, _ => none
  | n + 1, x1, h => if (2 : Int32) ≤ x1 then (some (1, h)) else (bo (f_X7_isDigit h) fun v7 => if v7 = 0 then (some (1, h)) else (bo (f_X7_next h) fun v10 => lt (si h 96 17 (((10 * (h.1 96 17)) + v10) - 48)) fun g12 => lt (si g12 96 16 ((g12.1 96 16) + 1)) fun g14 => lt (x1 + 1 : Int32) fun v16 => f_X7_takesNumber_L16 n v16 g14))
set_option maxHeartbeats 4000000 in
set_option maxRecDepth 100000 in
theorem A_X7_takesNumber_L16 (X : XE) (r : Int32) (h' : HP) : ∀ (n : Nat) (x1 : Int32) (h : HP), f_X7_takesNumber_L16 n x1 h = some (r, h') → Run mX7_takesNumber 3 X 16 [(0, .ref (X.1 96)), (1, .int x1)] [] h (some (.int r)) h' := by
  intro n
  induction n with
  | zero => intro x1 h hf; cases hf
  | succ n ih =>
    intro x1 h hf
    rw [f_X7_takesNumber_L16] at hf
    refine r_iload_n 17 rfl 1 rfl rfl (ck DX7_takesNumber_0 10 rfl) ?_
    refine r_iconst 18 rfl ic_2 (ck DX7_takesNumber_0 11 rfl) ?_
    rcases if_so hf with ⟨c6, hf⟩ | ⟨c6, hf⟩
    · refine r_icmp_ge_t 63 (ck DX7_takesNumber_0 12 rfl) (by decide) c6 ?_
      refine r_iconst 64 rfl ic_1 (ck DX7_takesNumber_0 35 rfl) ?_
      obtain ⟨rfl, rfl⟩ := so2 hf
      exact r_iret rfl rfl (ck DX7_takesNumber_0 36 rfl)
    · refine r_icmp_ge_f 21 rfl 63 (ck DX7_takesNumber_0 12 rfl) (by decide) c6 ?_
      refine r_aload_n 22 rfl 0 rfl rfl (ck DX7_takesNumber_0 13 rfl) ?_
      obtain ⟨v7, e8, hf⟩ := bo_so hf
      refine r_callVi 25 rfl (A_X7_isDigit X h v7 e8) (by omega) cw_X7_305 sh_96 cl_7 rfl rfl (Nat.le_of_ble_eq_true rfl) (ck DX7_takesNumber_0 14 rfl) ?_
      rcases if_so hf with ⟨c9, hf⟩ | ⟨c9, hf⟩
      · refine r_if_eq_t 63 (ck DX7_takesNumber_0 15 rfl) (by decide) c9 ?_
        refine r_iconst 64 rfl ic_1 (ck DX7_takesNumber_0 35 rfl) ?_
        obtain ⟨rfl, rfl⟩ := so2 hf
        exact r_iret rfl rfl (ck DX7_takesNumber_0 36 rfl)
      · refine r_if_eq_f 28 rfl 63 (ck DX7_takesNumber_0 15 rfl) (by decide) c9 ?_
        refine r_aload_n 29 rfl 0 rfl rfl (ck DX7_takesNumber_0 16 rfl) ?_
        refine r_bipush 31 rfl bp_10 (ck DX7_takesNumber_0 17 rfl) ?_
        refine r_aload_n 32 rfl 0 rfl rfl (ck DX7_takesNumber_0 18 rfl) ?_
        refine r_geti 35 rfl sh_96 kd_7_17 fl_X7_62 (ck DX7_takesNumber_0 19 rfl) ?_
        refine r_imul 36 rfl (ck DX7_takesNumber_0 20 rfl) ?_
        refine r_aload_n 37 rfl 0 rfl rfl (ck DX7_takesNumber_0 21 rfl) ?_
        obtain ⟨v10, e11, hf⟩ := bo_so hf
        refine r_callVi 40 rfl (A_X7_next X h v10 e11) (by omega) cw_X7_298 sh_96 cl_7 rfl rfl (Nat.le_of_ble_eq_true rfl) (ck DX7_takesNumber_0 22 rfl) ?_
        refine r_iadd 41 rfl (ck DX7_takesNumber_0 23 rfl) ?_
        refine r_bipush 43 rfl bp_48 (ck DX7_takesNumber_0 24 rfl) ?_
        refine r_isub 44 rfl (ck DX7_takesNumber_0 25 rfl) ?_
        obtain ⟨g12, e13, hf⟩ := lt_so hf
        refine r_puti 47 rfl sh_96 kd_7_17 fw_X7_62 rfl rfl (ck DX7_takesNumber_0 26 rfl) ?_
        refine r_heap e13 ?_
        refine r_aload_n 48 rfl 0 rfl rfl (ck DX7_takesNumber_0 27 rfl) ?_
        refine r_dup 49 rfl rfl (ck DX7_takesNumber_0 28 rfl) ?_
        refine r_geti 52 rfl sh_96 kd_7_16 fl_X7_59 (ck DX7_takesNumber_0 29 rfl) ?_
        refine r_iconst 53 rfl ic_1 (ck DX7_takesNumber_0 30 rfl) ?_
        refine r_iadd 54 rfl (ck DX7_takesNumber_0 31 rfl) ?_
        obtain ⟨g14, e15, hf⟩ := lt_so hf
        refine r_puti 57 rfl sh_96 kd_7_16 fw_X7_59 rfl rfl (ck DX7_takesNumber_0 32 rfl) ?_
        refine r_heap e15 ?_
        obtain ⟨v16, e17, hf⟩ := lt_so hf
        refine r_iinc (lv' := [(1, .int v16), (0, .ref (X.1 96))]) 60 rfl 1 (ck DX7_takesNumber_0 33 rfl) rfl (by rw [e17, ic_1]) (by decide) rfl ?_
        refine r_goto 16 (ck DX7_takesNumber_0 34 rfl) (by decide) ?_
        refine r_sub (lv' := [(0, .ref (X.1 96)), (1, .int v16)]) [1, 0] rfl ?_
        exact ih v16 g14 hf
def f_X7_takesNumber (h : HP) : Option (Int32 × HP) := bo (f_X7_isDigit h) fun v1 => if v1 = 0 then (some (0, h)) else (lt (si h 96 17 0) fun g4 => f_X7_takesNumber_L16 FZ 0 g4)
set_option maxHeartbeats 4000000 in
set_option maxRecDepth 100000 in
theorem A_X7_takesNumber (X : XE) (h : HP) (r : Int32) (h' : HP) (hf : f_X7_takesNumber h = some (r, h')) : CC mX7_takesNumber 3 X [.ref (X.1 96)] h (some (.int r)) h' := by
  refine CC_of rfl (Nat.le_of_ble_eq_true rfl) ?_
  show Run mX7_takesNumber 3 X 0 [(0, .ref (X.1 96))] [] h (some (.int r)) h'
  unfold f_X7_takesNumber at hf
  refine r_aload_n 1 rfl 0 rfl rfl (ck DX7_takesNumber_0 0 rfl) ?_
  obtain ⟨v1, e2, hf⟩ := bo_so hf
  refine r_callVi 4 rfl (A_X7_isDigit X h v1 e2) (by omega) cw_X7_305 sh_96 cl_7 rfl rfl (Nat.le_of_ble_eq_true rfl) (ck DX7_takesNumber_0 1 rfl) ?_
  rcases if_so hf with ⟨c3, hf⟩ | ⟨c3, hf⟩
  · refine r_if_ne_t 7 rfl 9 (ck DX7_takesNumber_0 2 rfl) (by decide) c3 ?_
    refine r_iconst 8 rfl ic_0 (ck DX7_takesNumber_0 3 rfl) ?_
    obtain ⟨rfl, rfl⟩ := so2 hf
    exact r_iret rfl rfl (ck DX7_takesNumber_0 4 rfl)
  · refine r_if_ne_f 9 (ck DX7_takesNumber_0 2 rfl) (by decide) c3 ?_
    refine r_aload_n 10 rfl 0 rfl rfl (ck DX7_takesNumber_0 5 rfl) ?_
    refine r_iconst 11 rfl ic_0 (ck DX7_takesNumber_0 6 rfl) ?_
    obtain ⟨g4, e5, hf⟩ := lt_so hf
    refine r_puti 14 rfl sh_96 kd_7_17 fw_X7_62 rfl rfl (ck DX7_takesNumber_0 7 rfl) ?_
    refine r_heap e5 ?_
    refine r_iconst 15 rfl ic_0 (ck DX7_takesNumber_0 8 rfl) ?_
    refine r_istore_n (lv' := [(1, .int 0), (0, .ref (X.1 96))]) 16 rfl (ck DX7_takesNumber_0 9 rfl) (by decide) rfl rfl ?_
    refine r_sub (lv' := [(0, .ref (X.1 96)), (1, .int 0)]) [1, 0] rfl ?_
    exact A_X7_takesNumber_L16 X _ _ FZ 0 g4 hf
-- X7_emits
def f_X7_emits (x1 : Int32) (h : HP) : Option HP := gd (inb (h.1 96 26) 600) (lt (si h 110 (Int32.toNatClampNeg (h.1 96 26)) x1) fun g2 => lt (si g2 96 26 ((g2.1 96 26) + 1)) fun g4 => some g4)
set_option maxHeartbeats 4000000 in
set_option maxRecDepth 100000 in
theorem A_X7_emits (X : XE) (x1 : Int32) (h : HP) (h' : HP) (hf : f_X7_emits x1 h = some h') : CC mX7_emits 1 X [.ref (X.1 96), .int x1] h none h' := by
  refine CC_of rfl (Nat.le_of_ble_eq_true rfl) ?_
  show Run mX7_emits 1 X 0 [(0, .ref (X.1 96)), (1, .int x1)] [] h none h'
  unfold f_X7_emits at hf
  refine r_aload_n 1 rfl 0 rfl rfl (ck DX7_emits_0 0 rfl) ?_
  refine r_getr (q := 110) 4 rfl (lq_7_24) sh_96 kd_7_24 fl_X7_83 (ck DX7_emits_0 1 rfl) ?_
  refine r_aload_n 5 rfl 0 rfl rfl (ck DX7_emits_0 2 rfl) ?_
  refine r_geti 8 rfl sh_96 kd_7_26 fl_X7_89 (ck DX7_emits_0 3 rfl) ?_
  refine r_iload_n 9 rfl 1 rfl rfl (ck DX7_emits_0 4 rfl) ?_
  obtain ⟨b1, hf⟩ := gd_so hf
  obtain ⟨g2, e3, hf⟩ := lt_so hf
  refine r_iast 10 rfl sh_110 (inb_vp b1) (ck DX7_emits_0 5 rfl) ?_
  refine r_heap e3 ?_
  refine r_aload_n 11 rfl 0 rfl rfl (ck DX7_emits_0 6 rfl) ?_
  refine r_dup 12 rfl rfl (ck DX7_emits_0 7 rfl) ?_
  refine r_geti 15 rfl sh_96 kd_7_26 fl_X7_89 (ck DX7_emits_0 8 rfl) ?_
  refine r_iconst 16 rfl ic_1 (ck DX7_emits_0 9 rfl) ?_
  refine r_iadd 17 rfl (ck DX7_emits_0 10 rfl) ?_
  obtain ⟨g4, e5, hf⟩ := lt_so hf
  refine r_puti 20 rfl sh_96 kd_7_26 fw_X7_89 rfl rfl (ck DX7_emits_0 11 rfl) ?_
  refine r_heap e5 ?_
  obtain rfl := so1 hf
  exact r_vret rfl (ck DX7_emits_0 12 rfl)
-- X7_whole
def f_X7_whole_L0 : Nat → HP → Option HP
  | 0, _ => none
  | n + 1, h => if (h.1 96 27) ≤ 0 then (some h) else (gd (inb ((h.1 96 27) - 1) 101) (if (h.1 111 (Int32.toNatClampNeg ((h.1 96 27) - 1))) = 33 then (bo (f_X7_emits (-33) h) fun g4 => lt (si g4 96 27 ((g4.1 96 27) - 1)) fun g6 => lt (si g6 96 28 ((g6.1 96 28) - 1)) fun g8 => f_X7_whole_L0 n g8) else (some h)))
set_option maxHeartbeats 4000000 in
set_option maxRecDepth 100000 in
theorem A_X7_whole_L0 (X : XE) (h' : HP) : ∀ (n : Nat) (h : HP), f_X7_whole_L0 n h = some h' → Run mX7_whole 2 X 0 [(0, .ref (X.1 96))] [] h none h' := by
  intro n
  induction n with
  | zero => intro h hf; cases hf
  | succ n ih =>
    intro h hf
    rw [f_X7_whole_L0] at hf
    refine r_aload_n 1 rfl 0 rfl rfl (ck DX7_whole_0 0 rfl) ?_
    refine r_geti 4 rfl sh_96 kd_7_27 fl_X7_92 (ck DX7_whole_0 1 rfl) ?_
    rcases if_so hf with ⟨c1, hf⟩ | ⟨c1, hf⟩
    · refine r_if_le_t 52 (ck DX7_whole_0 2 rfl) (by decide) c1 ?_
      obtain rfl := so1 hf
      exact r_vret rfl (ck DX7_whole_0 28 rfl)
    · refine r_if_le_f 7 rfl 52 (ck DX7_whole_0 2 rfl) (by decide) c1 ?_
      refine r_aload_n 8 rfl 0 rfl rfl (ck DX7_whole_0 3 rfl) ?_
      refine r_getr (q := 111) 11 rfl (lq_7_25) sh_96 kd_7_25 fl_X7_86 (ck DX7_whole_0 4 rfl) ?_
      refine r_aload_n 12 rfl 0 rfl rfl (ck DX7_whole_0 5 rfl) ?_
      refine r_geti 15 rfl sh_96 kd_7_27 fl_X7_92 (ck DX7_whole_0 6 rfl) ?_
      refine r_iconst 16 rfl ic_1 (ck DX7_whole_0 7 rfl) ?_
      refine r_isub 17 rfl (ck DX7_whole_0 8 rfl) ?_
      obtain ⟨b2, hf⟩ := gd_so hf
      refine r_iald 18 rfl sh_111 (inb_vp b2) (ck DX7_whole_0 9 rfl) ?_
      refine r_bipush 20 rfl bp_33 (ck DX7_whole_0 10 rfl) ?_
      rcases if_so hf with ⟨c3, hf⟩ | ⟨c3, hf⟩
      · refine r_icmp_ne_t 23 rfl 52 (ck DX7_whole_0 11 rfl) (by decide) c3 ?_
        refine r_aload_n 24 rfl 0 rfl rfl (ck DX7_whole_0 12 rfl) ?_
        refine r_bipush 26 rfl bp_m33 (ck DX7_whole_0 13 rfl) ?_
        obtain ⟨g4, e5, hf⟩ := bo_so hf
        refine r_callVv 29 rfl (A_X7_emits X (-33) h g4 e5) (by omega) cw_X7_309 sh_96 cl_7 rfl rfl (Nat.le_of_ble_eq_true rfl) (ck DX7_whole_0 14 rfl) ?_
        refine r_aload_n 30 rfl 0 rfl rfl (ck DX7_whole_0 15 rfl) ?_
        refine r_dup 31 rfl rfl (ck DX7_whole_0 16 rfl) ?_
        refine r_geti 34 rfl sh_96 kd_7_27 fl_X7_92 (ck DX7_whole_0 17 rfl) ?_
        refine r_iconst 35 rfl ic_1 (ck DX7_whole_0 18 rfl) ?_
        refine r_isub 36 rfl (ck DX7_whole_0 19 rfl) ?_
        obtain ⟨g6, e7, hf⟩ := lt_so hf
        refine r_puti 39 rfl sh_96 kd_7_27 fw_X7_92 rfl rfl (ck DX7_whole_0 20 rfl) ?_
        refine r_heap e7 ?_
        refine r_aload_n 40 rfl 0 rfl rfl (ck DX7_whole_0 21 rfl) ?_
        refine r_dup 41 rfl rfl (ck DX7_whole_0 22 rfl) ?_
        refine r_geti 44 rfl sh_96 kd_7_28 fl_X7_95 (ck DX7_whole_0 23 rfl) ?_
        refine r_iconst 45 rfl ic_1 (ck DX7_whole_0 24 rfl) ?_
        refine r_isub 46 rfl (ck DX7_whole_0 25 rfl) ?_
        obtain ⟨g8, e9, hf⟩ := lt_so hf
        refine r_puti 49 rfl sh_96 kd_7_28 fw_X7_95 rfl rfl (ck DX7_whole_0 26 rfl) ?_
        refine r_heap e9 ?_
        refine r_goto 0 (ck DX7_whole_0 27 rfl) (by decide) ?_
        refine r_sub (lv' := [(0, .ref (X.1 96))]) [0] rfl ?_
        exact ih g8 hf
      · refine r_icmp_ne_f 52 (ck DX7_whole_0 11 rfl) (by decide) c3 ?_
        obtain rfl := so1 hf
        exact r_vret rfl (ck DX7_whole_0 28 rfl)
def f_X7_whole (h : HP) : Option HP := f_X7_whole_L0 FZ h
set_option maxHeartbeats 4000000 in
set_option maxRecDepth 100000 in
theorem A_X7_whole (X : XE) (h : HP) (h' : HP) (hf : f_X7_whole h = some h') : CC mX7_whole 2 X [.ref (X.1 96)] h none h' := by
  refine CC_of rfl (Nat.le_of_ble_eq_true rfl) ?_
  show Run mX7_whole 2 X 0 [(0, .ref (X.1 96))] [] h none h'
  unfold f_X7_whole at hf
  refine r_sub (lv' := [(0, .ref (X.1 96))]) [0] rfl ?_
  exact A_X7_whole_L0 X _ FZ h hf
-- X7_settle
def f_X7_settle_J45 (rc0 : Int32 → HP → Option HP) (x1 : Int32) (h : HP) : Option HP := lt (si h 96 27 ((h.1 96 27) - 1)) fun g4 => gd (inb (g4.1 96 27) 101) (bo (f_X7_emits (-(g4.1 111 (Int32.toNatClampNeg (g4.1 96 27)))) g4) fun g7 => rc0 x1 g7)
set_option maxHeartbeats 4000000 in
set_option maxRecDepth 100000 in
theorem A_X7_settle_J45 (X : XE) (rc0 : Int32 → HP → Option HP) (h' : HP) (hr0 : ∀ (x1 : Int32) (h : HP), rc0 x1 h = some h' → Run mX7_settle 2 X 0 [(0, .ref (X.1 96)), (1, .int x1)] [] h none h') (x1 : Int32) (h : HP) (hf : f_X7_settle_J45 rc0 x1 h = some h') : Run mX7_settle 2 X 45 [(0, .ref (X.1 96)), (1, .int x1)] [] h none h' := by
  unfold f_X7_settle_J45 at hf
  refine r_aload_n 46 rfl 0 rfl rfl (ck DX7_settle_0 24 rfl) ?_
  refine r_dup 47 rfl rfl (ck DX7_settle_0 25 rfl) ?_
  refine r_geti 50 rfl sh_96 kd_7_27 fl_X7_92 (ck DX7_settle_0 26 rfl) ?_
  refine r_iconst 51 rfl ic_1 (ck DX7_settle_0 27 rfl) ?_
  refine r_isub 52 rfl (ck DX7_settle_0 28 rfl) ?_
  obtain ⟨g4, e5, hf⟩ := lt_so hf
  refine r_puti 55 rfl sh_96 kd_7_27 fw_X7_92 rfl rfl (ck DX7_settle_0 29 rfl) ?_
  refine r_heap e5 ?_
  refine r_aload_n 56 rfl 0 rfl rfl (ck DX7_settle_0 30 rfl) ?_
  refine r_aload_n 57 rfl 0 rfl rfl (ck DX7_settle_0 31 rfl) ?_
  refine r_getr (q := 111) 60 rfl (lq_7_25) sh_96 kd_7_25 fl_X7_86 (ck DX7_settle_0 32 rfl) ?_
  refine r_aload_n 61 rfl 0 rfl rfl (ck DX7_settle_0 33 rfl) ?_
  refine r_geti 64 rfl sh_96 kd_7_27 fl_X7_92 (ck DX7_settle_0 34 rfl) ?_
  obtain ⟨b6, hf⟩ := gd_so hf
  refine r_iald 65 rfl sh_111 (inb_vp b6) (ck DX7_settle_0 35 rfl) ?_
  refine r_ineg 66 rfl (ck DX7_settle_0 36 rfl) ?_
  obtain ⟨g7, e8, hf⟩ := bo_so hf
  refine r_callVv 69 rfl (A_X7_emits X (-(g4.1 111 (Int32.toNatClampNeg (g4.1 96 27)))) g4 g7 e8) (by omega) cw_X7_309 sh_96 cl_7 rfl rfl (Nat.le_of_ble_eq_true rfl) (ck DX7_settle_0 37 rfl) ?_
  refine r_goto 0 (ck DX7_settle_0 38 rfl) (by decide) ?_
  refine r_sub (lv' := [(0, .ref (X.1 96)), (1, .int x1)]) [0, 1] rfl ?_
  exact hr0 x1 g7 hf
def f_X7_settle_L0 : Nat → Int32 → HP → Option HP
  | 0, _, _ => none
  | n + 1, x1, h => if (h.1 96 27) ≤ 0 then (some h) else (gd (inb ((h.1 96 27) - 1) 101) (if (h.1 111 (Int32.toNatClampNeg ((h.1 96 27) - 1))) = 38 then (f_X7_settle_J45 (fun z0 z1 => f_X7_settle_L0 n z0 z1) x1 h) else (gd (inb ((h.1 96 27) - 1) 101) (if (h.1 111 (Int32.toNatClampNeg ((h.1 96 27) - 1))) = 124 then (if x1 = 38 then (some h) else (f_X7_settle_J45 (fun z0 z1 => f_X7_settle_L0 n z0 z1) x1 h)) else (some h)))))
set_option maxHeartbeats 4000000 in
set_option maxRecDepth 100000 in
theorem A_X7_settle_L0 (X : XE) (h' : HP) : ∀ (n : Nat) (x1 : Int32) (h : HP), f_X7_settle_L0 n x1 h = some h' → Run mX7_settle 2 X 0 [(0, .ref (X.1 96)), (1, .int x1)] [] h none h' := by
  intro n
  induction n with
  | zero => intro x1 h hf; cases hf
  | succ n ih =>
    intro x1 h hf
    rw [f_X7_settle_L0] at hf
    refine r_aload_n 1 rfl 0 rfl rfl (ck DX7_settle_0 0 rfl) ?_
    refine r_geti 4 rfl sh_96 kd_7_27 fl_X7_92 (ck DX7_settle_0 1 rfl) ?_
    rcases if_so hf with ⟨c1, hf⟩ | ⟨c1, hf⟩
    · refine r_if_le_t 72 (ck DX7_settle_0 2 rfl) (by decide) c1 ?_
      obtain rfl := so1 hf
      exact r_vret rfl (ck DX7_settle_0 39 rfl)
    · refine r_if_le_f 7 rfl 72 (ck DX7_settle_0 2 rfl) (by decide) c1 ?_
      refine r_aload_n 8 rfl 0 rfl rfl (ck DX7_settle_0 3 rfl) ?_
      refine r_getr (q := 111) 11 rfl (lq_7_25) sh_96 kd_7_25 fl_X7_86 (ck DX7_settle_0 4 rfl) ?_
      refine r_aload_n 12 rfl 0 rfl rfl (ck DX7_settle_0 5 rfl) ?_
      refine r_geti 15 rfl sh_96 kd_7_27 fl_X7_92 (ck DX7_settle_0 6 rfl) ?_
      refine r_iconst 16 rfl ic_1 (ck DX7_settle_0 7 rfl) ?_
      refine r_isub 17 rfl (ck DX7_settle_0 8 rfl) ?_
      obtain ⟨b2, hf⟩ := gd_so hf
      refine r_iald 18 rfl sh_111 (inb_vp b2) (ck DX7_settle_0 9 rfl) ?_
      refine r_bipush 20 rfl bp_38 (ck DX7_settle_0 10 rfl) ?_
      rcases if_so hf with ⟨c3, hf⟩ | ⟨c3, hf⟩
      · refine r_icmp_eq_t 45 (ck DX7_settle_0 11 rfl) (by decide) c3 ?_
        refine r_sub (lv' := [(0, .ref (X.1 96)), (1, .int x1)]) [0, 1] rfl ?_
        exact A_X7_settle_J45 X (fun z0 z1 => f_X7_settle_L0 n z0 z1) _ ih x1 h hf
      · refine r_icmp_eq_f 23 rfl 45 (ck DX7_settle_0 11 rfl) (by decide) c3 ?_
        refine r_aload_n 24 rfl 0 rfl rfl (ck DX7_settle_0 12 rfl) ?_
        refine r_getr (q := 111) 27 rfl (lq_7_25) sh_96 kd_7_25 fl_X7_86 (ck DX7_settle_0 13 rfl) ?_
        refine r_aload_n 28 rfl 0 rfl rfl (ck DX7_settle_0 14 rfl) ?_
        refine r_geti 31 rfl sh_96 kd_7_27 fl_X7_92 (ck DX7_settle_0 15 rfl) ?_
        refine r_iconst 32 rfl ic_1 (ck DX7_settle_0 16 rfl) ?_
        refine r_isub 33 rfl (ck DX7_settle_0 17 rfl) ?_
        obtain ⟨b9, hf⟩ := gd_so hf
        refine r_iald 34 rfl sh_111 (inb_vp b9) (ck DX7_settle_0 18 rfl) ?_
        refine r_bipush 36 rfl bp_124 (ck DX7_settle_0 19 rfl) ?_
        rcases if_so hf with ⟨c10, hf⟩ | ⟨c10, hf⟩
        · refine r_icmp_ne_t 39 rfl 72 (ck DX7_settle_0 20 rfl) (by decide) c10 ?_
          refine r_iload_n 40 rfl 1 rfl rfl (ck DX7_settle_0 21 rfl) ?_
          refine r_bipush 42 rfl bp_38 (ck DX7_settle_0 22 rfl) ?_
          rcases if_so hf with ⟨c11, hf⟩ | ⟨c11, hf⟩
          · refine r_icmp_eq_t 72 (ck DX7_settle_0 23 rfl) (by decide) c11 ?_
            obtain rfl := so1 hf
            exact r_vret rfl (ck DX7_settle_0 39 rfl)
          · refine r_icmp_eq_f 45 rfl 72 (ck DX7_settle_0 23 rfl) (by decide) c11 ?_
            refine r_sub (lv' := [(0, .ref (X.1 96)), (1, .int x1)]) [0, 1] rfl ?_
            exact A_X7_settle_J45 X (fun z0 z1 => f_X7_settle_L0 n z0 z1) _ ih x1 h hf
        · refine r_icmp_ne_f 72 (ck DX7_settle_0 20 rfl) (by decide) c10 ?_
          obtain rfl := so1 hf
          exact r_vret rfl (ck DX7_settle_0 39 rfl)
def f_X7_settle (x1 : Int32) (h : HP) : Option HP := f_X7_settle_L0 FZ x1 h
set_option maxHeartbeats 4000000 in
set_option maxRecDepth 100000 in
theorem A_X7_settle (X : XE) (x1 : Int32) (h : HP) (h' : HP) (hf : f_X7_settle x1 h = some h') : CC mX7_settle 2 X [.ref (X.1 96), .int x1] h none h' := by
  refine CC_of rfl (Nat.le_of_ble_eq_true rfl) ?_
  show Run mX7_settle 2 X 0 [(0, .ref (X.1 96)), (1, .int x1)] [] h none h'
  unfold f_X7_settle at hf
  refine r_sub (lv' := [(0, .ref (X.1 96)), (1, .int x1)]) [0, 1] rfl ?_
  exact A_X7_settle_L0 X _ FZ x1 h hf
-- X7_place
def f_X7_place (x1 : Int32) : Option Int32 := if x1 = 100 then (some 5) else (if x1 = 101 then (some (-1)) else (if x1 = 102 then (some (-1)) else (if x1 = 103 then (some (-1)) else (if x1 = 104 then (some (-1)) else (if x1 = 105 then (some (-1)) else (if x1 = 106 then (some (-1)) else (if x1 = 107 then (some 1) else (if x1 = 108 then (some 3) else (if x1 = 109 then (some (-1)) else (if x1 = 110 then (some (-1)) else (if x1 = 111 then (some (-1)) else (if x1 = 112 then (some 0) else (if x1 = 113 then (some (-1)) else (if x1 = 114 then (some (-1)) else (if x1 = 115 then (some (-1)) else (if x1 = 116 then (some (-1)) else (if x1 = 117 then (some (-1)) else (if x1 = 118 then (some 2) else (if x1 = 119 then (some 4) else ((some (-1))))))))))))))))))))))
set_option maxHeartbeats 4000000 in
set_option maxRecDepth 100000 in
theorem A_X7_place (X : XE) (x1 : Int32) (h : HP) (r : Int32) (hf : f_X7_place x1 = some r) : CC mX7_place 1 X [.ref (X.1 96), .int x1] h (some (.int r)) h := by
  refine CC_of rfl (Nat.le_of_ble_eq_true rfl) ?_
  show Run mX7_place 1 X 0 [(0, .ref (X.1 96)), (1, .int x1)] [] h (some (.int r)) h
  unfold f_X7_place at hf
  refine r_iload_n 1 rfl 1 rfl rfl (ck DX7_place_0 0 rfl) ?_
  rcases if_so hf with ⟨c1, hf⟩ | ⟨c1, hf⟩
  · refine r_tsw_in (v := 100) 106 (ck DX7_place_0 1 rfl) c1 (by decide) (by decide) rfl (by decide) ?_
    refine r_iconst 107 rfl ic_5 (ck DX7_place_0 12 rfl) ?_
    obtain rfl := so1 hf
    exact r_iret rfl rfl (ck DX7_place_0 13 rfl)
  · skip
    rcases if_so hf with ⟨c2, hf⟩ | ⟨c2, hf⟩
    · refine r_tsw_in (v := 101) 108 (ck DX7_place_0 1 rfl) c2 (by decide) (by decide) rfl (by decide) ?_
      refine r_iconst 109 rfl ic_m1 (ck DX7_place_0 14 rfl) ?_
      obtain rfl := so1 hf
      exact r_iret rfl rfl (ck DX7_place_0 15 rfl)
    · skip
      rcases if_so hf with ⟨c3, hf⟩ | ⟨c3, hf⟩
      · refine r_tsw_in (v := 102) 108 (ck DX7_place_0 1 rfl) c3 (by decide) (by decide) rfl (by decide) ?_
        refine r_iconst 109 rfl ic_m1 (ck DX7_place_0 14 rfl) ?_
        obtain rfl := so1 hf
        exact r_iret rfl rfl (ck DX7_place_0 15 rfl)
      · skip
        rcases if_so hf with ⟨c4, hf⟩ | ⟨c4, hf⟩
        · refine r_tsw_in (v := 103) 108 (ck DX7_place_0 1 rfl) c4 (by decide) (by decide) rfl (by decide) ?_
          refine r_iconst 109 rfl ic_m1 (ck DX7_place_0 14 rfl) ?_
          obtain rfl := so1 hf
          exact r_iret rfl rfl (ck DX7_place_0 15 rfl)
        · skip
          rcases if_so hf with ⟨c5, hf⟩ | ⟨c5, hf⟩
          · refine r_tsw_in (v := 104) 108 (ck DX7_place_0 1 rfl) c5 (by decide) (by decide) rfl (by decide) ?_
            refine r_iconst 109 rfl ic_m1 (ck DX7_place_0 14 rfl) ?_
            obtain rfl := so1 hf
            exact r_iret rfl rfl (ck DX7_place_0 15 rfl)
          · skip
            rcases if_so hf with ⟨c6, hf⟩ | ⟨c6, hf⟩
            · refine r_tsw_in (v := 105) 108 (ck DX7_place_0 1 rfl) c6 (by decide) (by decide) rfl (by decide) ?_
              refine r_iconst 109 rfl ic_m1 (ck DX7_place_0 14 rfl) ?_
              obtain rfl := so1 hf
              exact r_iret rfl rfl (ck DX7_place_0 15 rfl)
            · skip
              rcases if_so hf with ⟨c7, hf⟩ | ⟨c7, hf⟩
              · refine r_tsw_in (v := 106) 108 (ck DX7_place_0 1 rfl) c7 (by decide) (by decide) rfl (by decide) ?_
                refine r_iconst 109 rfl ic_m1 (ck DX7_place_0 14 rfl) ?_
                obtain rfl := so1 hf
                exact r_iret rfl rfl (ck DX7_place_0 15 rfl)
              · skip
                rcases if_so hf with ⟨c8, hf⟩ | ⟨c8, hf⟩
                · refine r_tsw_in (v := 107) 98 (ck DX7_place_0 1 rfl) c8 (by decide) (by decide) rfl (by decide) ?_
                  refine r_iconst 99 rfl ic_1 (ck DX7_place_0 4 rfl) ?_
                  obtain rfl := so1 hf
                  exact r_iret rfl rfl (ck DX7_place_0 5 rfl)
                · skip
                  rcases if_so hf with ⟨c9, hf⟩ | ⟨c9, hf⟩
                  · refine r_tsw_in (v := 108) 102 (ck DX7_place_0 1 rfl) c9 (by decide) (by decide) rfl (by decide) ?_
                    refine r_iconst 103 rfl ic_3 (ck DX7_place_0 8 rfl) ?_
                    obtain rfl := so1 hf
                    exact r_iret rfl rfl (ck DX7_place_0 9 rfl)
                  · skip
                    rcases if_so hf with ⟨c10, hf⟩ | ⟨c10, hf⟩
                    · refine r_tsw_in (v := 109) 108 (ck DX7_place_0 1 rfl) c10 (by decide) (by decide) rfl (by decide) ?_
                      refine r_iconst 109 rfl ic_m1 (ck DX7_place_0 14 rfl) ?_
                      obtain rfl := so1 hf
                      exact r_iret rfl rfl (ck DX7_place_0 15 rfl)
                    · skip
                      rcases if_so hf with ⟨c11, hf⟩ | ⟨c11, hf⟩
                      · refine r_tsw_in (v := 110) 108 (ck DX7_place_0 1 rfl) c11 (by decide) (by decide) rfl (by decide) ?_
                        refine r_iconst 109 rfl ic_m1 (ck DX7_place_0 14 rfl) ?_
                        obtain rfl := so1 hf
                        exact r_iret rfl rfl (ck DX7_place_0 15 rfl)
                      · skip
                        rcases if_so hf with ⟨c12, hf⟩ | ⟨c12, hf⟩
                        · refine r_tsw_in (v := 111) 108 (ck DX7_place_0 1 rfl) c12 (by decide) (by decide) rfl (by decide) ?_
                          refine r_iconst 109 rfl ic_m1 (ck DX7_place_0 14 rfl) ?_
                          obtain rfl := so1 hf
                          exact r_iret rfl rfl (ck DX7_place_0 15 rfl)
                        · skip
                          rcases if_so hf with ⟨c13, hf⟩ | ⟨c13, hf⟩
                          · refine r_tsw_in (v := 112) 96 (ck DX7_place_0 1 rfl) c13 (by decide) (by decide) rfl (by decide) ?_
                            refine r_iconst 97 rfl ic_0 (ck DX7_place_0 2 rfl) ?_
                            obtain rfl := so1 hf
                            exact r_iret rfl rfl (ck DX7_place_0 3 rfl)
                          · skip
                            rcases if_so hf with ⟨c14, hf⟩ | ⟨c14, hf⟩
                            · refine r_tsw_in (v := 113) 108 (ck DX7_place_0 1 rfl) c14 (by decide) (by decide) rfl (by decide) ?_
                              refine r_iconst 109 rfl ic_m1 (ck DX7_place_0 14 rfl) ?_
                              obtain rfl := so1 hf
                              exact r_iret rfl rfl (ck DX7_place_0 15 rfl)
                            · skip
                              rcases if_so hf with ⟨c15, hf⟩ | ⟨c15, hf⟩
                              · refine r_tsw_in (v := 114) 108 (ck DX7_place_0 1 rfl) c15 (by decide) (by decide) rfl (by decide) ?_
                                refine r_iconst 109 rfl ic_m1 (ck DX7_place_0 14 rfl) ?_
                                obtain rfl := so1 hf
                                exact r_iret rfl rfl (ck DX7_place_0 15 rfl)
                              · skip
                                rcases if_so hf with ⟨c16, hf⟩ | ⟨c16, hf⟩
                                · refine r_tsw_in (v := 115) 108 (ck DX7_place_0 1 rfl) c16 (by decide) (by decide) rfl (by decide) ?_
                                  refine r_iconst 109 rfl ic_m1 (ck DX7_place_0 14 rfl) ?_
                                  obtain rfl := so1 hf
                                  exact r_iret rfl rfl (ck DX7_place_0 15 rfl)
                                · skip
                                  rcases if_so hf with ⟨c17, hf⟩ | ⟨c17, hf⟩
                                  · refine r_tsw_in (v := 116) 108 (ck DX7_place_0 1 rfl) c17 (by decide) (by decide) rfl (by decide) ?_
                                    refine r_iconst 109 rfl ic_m1 (ck DX7_place_0 14 rfl) ?_
                                    obtain rfl := so1 hf
                                    exact r_iret rfl rfl (ck DX7_place_0 15 rfl)
                                  · skip
                                    rcases if_so hf with ⟨c18, hf⟩ | ⟨c18, hf⟩
                                    · refine r_tsw_in (v := 117) 108 (ck DX7_place_0 1 rfl) c18 (by decide) (by decide) rfl (by decide) ?_
                                      refine r_iconst 109 rfl ic_m1 (ck DX7_place_0 14 rfl) ?_
                                      obtain rfl := so1 hf
                                      exact r_iret rfl rfl (ck DX7_place_0 15 rfl)
                                    · skip
                                      rcases if_so hf with ⟨c19, hf⟩ | ⟨c19, hf⟩
                                      · refine r_tsw_in (v := 118) 100 (ck DX7_place_0 1 rfl) c19 (by decide) (by decide) rfl (by decide) ?_
                                        refine r_iconst 101 rfl ic_2 (ck DX7_place_0 6 rfl) ?_
                                        obtain rfl := so1 hf
                                        exact r_iret rfl rfl (ck DX7_place_0 7 rfl)
                                      · skip
                                        rcases if_so hf with ⟨c20, hf⟩ | ⟨c20, hf⟩
                                        · refine r_tsw_in (v := 119) 104 (ck DX7_place_0 1 rfl) c20 (by decide) (by decide) rfl (by decide) ?_
                                          refine r_iconst 105 rfl ic_4 (ck DX7_place_0 10 rfl) ?_
                                          obtain rfl := so1 hf
                                          exact r_iret rfl rfl (ck DX7_place_0 11 rfl)
                                        · skip
                                          have hx9 : x1.toInt < 100 ∨ (119 : Int) < x1.toInt := by
                                            have h8 := tsw_o (x := x1) 100 20 (fun k hk => by
                                              match k, hk with
                                              | 0, _ => exact ne_int c1
                                              | 1, _ => exact ne_int c2
                                              | 2, _ => exact ne_int c3
                                              | 3, _ => exact ne_int c4
                                              | 4, _ => exact ne_int c5
                                              | 5, _ => exact ne_int c6
                                              | 6, _ => exact ne_int c7
                                              | 7, _ => exact ne_int c8
                                              | 8, _ => exact ne_int c9
                                              | 9, _ => exact ne_int c10
                                              | 10, _ => exact ne_int c11
                                              | 11, _ => exact ne_int c12
                                              | 12, _ => exact ne_int c13
                                              | 13, _ => exact ne_int c14
                                              | 14, _ => exact ne_int c15
                                              | 15, _ => exact ne_int c16
                                              | 16, _ => exact ne_int c17
                                              | 17, _ => exact ne_int c18
                                              | 18, _ => exact ne_int c19
                                              | 19, _ => exact ne_int c20
                                              | k + 20, hk => exact absurd hk (by omega))
                                            exact h8
                                          refine r_tsw_out 108 (ck DX7_place_0 1 rfl) hx9 (by decide) ?_
                                          refine r_iconst 109 rfl ic_m1 (ck DX7_place_0 14 rfl) ?_
                                          obtain rfl := so1 hf
                                          exact r_iret rfl rfl (ck DX7_place_0 15 rfl)
-- X7_takesTest
def f_X7_takesTest (h : HP) : Option (Int32 × HP) := bo (f_X7_next h) fun v1 => bo (f_X7_place v1) fun v3 => if (0 : Int32) ≤ v3 then (lt (si h 96 16 ((h.1 96 16) + 1)) fun g6 => bo (f_X7_next g6) fun v8 => bo (f_X7_in v8 60 62) fun v10 => if v10 = 0 then (some (0, g6)) else (lt (si g6 96 16 ((g6.1 96 16) + 1)) fun g13 => bd (f_X7_takesNumber g13) fun v17 g15 => if v17 = 0 then (some (0, g15)) else (bo (f_X7_emits (((1000 * v3) + (100 * (v8 - 60))) + (g15.1 96 17)) g15) fun g19 => bo (f_X7_whole g19) fun g21 => some (1, g21)))) else (some (0, h))
set_option maxHeartbeats 4000000 in
set_option maxRecDepth 100000 in
theorem A_X7_takesTest (X : XE) (h : HP) (r : Int32) (h' : HP) (hf : f_X7_takesTest h = some (r, h')) : CC mX7_takesTest 4 X [.ref (X.1 96)] h (some (.int r)) h' := by
  refine CC_of rfl (Nat.le_of_ble_eq_true rfl) ?_
  show Run mX7_takesTest 4 X 0 [(0, .ref (X.1 96))] [] h (some (.int r)) h'
  unfold f_X7_takesTest at hf
  refine r_aload_n 1 rfl 0 rfl rfl (ck DX7_takesTest_0 0 rfl) ?_
  refine r_aload_n 2 rfl 0 rfl rfl (ck DX7_takesTest_0 1 rfl) ?_
  obtain ⟨v1, e2, hf⟩ := bo_so hf
  refine r_callVi 5 rfl (A_X7_next X h v1 e2) (by omega) cw_X7_298 sh_96 cl_7 rfl rfl (Nat.le_of_ble_eq_true rfl) (ck DX7_takesTest_0 2 rfl) ?_
  obtain ⟨v3, e4, hf⟩ := bo_so hf
  refine r_callVi 8 rfl (A_X7_place X v1 h v3 e4) (by omega) cw_X7_312 sh_96 cl_7 rfl rfl (Nat.le_of_ble_eq_true rfl) (ck DX7_takesTest_0 3 rfl) ?_
  refine r_istore_n (lv' := [(1, .int v3), (0, .ref (X.1 96))]) 9 rfl (ck DX7_takesTest_0 4 rfl) (by decide) rfl rfl ?_
  refine r_iload_n 10 rfl 0 rfl rfl (ck DX7_takesTest_0 5 rfl) ?_
  rcases if_so hf with ⟨c5, hf⟩ | ⟨c5, hf⟩
  · refine r_if_ge_t 15 (ck DX7_takesTest_0 6 rfl) (by decide) c5 ?_
    refine r_aload_n 16 rfl 1 rfl rfl (ck DX7_takesTest_0 9 rfl) ?_
    refine r_dup 17 rfl rfl (ck DX7_takesTest_0 10 rfl) ?_
    refine r_geti 20 rfl sh_96 kd_7_16 fl_X7_59 (ck DX7_takesTest_0 11 rfl) ?_
    refine r_iconst 21 rfl ic_1 (ck DX7_takesTest_0 12 rfl) ?_
    refine r_iadd 22 rfl (ck DX7_takesTest_0 13 rfl) ?_
    obtain ⟨g6, e7, hf⟩ := lt_so hf
    refine r_puti 25 rfl sh_96 kd_7_16 fw_X7_59 rfl rfl (ck DX7_takesTest_0 14 rfl) ?_
    refine r_heap e7 ?_
    refine r_aload_n 26 rfl 1 rfl rfl (ck DX7_takesTest_0 15 rfl) ?_
    obtain ⟨v8, e9, hf⟩ := bo_so hf
    refine r_callVi 29 rfl (A_X7_next X g6 v8 e9) (by omega) cw_X7_298 sh_96 cl_7 rfl rfl (Nat.le_of_ble_eq_true rfl) (ck DX7_takesTest_0 16 rfl) ?_
    refine r_istore_n (lv' := [(2, .int v8), (1, .int v3), (0, .ref (X.1 96))]) 30 rfl (ck DX7_takesTest_0 17 rfl) (by decide) rfl rfl ?_
    refine r_aload_n 31 rfl 2 rfl rfl (ck DX7_takesTest_0 18 rfl) ?_
    refine r_iload_n 32 rfl 0 rfl rfl (ck DX7_takesTest_0 19 rfl) ?_
    refine r_bipush 34 rfl bp_60 (ck DX7_takesTest_0 20 rfl) ?_
    refine r_bipush 36 rfl bp_62 (ck DX7_takesTest_0 21 rfl) ?_
    obtain ⟨v10, e11, hf⟩ := bo_so hf
    refine r_callVi 39 rfl (A_X7_in X v8 60 62 g6 v10 e11) (by omega) cw_X7_276 sh_96 cl_7 rfl rfl (Nat.le_of_ble_eq_true rfl) (ck DX7_takesTest_0 22 rfl) ?_
    rcases if_so hf with ⟨c12, hf⟩ | ⟨c12, hf⟩
    · refine r_if_ne_t 42 rfl 44 (ck DX7_takesTest_0 23 rfl) (by decide) c12 ?_
      refine r_iconst 43 rfl ic_0 (ck DX7_takesTest_0 24 rfl) ?_
      obtain ⟨rfl, rfl⟩ := so2 hf
      exact r_iret rfl rfl (ck DX7_takesTest_0 25 rfl)
    · refine r_if_ne_f 44 (ck DX7_takesTest_0 23 rfl) (by decide) c12 ?_
      refine r_aload_n 45 rfl 2 rfl rfl (ck DX7_takesTest_0 26 rfl) ?_
      refine r_dup 46 rfl rfl (ck DX7_takesTest_0 27 rfl) ?_
      refine r_geti 49 rfl sh_96 kd_7_16 fl_X7_59 (ck DX7_takesTest_0 28 rfl) ?_
      refine r_iconst 50 rfl ic_1 (ck DX7_takesTest_0 29 rfl) ?_
      refine r_iadd 51 rfl (ck DX7_takesTest_0 30 rfl) ?_
      obtain ⟨g13, e14, hf⟩ := lt_so hf
      refine r_puti 54 rfl sh_96 kd_7_16 fw_X7_59 rfl rfl (ck DX7_takesTest_0 31 rfl) ?_
      refine r_heap e14 ?_
      refine r_aload_n 55 rfl 2 rfl rfl (ck DX7_takesTest_0 32 rfl) ?_
      obtain ⟨v17, g15, e16, hf⟩ := bd_so hf
      refine r_callVi 58 rfl (A_X7_takesNumber X g13 v17 g15 e16) (by omega) cw_X7_315 sh_96 cl_7 rfl rfl (Nat.le_of_ble_eq_true rfl) (ck DX7_takesTest_0 33 rfl) ?_
      rcases if_so hf with ⟨c18, hf⟩ | ⟨c18, hf⟩
      · refine r_if_ne_t 61 rfl 63 (ck DX7_takesTest_0 34 rfl) (by decide) c18 ?_
        refine r_iconst 62 rfl ic_0 (ck DX7_takesTest_0 35 rfl) ?_
        obtain ⟨rfl, rfl⟩ := so2 hf
        exact r_iret rfl rfl (ck DX7_takesTest_0 36 rfl)
      · refine r_if_ne_f 63 (ck DX7_takesTest_0 34 rfl) (by decide) c18 ?_
        refine r_aload_n 64 rfl 2 rfl rfl (ck DX7_takesTest_0 37 rfl) ?_
        refine r_sipush 67 rfl sp_1000 (ck DX7_takesTest_0 38 rfl) ?_
        refine r_iload_n 68 rfl 1 rfl rfl (ck DX7_takesTest_0 39 rfl) ?_
        refine r_imul 69 rfl (ck DX7_takesTest_0 40 rfl) ?_
        refine r_bipush 71 rfl bp_100 (ck DX7_takesTest_0 41 rfl) ?_
        refine r_iload_n 72 rfl 0 rfl rfl (ck DX7_takesTest_0 42 rfl) ?_
        refine r_bipush 74 rfl bp_60 (ck DX7_takesTest_0 43 rfl) ?_
        refine r_isub 75 rfl (ck DX7_takesTest_0 44 rfl) ?_
        refine r_imul 76 rfl (ck DX7_takesTest_0 45 rfl) ?_
        refine r_iadd 77 rfl (ck DX7_takesTest_0 46 rfl) ?_
        refine r_aload_n 78 rfl 2 rfl rfl (ck DX7_takesTest_0 47 rfl) ?_
        refine r_geti 81 rfl sh_96 kd_7_17 fl_X7_62 (ck DX7_takesTest_0 48 rfl) ?_
        refine r_iadd 82 rfl (ck DX7_takesTest_0 49 rfl) ?_
        obtain ⟨g19, e20, hf⟩ := bo_so hf
        refine r_callVv 85 rfl (A_X7_emits X (((1000 * v3) + (100 * (v8 - 60))) + (g15.1 96 17)) g15 g19 e20) (by omega) cw_X7_309 sh_96 cl_7 rfl rfl (Nat.le_of_ble_eq_true rfl) (ck DX7_takesTest_1 0 rfl) ?_
        refine r_aload_n 86 rfl 2 rfl rfl (ck DX7_takesTest_1 1 rfl) ?_
        obtain ⟨g21, e22, hf⟩ := bo_so hf
        refine r_callVv 89 rfl (A_X7_whole X g19 g21 e22) (by omega) cw_X7_318 sh_96 cl_7 rfl rfl (Nat.le_of_ble_eq_true rfl) (ck DX7_takesTest_1 2 rfl) ?_
        refine r_iconst 90 rfl ic_1 (ck DX7_takesTest_1 3 rfl) ?_
        obtain ⟨rfl, rfl⟩ := so2 hf
        exact r_iret rfl rfl (ck DX7_takesTest_1 4 rfl)
  · refine r_if_ge_f 13 rfl 15 (ck DX7_takesTest_0 6 rfl) (by decide) c5 ?_
    refine r_iconst 14 rfl ic_0 (ck DX7_takesTest_0 7 rfl) ?_
    obtain ⟨rfl, rfl⟩ := so2 hf
    exact r_iret rfl rfl (ck DX7_takesTest_0 8 rfl)
-- X7_takesE
def f_X7_takesE_J122 (rc22 : Int32 → Int32 → HP → Option (Int32 × HP)) (x1 : Int32) (x3 : Int32) (h : HP) : Option (Int32 × HP) := bo (f_X7_settle x3 h) fun g12 => gd (inb (g12.1 96 27) 101) (lt (si g12 111 (Int32.toNatClampNeg (g12.1 96 27)) x3) fun g15 => lt (si g15 96 27 ((g15.1 96 27) + 1)) fun g17 => lt (si g17 96 16 ((g17.1 96 16) + 1)) fun g19 => rc22 x1 1 g19)
set_option maxHeartbeats 4000000 in
set_option maxRecDepth 100000 in
theorem A_X7_takesE_J122 (X : XE) (rc22 : Int32 → Int32 → HP → Option (Int32 × HP)) (r : Int32) (h' : HP) (hr22 : ∀ (x1 : Int32) (x2 : Int32) (h : HP), rc22 x1 x2 h = some (r, h') → Run mX7_takesE 5 X 22 [(0, .ref (X.1 96)), (1, .int x1), (2, .int x2)] [] h (some (.int r)) h') (x1 : Int32) (x3 : Int32) (h : HP) (hf : f_X7_takesE_J122 rc22 x1 x3 h = some (r, h')) : Run mX7_takesE 5 X 122 [(0, .ref (X.1 96)), (1, .int x1), (3, .int x3)] [] h (some (.int r)) h' := by
  unfold f_X7_takesE_J122 at hf
  refine r_aload_n 123 rfl 0 rfl rfl (ck DX7_takesE_1 20 rfl) ?_
  refine r_iload_n 124 rfl 2 rfl rfl (ck DX7_takesE_1 21 rfl) ?_
  obtain ⟨g12, e13, hf⟩ := bo_so hf
  refine r_callVv 127 rfl (A_X7_settle X x3 h g12 e13) (by omega) cw_X7_324 sh_96 cl_7 rfl rfl (Nat.le_of_ble_eq_true rfl) (ck DX7_takesE_1 22 rfl) ?_
  refine r_aload_n 128 rfl 0 rfl rfl (ck DX7_takesE_1 23 rfl) ?_
  refine r_getr (q := 111) 131 rfl (lq_7_25) sh_96 kd_7_25 fl_X7_86 (ck DX7_takesE_1 24 rfl) ?_
  refine r_aload_n 132 rfl 0 rfl rfl (ck DX7_takesE_1 25 rfl) ?_
  refine r_geti 135 rfl sh_96 kd_7_27 fl_X7_92 (ck DX7_takesE_1 26 rfl) ?_
  refine r_iload_n 136 rfl 2 rfl rfl (ck DX7_takesE_1 27 rfl) ?_
  obtain ⟨b14, hf⟩ := gd_so hf
  obtain ⟨g15, e16, hf⟩ := lt_so hf
  refine r_iast 137 rfl sh_111 (inb_vp b14) (ck DX7_takesE_1 28 rfl) ?_
  refine r_heap e16 ?_
  refine r_aload_n 138 rfl 0 rfl rfl (ck DX7_takesE_1 29 rfl) ?_
  refine r_dup 139 rfl rfl (ck DX7_takesE_1 30 rfl) ?_
  refine r_geti 142 rfl sh_96 kd_7_27 fl_X7_92 (ck DX7_takesE_1 31 rfl) ?_
  refine r_iconst 143 rfl ic_1 (ck DX7_takesE_1 32 rfl) ?_
  refine r_iadd 144 rfl (ck DX7_takesE_1 33 rfl) ?_
  obtain ⟨g17, e18, hf⟩ := lt_so hf
  refine r_puti 147 rfl sh_96 kd_7_27 fw_X7_92 rfl rfl (ck DX7_takesE_1 34 rfl) ?_
  refine r_heap e18 ?_
  refine r_iconst 148 rfl ic_1 (ck DX7_takesE_1 35 rfl) ?_
  refine r_istore_n (lv' := [(2, .int 1), (0, .ref (X.1 96)), (1, .int x1), (3, .int x3)]) 149 rfl (ck DX7_takesE_1 36 rfl) (by decide) rfl rfl ?_
  refine r_aload_n 150 rfl 1 rfl rfl (ck DX7_takesE_1 37 rfl) ?_
  refine r_dup 151 rfl rfl (ck DX7_takesE_1 38 rfl) ?_
  refine r_geti 154 rfl sh_96 kd_7_16 fl_X7_59 (ck DX7_takesE_1 39 rfl) ?_
  refine r_iconst 155 rfl ic_1 (ck DX7_takesE_1 40 rfl) ?_
  refine r_iadd 156 rfl (ck DX7_takesE_1 41 rfl) ?_
  obtain ⟨g19, e20, hf⟩ := lt_so hf
  refine r_puti 159 rfl sh_96 kd_7_16 fw_X7_59 rfl rfl (ck DX7_takesE_1 42 rfl) ?_
  refine r_heap e20 ?_
  refine r_goto 22 (ck DX7_takesE_1 43 rfl) (by decide) ?_
  refine r_sub (lv' := [(0, .ref (X.1 96)), (1, .int x1), (2, .int 1)]) [1, 2, 0] rfl ?_
  exact hr22 x1 1 g19 hf
def f_X7_takesE_J43 (rc22 : Int32 → Int32 → HP → Option (Int32 × HP)) (x1 : Int32) (x2 : Int32) (x3 : Int32) (h : HP) : Option (Int32 × HP) := if (h.1 96 28) = 4 then (some (0, h)) else (lt (si h 96 28 ((h.1 96 28) + 1)) fun g39 => gd (inb (g39.1 96 27) 101) (lt (si g39 111 (Int32.toNatClampNeg (g39.1 96 27)) x3) fun g42 => lt (si g42 96 27 ((g42.1 96 27) + 1)) fun g44 => lt (si g44 96 16 ((g44.1 96 16) + 1)) fun g46 => rc22 x1 x2 g46))
set_option maxHeartbeats 4000000 in
set_option maxRecDepth 100000 in
theorem A_X7_takesE_J43 (X : XE) (rc22 : Int32 → Int32 → HP → Option (Int32 × HP)) (r : Int32) (h' : HP) (hr22 : ∀ (x1 : Int32) (x2 : Int32) (h : HP), rc22 x1 x2 h = some (r, h') → Run mX7_takesE 5 X 22 [(0, .ref (X.1 96)), (1, .int x1), (2, .int x2)] [] h (some (.int r)) h') (x1 : Int32) (x2 : Int32) (x3 : Int32) (h : HP) (hf : f_X7_takesE_J43 rc22 x1 x2 x3 h = some (r, h')) : Run mX7_takesE 5 X 43 [(0, .ref (X.1 96)), (1, .int x1), (2, .int x2), (3, .int x3)] [] h (some (.int r)) h' := by
  unfold f_X7_takesE_J43 at hf
  refine r_aload_n 44 rfl 0 rfl rfl (ck DX7_takesE_0 25 rfl) ?_
  refine r_geti 47 rfl sh_96 kd_7_28 fl_X7_95 (ck DX7_takesE_0 26 rfl) ?_
  refine r_iconst 48 rfl ic_4 (ck DX7_takesE_0 27 rfl) ?_
  rcases if_so hf with ⟨c38, hf⟩ | ⟨c38, hf⟩
  · refine r_icmp_ne_t 51 rfl 53 (ck DX7_takesE_0 28 rfl) (by decide) c38 ?_
    refine r_iconst 52 rfl ic_0 (ck DX7_takesE_0 29 rfl) ?_
    obtain ⟨rfl, rfl⟩ := so2 hf
    exact r_iret rfl rfl (ck DX7_takesE_0 30 rfl)
  · refine r_icmp_ne_f 53 (ck DX7_takesE_0 28 rfl) (by decide) c38 ?_
    refine r_aload_n 54 rfl 0 rfl rfl (ck DX7_takesE_0 31 rfl) ?_
    refine r_dup 55 rfl rfl (ck DX7_takesE_0 32 rfl) ?_
    refine r_geti 58 rfl sh_96 kd_7_28 fl_X7_95 (ck DX7_takesE_0 33 rfl) ?_
    refine r_iconst 59 rfl ic_1 (ck DX7_takesE_0 34 rfl) ?_
    refine r_iadd 60 rfl (ck DX7_takesE_0 35 rfl) ?_
    obtain ⟨g39, e40, hf⟩ := lt_so hf
    refine r_puti 63 rfl sh_96 kd_7_28 fw_X7_95 rfl rfl (ck DX7_takesE_0 36 rfl) ?_
    refine r_heap e40 ?_
    refine r_aload_n 64 rfl 0 rfl rfl (ck DX7_takesE_0 37 rfl) ?_
    refine r_getr (q := 111) 67 rfl (lq_7_25) sh_96 kd_7_25 fl_X7_86 (ck DX7_takesE_0 38 rfl) ?_
    refine r_aload_n 68 rfl 0 rfl rfl (ck DX7_takesE_0 39 rfl) ?_
    refine r_geti 71 rfl sh_96 kd_7_27 fl_X7_92 (ck DX7_takesE_0 40 rfl) ?_
    refine r_iload_n 72 rfl 3 rfl rfl (ck DX7_takesE_0 41 rfl) ?_
    obtain ⟨b41, hf⟩ := gd_so hf
    obtain ⟨g42, e43, hf⟩ := lt_so hf
    refine r_iast 73 rfl sh_111 (inb_vp b41) (ck DX7_takesE_0 42 rfl) ?_
    refine r_heap e43 ?_
    refine r_aload_n 74 rfl 0 rfl rfl (ck DX7_takesE_0 43 rfl) ?_
    refine r_dup 75 rfl rfl (ck DX7_takesE_0 44 rfl) ?_
    refine r_geti 78 rfl sh_96 kd_7_27 fl_X7_92 (ck DX7_takesE_0 45 rfl) ?_
    refine r_iconst 79 rfl ic_1 (ck DX7_takesE_0 46 rfl) ?_
    refine r_iadd 80 rfl (ck DX7_takesE_0 47 rfl) ?_
    obtain ⟨g44, e45, hf⟩ := lt_so hf
    refine r_puti 83 rfl sh_96 kd_7_27 fw_X7_92 rfl rfl (ck DX7_takesE_0 48 rfl) ?_
    refine r_heap e45 ?_
    refine r_aload_n 84 rfl 0 rfl rfl (ck DX7_takesE_0 49 rfl) ?_
    refine r_dup 85 rfl rfl (ck DX7_takesE_1 0 rfl) ?_
    refine r_geti 88 rfl sh_96 kd_7_16 fl_X7_59 (ck DX7_takesE_1 1 rfl) ?_
    refine r_iconst 89 rfl ic_1 (ck DX7_takesE_1 2 rfl) ?_
    refine r_iadd 90 rfl (ck DX7_takesE_1 3 rfl) ?_
    obtain ⟨g46, e47, hf⟩ := lt_so hf
    refine r_puti 93 rfl sh_96 kd_7_16 fw_X7_59 rfl rfl (ck DX7_takesE_1 4 rfl) ?_
    refine r_heap e47 ?_
    refine r_goto 22 (ck DX7_takesE_1 5 rfl) (by decide) ?_
    refine r_sub (lv' := [(0, .ref (X.1 96)), (1, .int x1), (2, .int x2)]) [0, 1, 2] rfl ?_
    exact hr22 x1 x2 g46 hf
def f_X7_takesE_L22 : Nat → Int32 → Int32 → HP → Option (Int32 × HP)
  | 0, _, _, _ => none
  | n + 1, x1, x2, h => bo (f_X7_next h) fun v8 => if x2 = 0 then (if v8 = 38 then (f_X7_takesE_J122 (fun z0 z1 z2 => f_X7_takesE_L22 n z0 z1 z2) x1 v8 h) else (if v8 = 124 then (f_X7_takesE_J122 (fun z0 z1 z2 => f_X7_takesE_L22 n z0 z1 z2) x1 v8 h) else (bo (f_X7_settle 124 h) fun g22 => gd (inb x1 60) (lt (si g22 109 (Int32.toNatClampNeg x1) (g22.1 96 26)) fun g25 => if (g25.1 96 27) = 0 then (some (1, g25)) else (if v8 = 41 then (lt (si g25 96 27 ((g25.1 96 27) - 1)) fun g29 => lt (si g29 96 28 ((g29.1 96 28) - 1)) fun g31 => lt (si g31 96 16 ((g31.1 96 16) + 1)) fun g33 => bo (f_X7_whole g33) fun g35 => f_X7_takesE_L22 n x1 x2 g35) else (some (0, g25))))))) else (if v8 = 33 then (f_X7_takesE_J43 (fun z0 z1 z2 => f_X7_takesE_L22 n z0 z1 z2) x1 x2 v8 h) else (if v8 = 40 then (f_X7_takesE_J43 (fun z0 z1 z2 => f_X7_takesE_L22 n z0 z1 z2) x1 x2 v8 h) else (bd (f_X7_takesTest h) fun v51 g49 => if v51 = 0 then (some (0, g49)) else (f_X7_takesE_L22 n x1 0 g49))))
set_option maxHeartbeats 4000000 in
set_option maxRecDepth 100000 in
theorem A_X7_takesE_L22 (X : XE) (r : Int32) (h' : HP) : ∀ (n : Nat) (x1 : Int32) (x2 : Int32) (h : HP), f_X7_takesE_L22 n x1 x2 h = some (r, h') → Run mX7_takesE 5 X 22 [(0, .ref (X.1 96)), (1, .int x1), (2, .int x2)] [] h (some (.int r)) h' := by
  intro n
  induction n with
  | zero => intro x1 x2 h hf; cases hf
  | succ n ih =>
    intro x1 x2 h hf
    rw [f_X7_takesE_L22] at hf
    refine r_aload_n 23 rfl 0 rfl rfl (ck DX7_takesE_0 14 rfl) ?_
    obtain ⟨v8, e9, hf⟩ := bo_so hf
    refine r_callVi 26 rfl (A_X7_next X h v8 e9) (by omega) cw_X7_298 sh_96 cl_7 rfl rfl (Nat.le_of_ble_eq_true rfl) (ck DX7_takesE_0 15 rfl) ?_
    refine r_istore_n (lv' := [(3, .int v8), (0, .ref (X.1 96)), (1, .int x1), (2, .int x2)]) 27 rfl (ck DX7_takesE_0 16 rfl) (by decide) rfl rfl ?_
    refine r_iload_n 28 rfl 3 rfl rfl (ck DX7_takesE_0 17 rfl) ?_
    rcases if_so hf with ⟨c10, hf⟩ | ⟨c10, hf⟩
    · refine r_if_eq_t 110 (ck DX7_takesE_0 18 rfl) (by decide) c10 ?_
      refine r_iload_n 111 rfl 0 rfl rfl (ck DX7_takesE_1 14 rfl) ?_
      refine r_bipush 113 rfl bp_38 (ck DX7_takesE_1 15 rfl) ?_
      rcases if_so hf with ⟨c11, hf⟩ | ⟨c11, hf⟩
      · refine r_icmp_eq_t 122 (ck DX7_takesE_1 16 rfl) (by decide) c11 ?_
        refine r_sub (lv' := [(0, .ref (X.1 96)), (1, .int x1), (3, .int v8)]) [1, 2, 0] rfl ?_
        exact A_X7_takesE_J122 X (fun z0 z1 z2 => f_X7_takesE_L22 n z0 z1 z2) _ _ ih x1 v8 h hf
      · refine r_icmp_eq_f 116 rfl 122 (ck DX7_takesE_1 16 rfl) (by decide) c11 ?_
        refine r_iload_n 117 rfl 0 rfl rfl (ck DX7_takesE_1 17 rfl) ?_
        refine r_bipush 119 rfl bp_124 (ck DX7_takesE_1 18 rfl) ?_
        rcases if_so hf with ⟨c21, hf⟩ | ⟨c21, hf⟩
        · refine r_icmp_ne_t 122 rfl 162 (ck DX7_takesE_1 19 rfl) (by decide) c21 ?_
          refine r_sub (lv' := [(0, .ref (X.1 96)), (1, .int x1), (3, .int v8)]) [1, 2, 0] rfl ?_
          exact A_X7_takesE_J122 X (fun z0 z1 z2 => f_X7_takesE_L22 n z0 z1 z2) _ _ ih x1 v8 h hf
        · refine r_icmp_ne_f 162 (ck DX7_takesE_1 19 rfl) (by decide) c21 ?_
          refine r_aload_n 163 rfl 1 rfl rfl (ck DX7_takesE_1 44 rfl) ?_
          refine r_bipush 165 rfl bp_124 (ck DX7_takesE_1 45 rfl) ?_
          obtain ⟨g22, e23, hf⟩ := bo_so hf
          refine r_callVv 168 rfl (A_X7_settle X 124 h g22 e23) (by omega) cw_X7_324 sh_96 cl_7 rfl rfl (Nat.le_of_ble_eq_true rfl) (ck DX7_takesE_1 46 rfl) ?_
          refine r_aload_n 169 rfl 1 rfl rfl (ck DX7_takesE_1 47 rfl) ?_
          refine r_getr (q := 109) 172 rfl (lq_7_23) sh_96 kd_7_23 fl_X7_80 (ck DX7_takesE_1 48 rfl) ?_
          refine r_iload_n 173 rfl 2 rfl rfl (ck DX7_takesE_1 49 rfl) ?_
          refine r_aload_n 174 rfl 1 rfl rfl (ck DX7_takesE_2 0 rfl) ?_
          refine r_geti 177 rfl sh_96 kd_7_26 fl_X7_89 (ck DX7_takesE_2 1 rfl) ?_
          obtain ⟨b24, hf⟩ := gd_so hf
          obtain ⟨g25, e26, hf⟩ := lt_so hf
          refine r_iast 178 rfl sh_109 (inb_vp b24) (ck DX7_takesE_2 2 rfl) ?_
          refine r_heap e26 ?_
          refine r_aload_n 179 rfl 1 rfl rfl (ck DX7_takesE_2 3 rfl) ?_
          refine r_geti 182 rfl sh_96 kd_7_27 fl_X7_92 (ck DX7_takesE_2 4 rfl) ?_
          rcases if_so hf with ⟨c27, hf⟩ | ⟨c27, hf⟩
          · refine r_if_ne_t 185 rfl 187 (ck DX7_takesE_2 5 rfl) (by decide) c27 ?_
            refine r_iconst 186 rfl ic_1 (ck DX7_takesE_2 6 rfl) ?_
            obtain ⟨rfl, rfl⟩ := so2 hf
            exact r_iret rfl rfl (ck DX7_takesE_2 7 rfl)
          · refine r_if_ne_f 187 (ck DX7_takesE_2 5 rfl) (by decide) c27 ?_
            refine r_iload_n 188 rfl 0 rfl rfl (ck DX7_takesE_2 8 rfl) ?_
            refine r_bipush 190 rfl bp_41 (ck DX7_takesE_2 9 rfl) ?_
            rcases if_so hf with ⟨c28, hf⟩ | ⟨c28, hf⟩
            · refine r_icmp_eq_t 195 (ck DX7_takesE_2 10 rfl) (by decide) c28 ?_
              refine r_aload_n 196 rfl 1 rfl rfl (ck DX7_takesE_2 13 rfl) ?_
              refine r_dup 197 rfl rfl (ck DX7_takesE_2 14 rfl) ?_
              refine r_geti 200 rfl sh_96 kd_7_27 fl_X7_92 (ck DX7_takesE_2 15 rfl) ?_
              refine r_iconst 201 rfl ic_1 (ck DX7_takesE_2 16 rfl) ?_
              refine r_isub 202 rfl (ck DX7_takesE_2 17 rfl) ?_
              obtain ⟨g29, e30, hf⟩ := lt_so hf
              refine r_puti 205 rfl sh_96 kd_7_27 fw_X7_92 rfl rfl (ck DX7_takesE_2 18 rfl) ?_
              refine r_heap e30 ?_
              refine r_aload_n 206 rfl 1 rfl rfl (ck DX7_takesE_2 19 rfl) ?_
              refine r_dup 207 rfl rfl (ck DX7_takesE_2 20 rfl) ?_
              refine r_geti 210 rfl sh_96 kd_7_28 fl_X7_95 (ck DX7_takesE_2 21 rfl) ?_
              refine r_iconst 211 rfl ic_1 (ck DX7_takesE_2 22 rfl) ?_
              refine r_isub 212 rfl (ck DX7_takesE_2 23 rfl) ?_
              obtain ⟨g31, e32, hf⟩ := lt_so hf
              refine r_puti 215 rfl sh_96 kd_7_28 fw_X7_95 rfl rfl (ck DX7_takesE_2 24 rfl) ?_
              refine r_heap e32 ?_
              refine r_aload_n 216 rfl 1 rfl rfl (ck DX7_takesE_2 25 rfl) ?_
              refine r_dup 217 rfl rfl (ck DX7_takesE_2 26 rfl) ?_
              refine r_geti 220 rfl sh_96 kd_7_16 fl_X7_59 (ck DX7_takesE_2 27 rfl) ?_
              refine r_iconst 221 rfl ic_1 (ck DX7_takesE_2 28 rfl) ?_
              refine r_iadd 222 rfl (ck DX7_takesE_2 29 rfl) ?_
              obtain ⟨g33, e34, hf⟩ := lt_so hf
              refine r_puti 225 rfl sh_96 kd_7_16 fw_X7_59 rfl rfl (ck DX7_takesE_2 30 rfl) ?_
              refine r_heap e34 ?_
              refine r_aload_n 226 rfl 1 rfl rfl (ck DX7_takesE_2 31 rfl) ?_
              obtain ⟨g35, e36, hf⟩ := bo_so hf
              refine r_callVv 229 rfl (A_X7_whole X g33 g35 e36) (by omega) cw_X7_318 sh_96 cl_7 rfl rfl (Nat.le_of_ble_eq_true rfl) (ck DX7_takesE_2 32 rfl) ?_
              refine r_goto 22 (ck DX7_takesE_2 33 rfl) (by decide) ?_
              refine r_sub (lv' := [(0, .ref (X.1 96)), (1, .int x1), (2, .int x2)]) [1, 2, 3] rfl ?_
              exact ih x1 x2 g35 hf
            · refine r_icmp_eq_f 193 rfl 195 (ck DX7_takesE_2 10 rfl) (by decide) c28 ?_
              refine r_iconst 194 rfl ic_0 (ck DX7_takesE_2 11 rfl) ?_
              obtain ⟨rfl, rfl⟩ := so2 hf
              exact r_iret rfl rfl (ck DX7_takesE_2 12 rfl)
    · refine r_if_eq_f 31 rfl 110 (ck DX7_takesE_0 18 rfl) (by decide) c10 ?_
      refine r_iload_n 32 rfl 0 rfl rfl (ck DX7_takesE_0 19 rfl) ?_
      refine r_bipush 34 rfl bp_33 (ck DX7_takesE_0 20 rfl) ?_
      rcases if_so hf with ⟨c37, hf⟩ | ⟨c37, hf⟩
      · refine r_icmp_eq_t 43 (ck DX7_takesE_0 21 rfl) (by decide) c37 ?_
        refine r_sub (lv' := [(0, .ref (X.1 96)), (1, .int x1), (2, .int x2), (3, .int v8)]) [1, 2, 3, 0] rfl ?_
        exact A_X7_takesE_J43 X (fun z0 z1 z2 => f_X7_takesE_L22 n z0 z1 z2) _ _ ih x1 x2 v8 h hf
      · refine r_icmp_eq_f 37 rfl 43 (ck DX7_takesE_0 21 rfl) (by decide) c37 ?_
        refine r_iload_n 38 rfl 0 rfl rfl (ck DX7_takesE_0 22 rfl) ?_
        refine r_bipush 40 rfl bp_40 (ck DX7_takesE_0 23 rfl) ?_
        rcases if_so hf with ⟨c48, hf⟩ | ⟨c48, hf⟩
        · refine r_icmp_ne_t 43 rfl 96 (ck DX7_takesE_0 24 rfl) (by decide) c48 ?_
          refine r_sub (lv' := [(0, .ref (X.1 96)), (1, .int x1), (2, .int x2), (3, .int v8)]) [1, 2, 3, 0] rfl ?_
          exact A_X7_takesE_J43 X (fun z0 z1 z2 => f_X7_takesE_L22 n z0 z1 z2) _ _ ih x1 x2 v8 h hf
        · refine r_icmp_ne_f 96 (ck DX7_takesE_0 24 rfl) (by decide) c48 ?_
          refine r_aload_n 97 rfl 1 rfl rfl (ck DX7_takesE_1 6 rfl) ?_
          obtain ⟨v51, g49, e50, hf⟩ := bd_so hf
          refine r_callVi 100 rfl (A_X7_takesTest X h v51 g49 e50) (by omega) cw_X7_321 sh_96 cl_7 rfl rfl (Nat.le_of_ble_eq_true rfl) (ck DX7_takesE_1 7 rfl) ?_
          rcases if_so hf with ⟨c52, hf⟩ | ⟨c52, hf⟩
          · refine r_if_eq_t 108 (ck DX7_takesE_1 8 rfl) (by decide) c52 ?_
            refine r_iconst 109 rfl ic_0 (ck DX7_takesE_1 12 rfl) ?_
            obtain ⟨rfl, rfl⟩ := so2 hf
            exact r_iret rfl rfl (ck DX7_takesE_1 13 rfl)
          · refine r_if_eq_f 103 rfl 108 (ck DX7_takesE_1 8 rfl) (by decide) c52 ?_
            refine r_iconst 104 rfl ic_0 (ck DX7_takesE_1 9 rfl) ?_
            refine r_istore_n (lv' := [(2, .int 0), (3, .int v8), (0, .ref (X.1 96)), (1, .int x1)]) 105 rfl (ck DX7_takesE_1 10 rfl) (by decide) rfl rfl ?_
            refine r_goto 22 (ck DX7_takesE_1 11 rfl) (by decide) ?_
            refine r_sub (lv' := [(0, .ref (X.1 96)), (1, .int x1), (2, .int 0)]) [2, 3, 0] rfl ?_
            exact ih x1 0 g49 hf
def f_X7_takesE (x1 : Int32) (h : HP) : Option (Int32 × HP) := lt (si h 96 27 0) fun g1 => lt (si g1 96 28 0) fun g3 => gd (inb x1 60) (lt (si g3 108 (Int32.toNatClampNeg x1) (g3.1 96 26)) fun g6 => f_X7_takesE_L22 FZ x1 1 g6)
set_option maxHeartbeats 4000000 in
set_option maxRecDepth 100000 in
theorem A_X7_takesE (X : XE) (x1 : Int32) (h : HP) (r : Int32) (h' : HP) (hf : f_X7_takesE x1 h = some (r, h')) : CC mX7_takesE 5 X [.ref (X.1 96), .int x1] h (some (.int r)) h' := by
  refine CC_of rfl (Nat.le_of_ble_eq_true rfl) ?_
  show Run mX7_takesE 5 X 0 [(0, .ref (X.1 96)), (1, .int x1)] [] h (some (.int r)) h'
  unfold f_X7_takesE at hf
  refine r_aload_n 1 rfl 0 rfl rfl (ck DX7_takesE_0 0 rfl) ?_
  refine r_iconst 2 rfl ic_0 (ck DX7_takesE_0 1 rfl) ?_
  obtain ⟨g1, e2, hf⟩ := lt_so hf
  refine r_puti 5 rfl sh_96 kd_7_27 fw_X7_92 rfl rfl (ck DX7_takesE_0 2 rfl) ?_
  refine r_heap e2 ?_
  refine r_aload_n 6 rfl 0 rfl rfl (ck DX7_takesE_0 3 rfl) ?_
  refine r_iconst 7 rfl ic_0 (ck DX7_takesE_0 4 rfl) ?_
  obtain ⟨g3, e4, hf⟩ := lt_so hf
  refine r_puti 10 rfl sh_96 kd_7_28 fw_X7_95 rfl rfl (ck DX7_takesE_0 5 rfl) ?_
  refine r_heap e4 ?_
  refine r_aload_n 11 rfl 0 rfl rfl (ck DX7_takesE_0 6 rfl) ?_
  refine r_getr (q := 108) 14 rfl (lq_7_22) sh_96 kd_7_22 fl_X7_77 (ck DX7_takesE_0 7 rfl) ?_
  refine r_iload_n 15 rfl 1 rfl rfl (ck DX7_takesE_0 8 rfl) ?_
  refine r_aload_n 16 rfl 0 rfl rfl (ck DX7_takesE_0 9 rfl) ?_
  refine r_geti 19 rfl sh_96 kd_7_26 fl_X7_89 (ck DX7_takesE_0 10 rfl) ?_
  obtain ⟨b5, hf⟩ := gd_so hf
  obtain ⟨g6, e7, hf⟩ := lt_so hf
  refine r_iast 20 rfl sh_108 (inb_vp b5) (ck DX7_takesE_0 11 rfl) ?_
  refine r_heap e7 ?_
  refine r_iconst 21 rfl ic_1 (ck DX7_takesE_0 12 rfl) ?_
  refine r_istore_n (lv' := [(2, .int 1), (0, .ref (X.1 96)), (1, .int x1)]) 22 rfl (ck DX7_takesE_0 13 rfl) (by decide) rfl rfl ?_
  refine r_sub (lv' := [(0, .ref (X.1 96)), (1, .int x1), (2, .int 1)]) [1, 2, 0] rfl ?_
  exact A_X7_takesE_L22 X _ _ FZ x1 1 g6 hf
-- X7_takesHead
def f_X7_takesHead_J80 (x1 : Int32) (s0 : Int32) (s1 : Int32) (h : HP) : Option (Int32 × HP) := gd (inb s1 60) (lt (si h 106 (Int32.toNatClampNeg s1) s0) fun g23 => gd (inb x1 60) (if (g23.1 106 (Int32.toNatClampNeg x1)) = 2 then (bd (f_X7_takesWord 8 4 g23) fun v29 g27 => gd (zok v29) (some (v29, g27))) else (bd (f_X7_takesWord 4 4 g23) fun v33 g31 => gd (zok v33) (some (v33, g31)))))
set_option maxHeartbeats 4000000 in
set_option maxRecDepth 100000 in
theorem A_X7_takesHead_J80 (X : XE) (r : Int32) (h' : HP) (x1 : Int32) (s0 : Int32) (s1 : Int32) (h : HP) (hf : f_X7_takesHead_J80 x1 s0 s1 h = some (r, h')) : Run mX7_takesHead 4 X 80 [(0, .ref (X.1 96)), (1, .int x1)] [.int s0, .int s1, .ref (X.1 106)] h (some (.int r)) h' := by
  unfold f_X7_takesHead_J80 at hf
  obtain ⟨b22, hf⟩ := gd_so hf
  obtain ⟨g23, e24, hf⟩ := lt_so hf
  refine r_iast 81 rfl sh_106 (inb_vp b22) (ck DX7_takesHead_0 33 rfl) ?_
  refine r_heap e24 ?_
  refine r_aload_n 82 rfl 0 rfl rfl (ck DX7_takesHead_0 34 rfl) ?_
  refine r_getr (q := 106) 85 rfl (lq_7_20) sh_96 kd_7_20 fl_X7_71 (ck DX7_takesHead_0 35 rfl) ?_
  refine r_iload_n 86 rfl 1 rfl rfl (ck DX7_takesHead_0 36 rfl) ?_
  obtain ⟨b25, hf⟩ := gd_so hf
  refine r_iald 87 rfl sh_106 (inb_vp b25) (ck DX7_takesHead_0 37 rfl) ?_
  refine r_iconst 88 rfl ic_2 (ck DX7_takesHead_0 38 rfl) ?_
  rcases if_so hf with ⟨c26, hf⟩ | ⟨c26, hf⟩
  · refine r_icmp_ne_t 91 rfl 101 (ck DX7_takesHead_0 39 rfl) (by decide) c26 ?_
    refine r_aload_n 92 rfl 0 rfl rfl (ck DX7_takesHead_0 40 rfl) ?_
    refine r_bipush 94 rfl bp_8 (ck DX7_takesHead_0 41 rfl) ?_
    refine r_iconst 95 rfl ic_4 (ck DX7_takesHead_0 42 rfl) ?_
    obtain ⟨v29, g27, e28, hf⟩ := bd_so hf
    refine r_callVi 98 rfl (A_X7_takesWord X 8 4 g23 v29 g27 e28) (by omega) cw_X7_327 sh_96 cl_7 rfl rfl (Nat.le_of_ble_eq_true rfl) (ck DX7_takesHead_0 43 rfl) ?_
    refine r_goto 107 (ck DX7_takesHead_0 44 rfl) (by decide) ?_
    obtain ⟨b30, hf⟩ := gd_so hf
    obtain ⟨rfl, rfl⟩ := so2 hf
    exact r_iret rfl (zok_nar b30) (ck DX7_takesHead_0 49 rfl)
  · refine r_icmp_ne_f 101 (ck DX7_takesHead_0 39 rfl) (by decide) c26 ?_
    refine r_aload_n 102 rfl 0 rfl rfl (ck DX7_takesHead_0 45 rfl) ?_
    refine r_iconst 103 rfl ic_4 (ck DX7_takesHead_0 46 rfl) ?_
    refine r_iconst 104 rfl ic_4 (ck DX7_takesHead_0 47 rfl) ?_
    obtain ⟨v33, g31, e32, hf⟩ := bd_so hf
    refine r_callVi 107 rfl (A_X7_takesWord X 4 4 g23 v33 g31 e32) (by omega) cw_X7_327 sh_96 cl_7 rfl rfl (Nat.le_of_ble_eq_true rfl) (ck DX7_takesHead_0 48 rfl) ?_
    obtain ⟨b34, hf⟩ := gd_so hf
    obtain ⟨rfl, rfl⟩ := so2 hf
    exact r_iret rfl (zok_nar b34) (ck DX7_takesHead_0 49 rfl)
def f_X7_takesHead (x1 : Int32) (h : HP) : Option (Int32 × HP) := bo (f_X7_next h) fun v1 => if v1 = 102 then (gd (inb x1 60) (lt (si h 106 (Int32.toNatClampNeg x1) 0) fun g5 => bd (f_X7_takesWord 0 4 g5) fun v9 g7 => gd (zok v9) (some (v9, g7)))) else (if v1 = 108 then (gd (inb x1 60) (lt (si h 106 (Int32.toNatClampNeg x1) 3) fun g13 => bd (f_X7_takesWord 12 4 g13) fun v17 g15 => gd (zok v17) (some (v17, g15)))) else ((bo (f_X7_second h) fun v19 => if v19 = 105 then (f_X7_takesHead_J80 x1 2 x1 h) else (f_X7_takesHead_J80 x1 1 x1 h))))
set_option maxHeartbeats 4000000 in
set_option maxRecDepth 100000 in
theorem A_X7_takesHead (X : XE) (x1 : Int32) (h : HP) (r : Int32) (h' : HP) (hf : f_X7_takesHead x1 h = some (r, h')) : CC mX7_takesHead 4 X [.ref (X.1 96), .int x1] h (some (.int r)) h' := by
  refine CC_of rfl (Nat.le_of_ble_eq_true rfl) ?_
  show Run mX7_takesHead 4 X 0 [(0, .ref (X.1 96)), (1, .int x1)] [] h (some (.int r)) h'
  unfold f_X7_takesHead at hf
  refine r_aload_n 1 rfl 0 rfl rfl (ck DX7_takesHead_0 0 rfl) ?_
  obtain ⟨v1, e2, hf⟩ := bo_so hf
  refine r_callVi 4 rfl (A_X7_next X h v1 e2) (by omega) cw_X7_298 sh_96 cl_7 rfl rfl (Nat.le_of_ble_eq_true rfl) (ck DX7_takesHead_0 1 rfl) ?_
  rcases if_so hf with ⟨c3, hf⟩ | ⟨c3, hf⟩
  · refine r_lsw 32 (ck DX7_takesHead_0 2 rfl) (by decide) (by rw [c3] <;> decide) (by decide) ?_
    refine r_aload_n 33 rfl 0 rfl rfl (ck DX7_takesHead_0 3 rfl) ?_
    refine r_getr (q := 106) 36 rfl (lq_7_20) sh_96 kd_7_20 fl_X7_71 (ck DX7_takesHead_0 4 rfl) ?_
    refine r_iload_n 37 rfl 1 rfl rfl (ck DX7_takesHead_0 5 rfl) ?_
    refine r_iconst 38 rfl ic_0 (ck DX7_takesHead_0 6 rfl) ?_
    obtain ⟨b4, hf⟩ := gd_so hf
    obtain ⟨g5, e6, hf⟩ := lt_so hf
    refine r_iast 39 rfl sh_106 (inb_vp b4) (ck DX7_takesHead_0 7 rfl) ?_
    refine r_heap e6 ?_
    refine r_aload_n 40 rfl 0 rfl rfl (ck DX7_takesHead_0 8 rfl) ?_
    refine r_iconst 41 rfl ic_0 (ck DX7_takesHead_0 9 rfl) ?_
    refine r_iconst 42 rfl ic_4 (ck DX7_takesHead_0 10 rfl) ?_
    obtain ⟨v9, g7, e8, hf⟩ := bd_so hf
    refine r_callVi 45 rfl (A_X7_takesWord X 0 4 g5 v9 g7 e8) (by omega) cw_X7_327 sh_96 cl_7 rfl rfl (Nat.le_of_ble_eq_true rfl) (ck DX7_takesHead_0 11 rfl) ?_
    obtain ⟨b10, hf⟩ := gd_so hf
    obtain ⟨rfl, rfl⟩ := so2 hf
    exact r_iret rfl (zok_nar b10) (ck DX7_takesHead_0 12 rfl)
  · skip
    rcases if_so hf with ⟨c11, hf⟩ | ⟨c11, hf⟩
    · refine r_lsw 46 (ck DX7_takesHead_0 2 rfl) (by decide) (by rw [c11] <;> decide) (by decide) ?_
      refine r_aload_n 47 rfl 0 rfl rfl (ck DX7_takesHead_0 13 rfl) ?_
      refine r_getr (q := 106) 50 rfl (lq_7_20) sh_96 kd_7_20 fl_X7_71 (ck DX7_takesHead_0 14 rfl) ?_
      refine r_iload_n 51 rfl 1 rfl rfl (ck DX7_takesHead_0 15 rfl) ?_
      refine r_iconst 52 rfl ic_3 (ck DX7_takesHead_0 16 rfl) ?_
      obtain ⟨b12, hf⟩ := gd_so hf
      obtain ⟨g13, e14, hf⟩ := lt_so hf
      refine r_iast 53 rfl sh_106 (inb_vp b12) (ck DX7_takesHead_0 17 rfl) ?_
      refine r_heap e14 ?_
      refine r_aload_n 54 rfl 0 rfl rfl (ck DX7_takesHead_0 18 rfl) ?_
      refine r_bipush 56 rfl bp_12 (ck DX7_takesHead_0 19 rfl) ?_
      refine r_iconst 57 rfl ic_4 (ck DX7_takesHead_0 20 rfl) ?_
      obtain ⟨v17, g15, e16, hf⟩ := bd_so hf
      refine r_callVi 60 rfl (A_X7_takesWord X 12 4 g13 v17 g15 e16) (by omega) cw_X7_327 sh_96 cl_7 rfl rfl (Nat.le_of_ble_eq_true rfl) (ck DX7_takesHead_0 21 rfl) ?_
      obtain ⟨b18, hf⟩ := gd_so hf
      obtain ⟨rfl, rfl⟩ := so2 hf
      exact r_iret rfl (zok_nar b18) (ck DX7_takesHead_0 22 rfl)
    · skip
      refine r_lsw 61 (ck DX7_takesHead_0 2 rfl) (by decide) (lsw_d (by intro q hq; simp at hq; rcases hq with rfl | rfl <;> first | exact ne_int c3 | exact ne_int c11)) (by decide) ?_
      refine r_aload_n 62 rfl 0 rfl rfl (ck DX7_takesHead_0 23 rfl) ?_
      refine r_getr (q := 106) 65 rfl (lq_7_20) sh_96 kd_7_20 fl_X7_71 (ck DX7_takesHead_0 24 rfl) ?_
      refine r_iload_n 66 rfl 1 rfl rfl (ck DX7_takesHead_0 25 rfl) ?_
      refine r_aload_n 67 rfl 0 rfl rfl (ck DX7_takesHead_0 26 rfl) ?_
      obtain ⟨v19, e20, hf⟩ := bo_so hf
      refine r_callVi 70 rfl (A_X7_second X h v19 e20) (by omega) cw_X7_331 sh_96 cl_7 rfl rfl (Nat.le_of_ble_eq_true rfl) (ck DX7_takesHead_0 27 rfl) ?_
      refine r_bipush 72 rfl bp_105 (ck DX7_takesHead_0 28 rfl) ?_
      rcases if_so hf with ⟨c21, hf⟩ | ⟨c21, hf⟩
      · refine r_icmp_ne_t 75 rfl 79 (ck DX7_takesHead_0 29 rfl) (by decide) c21 ?_
        refine r_iconst 76 rfl ic_2 (ck DX7_takesHead_0 30 rfl) ?_
        refine r_goto 80 (ck DX7_takesHead_0 31 rfl) (by decide) ?_
        refine r_sub (lv' := [(0, .ref (X.1 96)), (1, .int x1)]) [0, 1] rfl ?_
        exact A_X7_takesHead_J80 X _ _ x1 2 x1 h hf
      · refine r_icmp_ne_f 79 (ck DX7_takesHead_0 29 rfl) (by decide) c21 ?_
        refine r_iconst 80 rfl ic_1 (ck DX7_takesHead_0 32 rfl) ?_
        refine r_sub (lv' := [(0, .ref (X.1 96)), (1, .int x1)]) [0, 1] rfl ?_
        exact A_X7_takesHead_J80 X _ _ x1 1 x1 h hf
-- X7_takesClause
def f_X7_takesClause (x1 : Int32) (h : HP) : Option (Int32 × HP) := bd (f_X7_takesHead x1 h) fun v3 g1 => if v3 = 0 then (some (0, g1)) else (bd (f_X7_takesNumber g1) fun v7 g5 => if v7 = 0 then (some (0, g5)) else (gd (inb x1 60) (lt (si g5 107 (Int32.toNatClampNeg x1) (g5.1 96 17)) fun g10 => gd (inb x1 60) (if (2 : Int32) ≤ (g10.1 106 (Int32.toNatClampNeg x1)) then (some (1, g10)) else (bd (f_X7_takes 32 g10) fun v16 g14 => if v16 = 0 then (some (0, g14)) else (bd (f_X7_takesE x1 g14) fun v20 g18 => if v20 = 0 then (some (0, g18)) else (some (1, g18))))))))
set_option maxHeartbeats 4000000 in
set_option maxRecDepth 100000 in
theorem A_X7_takesClause (X : XE) (x1 : Int32) (h : HP) (r : Int32) (h' : HP) (hf : f_X7_takesClause x1 h = some (r, h')) : CC mX7_takesClause 6 X [.ref (X.1 96), .int x1] h (some (.int r)) h' := by
  refine CC_of rfl (Nat.le_of_ble_eq_true rfl) ?_
  show Run mX7_takesClause 6 X 0 [(0, .ref (X.1 96)), (1, .int x1)] [] h (some (.int r)) h'
  unfold f_X7_takesClause at hf
  refine r_aload_n 1 rfl 0 rfl rfl (ck DX7_takesClause_0 0 rfl) ?_
  refine r_iload_n 2 rfl 1 rfl rfl (ck DX7_takesClause_0 1 rfl) ?_
  obtain ⟨v3, g1, e2, hf⟩ := bd_so hf
  refine r_callVi 5 rfl (A_X7_takesHead X x1 h v3 g1 e2) (by omega) cw_X7_334 sh_96 cl_7 rfl rfl (Nat.le_of_ble_eq_true rfl) (ck DX7_takesClause_0 2 rfl) ?_
  rcases if_so hf with ⟨c4, hf⟩ | ⟨c4, hf⟩
  · refine r_if_eq_t 15 (ck DX7_takesClause_0 3 rfl) (by decide) c4 ?_
    refine r_iconst 16 rfl ic_0 (ck DX7_takesClause_0 7 rfl) ?_
    obtain ⟨rfl, rfl⟩ := so2 hf
    exact r_iret rfl rfl (ck DX7_takesClause_0 8 rfl)
  · refine r_if_eq_f 8 rfl 15 (ck DX7_takesClause_0 3 rfl) (by decide) c4 ?_
    refine r_aload_n 9 rfl 0 rfl rfl (ck DX7_takesClause_0 4 rfl) ?_
    obtain ⟨v7, g5, e6, hf⟩ := bd_so hf
    refine r_callVi 12 rfl (A_X7_takesNumber X g1 v7 g5 e6) (by omega) cw_X7_315 sh_96 cl_7 rfl rfl (Nat.le_of_ble_eq_true rfl) (ck DX7_takesClause_0 5 rfl) ?_
    rcases if_so hf with ⟨c8, hf⟩ | ⟨c8, hf⟩
    · refine r_if_ne_t 15 rfl 17 (ck DX7_takesClause_0 6 rfl) (by decide) c8 ?_
      refine r_iconst 16 rfl ic_0 (ck DX7_takesClause_0 7 rfl) ?_
      obtain ⟨rfl, rfl⟩ := so2 hf
      exact r_iret rfl rfl (ck DX7_takesClause_0 8 rfl)
    · refine r_if_ne_f 17 (ck DX7_takesClause_0 6 rfl) (by decide) c8 ?_
      refine r_aload_n 18 rfl 0 rfl rfl (ck DX7_takesClause_0 9 rfl) ?_
      refine r_getr (q := 107) 21 rfl (lq_7_21) sh_96 kd_7_21 fl_X7_74 (ck DX7_takesClause_0 10 rfl) ?_
      refine r_iload_n 22 rfl 1 rfl rfl (ck DX7_takesClause_0 11 rfl) ?_
      refine r_aload_n 23 rfl 0 rfl rfl (ck DX7_takesClause_0 12 rfl) ?_
      refine r_geti 26 rfl sh_96 kd_7_17 fl_X7_62 (ck DX7_takesClause_0 13 rfl) ?_
      obtain ⟨b9, hf⟩ := gd_so hf
      obtain ⟨g10, e11, hf⟩ := lt_so hf
      refine r_iast 27 rfl sh_107 (inb_vp b9) (ck DX7_takesClause_0 14 rfl) ?_
      refine r_heap e11 ?_
      refine r_aload_n 28 rfl 0 rfl rfl (ck DX7_takesClause_0 15 rfl) ?_
      refine r_getr (q := 106) 31 rfl (lq_7_20) sh_96 kd_7_20 fl_X7_71 (ck DX7_takesClause_0 16 rfl) ?_
      refine r_iload_n 32 rfl 1 rfl rfl (ck DX7_takesClause_0 17 rfl) ?_
      obtain ⟨b12, hf⟩ := gd_so hf
      refine r_iald 33 rfl sh_106 (inb_vp b12) (ck DX7_takesClause_0 18 rfl) ?_
      refine r_iconst 34 rfl ic_2 (ck DX7_takesClause_0 19 rfl) ?_
      rcases if_so hf with ⟨c13, hf⟩ | ⟨c13, hf⟩
      · refine r_icmp_ge_t 54 (ck DX7_takesClause_0 20 rfl) (by decide) c13 ?_
        refine r_iconst 55 rfl ic_1 (ck DX7_takesClause_0 29 rfl) ?_
        refine r_goto 59 (ck DX7_takesClause_0 30 rfl) (by decide) ?_
        obtain ⟨rfl, rfl⟩ := so2 hf
        exact r_iret rfl rfl (ck DX7_takesClause_0 32 rfl)
      · refine r_icmp_ge_f 37 rfl 54 (ck DX7_takesClause_0 20 rfl) (by decide) c13 ?_
        refine r_aload_n 38 rfl 0 rfl rfl (ck DX7_takesClause_0 21 rfl) ?_
        refine r_bipush 40 rfl bp_32 (ck DX7_takesClause_0 22 rfl) ?_
        obtain ⟨v16, g14, e15, hf⟩ := bd_so hf
        refine r_callVi 43 rfl (A_X7_takes X 32 g10 v16 g14 e15) (by omega) cw_X7_302 sh_96 cl_7 rfl rfl (Nat.le_of_ble_eq_true rfl) (ck DX7_takesClause_0 23 rfl) ?_
        rcases if_so hf with ⟨c17, hf⟩ | ⟨c17, hf⟩
        · refine r_if_eq_t 58 (ck DX7_takesClause_0 24 rfl) (by decide) c17 ?_
          refine r_iconst 59 rfl ic_0 (ck DX7_takesClause_0 31 rfl) ?_
          obtain ⟨rfl, rfl⟩ := so2 hf
          exact r_iret rfl rfl (ck DX7_takesClause_0 32 rfl)
        · refine r_if_eq_f 46 rfl 58 (ck DX7_takesClause_0 24 rfl) (by decide) c17 ?_
          refine r_aload_n 47 rfl 0 rfl rfl (ck DX7_takesClause_0 25 rfl) ?_
          refine r_iload_n 48 rfl 1 rfl rfl (ck DX7_takesClause_0 26 rfl) ?_
          obtain ⟨v20, g18, e19, hf⟩ := bd_so hf
          refine r_callVi 51 rfl (A_X7_takesE X x1 g14 v20 g18 e19) (by omega) cw_X7_337 sh_96 cl_7 rfl rfl (Nat.le_of_ble_eq_true rfl) (ck DX7_takesClause_0 27 rfl) ?_
          rcases if_so hf with ⟨c21, hf⟩ | ⟨c21, hf⟩
          · refine r_if_eq_t 58 (ck DX7_takesClause_0 28 rfl) (by decide) c21 ?_
            refine r_iconst 59 rfl ic_0 (ck DX7_takesClause_0 31 rfl) ?_
            obtain ⟨rfl, rfl⟩ := so2 hf
            exact r_iret rfl rfl (ck DX7_takesClause_0 32 rfl)
          · refine r_if_eq_f 54 rfl 58 (ck DX7_takesClause_0 28 rfl) (by decide) c21 ?_
            refine r_iconst 55 rfl ic_1 (ck DX7_takesClause_0 29 rfl) ?_
            refine r_goto 59 (ck DX7_takesClause_0 30 rfl) (by decide) ?_
            obtain ⟨rfl, rfl⟩ := so2 hf
            exact r_iret rfl rfl (ck DX7_takesClause_0 32 rfl)
-- X7_goesText
def f_X7_goesText_L15 : Nat → Int32 → Int32 → HP → Option (Int32 × HP)
  | 0, _, _, _ => none
  | n + 1, x1, x2, h => bd (f_X7_takesClause ((10 * x1) + x2) h) fun v7 g5 => if v7 = 0 then (some (0, g5)) else (lt (x2 + 1 : Int32) fun v9 => gd (inb x1 6) (lt (si g5 105 (Int32.toNatClampNeg x1) v9) fun g12 => if (g12.1 96 16) = (g12.1 96 15) then (some (1, g12)) else (if v9 = 10 then (some (0, g12)) else (bd (f_X7_takes 59 g12) fun v18 g16 => if v18 = 0 then (some (0, g16)) else (f_X7_goesText_L15 n x1 v9 g16)))))
set_option maxHeartbeats 4000000 in
set_option maxRecDepth 100000 in
theorem A_X7_goesText_L15 (X : XE) (r : Int32) (h' : HP) : ∀ (n : Nat) (x1 : Int32) (x2 : Int32) (h : HP), f_X7_goesText_L15 n x1 x2 h = some (r, h') → Run mX7_goesText 7 X 15 [(0, .ref (X.1 96)), (1, .int x1), (2, .int x2)] [] h (some (.int r)) h' := by
  intro n
  induction n with
  | zero => intro x1 x2 h hf; cases hf
  | succ n ih =>
    intro x1 x2 h hf
    rw [f_X7_goesText_L15] at hf
    refine r_aload_n 16 rfl 0 rfl rfl (ck DX7_goesText_0 10 rfl) ?_
    refine r_bipush 18 rfl bp_10 (ck DX7_goesText_0 11 rfl) ?_
    refine r_iload_n 19 rfl 1 rfl rfl (ck DX7_goesText_0 12 rfl) ?_
    refine r_imul 20 rfl (ck DX7_goesText_0 13 rfl) ?_
    refine r_iload_n 21 rfl 2 rfl rfl (ck DX7_goesText_0 14 rfl) ?_
    refine r_iadd 22 rfl (ck DX7_goesText_0 15 rfl) ?_
    obtain ⟨v7, g5, e6, hf⟩ := bd_so hf
    refine r_callVi 25 rfl (A_X7_takesClause X ((10 * x1) + x2) h v7 g5 e6) (by omega) cw_X7_340 sh_96 cl_7 rfl rfl (Nat.le_of_ble_eq_true rfl) (ck DX7_goesText_0 16 rfl) ?_
    rcases if_so hf with ⟨c8, hf⟩ | ⟨c8, hf⟩
    · refine r_if_ne_t 28 rfl 30 (ck DX7_goesText_0 17 rfl) (by decide) c8 ?_
      refine r_iconst 29 rfl ic_0 (ck DX7_goesText_0 18 rfl) ?_
      obtain ⟨rfl, rfl⟩ := so2 hf
      exact r_iret rfl rfl (ck DX7_goesText_0 19 rfl)
    · refine r_if_ne_f 30 (ck DX7_goesText_0 17 rfl) (by decide) c8 ?_
      obtain ⟨v9, e10, hf⟩ := lt_so hf
      refine r_iinc (lv' := [(2, .int v9), (0, .ref (X.1 96)), (1, .int x1)]) 33 rfl 2 (ck DX7_goesText_0 20 rfl) rfl (by rw [e10, ic_1]) (by decide) rfl ?_
      refine r_aload_n 34 rfl 1 rfl rfl (ck DX7_goesText_0 21 rfl) ?_
      refine r_getr (q := 105) 37 rfl (lq_7_19) sh_96 kd_7_19 fl_X7_68 (ck DX7_goesText_0 22 rfl) ?_
      refine r_iload_n 38 rfl 2 rfl rfl (ck DX7_goesText_0 23 rfl) ?_
      refine r_iload_n 39 rfl 0 rfl rfl (ck DX7_goesText_0 24 rfl) ?_
      obtain ⟨b11, hf⟩ := gd_so hf
      obtain ⟨g12, e13, hf⟩ := lt_so hf
      refine r_iast 40 rfl sh_105 (inb_vp b11) (ck DX7_goesText_0 25 rfl) ?_
      refine r_heap e13 ?_
      refine r_aload_n 41 rfl 1 rfl rfl (ck DX7_goesText_0 26 rfl) ?_
      refine r_geti 44 rfl sh_96 kd_7_16 fl_X7_59 (ck DX7_goesText_0 27 rfl) ?_
      refine r_aload_n 45 rfl 1 rfl rfl (ck DX7_goesText_0 28 rfl) ?_
      refine r_geti 48 rfl sh_96 kd_7_15 fl_X7_56 (ck DX7_goesText_0 29 rfl) ?_
      rcases if_so hf with ⟨c14, hf⟩ | ⟨c14, hf⟩
      · refine r_icmp_ne_t 51 rfl 53 (ck DX7_goesText_0 30 rfl) (by decide) c14 ?_
        refine r_iconst 52 rfl ic_1 (ck DX7_goesText_0 31 rfl) ?_
        obtain ⟨rfl, rfl⟩ := so2 hf
        exact r_iret rfl rfl (ck DX7_goesText_0 32 rfl)
      · refine r_icmp_ne_f 53 (ck DX7_goesText_0 30 rfl) (by decide) c14 ?_
        refine r_iload_n 54 rfl 0 rfl rfl (ck DX7_goesText_0 33 rfl) ?_
        refine r_bipush 56 rfl bp_10 (ck DX7_goesText_0 34 rfl) ?_
        rcases if_so hf with ⟨c15, hf⟩ | ⟨c15, hf⟩
        · refine r_icmp_eq_t 68 (ck DX7_goesText_0 35 rfl) (by decide) c15 ?_
          refine r_iconst 69 rfl ic_0 (ck DX7_goesText_0 40 rfl) ?_
          obtain ⟨rfl, rfl⟩ := so2 hf
          exact r_iret rfl rfl (ck DX7_goesText_0 41 rfl)
        · refine r_icmp_eq_f 59 rfl 68 (ck DX7_goesText_0 35 rfl) (by decide) c15 ?_
          refine r_aload_n 60 rfl 1 rfl rfl (ck DX7_goesText_0 36 rfl) ?_
          refine r_bipush 62 rfl bp_59 (ck DX7_goesText_0 37 rfl) ?_
          obtain ⟨v18, g16, e17, hf⟩ := bd_so hf
          refine r_callVi 65 rfl (A_X7_takes X 59 g12 v18 g16 e17) (by omega) cw_X7_302 sh_96 cl_7 rfl rfl (Nat.le_of_ble_eq_true rfl) (ck DX7_goesText_0 38 rfl) ?_
          rcases if_so hf with ⟨c19, hf⟩ | ⟨c19, hf⟩
          · refine r_if_ne_t 68 rfl 15 (ck DX7_goesText_0 39 rfl) (by decide) c19 ?_
            refine r_iconst 69 rfl ic_0 (ck DX7_goesText_0 40 rfl) ?_
            obtain ⟨rfl, rfl⟩ := so2 hf
            exact r_iret rfl rfl (ck DX7_goesText_0 41 rfl)
          · refine r_if_ne_f 15 (ck DX7_goesText_0 39 rfl) (by decide) c19 ?_
            refine r_sub (lv' := [(0, .ref (X.1 96)), (1, .int x1), (2, .int v9)]) [1, 2, 0] rfl ?_
            exact ih x1 v9 g16 hf
def f_X7_goesText (x1 : Int32) (h : HP) : Option (Int32 × HP) := lt (si h 96 16 0) fun g1 => lt (si g1 96 26 (100 * x1)) fun g3 => f_X7_goesText_L15 FZ x1 0 g3
set_option maxHeartbeats 4000000 in
set_option maxRecDepth 100000 in
theorem A_X7_goesText (X : XE) (x1 : Int32) (h : HP) (r : Int32) (h' : HP) (hf : f_X7_goesText x1 h = some (r, h')) : CC mX7_goesText 7 X [.ref (X.1 96), .int x1] h (some (.int r)) h' := by
  refine CC_of rfl (Nat.le_of_ble_eq_true rfl) ?_
  show Run mX7_goesText 7 X 0 [(0, .ref (X.1 96)), (1, .int x1)] [] h (some (.int r)) h'
  unfold f_X7_goesText at hf
  refine r_aload_n 1 rfl 0 rfl rfl (ck DX7_goesText_0 0 rfl) ?_
  refine r_iconst 2 rfl ic_0 (ck DX7_goesText_0 1 rfl) ?_
  obtain ⟨g1, e2, hf⟩ := lt_so hf
  refine r_puti 5 rfl sh_96 kd_7_16 fw_X7_59 rfl rfl (ck DX7_goesText_0 2 rfl) ?_
  refine r_heap e2 ?_
  refine r_aload_n 6 rfl 0 rfl rfl (ck DX7_goesText_0 3 rfl) ?_
  refine r_bipush 8 rfl bp_100 (ck DX7_goesText_0 4 rfl) ?_
  refine r_iload_n 9 rfl 1 rfl rfl (ck DX7_goesText_0 5 rfl) ?_
  refine r_imul 10 rfl (ck DX7_goesText_0 6 rfl) ?_
  obtain ⟨g3, e4, hf⟩ := lt_so hf
  refine r_puti 13 rfl sh_96 kd_7_26 fw_X7_89 rfl rfl (ck DX7_goesText_0 7 rfl) ?_
  refine r_heap e4 ?_
  refine r_iconst 14 rfl ic_0 (ck DX7_goesText_0 8 rfl) ?_
  refine r_istore_n (lv' := [(2, .int 0), (0, .ref (X.1 96)), (1, .int x1)]) 15 rfl (ck DX7_goesText_0 9 rfl) (by decide) rfl rfl ?_
  refine r_sub (lv' := [(0, .ref (X.1 96)), (1, .int x1), (2, .int 0)]) [1, 2, 0] rfl ?_
  exact A_X7_goesText_L15 X _ _ FZ x1 0 g3 hf
-- X7_ocean
def f_X7_ocean (h : HP) : Option (Int32 × HP) := if (h.1 96 13) = 6 then (some ((-4), h)) else (bd (f_X7_goesText (h.1 96 13) h) fun v4 g2 => lt (si g2 96 15 0) fun g5 => if v4 = 0 then (some (((-10) - (g5.1 96 16)), g5)) else (lt (si g5 96 14 (g5.1 96 13)) fun g8 => lt (si g8 96 13 ((g8.1 96 13) + 1)) fun g10 => some ((g10.1 96 14), g10)))
set_option maxHeartbeats 4000000 in
set_option maxRecDepth 100000 in
theorem A_X7_ocean (X : XE) (h : HP) (r : Int32) (h' : HP) (hf : f_X7_ocean h = some (r, h')) : CC mX7_ocean 8 X [.ref (X.1 96)] h (some (.int r)) h' := by
  refine CC_of rfl (Nat.le_of_ble_eq_true rfl) ?_
  show Run mX7_ocean 8 X 0 [(0, .ref (X.1 96))] [] h (some (.int r)) h'
  unfold f_X7_ocean at hf
  refine r_aload_n 1 rfl 0 rfl rfl (ck DX7_ocean_0 0 rfl) ?_
  refine r_geti 4 rfl sh_96 kd_7_13 fl_X7_50 (ck DX7_ocean_0 1 rfl) ?_
  refine r_bipush 6 rfl bp_6 (ck DX7_ocean_0 2 rfl) ?_
  rcases if_so hf with ⟨c1, hf⟩ | ⟨c1, hf⟩
  · refine r_icmp_ne_t 9 rfl 12 (ck DX7_ocean_0 3 rfl) (by decide) c1 ?_
    refine r_bipush 11 rfl bp_m4 (ck DX7_ocean_0 4 rfl) ?_
    obtain ⟨rfl, rfl⟩ := so2 hf
    exact r_iret rfl rfl (ck DX7_ocean_0 5 rfl)
  · refine r_icmp_ne_f 12 (ck DX7_ocean_0 3 rfl) (by decide) c1 ?_
    refine r_aload_n 13 rfl 0 rfl rfl (ck DX7_ocean_0 6 rfl) ?_
    refine r_aload_n 14 rfl 0 rfl rfl (ck DX7_ocean_0 7 rfl) ?_
    refine r_geti 17 rfl sh_96 kd_7_13 fl_X7_50 (ck DX7_ocean_0 8 rfl) ?_
    obtain ⟨v4, g2, e3, hf⟩ := bd_so hf
    refine r_callVi 20 rfl (A_X7_goesText X (h.1 96 13) h v4 g2 e3) (by omega) cw_X7_343 sh_96 cl_7 rfl rfl (Nat.le_of_ble_eq_true rfl) (ck DX7_ocean_0 9 rfl) ?_
    refine r_istore_n (lv' := [(1, .int v4), (0, .ref (X.1 96))]) 21 rfl (ck DX7_ocean_0 10 rfl) (by decide) rfl rfl ?_
    refine r_aload_n 22 rfl 1 rfl rfl (ck DX7_ocean_0 11 rfl) ?_
    refine r_iconst 23 rfl ic_0 (ck DX7_ocean_0 12 rfl) ?_
    obtain ⟨g5, e6, hf⟩ := lt_so hf
    refine r_puti 26 rfl sh_96 kd_7_15 fw_X7_56 rfl rfl (ck DX7_ocean_0 13 rfl) ?_
    refine r_heap e6 ?_
    refine r_iload_n 27 rfl 0 rfl rfl (ck DX7_ocean_0 14 rfl) ?_
    rcases if_so hf with ⟨c7, hf⟩ | ⟨c7, hf⟩
    · refine r_if_ne_t 30 rfl 38 (ck DX7_ocean_0 15 rfl) (by decide) c7 ?_
      refine r_bipush 32 rfl bp_m10 (ck DX7_ocean_0 16 rfl) ?_
      refine r_aload_n 33 rfl 1 rfl rfl (ck DX7_ocean_0 17 rfl) ?_
      refine r_geti 36 rfl sh_96 kd_7_16 fl_X7_59 (ck DX7_ocean_0 18 rfl) ?_
      refine r_isub 37 rfl (ck DX7_ocean_0 19 rfl) ?_
      obtain ⟨rfl, rfl⟩ := so2 hf
      exact r_iret rfl rfl (ck DX7_ocean_0 20 rfl)
    · refine r_if_ne_f 38 (ck DX7_ocean_0 15 rfl) (by decide) c7 ?_
      refine r_aload_n 39 rfl 1 rfl rfl (ck DX7_ocean_0 21 rfl) ?_
      refine r_aload_n 40 rfl 1 rfl rfl (ck DX7_ocean_0 22 rfl) ?_
      refine r_geti 43 rfl sh_96 kd_7_13 fl_X7_50 (ck DX7_ocean_0 23 rfl) ?_
      obtain ⟨g8, e9, hf⟩ := lt_so hf
      refine r_puti 46 rfl sh_96 kd_7_14 fw_X7_53 rfl rfl (ck DX7_ocean_0 24 rfl) ?_
      refine r_heap e9 ?_
      refine r_aload_n 47 rfl 1 rfl rfl (ck DX7_ocean_0 25 rfl) ?_
      refine r_dup 48 rfl rfl (ck DX7_ocean_0 26 rfl) ?_
      refine r_geti 51 rfl sh_96 kd_7_13 fl_X7_50 (ck DX7_ocean_0 27 rfl) ?_
      refine r_iconst 52 rfl ic_1 (ck DX7_ocean_0 28 rfl) ?_
      refine r_iadd 53 rfl (ck DX7_ocean_0 29 rfl) ?_
      obtain ⟨g10, e11, hf⟩ := lt_so hf
      refine r_puti 56 rfl sh_96 kd_7_13 fw_X7_50 rfl rfl (ck DX7_ocean_0 30 rfl) ?_
      refine r_heap e11 ?_
      refine r_aload_n 57 rfl 1 rfl rfl (ck DX7_ocean_0 31 rfl) ?_
      refine r_geti 60 rfl sh_96 kd_7_14 fl_X7_53 (ck DX7_ocean_0 32 rfl) ?_
      obtain ⟨rfl, rfl⟩ := so2 hf
      exact r_iret rfl rfl (ck DX7_ocean_0 33 rfl)
-- X7_begin
def f_X7_begin (h : HP) : Option Int32 := if (0 : Int32) ≤ (h.1 96 14) then (some (10 * (h.1 96 14))) else (some 0)
set_option maxHeartbeats 4000000 in
set_option maxRecDepth 100000 in
theorem A_X7_begin (X : XE) (h : HP) (r : Int32) (hf : f_X7_begin h = some r) : CC mX7_begin 1 X [.ref (X.1 96)] h (some (.int r)) h := by
  refine CC_of rfl (Nat.le_of_ble_eq_true rfl) ?_
  show Run mX7_begin 1 X 0 [(0, .ref (X.1 96))] [] h (some (.int r)) h
  unfold f_X7_begin at hf
  refine r_aload_n 1 rfl 0 rfl rfl (ck DX7_begin_0 0 rfl) ?_
  refine r_geti 4 rfl sh_96 kd_7_14 fl_X7_53 (ck DX7_begin_0 1 rfl) ?_
  rcases if_so hf with ⟨c1, hf⟩ | ⟨c1, hf⟩
  · refine r_if_ge_t 11 (ck DX7_begin_0 2 rfl) (by decide) c1 ?_
    refine r_bipush 13 rfl bp_10 (ck DX7_begin_0 5 rfl) ?_
    refine r_aload_n 14 rfl 0 rfl rfl (ck DX7_begin_0 6 rfl) ?_
    refine r_geti 17 rfl sh_96 kd_7_14 fl_X7_53 (ck DX7_begin_0 7 rfl) ?_
    refine r_imul 18 rfl (ck DX7_begin_0 8 rfl) ?_
    obtain rfl := so1 hf
    exact r_iret rfl rfl (ck DX7_begin_0 9 rfl)
  · refine r_if_ge_f 7 rfl 11 (ck DX7_begin_0 2 rfl) (by decide) c1 ?_
    refine r_iconst 8 rfl ic_0 (ck DX7_begin_0 3 rfl) ?_
    refine r_goto 18 (ck DX7_begin_0 4 rfl) (by decide) ?_
    obtain rfl := so1 hf
    exact r_iret rfl rfl (ck DX7_begin_0 9 rfl)
-- X7_behind
def f_X7_behind (h : HP) : Option Int32 := if (0 : Int32) ≤ (h.1 96 14) then (gd (inb (h.1 96 14) 6) (some ((10 * (h.1 96 14)) + (h.1 105 (Int32.toNatClampNeg (h.1 96 14)))))) else (some 0)
set_option maxHeartbeats 4000000 in
set_option maxRecDepth 100000 in
theorem A_X7_behind (X : XE) (h : HP) (r : Int32) (hf : f_X7_behind h = some r) : CC mX7_behind 1 X [.ref (X.1 96)] h (some (.int r)) h := by
  refine CC_of rfl (Nat.le_of_ble_eq_true rfl) ?_
  show Run mX7_behind 1 X 0 [(0, .ref (X.1 96))] [] h (some (.int r)) h
  unfold f_X7_behind at hf
  refine r_aload_n 1 rfl 0 rfl rfl (ck DX7_behind_0 0 rfl) ?_
  refine r_geti 4 rfl sh_96 kd_7_14 fl_X7_53 (ck DX7_behind_0 1 rfl) ?_
  rcases if_so hf with ⟨c1, hf⟩ | ⟨c1, hf⟩
  · refine r_if_ge_t 11 (ck DX7_behind_0 2 rfl) (by decide) c1 ?_
    refine r_bipush 13 rfl bp_10 (ck DX7_behind_0 5 rfl) ?_
    refine r_aload_n 14 rfl 0 rfl rfl (ck DX7_behind_0 6 rfl) ?_
    refine r_geti 17 rfl sh_96 kd_7_14 fl_X7_53 (ck DX7_behind_0 7 rfl) ?_
    refine r_imul 18 rfl (ck DX7_behind_0 8 rfl) ?_
    refine r_aload_n 19 rfl 0 rfl rfl (ck DX7_behind_0 9 rfl) ?_
    refine r_getr (q := 105) 22 rfl (lq_7_19) sh_96 kd_7_19 fl_X7_68 (ck DX7_behind_0 10 rfl) ?_
    refine r_aload_n 23 rfl 0 rfl rfl (ck DX7_behind_0 11 rfl) ?_
    refine r_geti 26 rfl sh_96 kd_7_14 fl_X7_53 (ck DX7_behind_0 12 rfl) ?_
    obtain ⟨b2, hf⟩ := gd_so hf
    refine r_iald 27 rfl sh_105 (inb_vp b2) (ck DX7_behind_0 13 rfl) ?_
    refine r_iadd 28 rfl (ck DX7_behind_0 14 rfl) ?_
    obtain rfl := so1 hf
    exact r_iret rfl rfl (ck DX7_behind_0 15 rfl)
  · refine r_if_ge_f 7 rfl 11 (ck DX7_behind_0 2 rfl) (by decide) c1 ?_
    refine r_iconst 8 rfl ic_0 (ck DX7_behind_0 3 rfl) ?_
    refine r_goto 28 (ck DX7_behind_0 4 rfl) (by decide) ?_
    obtain rfl := so1 hf
    exact r_iret rfl rfl (ck DX7_behind_0 15 rfl)
-- X7_lastOf
def f_X7_lastOf_L8 (h : HP) : Nat → Int32 → Int32 → Int32 → Option Int32
  | 0, _, _, _ => none
  | n + 1, x1, x3, x4 => bo (f_X7_behind h) fun v3 => if v3 ≤ x4 then (some x3) else (gd (inb x4 60) (if (h.1 106 (Int32.toNatClampNeg x4)) = x1 then (gd (inb x4 60) (lt ((h.1 107 (Int32.toNatClampNeg x4)) : Int32) fun v9 => lt (x4 + 1 : Int32) fun v11 => f_X7_lastOf_L8 h n x1 v9 v11)) else (lt (x4 + 1 : Int32) fun v13 => f_X7_lastOf_L8 h n x1 x3 v13)))
set_option maxHeartbeats 4000000 in
set_option maxRecDepth 100000 in
theorem A_X7_lastOf_L8 (X : XE) (h : HP) (r : Int32) : ∀ (n : Nat) (x1 : Int32) (x3 : Int32) (x4 : Int32), f_X7_lastOf_L8 h n x1 x3 x4 = some r → Run mX7_lastOf 2 X 8 [(0, .ref (X.1 96)), (1, .int x1), (3, .int x3), (4, .int x4)] [] h (some (.int r)) h := by
  intro n
  induction n with
  | zero => intro x1 x3 x4 hf; cases hf
  | succ n ih =>
    intro x1 x3 x4 hf
    rw [f_X7_lastOf_L8] at hf
    refine r_iload 10 rfl 3 rfl (ck DX7_lastOf_0 5 rfl) ?_
    refine r_aload_n 11 rfl 0 rfl rfl (ck DX7_lastOf_0 6 rfl) ?_
    obtain ⟨v3, e4, hf⟩ := bo_so hf
    refine r_callVi 14 rfl (A_X7_behind X h v3 e4) (by omega) cw_X7_349 sh_96 cl_7 rfl rfl (Nat.le_of_ble_eq_true rfl) (ck DX7_lastOf_0 7 rfl) ?_
    rcases if_so hf with ⟨c5, hf⟩ | ⟨c5, hf⟩
    · refine r_icmp_ge_t 46 (ck DX7_lastOf_0 8 rfl) (by decide) c5 ?_
      refine r_iload_n 47 rfl 2 rfl rfl (ck DX7_lastOf_0 24 rfl) ?_
      obtain rfl := so1 hf
      exact r_iret rfl rfl (ck DX7_lastOf_0 25 rfl)
    · refine r_icmp_ge_f 17 rfl 46 (ck DX7_lastOf_0 8 rfl) (by decide) c5 ?_
      refine r_aload_n 18 rfl 0 rfl rfl (ck DX7_lastOf_0 9 rfl) ?_
      refine r_getr (q := 106) 21 rfl (lq_7_20) sh_96 kd_7_20 fl_X7_71 (ck DX7_lastOf_0 10 rfl) ?_
      refine r_iload 23 rfl 3 rfl (ck DX7_lastOf_0 11 rfl) ?_
      obtain ⟨b6, hf⟩ := gd_so hf
      refine r_iald 24 rfl sh_106 (inb_vp b6) (ck DX7_lastOf_0 12 rfl) ?_
      refine r_iload_n 25 rfl 1 rfl rfl (ck DX7_lastOf_0 13 rfl) ?_
      rcases if_so hf with ⟨c7, hf⟩ | ⟨c7, hf⟩
      · refine r_icmp_ne_t 28 rfl 38 (ck DX7_lastOf_0 14 rfl) (by decide) c7 ?_
        refine r_aload_n 29 rfl 0 rfl rfl (ck DX7_lastOf_0 15 rfl) ?_
        refine r_getr (q := 107) 32 rfl (lq_7_21) sh_96 kd_7_21 fl_X7_74 (ck DX7_lastOf_0 16 rfl) ?_
        refine r_iload 34 rfl 3 rfl (ck DX7_lastOf_0 17 rfl) ?_
        obtain ⟨b8, hf⟩ := gd_so hf
        refine r_iald 35 rfl sh_107 (inb_vp b8) (ck DX7_lastOf_0 18 rfl) ?_
        refine r_goto 39 (ck DX7_lastOf_0 19 rfl) (by decide) ?_
        obtain ⟨v9, e10, hf⟩ := lt_so hf
        refine r_top e10 ?_
        refine r_istore_n (lv' := [(3, .int v9), (0, .ref (X.1 96)), (1, .int x1), (4, .int x4)]) 40 rfl (ck DX7_lastOf_0 21 rfl) (by decide) rfl rfl ?_
        obtain ⟨v11, e12, hf⟩ := lt_so hf
        refine r_iinc (lv' := [(4, .int v11), (3, .int v9), (0, .ref (X.1 96)), (1, .int x1)]) 43 rfl 3 (ck DX7_lastOf_0 22 rfl) rfl (by rw [e12, ic_1]) (by decide) rfl ?_
        refine r_goto 8 (ck DX7_lastOf_0 23 rfl) (by decide) ?_
        refine r_sub (lv' := [(0, .ref (X.1 96)), (1, .int x1), (3, .int v9), (4, .int v11)]) [2, 3, 1, 0] rfl ?_
        exact ih x1 v9 v11 hf
      · refine r_icmp_ne_f 38 (ck DX7_lastOf_0 14 rfl) (by decide) c7 ?_
        refine r_iload_n 39 rfl 2 rfl rfl (ck DX7_lastOf_0 20 rfl) ?_
        refine r_istore_n (lv' := [(3, .int x3), (0, .ref (X.1 96)), (1, .int x1), (4, .int x4)]) 40 rfl (ck DX7_lastOf_0 21 rfl) (by decide) rfl rfl ?_
        obtain ⟨v13, e14, hf⟩ := lt_so hf
        refine r_iinc (lv' := [(4, .int v13), (3, .int x3), (0, .ref (X.1 96)), (1, .int x1)]) 43 rfl 3 (ck DX7_lastOf_0 22 rfl) rfl (by rw [e14, ic_1]) (by decide) rfl ?_
        refine r_goto 8 (ck DX7_lastOf_0 23 rfl) (by decide) ?_
        refine r_sub (lv' := [(0, .ref (X.1 96)), (1, .int x1), (3, .int x3), (4, .int v13)]) [2, 3, 1, 0] rfl ?_
        exact ih x1 x3 v13 hf
def f_X7_lastOf (x1 : Int32) (x2 : Int32) (h : HP) : Option Int32 := bo (f_X7_begin h) fun v1 => f_X7_lastOf_L8 h FZ x1 x2 v1
set_option maxHeartbeats 4000000 in
set_option maxRecDepth 100000 in
theorem A_X7_lastOf (X : XE) (x1 : Int32) (x2 : Int32) (h : HP) (r : Int32) (hf : f_X7_lastOf x1 x2 h = some r) : CC mX7_lastOf 2 X [.ref (X.1 96), .int x1, .int x2] h (some (.int r)) h := by
  refine CC_of rfl (Nat.le_of_ble_eq_true rfl) ?_
  show Run mX7_lastOf 2 X 0 [(0, .ref (X.1 96)), (1, .int x1), (2, .int x2)] [] h (some (.int r)) h
  unfold f_X7_lastOf at hf
  refine r_iload_n 1 rfl 2 rfl rfl (ck DX7_lastOf_0 0 rfl) ?_
  refine r_istore_n (lv' := [(3, .int x2), (0, .ref (X.1 96)), (1, .int x1), (2, .int x2)]) 2 rfl (ck DX7_lastOf_0 1 rfl) (by decide) rfl rfl ?_
  refine r_aload_n 3 rfl 1 rfl rfl (ck DX7_lastOf_0 2 rfl) ?_
  obtain ⟨v1, e2, hf⟩ := bo_so hf
  refine r_callVi 6 rfl (A_X7_begin X h v1 e2) (by omega) cw_X7_346 sh_96 cl_7 rfl rfl (Nat.le_of_ble_eq_true rfl) (ck DX7_lastOf_0 3 rfl) ?_
  refine r_istore (lv' := [(4, .int v1), (3, .int x2), (0, .ref (X.1 96)), (1, .int x1), (2, .int x2)]) 8 rfl (ck DX7_lastOf_0 4 rfl) (by decide) rfl ?_
  refine r_sub (lv' := [(0, .ref (X.1 96)), (1, .int x1), (3, .int x2), (4, .int v1)]) [2, 3, 1, 0] rfl ?_
  exact A_X7_lastOf_L8 X h _ FZ x1 x2 v1 hf
-- X7_factOf
def f_X7_factOf (x1 : Int32) (x2 : Int32) (h : HP) : Option Int32 := if x1 = 0 then (some x2) else (if x1 = 1 then (gd (inb x2 6) (some (h.1 97 (Int32.toNatClampNeg x2)))) else (if x1 = 2 then (gd (inb x2 6) (some (h.1 98 (Int32.toNatClampNeg x2)))) else (if x1 = 3 then (gd (inb x2 6) (some ((h.1 99 (Int32.toNatClampNeg x2)) / 10))) else (if x1 = 4 then (gd (inb x2 6) (some ((h.1 100 (Int32.toNatClampNeg x2)) / 10))) else ((some ((h.1 96 5) - (h.1 96 5) / 10 * 10)))))))
set_option maxHeartbeats 4000000 in
set_option maxRecDepth 100000 in
theorem A_X7_factOf (X : XE) (x1 : Int32) (x2 : Int32) (h : HP) (r : Int32) (hf : f_X7_factOf x1 x2 h = some r) : CC mX7_factOf 1 X [.ref (X.1 96), .int x1, .int x2] h (some (.int r)) h := by
  refine CC_of rfl (Nat.le_of_ble_eq_true rfl) ?_
  show Run mX7_factOf 1 X 0 [(0, .ref (X.1 96)), (1, .int x1), (2, .int x2)] [] h (some (.int r)) h
  unfold f_X7_factOf at hf
  refine r_iload_n 1 rfl 1 rfl rfl (ck DX7_factOf_0 0 rfl) ?_
  rcases if_so hf with ⟨c1, hf⟩ | ⟨c1, hf⟩
  · refine r_tsw_in (v := 0) 36 (ck DX7_factOf_0 1 rfl) c1 (by decide) (by decide) rfl (by decide) ?_
    refine r_iload_n 37 rfl 2 rfl rfl (ck DX7_factOf_0 2 rfl) ?_
    obtain rfl := so1 hf
    exact r_iret rfl rfl (ck DX7_factOf_0 3 rfl)
  · skip
    rcases if_so hf with ⟨c2, hf⟩ | ⟨c2, hf⟩
    · refine r_tsw_in (v := 1) 38 (ck DX7_factOf_0 1 rfl) c2 (by decide) (by decide) rfl (by decide) ?_
      refine r_aload_n 39 rfl 0 rfl rfl (ck DX7_factOf_0 4 rfl) ?_
      refine r_getr (q := 97) 42 rfl (lq_7_6) sh_96 kd_7_6 fl_X7_28 (ck DX7_factOf_0 5 rfl) ?_
      refine r_iload_n 43 rfl 2 rfl rfl (ck DX7_factOf_0 6 rfl) ?_
      obtain ⟨b3, hf⟩ := gd_so hf
      refine r_iald 44 rfl sh_97 (inb_vp b3) (ck DX7_factOf_0 7 rfl) ?_
      obtain rfl := so1 hf
      exact r_iret rfl rfl (ck DX7_factOf_0 8 rfl)
    · skip
      rcases if_so hf with ⟨c4, hf⟩ | ⟨c4, hf⟩
      · refine r_tsw_in (v := 2) 45 (ck DX7_factOf_0 1 rfl) c4 (by decide) (by decide) rfl (by decide) ?_
        refine r_aload_n 46 rfl 0 rfl rfl (ck DX7_factOf_0 9 rfl) ?_
        refine r_getr (q := 98) 49 rfl (lq_7_7) sh_96 kd_7_7 fl_X7_32 (ck DX7_factOf_0 10 rfl) ?_
        refine r_iload_n 50 rfl 2 rfl rfl (ck DX7_factOf_0 11 rfl) ?_
        obtain ⟨b5, hf⟩ := gd_so hf
        refine r_iald 51 rfl sh_98 (inb_vp b5) (ck DX7_factOf_0 12 rfl) ?_
        obtain rfl := so1 hf
        exact r_iret rfl rfl (ck DX7_factOf_0 13 rfl)
      · skip
        rcases if_so hf with ⟨c6, hf⟩ | ⟨c6, hf⟩
        · refine r_tsw_in (v := 3) 52 (ck DX7_factOf_0 1 rfl) c6 (by decide) (by decide) rfl (by decide) ?_
          refine r_aload_n 53 rfl 0 rfl rfl (ck DX7_factOf_0 14 rfl) ?_
          refine r_getr (q := 99) 56 rfl (lq_7_8) sh_96 kd_7_8 fl_X7_35 (ck DX7_factOf_0 15 rfl) ?_
          refine r_iload_n 57 rfl 2 rfl rfl (ck DX7_factOf_0 16 rfl) ?_
          obtain ⟨b7, hf⟩ := gd_so hf
          refine r_iald 58 rfl sh_99 (inb_vp b7) (ck DX7_factOf_0 17 rfl) ?_
          refine r_bipush 60 rfl bp_10 (ck DX7_factOf_0 18 rfl) ?_
          refine r_idiv 61 rfl (by decide) (ck DX7_factOf_0 19 rfl) ?_
          obtain rfl := so1 hf
          exact r_iret rfl rfl (ck DX7_factOf_0 20 rfl)
        · skip
          rcases if_so hf with ⟨c8, hf⟩ | ⟨c8, hf⟩
          · refine r_tsw_in (v := 4) 62 (ck DX7_factOf_0 1 rfl) c8 (by decide) (by decide) rfl (by decide) ?_
            refine r_aload_n 63 rfl 0 rfl rfl (ck DX7_factOf_0 21 rfl) ?_
            refine r_getr (q := 100) 66 rfl (lq_7_9) sh_96 kd_7_9 fl_X7_38 (ck DX7_factOf_0 22 rfl) ?_
            refine r_iload_n 67 rfl 2 rfl rfl (ck DX7_factOf_0 23 rfl) ?_
            obtain ⟨b9, hf⟩ := gd_so hf
            refine r_iald 68 rfl sh_100 (inb_vp b9) (ck DX7_factOf_0 24 rfl) ?_
            refine r_bipush 70 rfl bp_10 (ck DX7_factOf_0 25 rfl) ?_
            refine r_idiv 71 rfl (by decide) (ck DX7_factOf_0 26 rfl) ?_
            obtain rfl := so1 hf
            exact r_iret rfl rfl (ck DX7_factOf_0 27 rfl)
          · skip
            have hx9 : x1.toInt < 0 ∨ (4 : Int) < x1.toInt := by
              have h8 := tsw_o (x := x1) 0 5 (fun k hk => by
                match k, hk with
                | 0, _ => exact ne_int c1
                | 1, _ => exact ne_int c2
                | 2, _ => exact ne_int c4
                | 3, _ => exact ne_int c6
                | 4, _ => exact ne_int c8
                | k + 5, hk => exact absurd hk (by omega))
              exact h8
            refine r_tsw_out 72 (ck DX7_factOf_0 1 rfl) hx9 (by decide) ?_
            refine r_aload_n 73 rfl 0 rfl rfl (ck DX7_factOf_0 28 rfl) ?_
            refine r_geti 76 rfl sh_96 kd_7_5 fl_X7_25 (ck DX7_factOf_0 29 rfl) ?_
            refine r_bipush 78 rfl bp_10 (ck DX7_factOf_0 30 rfl) ?_
            refine r_irem 79 rfl (by decide) (ck DX7_factOf_0 31 rfl) ?_
            obtain rfl := so1 hf
            exact r_iret rfl rfl (ck DX7_factOf_0 32 rfl)
-- X7_holds
def f_X7_holds_L10 : Nat → Int32 → Int32 → Int32 → Int32 → HP → Option (Int32 × HP)
  | 0, _, _, _, _, _ => none
  | n + 1, x1, x2, x3, x4, h => gd (inb x1 60) (if (h.1 109 (Int32.toNatClampNeg x1)) ≤ x4 then (gd (inb 0 100) (gd (zok (h.1 113 (Int32.toNatClampNeg 0))) (some ((h.1 113 (Int32.toNatClampNeg 0)), h)))) else (gd (inb x4 600) (lt ((h.1 110 (Int32.toNatClampNeg x4)) : Int32) fun v9 => if v9 = (-33) then (gd (inb (x3 - 1) 100) (if (h.1 113 (Int32.toNatClampNeg (x3 - 1))) = 0 then (gd (inb (x3 - 1) 100) (lt (si h 113 (Int32.toNatClampNeg (x3 - 1)) (vp_nar .boolean 1)) fun g15 => lt (x4 + 1 : Int32) fun v17 => f_X7_holds_L10 n x1 x2 x3 v17 g15)) else (gd (inb (x3 - 1) 100) (lt (si h 113 (Int32.toNatClampNeg (x3 - 1)) (vp_nar .boolean 0)) fun g20 => lt (x4 + 1 : Int32) fun v22 => f_X7_holds_L10 n x1 x2 x3 v22 g20)))) else (if (0 : Int32) ≤ v9 then (bo (f_X7_factOf (v9 / 1000) x2 h) fun v25 => lt (((v9 / 100) - (v9 / 100) / 10 * 10) : Int32) fun v27 => if v27 = 0 then (if (v9 - v9 / 100 * 100) ≤ v25 then (gd (inb x3 100) (lt (si h 113 (Int32.toNatClampNeg x3) (vp_nar .boolean 0)) fun g32 => lt (x3 + 1 : Int32) fun v34 => lt (x4 + 1 : Int32) fun v36 => f_X7_holds_L10 n x1 x2 v34 v36 g32)) else (gd (inb x3 100) (lt (si h 113 (Int32.toNatClampNeg x3) (vp_nar .boolean 1)) fun g39 => lt (x3 + 1 : Int32) fun v41 => lt (x4 + 1 : Int32) fun v43 => f_X7_holds_L10 n x1 x2 v41 v43 g39))) else (if v27 = 1 then (if v25 = (v9 - v9 / 100 * 100) then (gd (inb x3 100) (lt (si h 113 (Int32.toNatClampNeg x3) (vp_nar .boolean 1)) fun g48 => lt (x3 + 1 : Int32) fun v50 => lt (x4 + 1 : Int32) fun v52 => f_X7_holds_L10 n x1 x2 v50 v52 g48)) else (gd (inb x3 100) (lt (si h 113 (Int32.toNatClampNeg x3) (vp_nar .boolean 0)) fun g55 => lt (x3 + 1 : Int32) fun v57 => lt (x4 + 1 : Int32) fun v59 => f_X7_holds_L10 n x1 x2 v57 v59 g55))) else (if v25 ≤ (v9 - v9 / 100 * 100) then (gd (inb x3 100) (lt (si h 113 (Int32.toNatClampNeg x3) (vp_nar .boolean 0)) fun g63 => lt (x3 + 1 : Int32) fun v65 => lt (x4 + 1 : Int32) fun v67 => f_X7_holds_L10 n x1 x2 v65 v67 g63)) else (gd (inb x3 100) (lt (si h 113 (Int32.toNatClampNeg x3) (vp_nar .boolean 1)) fun g70 => lt (x3 + 1 : Int32) fun v72 => lt (x4 + 1 : Int32) fun v74 => f_X7_holds_L10 n x1 x2 v72 v74 g70))))) else (lt (x3 + (-1) : Int32) fun v76 => if v9 = (-38) then (gd (inb (v76 - 1) 100) (if (h.1 113 (Int32.toNatClampNeg (v76 - 1))) = 0 then (gd (inb (v76 - 1) 100) (lt (si h 113 (Int32.toNatClampNeg (v76 - 1)) (vp_nar .boolean 0)) fun g82 => lt (x4 + 1 : Int32) fun v84 => f_X7_holds_L10 n x1 x2 v76 v84 g82)) else (gd (inb v76 100) (if (h.1 113 (Int32.toNatClampNeg v76)) = 0 then (gd (inb (v76 - 1) 100) (lt (si h 113 (Int32.toNatClampNeg (v76 - 1)) (vp_nar .boolean 0)) fun g89 => lt (x4 + 1 : Int32) fun v91 => f_X7_holds_L10 n x1 x2 v76 v91 g89)) else (gd (inb (v76 - 1) 100) (lt (si h 113 (Int32.toNatClampNeg (v76 - 1)) (vp_nar .boolean 1)) fun g94 => lt (x4 + 1 : Int32) fun v96 => f_X7_holds_L10 n x1 x2 v76 v96 g94)))))) else (gd (inb (v76 - 1) 100) (if (h.1 113 (Int32.toNatClampNeg (v76 - 1))) = 0 then (gd (inb v76 100) (if (h.1 113 (Int32.toNatClampNeg v76)) = 0 then (gd (inb (v76 - 1) 100) (lt (si h 113 (Int32.toNatClampNeg (v76 - 1)) (vp_nar .boolean 0)) fun g103 => lt (x4 + 1 : Int32) fun v105 => f_X7_holds_L10 n x1 x2 v76 v105 g103)) else (gd (inb (v76 - 1) 100) (lt (si h 113 (Int32.toNatClampNeg (v76 - 1)) (vp_nar .boolean 1)) fun g108 => lt (x4 + 1 : Int32) fun v110 => f_X7_holds_L10 n x1 x2 v76 v110 g108)))) else (gd (inb (v76 - 1) 100) (lt (si h 113 (Int32.toNatClampNeg (v76 - 1)) (vp_nar .boolean 1)) fun g113 => lt (x4 + 1 : Int32) fun v115 => f_X7_holds_L10 n x1 x2 v76 v115 g113)))))))))
set_option maxHeartbeats 4000000 in
set_option maxRecDepth 100000 in
theorem A_X7_holds_L10 (X : XE) (r : Int32) (h' : HP) : ∀ (n : Nat) (x1 : Int32) (x2 : Int32) (x3 : Int32) (x4 : Int32) (h : HP), f_X7_holds_L10 n x1 x2 x3 x4 h = some (r, h') → Run mX7_holds 2 X 10 [(0, .ref (X.1 96)), (1, .int x1), (2, .int x2), (3, .int x3), (4, .int x4)] [] h (some (.int r)) h' := by
  intro n
  induction n with
  | zero => intro x1 x2 x3 x4 h hf; cases hf
  | succ n ih =>
    intro x1 x2 x3 x4 h hf
    rw [f_X7_holds_L10] at hf
    refine r_iload 12 rfl 4 rfl (ck DX7_holds_0 7 rfl) ?_
    refine r_aload_n 13 rfl 0 rfl rfl (ck DX7_holds_0 8 rfl) ?_
    refine r_getr (q := 109) 16 rfl (lq_7_23) sh_96 kd_7_23 fl_X7_80 (ck DX7_holds_0 9 rfl) ?_
    refine r_iload_n 17 rfl 1 rfl rfl (ck DX7_holds_0 10 rfl) ?_
    obtain ⟨b4, hf⟩ := gd_so hf
    refine r_iald 18 rfl sh_109 (inb_vp b4) (ck DX7_holds_0 11 rfl) ?_
    rcases if_so hf with ⟨c5, hf⟩ | ⟨c5, hf⟩
    · refine r_icmp_ge_t 243 (ck DX7_holds_0 12 rfl) (by decide) c5 ?_
      refine r_aload_n 244 rfl 0 rfl rfl (ck DX7_holds_2 33 rfl) ?_
      refine r_getr (q := 113) 247 rfl (lq_7_30) sh_96 kd_7_30 fl_X7_101 (ck DX7_holds_2 34 rfl) ?_
      refine r_iconst 248 rfl ic_0 (ck DX7_holds_2 35 rfl) ?_
      obtain ⟨b6, hf⟩ := gd_so hf
      refine r_zald 249 rfl sh_113 (inb_vp b6) (ck DX7_holds_2 36 rfl) ?_
      obtain ⟨b7, hf⟩ := gd_so hf
      obtain ⟨rfl, rfl⟩ := so2 hf
      exact r_iret rfl (zok_nar b7) (ck DX7_holds_2 37 rfl)
    · refine r_icmp_ge_f 21 rfl 243 (ck DX7_holds_0 12 rfl) (by decide) c5 ?_
      refine r_aload_n 22 rfl 0 rfl rfl (ck DX7_holds_0 13 rfl) ?_
      refine r_getr (q := 110) 25 rfl (lq_7_24) sh_96 kd_7_24 fl_X7_83 (ck DX7_holds_0 14 rfl) ?_
      refine r_iload 27 rfl 4 rfl (ck DX7_holds_0 15 rfl) ?_
      obtain ⟨b8, hf⟩ := gd_so hf
      refine r_iald 28 rfl sh_110 (inb_vp b8) (ck DX7_holds_0 16 rfl) ?_
      obtain ⟨v9, e10, hf⟩ := lt_so hf
      refine r_top e10 ?_
      refine r_istore (lv' := [(5, .int v9), (0, .ref (X.1 96)), (1, .int x1), (2, .int x2), (3, .int x3), (4, .int x4)]) 30 rfl (ck DX7_holds_0 17 rfl) (by decide) rfl ?_
      refine r_iload 32 rfl 0 rfl (ck DX7_holds_0 18 rfl) ?_
      refine r_bipush 34 rfl bp_m33 (ck DX7_holds_0 19 rfl) ?_
      rcases if_so hf with ⟨c11, hf⟩ | ⟨c11, hf⟩
      · refine r_icmp_ne_t 37 rfl 64 (ck DX7_holds_0 20 rfl) (by decide) c11 ?_
        refine r_aload_n 38 rfl 1 rfl rfl (ck DX7_holds_0 21 rfl) ?_
        refine r_getr (q := 113) 41 rfl (lq_7_30) sh_96 kd_7_30 fl_X7_101 (ck DX7_holds_0 22 rfl) ?_
        refine r_iload_n 42 rfl 4 rfl rfl (ck DX7_holds_0 23 rfl) ?_
        refine r_iconst 43 rfl ic_1 (ck DX7_holds_0 24 rfl) ?_
        refine r_isub 44 rfl (ck DX7_holds_0 25 rfl) ?_
        refine r_aload_n 45 rfl 1 rfl rfl (ck DX7_holds_0 26 rfl) ?_
        refine r_getr (q := 113) 48 rfl (lq_7_30) sh_96 kd_7_30 fl_X7_101 (ck DX7_holds_0 27 rfl) ?_
        refine r_iload_n 49 rfl 4 rfl rfl (ck DX7_holds_0 28 rfl) ?_
        refine r_iconst 50 rfl ic_1 (ck DX7_holds_0 29 rfl) ?_
        refine r_isub 51 rfl (ck DX7_holds_0 30 rfl) ?_
        obtain ⟨b12, hf⟩ := gd_so hf
        refine r_zald 52 rfl sh_113 (inb_vp b12) (ck DX7_holds_0 31 rfl) ?_
        rcases if_so hf with ⟨c13, hf⟩ | ⟨c13, hf⟩
        · refine r_if_ne_t 55 rfl 59 (ck DX7_holds_0 32 rfl) (by decide) c13 ?_
          refine r_iconst 56 rfl ic_1 (ck DX7_holds_0 33 rfl) ?_
          refine r_goto 60 (ck DX7_holds_0 34 rfl) (by decide) ?_
          obtain ⟨b14, hf⟩ := gd_so hf
          obtain ⟨g15, e16, hf⟩ := lt_so hf
          refine r_zast 61 rfl sh_113 (inb_vp b14) (ck DX7_holds_0 36 rfl) ?_
          refine r_heap e16 ?_
          refine r_goto 237 (ck DX7_holds_0 37 rfl) (by decide) ?_
          obtain ⟨v17, e18, hf⟩ := lt_so hf
          refine r_iinc (lv' := [(4, .int v17), (5, .int v9), (0, .ref (X.1 96)), (1, .int x1), (2, .int x2), (3, .int x3)]) 240 rfl 5 (ck DX7_holds_2 31 rfl) rfl (by rw [e18, ic_1]) (by decide) rfl ?_
          refine r_goto 10 (ck DX7_holds_2 32 rfl) (by decide) ?_
          refine r_sub (lv' := [(0, .ref (X.1 96)), (1, .int x1), (2, .int x2), (3, .int x3), (4, .int v17)]) [2, 3, 4, 5, 0] rfl ?_
          exact ih x1 x2 x3 v17 g15 hf
        · refine r_if_ne_f 59 (ck DX7_holds_0 32 rfl) (by decide) c13 ?_
          refine r_iconst 60 rfl ic_0 (ck DX7_holds_0 35 rfl) ?_
          obtain ⟨b19, hf⟩ := gd_so hf
          obtain ⟨g20, e21, hf⟩ := lt_so hf
          refine r_zast 61 rfl sh_113 (inb_vp b19) (ck DX7_holds_0 36 rfl) ?_
          refine r_heap e21 ?_
          refine r_goto 237 (ck DX7_holds_0 37 rfl) (by decide) ?_
          obtain ⟨v22, e23, hf⟩ := lt_so hf
          refine r_iinc (lv' := [(4, .int v22), (5, .int v9), (0, .ref (X.1 96)), (1, .int x1), (2, .int x2), (3, .int x3)]) 240 rfl 5 (ck DX7_holds_2 31 rfl) rfl (by rw [e23, ic_1]) (by decide) rfl ?_
          refine r_goto 10 (ck DX7_holds_2 32 rfl) (by decide) ?_
          refine r_sub (lv' := [(0, .ref (X.1 96)), (1, .int x1), (2, .int x2), (3, .int x3), (4, .int v22)]) [2, 3, 4, 5, 0] rfl ?_
          exact ih x1 x2 x3 v22 g20 hf
      · refine r_icmp_ne_f 64 (ck DX7_holds_0 20 rfl) (by decide) c11 ?_
        refine r_iload 66 rfl 0 rfl (ck DX7_holds_0 38 rfl) ?_
        rcases if_so hf with ⟨c24, hf⟩ | ⟨c24, hf⟩
        · refine r_if_ge_t 143 (ck DX7_holds_0 39 rfl) (by decide) c24 ?_
          refine r_aload_n 144 rfl 1 rfl rfl (ck DX7_holds_1 32 rfl) ?_
          refine r_iload 146 rfl 0 rfl (ck DX7_holds_1 33 rfl) ?_
          refine r_sipush 149 rfl sp_1000 (ck DX7_holds_1 34 rfl) ?_
          refine r_idiv 150 rfl (by decide) (ck DX7_holds_1 35 rfl) ?_
          refine r_iload_n 151 rfl 3 rfl rfl (ck DX7_holds_1 36 rfl) ?_
          obtain ⟨v25, e26, hf⟩ := bo_so hf
          refine r_callVi 154 rfl (A_X7_factOf X (v9 / 1000) x2 h v25 e26) (by omega) cw_X7_352 sh_96 cl_7 rfl rfl (Nat.le_of_ble_eq_true rfl) (ck DX7_holds_1 37 rfl) ?_
          refine r_istore (lv' := [(6, .int v25), (5, .int v9), (0, .ref (X.1 96)), (1, .int x1), (2, .int x2), (3, .int x3), (4, .int x4)]) 156 rfl (ck DX7_holds_1 38 rfl) (by decide) rfl ?_
          refine r_iload 158 rfl 1 rfl (ck DX7_holds_1 39 rfl) ?_
          refine r_bipush 160 rfl bp_100 (ck DX7_holds_1 40 rfl) ?_
          refine r_idiv 161 rfl (by decide) (ck DX7_holds_1 41 rfl) ?_
          refine r_bipush 163 rfl bp_10 (ck DX7_holds_1 42 rfl) ?_
          refine r_irem 164 rfl (by decide) (ck DX7_holds_1 43 rfl) ?_
          obtain ⟨v27, e28, hf⟩ := lt_so hf
          refine r_top e28 ?_
          refine r_istore (lv' := [(7, .int v27), (6, .int v25), (5, .int v9), (0, .ref (X.1 96)), (1, .int x1), (2, .int x2), (3, .int x3), (4, .int x4)]) 166 rfl (ck DX7_holds_1 44 rfl) (by decide) rfl ?_
          refine r_aload_n 167 rfl 3 rfl rfl (ck DX7_holds_1 45 rfl) ?_
          refine r_getr (q := 113) 170 rfl (lq_7_30) sh_96 kd_7_30 fl_X7_101 (ck DX7_holds_1 46 rfl) ?_
          refine r_iload_n 171 rfl 6 rfl rfl (ck DX7_holds_1 47 rfl) ?_
          refine r_iload 173 rfl 0 rfl (ck DX7_holds_1 48 rfl) ?_
          rcases if_so hf with ⟨c29, hf⟩ | ⟨c29, hf⟩
          · refine r_if_ne_t 176 rfl 194 (ck DX7_holds_1 49 rfl) (by decide) c29 ?_
            refine r_iload 178 rfl 1 rfl (ck DX7_holds_2 0 rfl) ?_
            refine r_iload 180 rfl 2 rfl (ck DX7_holds_2 1 rfl) ?_
            refine r_bipush 182 rfl bp_100 (ck DX7_holds_2 2 rfl) ?_
            refine r_irem 183 rfl (by decide) (ck DX7_holds_2 3 rfl) ?_
            rcases if_so hf with ⟨c30, hf⟩ | ⟨c30, hf⟩
            · refine r_icmp_ge_t 190 (ck DX7_holds_2 4 rfl) (by decide) c30 ?_
              refine r_iconst 191 rfl ic_0 (ck DX7_holds_2 7 rfl) ?_
              refine r_goto 233 (ck DX7_holds_2 8 rfl) (by decide) ?_
              obtain ⟨b31, hf⟩ := gd_so hf
              obtain ⟨g32, e33, hf⟩ := lt_so hf
              refine r_zast 234 rfl sh_113 (inb_vp b31) (ck DX7_holds_2 29 rfl) ?_
              refine r_heap e33 ?_
              obtain ⟨v34, e35, hf⟩ := lt_so hf
              refine r_iinc (lv' := [(3, .int v34), (7, .int v27), (6, .int v25), (5, .int v9), (0, .ref (X.1 96)), (1, .int x1), (2, .int x2), (4, .int x4)]) 237 rfl 6 (ck DX7_holds_2 30 rfl) rfl (by rw [e35, ic_1]) (by decide) rfl ?_
              obtain ⟨v36, e37, hf⟩ := lt_so hf
              refine r_iinc (lv' := [(4, .int v36), (3, .int v34), (7, .int v27), (6, .int v25), (5, .int v9), (0, .ref (X.1 96)), (1, .int x1), (2, .int x2)]) 240 rfl 7 (ck DX7_holds_2 31 rfl) rfl (by rw [e37, ic_1]) (by decide) rfl ?_
              refine r_goto 10 (ck DX7_holds_2 32 rfl) (by decide) ?_
              refine r_sub (lv' := [(0, .ref (X.1 96)), (1, .int x1), (2, .int x2), (3, .int v34), (4, .int v36)]) [5, 6, 7, 1, 0] rfl ?_
              exact ih x1 x2 v34 v36 g32 hf
            · refine r_icmp_ge_f 186 rfl 190 (ck DX7_holds_2 4 rfl) (by decide) c30 ?_
              refine r_iconst 187 rfl ic_1 (ck DX7_holds_2 5 rfl) ?_
              refine r_goto 233 (ck DX7_holds_2 6 rfl) (by decide) ?_
              obtain ⟨b38, hf⟩ := gd_so hf
              obtain ⟨g39, e40, hf⟩ := lt_so hf
              refine r_zast 234 rfl sh_113 (inb_vp b38) (ck DX7_holds_2 29 rfl) ?_
              refine r_heap e40 ?_
              obtain ⟨v41, e42, hf⟩ := lt_so hf
              refine r_iinc (lv' := [(3, .int v41), (7, .int v27), (6, .int v25), (5, .int v9), (0, .ref (X.1 96)), (1, .int x1), (2, .int x2), (4, .int x4)]) 237 rfl 6 (ck DX7_holds_2 30 rfl) rfl (by rw [e42, ic_1]) (by decide) rfl ?_
              obtain ⟨v43, e44, hf⟩ := lt_so hf
              refine r_iinc (lv' := [(4, .int v43), (3, .int v41), (7, .int v27), (6, .int v25), (5, .int v9), (0, .ref (X.1 96)), (1, .int x1), (2, .int x2)]) 240 rfl 7 (ck DX7_holds_2 31 rfl) rfl (by rw [e44, ic_1]) (by decide) rfl ?_
              refine r_goto 10 (ck DX7_holds_2 32 rfl) (by decide) ?_
              refine r_sub (lv' := [(0, .ref (X.1 96)), (1, .int x1), (2, .int x2), (3, .int v41), (4, .int v43)]) [5, 6, 7, 1, 0] rfl ?_
              exact ih x1 x2 v41 v43 g39 hf
          · refine r_if_ne_f 194 (ck DX7_holds_1 49 rfl) (by decide) c29 ?_
            refine r_iload 196 rfl 0 rfl (ck DX7_holds_2 9 rfl) ?_
            refine r_iconst 197 rfl ic_1 (ck DX7_holds_2 10 rfl) ?_
            rcases if_so hf with ⟨c45, hf⟩ | ⟨c45, hf⟩
            · refine r_icmp_ne_t 200 rfl 218 (ck DX7_holds_2 11 rfl) (by decide) c45 ?_
              refine r_iload 202 rfl 1 rfl (ck DX7_holds_2 12 rfl) ?_
              refine r_iload 204 rfl 2 rfl (ck DX7_holds_2 13 rfl) ?_
              refine r_bipush 206 rfl bp_100 (ck DX7_holds_2 14 rfl) ?_
              refine r_irem 207 rfl (by decide) (ck DX7_holds_2 15 rfl) ?_
              rcases if_so hf with ⟨c46, hf⟩ | ⟨c46, hf⟩
              · refine r_icmp_ne_t 210 rfl 214 (ck DX7_holds_2 16 rfl) (by decide) c46 ?_
                refine r_iconst 211 rfl ic_1 (ck DX7_holds_2 17 rfl) ?_
                refine r_goto 233 (ck DX7_holds_2 18 rfl) (by decide) ?_
                obtain ⟨b47, hf⟩ := gd_so hf
                obtain ⟨g48, e49, hf⟩ := lt_so hf
                refine r_zast 234 rfl sh_113 (inb_vp b47) (ck DX7_holds_2 29 rfl) ?_
                refine r_heap e49 ?_
                obtain ⟨v50, e51, hf⟩ := lt_so hf
                refine r_iinc (lv' := [(3, .int v50), (7, .int v27), (6, .int v25), (5, .int v9), (0, .ref (X.1 96)), (1, .int x1), (2, .int x2), (4, .int x4)]) 237 rfl 6 (ck DX7_holds_2 30 rfl) rfl (by rw [e51, ic_1]) (by decide) rfl ?_
                obtain ⟨v52, e53, hf⟩ := lt_so hf
                refine r_iinc (lv' := [(4, .int v52), (3, .int v50), (7, .int v27), (6, .int v25), (5, .int v9), (0, .ref (X.1 96)), (1, .int x1), (2, .int x2)]) 240 rfl 7 (ck DX7_holds_2 31 rfl) rfl (by rw [e53, ic_1]) (by decide) rfl ?_
                refine r_goto 10 (ck DX7_holds_2 32 rfl) (by decide) ?_
                refine r_sub (lv' := [(0, .ref (X.1 96)), (1, .int x1), (2, .int x2), (3, .int v50), (4, .int v52)]) [5, 6, 7, 1, 0] rfl ?_
                exact ih x1 x2 v50 v52 g48 hf
              · refine r_icmp_ne_f 214 (ck DX7_holds_2 16 rfl) (by decide) c46 ?_
                refine r_iconst 215 rfl ic_0 (ck DX7_holds_2 19 rfl) ?_
                refine r_goto 233 (ck DX7_holds_2 20 rfl) (by decide) ?_
                obtain ⟨b54, hf⟩ := gd_so hf
                obtain ⟨g55, e56, hf⟩ := lt_so hf
                refine r_zast 234 rfl sh_113 (inb_vp b54) (ck DX7_holds_2 29 rfl) ?_
                refine r_heap e56 ?_
                obtain ⟨v57, e58, hf⟩ := lt_so hf
                refine r_iinc (lv' := [(3, .int v57), (7, .int v27), (6, .int v25), (5, .int v9), (0, .ref (X.1 96)), (1, .int x1), (2, .int x2), (4, .int x4)]) 237 rfl 6 (ck DX7_holds_2 30 rfl) rfl (by rw [e58, ic_1]) (by decide) rfl ?_
                obtain ⟨v59, e60, hf⟩ := lt_so hf
                refine r_iinc (lv' := [(4, .int v59), (3, .int v57), (7, .int v27), (6, .int v25), (5, .int v9), (0, .ref (X.1 96)), (1, .int x1), (2, .int x2)]) 240 rfl 7 (ck DX7_holds_2 31 rfl) rfl (by rw [e60, ic_1]) (by decide) rfl ?_
                refine r_goto 10 (ck DX7_holds_2 32 rfl) (by decide) ?_
                refine r_sub (lv' := [(0, .ref (X.1 96)), (1, .int x1), (2, .int x2), (3, .int v57), (4, .int v59)]) [5, 6, 7, 1, 0] rfl ?_
                exact ih x1 x2 v57 v59 g55 hf
            · refine r_icmp_ne_f 218 (ck DX7_holds_2 11 rfl) (by decide) c45 ?_
              refine r_iload 220 rfl 1 rfl (ck DX7_holds_2 21 rfl) ?_
              refine r_iload 222 rfl 2 rfl (ck DX7_holds_2 22 rfl) ?_
              refine r_bipush 224 rfl bp_100 (ck DX7_holds_2 23 rfl) ?_
              refine r_irem 225 rfl (by decide) (ck DX7_holds_2 24 rfl) ?_
              rcases if_so hf with ⟨c61, hf⟩ | ⟨c61, hf⟩
              · refine r_icmp_le_t 232 (ck DX7_holds_2 25 rfl) (by decide) c61 ?_
                refine r_iconst 233 rfl ic_0 (ck DX7_holds_2 28 rfl) ?_
                obtain ⟨b62, hf⟩ := gd_so hf
                obtain ⟨g63, e64, hf⟩ := lt_so hf
                refine r_zast 234 rfl sh_113 (inb_vp b62) (ck DX7_holds_2 29 rfl) ?_
                refine r_heap e64 ?_
                obtain ⟨v65, e66, hf⟩ := lt_so hf
                refine r_iinc (lv' := [(3, .int v65), (7, .int v27), (6, .int v25), (5, .int v9), (0, .ref (X.1 96)), (1, .int x1), (2, .int x2), (4, .int x4)]) 237 rfl 6 (ck DX7_holds_2 30 rfl) rfl (by rw [e66, ic_1]) (by decide) rfl ?_
                obtain ⟨v67, e68, hf⟩ := lt_so hf
                refine r_iinc (lv' := [(4, .int v67), (3, .int v65), (7, .int v27), (6, .int v25), (5, .int v9), (0, .ref (X.1 96)), (1, .int x1), (2, .int x2)]) 240 rfl 7 (ck DX7_holds_2 31 rfl) rfl (by rw [e68, ic_1]) (by decide) rfl ?_
                refine r_goto 10 (ck DX7_holds_2 32 rfl) (by decide) ?_
                refine r_sub (lv' := [(0, .ref (X.1 96)), (1, .int x1), (2, .int x2), (3, .int v65), (4, .int v67)]) [5, 6, 7, 1, 0] rfl ?_
                exact ih x1 x2 v65 v67 g63 hf
              · refine r_icmp_le_f 228 rfl 232 (ck DX7_holds_2 25 rfl) (by decide) c61 ?_
                refine r_iconst 229 rfl ic_1 (ck DX7_holds_2 26 rfl) ?_
                refine r_goto 233 (ck DX7_holds_2 27 rfl) (by decide) ?_
                obtain ⟨b69, hf⟩ := gd_so hf
                obtain ⟨g70, e71, hf⟩ := lt_so hf
                refine r_zast 234 rfl sh_113 (inb_vp b69) (ck DX7_holds_2 29 rfl) ?_
                refine r_heap e71 ?_
                obtain ⟨v72, e73, hf⟩ := lt_so hf
                refine r_iinc (lv' := [(3, .int v72), (7, .int v27), (6, .int v25), (5, .int v9), (0, .ref (X.1 96)), (1, .int x1), (2, .int x2), (4, .int x4)]) 237 rfl 6 (ck DX7_holds_2 30 rfl) rfl (by rw [e73, ic_1]) (by decide) rfl ?_
                obtain ⟨v74, e75, hf⟩ := lt_so hf
                refine r_iinc (lv' := [(4, .int v74), (3, .int v72), (7, .int v27), (6, .int v25), (5, .int v9), (0, .ref (X.1 96)), (1, .int x1), (2, .int x2)]) 240 rfl 7 (ck DX7_holds_2 31 rfl) rfl (by rw [e75, ic_1]) (by decide) rfl ?_
                refine r_goto 10 (ck DX7_holds_2 32 rfl) (by decide) ?_
                refine r_sub (lv' := [(0, .ref (X.1 96)), (1, .int x1), (2, .int x2), (3, .int v72), (4, .int v74)]) [5, 6, 7, 1, 0] rfl ?_
                exact ih x1 x2 v72 v74 g70 hf
        · refine r_if_ge_f 69 rfl 143 (ck DX7_holds_0 39 rfl) (by decide) c24 ?_
          obtain ⟨v76, e77, hf⟩ := lt_so hf
          refine r_iinc (lv' := [(3, .int v76), (5, .int v9), (0, .ref (X.1 96)), (1, .int x1), (2, .int x2), (4, .int x4)]) 72 rfl 4 (ck DX7_holds_0 40 rfl) rfl (by rw [e77, ic_m1]) (by decide) rfl ?_
          refine r_aload_n 73 rfl 2 rfl rfl (ck DX7_holds_0 41 rfl) ?_
          refine r_getr (q := 113) 76 rfl (lq_7_30) sh_96 kd_7_30 fl_X7_101 (ck DX7_holds_0 42 rfl) ?_
          refine r_iload_n 77 rfl 0 rfl rfl (ck DX7_holds_0 43 rfl) ?_
          refine r_iconst 78 rfl ic_1 (ck DX7_holds_0 44 rfl) ?_
          refine r_isub 79 rfl (ck DX7_holds_0 45 rfl) ?_
          refine r_iload 81 rfl 1 rfl (ck DX7_holds_0 46 rfl) ?_
          refine r_bipush 83 rfl bp_m38 (ck DX7_holds_0 47 rfl) ?_
          rcases if_so hf with ⟨c78, hf⟩ | ⟨c78, hf⟩
          · refine r_icmp_ne_t 86 rfl 114 (ck DX7_holds_0 48 rfl) (by decide) c78 ?_
            refine r_aload_n 87 rfl 2 rfl rfl (ck DX7_holds_0 49 rfl) ?_
            refine r_getr (q := 113) 90 rfl (lq_7_30) sh_96 kd_7_30 fl_X7_101 (ck DX7_holds_1 0 rfl) ?_
            refine r_iload_n 91 rfl 0 rfl rfl (ck DX7_holds_1 1 rfl) ?_
            refine r_iconst 92 rfl ic_1 (ck DX7_holds_1 2 rfl) ?_
            refine r_isub 93 rfl (ck DX7_holds_1 3 rfl) ?_
            obtain ⟨b79, hf⟩ := gd_so hf
            refine r_zald 94 rfl sh_113 (inb_vp b79) (ck DX7_holds_1 4 rfl) ?_
            rcases if_so hf with ⟨c80, hf⟩ | ⟨c80, hf⟩
            · refine r_if_eq_t 110 (ck DX7_holds_1 5 rfl) (by decide) c80 ?_
              refine r_iconst 111 rfl ic_0 (ck DX7_holds_1 13 rfl) ?_
              refine r_goto 139 (ck DX7_holds_1 14 rfl) (by decide) ?_
              obtain ⟨b81, hf⟩ := gd_so hf
              obtain ⟨g82, e83, hf⟩ := lt_so hf
              refine r_zast 140 rfl sh_113 (inb_vp b81) (ck DX7_holds_1 30 rfl) ?_
              refine r_heap e83 ?_
              refine r_goto 237 (ck DX7_holds_1 31 rfl) (by decide) ?_
              obtain ⟨v84, e85, hf⟩ := lt_so hf
              refine r_iinc (lv' := [(4, .int v84), (3, .int v76), (5, .int v9), (0, .ref (X.1 96)), (1, .int x1), (2, .int x2)]) 240 rfl 5 (ck DX7_holds_2 31 rfl) rfl (by rw [e85, ic_1]) (by decide) rfl ?_
              refine r_goto 10 (ck DX7_holds_2 32 rfl) (by decide) ?_
              refine r_sub (lv' := [(0, .ref (X.1 96)), (1, .int x1), (2, .int x2), (3, .int v76), (4, .int v84)]) [3, 4, 5, 1, 0] rfl ?_
              exact ih x1 x2 v76 v84 g82 hf
            · refine r_if_eq_f 97 rfl 110 (ck DX7_holds_1 5 rfl) (by decide) c80 ?_
              refine r_aload_n 98 rfl 2 rfl rfl (ck DX7_holds_1 6 rfl) ?_
              refine r_getr (q := 113) 101 rfl (lq_7_30) sh_96 kd_7_30 fl_X7_101 (ck DX7_holds_1 7 rfl) ?_
              refine r_iload_n 102 rfl 0 rfl rfl (ck DX7_holds_1 8 rfl) ?_
              obtain ⟨b86, hf⟩ := gd_so hf
              refine r_zald 103 rfl sh_113 (inb_vp b86) (ck DX7_holds_1 9 rfl) ?_
              rcases if_so hf with ⟨c87, hf⟩ | ⟨c87, hf⟩
              · refine r_if_eq_t 110 (ck DX7_holds_1 10 rfl) (by decide) c87 ?_
                refine r_iconst 111 rfl ic_0 (ck DX7_holds_1 13 rfl) ?_
                refine r_goto 139 (ck DX7_holds_1 14 rfl) (by decide) ?_
                obtain ⟨b88, hf⟩ := gd_so hf
                obtain ⟨g89, e90, hf⟩ := lt_so hf
                refine r_zast 140 rfl sh_113 (inb_vp b88) (ck DX7_holds_1 30 rfl) ?_
                refine r_heap e90 ?_
                refine r_goto 237 (ck DX7_holds_1 31 rfl) (by decide) ?_
                obtain ⟨v91, e92, hf⟩ := lt_so hf
                refine r_iinc (lv' := [(4, .int v91), (3, .int v76), (5, .int v9), (0, .ref (X.1 96)), (1, .int x1), (2, .int x2)]) 240 rfl 5 (ck DX7_holds_2 31 rfl) rfl (by rw [e92, ic_1]) (by decide) rfl ?_
                refine r_goto 10 (ck DX7_holds_2 32 rfl) (by decide) ?_
                refine r_sub (lv' := [(0, .ref (X.1 96)), (1, .int x1), (2, .int x2), (3, .int v76), (4, .int v91)]) [3, 4, 5, 1, 0] rfl ?_
                exact ih x1 x2 v76 v91 g89 hf
              · refine r_if_eq_f 106 rfl 110 (ck DX7_holds_1 10 rfl) (by decide) c87 ?_
                refine r_iconst 107 rfl ic_1 (ck DX7_holds_1 11 rfl) ?_
                refine r_goto 139 (ck DX7_holds_1 12 rfl) (by decide) ?_
                obtain ⟨b93, hf⟩ := gd_so hf
                obtain ⟨g94, e95, hf⟩ := lt_so hf
                refine r_zast 140 rfl sh_113 (inb_vp b93) (ck DX7_holds_1 30 rfl) ?_
                refine r_heap e95 ?_
                refine r_goto 237 (ck DX7_holds_1 31 rfl) (by decide) ?_
                obtain ⟨v96, e97, hf⟩ := lt_so hf
                refine r_iinc (lv' := [(4, .int v96), (3, .int v76), (5, .int v9), (0, .ref (X.1 96)), (1, .int x1), (2, .int x2)]) 240 rfl 5 (ck DX7_holds_2 31 rfl) rfl (by rw [e97, ic_1]) (by decide) rfl ?_
                refine r_goto 10 (ck DX7_holds_2 32 rfl) (by decide) ?_
                refine r_sub (lv' := [(0, .ref (X.1 96)), (1, .int x1), (2, .int x2), (3, .int v76), (4, .int v96)]) [3, 4, 5, 1, 0] rfl ?_
                exact ih x1 x2 v76 v96 g94 hf
          · refine r_icmp_ne_f 114 (ck DX7_holds_0 48 rfl) (by decide) c78 ?_
            refine r_aload_n 115 rfl 2 rfl rfl (ck DX7_holds_1 15 rfl) ?_
            refine r_getr (q := 113) 118 rfl (lq_7_30) sh_96 kd_7_30 fl_X7_101 (ck DX7_holds_1 16 rfl) ?_
            refine r_iload_n 119 rfl 0 rfl rfl (ck DX7_holds_1 17 rfl) ?_
            refine r_iconst 120 rfl ic_1 (ck DX7_holds_1 18 rfl) ?_
            refine r_isub 121 rfl (ck DX7_holds_1 19 rfl) ?_
            obtain ⟨b98, hf⟩ := gd_so hf
            refine r_zald 122 rfl sh_113 (inb_vp b98) (ck DX7_holds_1 20 rfl) ?_
            rcases if_so hf with ⟨c99, hf⟩ | ⟨c99, hf⟩
            · refine r_if_ne_t 125 rfl 134 (ck DX7_holds_1 21 rfl) (by decide) c99 ?_
              refine r_aload_n 126 rfl 2 rfl rfl (ck DX7_holds_1 22 rfl) ?_
              refine r_getr (q := 113) 129 rfl (lq_7_30) sh_96 kd_7_30 fl_X7_101 (ck DX7_holds_1 23 rfl) ?_
              refine r_iload_n 130 rfl 0 rfl rfl (ck DX7_holds_1 24 rfl) ?_
              obtain ⟨b100, hf⟩ := gd_so hf
              refine r_zald 131 rfl sh_113 (inb_vp b100) (ck DX7_holds_1 25 rfl) ?_
              rcases if_so hf with ⟨c101, hf⟩ | ⟨c101, hf⟩
              · refine r_if_eq_t 138 (ck DX7_holds_1 26 rfl) (by decide) c101 ?_
                refine r_iconst 139 rfl ic_0 (ck DX7_holds_1 29 rfl) ?_
                obtain ⟨b102, hf⟩ := gd_so hf
                obtain ⟨g103, e104, hf⟩ := lt_so hf
                refine r_zast 140 rfl sh_113 (inb_vp b102) (ck DX7_holds_1 30 rfl) ?_
                refine r_heap e104 ?_
                refine r_goto 237 (ck DX7_holds_1 31 rfl) (by decide) ?_
                obtain ⟨v105, e106, hf⟩ := lt_so hf
                refine r_iinc (lv' := [(4, .int v105), (3, .int v76), (5, .int v9), (0, .ref (X.1 96)), (1, .int x1), (2, .int x2)]) 240 rfl 5 (ck DX7_holds_2 31 rfl) rfl (by rw [e106, ic_1]) (by decide) rfl ?_
                refine r_goto 10 (ck DX7_holds_2 32 rfl) (by decide) ?_
                refine r_sub (lv' := [(0, .ref (X.1 96)), (1, .int x1), (2, .int x2), (3, .int v76), (4, .int v105)]) [3, 4, 5, 1, 0] rfl ?_
                exact ih x1 x2 v76 v105 g103 hf
              · refine r_if_eq_f 134 rfl 138 (ck DX7_holds_1 26 rfl) (by decide) c101 ?_
                refine r_iconst 135 rfl ic_1 (ck DX7_holds_1 27 rfl) ?_
                refine r_goto 139 (ck DX7_holds_1 28 rfl) (by decide) ?_
                obtain ⟨b107, hf⟩ := gd_so hf
                obtain ⟨g108, e109, hf⟩ := lt_so hf
                refine r_zast 140 rfl sh_113 (inb_vp b107) (ck DX7_holds_1 30 rfl) ?_
                refine r_heap e109 ?_
                refine r_goto 237 (ck DX7_holds_1 31 rfl) (by decide) ?_
                obtain ⟨v110, e111, hf⟩ := lt_so hf
                refine r_iinc (lv' := [(4, .int v110), (3, .int v76), (5, .int v9), (0, .ref (X.1 96)), (1, .int x1), (2, .int x2)]) 240 rfl 5 (ck DX7_holds_2 31 rfl) rfl (by rw [e111, ic_1]) (by decide) rfl ?_
                refine r_goto 10 (ck DX7_holds_2 32 rfl) (by decide) ?_
                refine r_sub (lv' := [(0, .ref (X.1 96)), (1, .int x1), (2, .int x2), (3, .int v76), (4, .int v110)]) [3, 4, 5, 1, 0] rfl ?_
                exact ih x1 x2 v76 v110 g108 hf
            · refine r_if_ne_f 134 (ck DX7_holds_1 21 rfl) (by decide) c99 ?_
              refine r_iconst 135 rfl ic_1 (ck DX7_holds_1 27 rfl) ?_
              refine r_goto 139 (ck DX7_holds_1 28 rfl) (by decide) ?_
              obtain ⟨b112, hf⟩ := gd_so hf
              obtain ⟨g113, e114, hf⟩ := lt_so hf
              refine r_zast 140 rfl sh_113 (inb_vp b112) (ck DX7_holds_1 30 rfl) ?_
              refine r_heap e114 ?_
              refine r_goto 237 (ck DX7_holds_1 31 rfl) (by decide) ?_
              obtain ⟨v115, e116, hf⟩ := lt_so hf
              refine r_iinc (lv' := [(4, .int v115), (3, .int v76), (5, .int v9), (0, .ref (X.1 96)), (1, .int x1), (2, .int x2)]) 240 rfl 5 (ck DX7_holds_2 31 rfl) rfl (by rw [e116, ic_1]) (by decide) rfl ?_
              refine r_goto 10 (ck DX7_holds_2 32 rfl) (by decide) ?_
              refine r_sub (lv' := [(0, .ref (X.1 96)), (1, .int x1), (2, .int x2), (3, .int v76), (4, .int v115)]) [3, 4, 5, 1, 0] rfl ?_
              exact ih x1 x2 v76 v115 g113 hf
def f_X7_holds (x1 : Int32) (x2 : Int32) (h : HP) : Option (Int32 × HP) := gd (inb x1 60) (lt ((h.1 108 (Int32.toNatClampNeg x1)) : Int32) fun v2 => f_X7_holds_L10 FZ x1 x2 0 v2 h)
set_option maxHeartbeats 4000000 in
set_option maxRecDepth 100000 in
theorem A_X7_holds (X : XE) (x1 : Int32) (x2 : Int32) (h : HP) (r : Int32) (h' : HP) (hf : f_X7_holds x1 x2 h = some (r, h')) : CC mX7_holds 2 X [.ref (X.1 96), .int x1, .int x2] h (some (.int r)) h' := by
  refine CC_of rfl (Nat.le_of_ble_eq_true rfl) ?_
  show Run mX7_holds 2 X 0 [(0, .ref (X.1 96)), (1, .int x1), (2, .int x2)] [] h (some (.int r)) h'
  unfold f_X7_holds at hf
  refine r_iconst 1 rfl ic_0 (ck DX7_holds_0 0 rfl) ?_
  refine r_istore_n (lv' := [(3, .int 0), (0, .ref (X.1 96)), (1, .int x1), (2, .int x2)]) 2 rfl (ck DX7_holds_0 1 rfl) (by decide) rfl rfl ?_
  refine r_aload_n 3 rfl 1 rfl rfl (ck DX7_holds_0 2 rfl) ?_
  refine r_getr (q := 108) 6 rfl (lq_7_22) sh_96 kd_7_22 fl_X7_77 (ck DX7_holds_0 3 rfl) ?_
  refine r_iload_n 7 rfl 2 rfl rfl (ck DX7_holds_0 4 rfl) ?_
  obtain ⟨b1, hf⟩ := gd_so hf
  refine r_iald 8 rfl sh_108 (inb_vp b1) (ck DX7_holds_0 5 rfl) ?_
  obtain ⟨v2, e3, hf⟩ := lt_so hf
  refine r_top e3 ?_
  refine r_istore (lv' := [(4, .int v2), (3, .int 0), (0, .ref (X.1 96)), (1, .int x1), (2, .int x2)]) 10 rfl (ck DX7_holds_0 6 rfl) (by decide) rfl ?_
  refine r_sub (lv' := [(0, .ref (X.1 96)), (1, .int x1), (2, .int x2), (3, .int 0), (4, .int v2)]) [2, 3, 4, 1, 0] rfl ?_
  exact A_X7_holds_L10 X _ _ FZ x1 x2 0 v2 h hf
-- X7_heart
def f_X7_heart_L8 : Nat → Int32 → Int32 → Int32 → HP → Option (Int32 × HP)
  | 0, _, _, _, _ => none
  | n + 1, x1, x2, x3, h => bo (f_X7_behind h) fun v3 => if v3 ≤ x3 then (some (x2, h)) else (gd (inb x3 60) (if (1 : Int32) < (h.1 106 (Int32.toNatClampNeg x3)) then (lt (x3 + 1 : Int32) fun v8 => f_X7_heart_L8 n x1 x2 v8 h) else (bd (f_X7_holds x3 x1 h) fun v12 g10 => if v12 = 0 then (lt (x3 + 1 : Int32) fun v14 => f_X7_heart_L8 n x1 x2 v14 g10) else (gd (inb x3 60) (if (g10.1 106 (Int32.toNatClampNeg x3)) = 0 then (gd (inb x3 60) (lt ((x2 + (g10.1 107 (Int32.toNatClampNeg x3))) : Int32) fun v19 => lt (x3 + 1 : Int32) fun v21 => f_X7_heart_L8 n x1 v19 v21 g10)) else (gd (inb x3 60) (lt ((x2 + (-(g10.1 107 (Int32.toNatClampNeg x3)))) : Int32) fun v24 => lt (x3 + 1 : Int32) fun v26 => f_X7_heart_L8 n x1 v24 v26 g10)))))))
set_option maxHeartbeats 4000000 in
set_option maxRecDepth 100000 in
theorem A_X7_heart_L8 (X : XE) (r : Int32) (h' : HP) : ∀ (n : Nat) (x1 : Int32) (x2 : Int32) (x3 : Int32) (h : HP), f_X7_heart_L8 n x1 x2 x3 h = some (r, h') → Run mX7_heart 3 X 8 [(0, .ref (X.1 96)), (1, .int x1), (2, .int x2), (3, .int x3)] [] h (some (.int r)) h' := by
  intro n
  induction n with
  | zero => intro x1 x2 x3 h hf; cases hf
  | succ n ih =>
    intro x1 x2 x3 h hf
    rw [f_X7_heart_L8] at hf
    refine r_iload_n 9 rfl 3 rfl rfl (ck DX7_heart_0 5 rfl) ?_
    refine r_aload_n 10 rfl 0 rfl rfl (ck DX7_heart_0 6 rfl) ?_
    obtain ⟨v3, e4, hf⟩ := bo_so hf
    refine r_callVi 13 rfl (A_X7_behind X h v3 e4) (by omega) cw_X7_349 sh_96 cl_7 rfl rfl (Nat.le_of_ble_eq_true rfl) (ck DX7_heart_0 7 rfl) ?_
    rcases if_so hf with ⟨c5, hf⟩ | ⟨c5, hf⟩
    · refine r_icmp_ge_t 72 (ck DX7_heart_0 8 rfl) (by decide) c5 ?_
      refine r_iload_n 73 rfl 2 rfl rfl (ck DX7_heart_0 41 rfl) ?_
      obtain ⟨rfl, rfl⟩ := so2 hf
      exact r_iret rfl rfl (ck DX7_heart_0 42 rfl)
    · refine r_icmp_ge_f 16 rfl 72 (ck DX7_heart_0 8 rfl) (by decide) c5 ?_
      refine r_aload_n 17 rfl 0 rfl rfl (ck DX7_heart_0 9 rfl) ?_
      refine r_getr (q := 106) 20 rfl (lq_7_20) sh_96 kd_7_20 fl_X7_71 (ck DX7_heart_0 10 rfl) ?_
      refine r_iload_n 21 rfl 3 rfl rfl (ck DX7_heart_0 11 rfl) ?_
      obtain ⟨b6, hf⟩ := gd_so hf
      refine r_iald 22 rfl sh_106 (inb_vp b6) (ck DX7_heart_0 12 rfl) ?_
      refine r_iconst 23 rfl ic_1 (ck DX7_heart_0 13 rfl) ?_
      rcases if_so hf with ⟨c7, hf⟩ | ⟨c7, hf⟩
      · refine r_icmp_gt_t 66 (ck DX7_heart_0 14 rfl) (by decide) c7 ?_
        obtain ⟨v8, e9, hf⟩ := lt_so hf
        refine r_iinc (lv' := [(3, .int v8), (0, .ref (X.1 96)), (1, .int x1), (2, .int x2)]) 69 rfl 3 (ck DX7_heart_0 39 rfl) rfl (by rw [e9, ic_1]) (by decide) rfl ?_
        refine r_goto 8 (ck DX7_heart_0 40 rfl) (by decide) ?_
        refine r_sub (lv' := [(0, .ref (X.1 96)), (1, .int x1), (2, .int x2), (3, .int v8)]) [1, 2, 3, 0] rfl ?_
        exact ih x1 x2 v8 h hf
      · refine r_icmp_gt_f 26 rfl 66 (ck DX7_heart_0 14 rfl) (by decide) c7 ?_
        refine r_aload_n 27 rfl 0 rfl rfl (ck DX7_heart_0 15 rfl) ?_
        refine r_iload_n 28 rfl 3 rfl rfl (ck DX7_heart_0 16 rfl) ?_
        refine r_iload_n 29 rfl 1 rfl rfl (ck DX7_heart_0 17 rfl) ?_
        obtain ⟨v12, g10, e11, hf⟩ := bd_so hf
        refine r_callVi 32 rfl (A_X7_holds X x3 x1 h v12 g10 e11) (by omega) cw_X7_356 sh_96 cl_7 rfl rfl (Nat.le_of_ble_eq_true rfl) (ck DX7_heart_0 18 rfl) ?_
        rcases if_so hf with ⟨c13, hf⟩ | ⟨c13, hf⟩
        · refine r_if_ne_t 35 rfl 38 (ck DX7_heart_0 19 rfl) (by decide) c13 ?_
          refine r_goto 66 (ck DX7_heart_0 20 rfl) (by decide) ?_
          obtain ⟨v14, e15, hf⟩ := lt_so hf
          refine r_iinc (lv' := [(3, .int v14), (0, .ref (X.1 96)), (1, .int x1), (2, .int x2)]) 69 rfl 3 (ck DX7_heart_0 39 rfl) rfl (by rw [e15, ic_1]) (by decide) rfl ?_
          refine r_goto 8 (ck DX7_heart_0 40 rfl) (by decide) ?_
          refine r_sub (lv' := [(0, .ref (X.1 96)), (1, .int x1), (2, .int x2), (3, .int v14)]) [1, 2, 3, 0] rfl ?_
          exact ih x1 x2 v14 g10 hf
        · refine r_if_ne_f 38 (ck DX7_heart_0 19 rfl) (by decide) c13 ?_
          refine r_iload_n 39 rfl 2 rfl rfl (ck DX7_heart_0 21 rfl) ?_
          refine r_aload_n 40 rfl 0 rfl rfl (ck DX7_heart_0 22 rfl) ?_
          refine r_getr (q := 106) 43 rfl (lq_7_20) sh_96 kd_7_20 fl_X7_71 (ck DX7_heart_0 23 rfl) ?_
          refine r_iload_n 44 rfl 3 rfl rfl (ck DX7_heart_0 24 rfl) ?_
          obtain ⟨b16, hf⟩ := gd_so hf
          refine r_iald 45 rfl sh_106 (inb_vp b16) (ck DX7_heart_0 25 rfl) ?_
          rcases if_so hf with ⟨c17, hf⟩ | ⟨c17, hf⟩
          · refine r_if_ne_t 48 rfl 57 (ck DX7_heart_0 26 rfl) (by decide) c17 ?_
            refine r_aload_n 49 rfl 0 rfl rfl (ck DX7_heart_0 27 rfl) ?_
            refine r_getr (q := 107) 52 rfl (lq_7_21) sh_96 kd_7_21 fl_X7_74 (ck DX7_heart_0 28 rfl) ?_
            refine r_iload_n 53 rfl 3 rfl rfl (ck DX7_heart_0 29 rfl) ?_
            obtain ⟨b18, hf⟩ := gd_so hf
            refine r_iald 54 rfl sh_107 (inb_vp b18) (ck DX7_heart_0 30 rfl) ?_
            refine r_goto 64 (ck DX7_heart_0 31 rfl) (by decide) ?_
            refine r_iadd 65 rfl (ck DX7_heart_0 37 rfl) ?_
            obtain ⟨v19, e20, hf⟩ := lt_so hf
            refine r_top e20 ?_
            refine r_istore_n (lv' := [(2, .int v19), (0, .ref (X.1 96)), (1, .int x1), (3, .int x3)]) 66 rfl (ck DX7_heart_0 38 rfl) (by decide) rfl rfl ?_
            obtain ⟨v21, e22, hf⟩ := lt_so hf
            refine r_iinc (lv' := [(3, .int v21), (2, .int v19), (0, .ref (X.1 96)), (1, .int x1)]) 69 rfl 3 (ck DX7_heart_0 39 rfl) rfl (by rw [e22, ic_1]) (by decide) rfl ?_
            refine r_goto 8 (ck DX7_heart_0 40 rfl) (by decide) ?_
            refine r_sub (lv' := [(0, .ref (X.1 96)), (1, .int x1), (2, .int v19), (3, .int v21)]) [2, 3, 1, 0] rfl ?_
            exact ih x1 v19 v21 g10 hf
          · refine r_if_ne_f 57 (ck DX7_heart_0 26 rfl) (by decide) c17 ?_
            refine r_aload_n 58 rfl 0 rfl rfl (ck DX7_heart_0 32 rfl) ?_
            refine r_getr (q := 107) 61 rfl (lq_7_21) sh_96 kd_7_21 fl_X7_74 (ck DX7_heart_0 33 rfl) ?_
            refine r_iload_n 62 rfl 3 rfl rfl (ck DX7_heart_0 34 rfl) ?_
            obtain ⟨b23, hf⟩ := gd_so hf
            refine r_iald 63 rfl sh_107 (inb_vp b23) (ck DX7_heart_0 35 rfl) ?_
            refine r_ineg 64 rfl (ck DX7_heart_0 36 rfl) ?_
            refine r_iadd 65 rfl (ck DX7_heart_0 37 rfl) ?_
            obtain ⟨v24, e25, hf⟩ := lt_so hf
            refine r_top e25 ?_
            refine r_istore_n (lv' := [(2, .int v24), (0, .ref (X.1 96)), (1, .int x1), (3, .int x3)]) 66 rfl (ck DX7_heart_0 38 rfl) (by decide) rfl rfl ?_
            obtain ⟨v26, e27, hf⟩ := lt_so hf
            refine r_iinc (lv' := [(3, .int v26), (2, .int v24), (0, .ref (X.1 96)), (1, .int x1)]) 69 rfl 3 (ck DX7_heart_0 39 rfl) rfl (by rw [e27, ic_1]) (by decide) rfl ?_
            refine r_goto 8 (ck DX7_heart_0 40 rfl) (by decide) ?_
            refine r_sub (lv' := [(0, .ref (X.1 96)), (1, .int x1), (2, .int v24), (3, .int v26)]) [2, 3, 1, 0] rfl ?_
            exact ih x1 v24 v26 g10 hf
def f_X7_heart (x1 : Int32) (h : HP) : Option (Int32 × HP) := bo (f_X7_begin h) fun v1 => f_X7_heart_L8 FZ x1 20 v1 h
set_option maxHeartbeats 4000000 in
set_option maxRecDepth 100000 in
theorem A_X7_heart (X : XE) (x1 : Int32) (h : HP) (r : Int32) (h' : HP) (hf : f_X7_heart x1 h = some (r, h')) : CC mX7_heart 3 X [.ref (X.1 96), .int x1] h (some (.int r)) h' := by
  refine CC_of rfl (Nat.le_of_ble_eq_true rfl) ?_
  show Run mX7_heart 3 X 0 [(0, .ref (X.1 96)), (1, .int x1)] [] h (some (.int r)) h'
  unfold f_X7_heart at hf
  refine r_bipush 2 rfl bp_20 (ck DX7_heart_0 0 rfl) ?_
  refine r_istore_n (lv' := [(2, .int 20), (0, .ref (X.1 96)), (1, .int x1)]) 3 rfl (ck DX7_heart_0 1 rfl) (by decide) rfl rfl ?_
  refine r_aload_n 4 rfl 1 rfl rfl (ck DX7_heart_0 2 rfl) ?_
  obtain ⟨v1, e2, hf⟩ := bo_so hf
  refine r_callVi 7 rfl (A_X7_begin X h v1 e2) (by omega) cw_X7_346 sh_96 cl_7 rfl rfl (Nat.le_of_ble_eq_true rfl) (ck DX7_heart_0 3 rfl) ?_
  refine r_istore_n (lv' := [(3, .int v1), (2, .int 20), (0, .ref (X.1 96)), (1, .int x1)]) 8 rfl (ck DX7_heart_0 4 rfl) (by decide) rfl rfl ?_
  refine r_sub (lv' := [(0, .ref (X.1 96)), (1, .int x1), (2, .int 20), (3, .int v1)]) [2, 3, 1, 0] rfl ?_
  exact A_X7_heart_L8 X _ _ FZ x1 20 v1 h hf
-- X7_strength
def f_X7_strength (x1 : Int32) (h : HP) : Option (Int32 × HP) := bd (f_X7_heart x1 h) fun v3 g1 => gd (inb x1 6) (lt ((g1.1 97 (Int32.toNatClampNeg x1)) : Int32) fun v5 => if v5 = 1 then (gd (inb x1 6) (bo (f_X7_least0 ((v3 / 2) - (g1.1 100 (Int32.toNatClampNeg x1)))) fun v9 => some (v9, g1))) else (if v5 = 2 then (gd (inb x1 6) (bo (f_X7_least0 ((v3 - (g1.1 100 (Int32.toNatClampNeg x1))) + 10)) fun v13 => some (v13, g1))) else (if v5 = 3 then (gd (inb x1 6) (gd (inb x1 6) (bo (f_X7_least0 ((v3 - (g1.1 100 (Int32.toNatClampNeg x1))) + (g1.1 98 (Int32.toNatClampNeg x1)))) fun v18 => some (v18, g1)))) else (if v5 = 4 then (gd (inb x1 6) (bo (f_X7_least0 (((v3 / 2) - (g1.1 100 (Int32.toNatClampNeg x1))) + (2 * (g1.1 96 3)))) fun v22 => some (v22, g1))) else (if v5 = 5 then (gd (inb x1 6) (bo (f_X7_least0 ((v3 - (2 * (g1.1 100 (Int32.toNatClampNeg x1)))) + 10)) fun v26 => some (v26, g1))) else (if v5 = 6 then (gd (inb x1 6) (gd (inb x1 6) (gd (inb ((4 * x1) + ((g1.1 96 5) - (g1.1 96 5) / 4 * 4)) 24) (bo (f_X7_least0 (((v3 - (g1.1 100 (Int32.toNatClampNeg x1))) + (g1.1 98 (Int32.toNatClampNeg x1))) + (g1.1 102 (Int32.toNatClampNeg ((4 * x1) + ((g1.1 96 5) - (g1.1 96 5) / 4 * 4)))))) fun v32 => some (v32, g1))))) else ((gd (inb x1 6) (bo (f_X7_least0 (v3 - (g1.1 100 (Int32.toNatClampNeg x1)))) fun v35 => some (v35, g1))))))))))
set_option maxHeartbeats 4000000 in
set_option maxRecDepth 100000 in
theorem A_X7_strength (X : XE) (x1 : Int32) (h : HP) (r : Int32) (h' : HP) (hf : f_X7_strength x1 h = some (r, h')) : CC mX7_strength 4 X [.ref (X.1 96), .int x1] h (some (.int r)) h' := by
  refine CC_of rfl (Nat.le_of_ble_eq_true rfl) ?_
  show Run mX7_strength 4 X 0 [(0, .ref (X.1 96)), (1, .int x1)] [] h (some (.int r)) h'
  unfold f_X7_strength at hf
  refine r_aload_n 1 rfl 0 rfl rfl (ck DX7_strength_0 0 rfl) ?_
  refine r_iload_n 2 rfl 1 rfl rfl (ck DX7_strength_0 1 rfl) ?_
  obtain ⟨v3, g1, e2, hf⟩ := bd_so hf
  refine r_callVi 5 rfl (A_X7_heart X x1 h v3 g1 e2) (by omega) cw_X7_359 sh_96 cl_7 rfl rfl (Nat.le_of_ble_eq_true rfl) (ck DX7_strength_0 2 rfl) ?_
  refine r_istore_n (lv' := [(2, .int v3), (0, .ref (X.1 96)), (1, .int x1)]) 6 rfl (ck DX7_strength_0 3 rfl) (by decide) rfl rfl ?_
  refine r_aload_n 7 rfl 1 rfl rfl (ck DX7_strength_0 4 rfl) ?_
  refine r_getr (q := 97) 10 rfl (lq_7_6) sh_96 kd_7_6 fl_X7_28 (ck DX7_strength_0 5 rfl) ?_
  refine r_iload_n 11 rfl 2 rfl rfl (ck DX7_strength_0 6 rfl) ?_
  obtain ⟨b4, hf⟩ := gd_so hf
  refine r_iald 12 rfl sh_97 (inb_vp b4) (ck DX7_strength_0 7 rfl) ?_
  obtain ⟨v5, e6, hf⟩ := lt_so hf
  refine r_top e6 ?_
  rcases if_so hf with ⟨c7, hf⟩ | ⟨c7, hf⟩
  · refine r_tsw_in (v := 1) 52 (ck DX7_strength_0 8 rfl) c7 (by decide) (by decide) rfl (by decide) ?_
    refine r_aload_n 53 rfl 1 rfl rfl (ck DX7_strength_0 9 rfl) ?_
    refine r_iload_n 54 rfl 0 rfl rfl (ck DX7_strength_0 10 rfl) ?_
    refine r_iconst 55 rfl ic_2 (ck DX7_strength_0 11 rfl) ?_
    refine r_idiv 56 rfl (by decide) (ck DX7_strength_0 12 rfl) ?_
    refine r_aload_n 57 rfl 1 rfl rfl (ck DX7_strength_0 13 rfl) ?_
    refine r_getr (q := 100) 60 rfl (lq_7_9) sh_96 kd_7_9 fl_X7_38 (ck DX7_strength_0 14 rfl) ?_
    refine r_iload_n 61 rfl 2 rfl rfl (ck DX7_strength_0 15 rfl) ?_
    obtain ⟨b8, hf⟩ := gd_so hf
    refine r_iald 62 rfl sh_100 (inb_vp b8) (ck DX7_strength_0 16 rfl) ?_
    refine r_isub 63 rfl (ck DX7_strength_0 17 rfl) ?_
    obtain ⟨v9, e10, hf⟩ := bo_so hf
    refine r_callVi 66 rfl (A_X7_least0 X ((v3 / 2) - (g1.1 100 (Int32.toNatClampNeg x1))) g1 v9 e10) (by omega) cw_X7_362 sh_96 cl_7 rfl rfl (Nat.le_of_ble_eq_true rfl) (ck DX7_strength_0 18 rfl) ?_
    obtain ⟨rfl, rfl⟩ := so2 hf
    exact r_iret rfl rfl (ck DX7_strength_0 19 rfl)
  · skip
    rcases if_so hf with ⟨c11, hf⟩ | ⟨c11, hf⟩
    · refine r_tsw_in (v := 2) 67 (ck DX7_strength_0 8 rfl) c11 (by decide) (by decide) rfl (by decide) ?_
      refine r_aload_n 68 rfl 1 rfl rfl (ck DX7_strength_0 20 rfl) ?_
      refine r_iload_n 69 rfl 0 rfl rfl (ck DX7_strength_0 21 rfl) ?_
      refine r_aload_n 70 rfl 1 rfl rfl (ck DX7_strength_0 22 rfl) ?_
      refine r_getr (q := 100) 73 rfl (lq_7_9) sh_96 kd_7_9 fl_X7_38 (ck DX7_strength_0 23 rfl) ?_
      refine r_iload_n 74 rfl 2 rfl rfl (ck DX7_strength_0 24 rfl) ?_
      obtain ⟨b12, hf⟩ := gd_so hf
      refine r_iald 75 rfl sh_100 (inb_vp b12) (ck DX7_strength_0 25 rfl) ?_
      refine r_isub 76 rfl (ck DX7_strength_0 26 rfl) ?_
      refine r_bipush 78 rfl bp_10 (ck DX7_strength_0 27 rfl) ?_
      refine r_iadd 79 rfl (ck DX7_strength_0 28 rfl) ?_
      obtain ⟨v13, e14, hf⟩ := bo_so hf
      refine r_callVi 82 rfl (A_X7_least0 X ((v3 - (g1.1 100 (Int32.toNatClampNeg x1))) + 10) g1 v13 e14) (by omega) cw_X7_362 sh_96 cl_7 rfl rfl (Nat.le_of_ble_eq_true rfl) (ck DX7_strength_0 29 rfl) ?_
      obtain ⟨rfl, rfl⟩ := so2 hf
      exact r_iret rfl rfl (ck DX7_strength_0 30 rfl)
    · skip
      rcases if_so hf with ⟨c15, hf⟩ | ⟨c15, hf⟩
      · refine r_tsw_in (v := 3) 83 (ck DX7_strength_0 8 rfl) c15 (by decide) (by decide) rfl (by decide) ?_
        refine r_aload_n 84 rfl 1 rfl rfl (ck DX7_strength_0 31 rfl) ?_
        refine r_iload_n 85 rfl 0 rfl rfl (ck DX7_strength_0 32 rfl) ?_
        refine r_aload_n 86 rfl 1 rfl rfl (ck DX7_strength_0 33 rfl) ?_
        refine r_getr (q := 100) 89 rfl (lq_7_9) sh_96 kd_7_9 fl_X7_38 (ck DX7_strength_0 34 rfl) ?_
        refine r_iload_n 90 rfl 2 rfl rfl (ck DX7_strength_0 35 rfl) ?_
        obtain ⟨b16, hf⟩ := gd_so hf
        refine r_iald 91 rfl sh_100 (inb_vp b16) (ck DX7_strength_0 36 rfl) ?_
        refine r_isub 92 rfl (ck DX7_strength_0 37 rfl) ?_
        refine r_aload_n 93 rfl 1 rfl rfl (ck DX7_strength_0 38 rfl) ?_
        refine r_getr (q := 98) 96 rfl (lq_7_7) sh_96 kd_7_7 fl_X7_32 (ck DX7_strength_0 39 rfl) ?_
        refine r_iload_n 97 rfl 2 rfl rfl (ck DX7_strength_0 40 rfl) ?_
        obtain ⟨b17, hf⟩ := gd_so hf
        refine r_iald 98 rfl sh_98 (inb_vp b17) (ck DX7_strength_0 41 rfl) ?_
        refine r_iadd 99 rfl (ck DX7_strength_0 42 rfl) ?_
        obtain ⟨v18, e19, hf⟩ := bo_so hf
        refine r_callVi 102 rfl (A_X7_least0 X ((v3 - (g1.1 100 (Int32.toNatClampNeg x1))) + (g1.1 98 (Int32.toNatClampNeg x1))) g1 v18 e19) (by omega) cw_X7_362 sh_96 cl_7 rfl rfl (Nat.le_of_ble_eq_true rfl) (ck DX7_strength_0 43 rfl) ?_
        obtain ⟨rfl, rfl⟩ := so2 hf
        exact r_iret rfl rfl (ck DX7_strength_0 44 rfl)
      · skip
        rcases if_so hf with ⟨c20, hf⟩ | ⟨c20, hf⟩
        · refine r_tsw_in (v := 4) 103 (ck DX7_strength_0 8 rfl) c20 (by decide) (by decide) rfl (by decide) ?_
          refine r_aload_n 104 rfl 1 rfl rfl (ck DX7_strength_0 45 rfl) ?_
          refine r_iload_n 105 rfl 0 rfl rfl (ck DX7_strength_0 46 rfl) ?_
          refine r_iconst 106 rfl ic_2 (ck DX7_strength_0 47 rfl) ?_
          refine r_idiv 107 rfl (by decide) (ck DX7_strength_0 48 rfl) ?_
          refine r_aload_n 108 rfl 1 rfl rfl (ck DX7_strength_0 49 rfl) ?_
          refine r_getr (q := 100) 111 rfl (lq_7_9) sh_96 kd_7_9 fl_X7_38 (ck DX7_strength_1 0 rfl) ?_
          refine r_iload_n 112 rfl 2 rfl rfl (ck DX7_strength_1 1 rfl) ?_
          obtain ⟨b21, hf⟩ := gd_so hf
          refine r_iald 113 rfl sh_100 (inb_vp b21) (ck DX7_strength_1 2 rfl) ?_
          refine r_isub 114 rfl (ck DX7_strength_1 3 rfl) ?_
          refine r_iconst 115 rfl ic_2 (ck DX7_strength_1 4 rfl) ?_
          refine r_aload_n 116 rfl 1 rfl rfl (ck DX7_strength_1 5 rfl) ?_
          refine r_geti 119 rfl sh_96 kd_7_3 fl_X7_19 (ck DX7_strength_1 6 rfl) ?_
          refine r_imul 120 rfl (ck DX7_strength_1 7 rfl) ?_
          refine r_iadd 121 rfl (ck DX7_strength_1 8 rfl) ?_
          obtain ⟨v22, e23, hf⟩ := bo_so hf
          refine r_callVi 124 rfl (A_X7_least0 X (((v3 / 2) - (g1.1 100 (Int32.toNatClampNeg x1))) + (2 * (g1.1 96 3))) g1 v22 e23) (by omega) cw_X7_362 sh_96 cl_7 rfl rfl (Nat.le_of_ble_eq_true rfl) (ck DX7_strength_1 9 rfl) ?_
          obtain ⟨rfl, rfl⟩ := so2 hf
          exact r_iret rfl rfl (ck DX7_strength_1 10 rfl)
        · skip
          rcases if_so hf with ⟨c24, hf⟩ | ⟨c24, hf⟩
          · refine r_tsw_in (v := 5) 125 (ck DX7_strength_0 8 rfl) c24 (by decide) (by decide) rfl (by decide) ?_
            refine r_aload_n 126 rfl 1 rfl rfl (ck DX7_strength_1 11 rfl) ?_
            refine r_iload_n 127 rfl 0 rfl rfl (ck DX7_strength_1 12 rfl) ?_
            refine r_iconst 128 rfl ic_2 (ck DX7_strength_1 13 rfl) ?_
            refine r_aload_n 129 rfl 1 rfl rfl (ck DX7_strength_1 14 rfl) ?_
            refine r_getr (q := 100) 132 rfl (lq_7_9) sh_96 kd_7_9 fl_X7_38 (ck DX7_strength_1 15 rfl) ?_
            refine r_iload_n 133 rfl 2 rfl rfl (ck DX7_strength_1 16 rfl) ?_
            obtain ⟨b25, hf⟩ := gd_so hf
            refine r_iald 134 rfl sh_100 (inb_vp b25) (ck DX7_strength_1 17 rfl) ?_
            refine r_imul 135 rfl (ck DX7_strength_1 18 rfl) ?_
            refine r_isub 136 rfl (ck DX7_strength_1 19 rfl) ?_
            refine r_bipush 138 rfl bp_10 (ck DX7_strength_1 20 rfl) ?_
            refine r_iadd 139 rfl (ck DX7_strength_1 21 rfl) ?_
            obtain ⟨v26, e27, hf⟩ := bo_so hf
            refine r_callVi 142 rfl (A_X7_least0 X ((v3 - (2 * (g1.1 100 (Int32.toNatClampNeg x1)))) + 10) g1 v26 e27) (by omega) cw_X7_362 sh_96 cl_7 rfl rfl (Nat.le_of_ble_eq_true rfl) (ck DX7_strength_1 22 rfl) ?_
            obtain ⟨rfl, rfl⟩ := so2 hf
            exact r_iret rfl rfl (ck DX7_strength_1 23 rfl)
          · skip
            rcases if_so hf with ⟨c28, hf⟩ | ⟨c28, hf⟩
            · refine r_tsw_in (v := 6) 143 (ck DX7_strength_0 8 rfl) c28 (by decide) (by decide) rfl (by decide) ?_
              refine r_aload_n 144 rfl 1 rfl rfl (ck DX7_strength_1 24 rfl) ?_
              refine r_iload_n 145 rfl 0 rfl rfl (ck DX7_strength_1 25 rfl) ?_
              refine r_aload_n 146 rfl 1 rfl rfl (ck DX7_strength_1 26 rfl) ?_
              refine r_getr (q := 100) 149 rfl (lq_7_9) sh_96 kd_7_9 fl_X7_38 (ck DX7_strength_1 27 rfl) ?_
              refine r_iload_n 150 rfl 2 rfl rfl (ck DX7_strength_1 28 rfl) ?_
              obtain ⟨b29, hf⟩ := gd_so hf
              refine r_iald 151 rfl sh_100 (inb_vp b29) (ck DX7_strength_1 29 rfl) ?_
              refine r_isub 152 rfl (ck DX7_strength_1 30 rfl) ?_
              refine r_aload_n 153 rfl 1 rfl rfl (ck DX7_strength_1 31 rfl) ?_
              refine r_getr (q := 98) 156 rfl (lq_7_7) sh_96 kd_7_7 fl_X7_32 (ck DX7_strength_1 32 rfl) ?_
              refine r_iload_n 157 rfl 2 rfl rfl (ck DX7_strength_1 33 rfl) ?_
              obtain ⟨b30, hf⟩ := gd_so hf
              refine r_iald 158 rfl sh_98 (inb_vp b30) (ck DX7_strength_1 34 rfl) ?_
              refine r_iadd 159 rfl (ck DX7_strength_1 35 rfl) ?_
              refine r_aload_n 160 rfl 1 rfl rfl (ck DX7_strength_1 36 rfl) ?_
              refine r_getr (q := 102) 163 rfl (lq_7_11) sh_96 kd_7_11 fl_X7_44 (ck DX7_strength_1 37 rfl) ?_
              refine r_iconst 164 rfl ic_4 (ck DX7_strength_1 38 rfl) ?_
              refine r_iload_n 165 rfl 2 rfl rfl (ck DX7_strength_1 39 rfl) ?_
              refine r_imul 166 rfl (ck DX7_strength_1 40 rfl) ?_
              refine r_aload_n 167 rfl 1 rfl rfl (ck DX7_strength_1 41 rfl) ?_
              refine r_geti 170 rfl sh_96 kd_7_5 fl_X7_25 (ck DX7_strength_1 42 rfl) ?_
              refine r_iconst 171 rfl ic_4 (ck DX7_strength_1 43 rfl) ?_
              refine r_irem 172 rfl (by decide) (ck DX7_strength_1 44 rfl) ?_
              refine r_iadd 173 rfl (ck DX7_strength_1 45 rfl) ?_
              obtain ⟨b31, hf⟩ := gd_so hf
              refine r_iald 174 rfl sh_102 (inb_vp b31) (ck DX7_strength_1 46 rfl) ?_
              refine r_iadd 175 rfl (ck DX7_strength_1 47 rfl) ?_
              obtain ⟨v32, e33, hf⟩ := bo_so hf
              refine r_callVi 178 rfl (A_X7_least0 X (((v3 - (g1.1 100 (Int32.toNatClampNeg x1))) + (g1.1 98 (Int32.toNatClampNeg x1))) + (g1.1 102 (Int32.toNatClampNeg ((4 * x1) + ((g1.1 96 5) - (g1.1 96 5) / 4 * 4))))) g1 v32 e33) (by omega) cw_X7_362 sh_96 cl_7 rfl rfl (Nat.le_of_ble_eq_true rfl) (ck DX7_strength_1 48 rfl) ?_
              obtain ⟨rfl, rfl⟩ := so2 hf
              exact r_iret rfl rfl (ck DX7_strength_1 49 rfl)
            · skip
              have hx9 : v5.toInt < 1 ∨ (6 : Int) < v5.toInt := by
                have h8 := tsw_o (x := v5) 1 6 (fun k hk => by
                  match k, hk with
                  | 0, _ => exact ne_int c7
                  | 1, _ => exact ne_int c11
                  | 2, _ => exact ne_int c15
                  | 3, _ => exact ne_int c20
                  | 4, _ => exact ne_int c24
                  | 5, _ => exact ne_int c28
                  | k + 6, hk => exact absurd hk (by omega))
                exact h8
              refine r_tsw_out 179 (ck DX7_strength_0 8 rfl) hx9 (by decide) ?_
              refine r_aload_n 180 rfl 1 rfl rfl (ck DX7_strength_2 0 rfl) ?_
              refine r_iload_n 181 rfl 0 rfl rfl (ck DX7_strength_2 1 rfl) ?_
              refine r_aload_n 182 rfl 1 rfl rfl (ck DX7_strength_2 2 rfl) ?_
              refine r_getr (q := 100) 185 rfl (lq_7_9) sh_96 kd_7_9 fl_X7_38 (ck DX7_strength_2 3 rfl) ?_
              refine r_iload_n 186 rfl 2 rfl rfl (ck DX7_strength_2 4 rfl) ?_
              obtain ⟨b34, hf⟩ := gd_so hf
              refine r_iald 187 rfl sh_100 (inb_vp b34) (ck DX7_strength_2 5 rfl) ?_
              refine r_isub 188 rfl (ck DX7_strength_2 6 rfl) ?_
              obtain ⟨v35, e36, hf⟩ := bo_so hf
              refine r_callVi 191 rfl (A_X7_least0 X (v3 - (g1.1 100 (Int32.toNatClampNeg x1))) g1 v35 e36) (by omega) cw_X7_362 sh_96 cl_7 rfl rfl (Nat.le_of_ble_eq_true rfl) (ck DX7_strength_2 7 rfl) ?_
              obtain ⟨rfl, rfl⟩ := so2 hf
              exact r_iret rfl rfl (ck DX7_strength_2 8 rfl)
-- X7_above
def f_X7_above_L4 (h : HP) : Nat → Int32 → Int32 → Int32 → Option Int32
  | 0, _, _, _ => none
  | n + 1, x1, x2, x3 => if (h.1 96 1) ≤ x3 then (bo (f_X7_lastOf 3 2 h) fun v2 => bo (f_X7_least0 (x2 - (v2 * (((h.1 96 1) - x1) - 1)))) fun v4 => some v4) else (gd (inb x3 3) (gd (inb (h.1 103 (Int32.toNatClampNeg x3)) 6) (lt ((x2 + (h.1 99 (Int32.toNatClampNeg (h.1 103 (Int32.toNatClampNeg x3))))) : Int32) fun v8 => lt (x3 + 1 : Int32) fun v10 => f_X7_above_L4 h n x1 v8 v10)))
set_option maxHeartbeats 4000000 in
set_option maxRecDepth 100000 in
theorem A_X7_above_L4 (X : XE) (h : HP) (r : Int32) : ∀ (n : Nat) (x1 : Int32) (x2 : Int32) (x3 : Int32), f_X7_above_L4 h n x1 x2 x3 = some r → Run mX7_above 3 X 4 [(0, .ref (X.1 96)), (1, .int x1), (2, .int x2), (3, .int x3)] [] h (some (.int r)) h := by
  intro n
  induction n with
  | zero => intro x1 x2 x3 hf; cases hf
  | succ n ih =>
    intro x1 x2 x3 hf
    rw [f_X7_above_L4] at hf
    refine r_iload_n 5 rfl 3 rfl rfl (ck DX7_above_0 4 rfl) ?_
    refine r_aload_n 6 rfl 0 rfl rfl (ck DX7_above_0 5 rfl) ?_
    refine r_geti 9 rfl sh_96 kd_7_1 fl_X7_13 (ck DX7_above_0 6 rfl) ?_
    rcases if_so hf with ⟨c1, hf⟩ | ⟨c1, hf⟩
    · refine r_icmp_ge_t 32 (ck DX7_above_0 7 rfl) (by decide) c1 ?_
      refine r_aload_n 33 rfl 0 rfl rfl (ck DX7_above_0 20 rfl) ?_
      refine r_iload_n 34 rfl 2 rfl rfl (ck DX7_above_0 21 rfl) ?_
      refine r_aload_n 35 rfl 0 rfl rfl (ck DX7_above_0 22 rfl) ?_
      refine r_iconst 36 rfl ic_3 (ck DX7_above_0 23 rfl) ?_
      refine r_iconst 37 rfl ic_2 (ck DX7_above_0 24 rfl) ?_
      obtain ⟨v2, e3, hf⟩ := bo_so hf
      refine r_callVi 40 rfl (A_X7_lastOf X 3 2 h v2 e3) (by omega) cw_X7_365 sh_96 cl_7 rfl rfl (Nat.le_of_ble_eq_true rfl) (ck DX7_above_0 25 rfl) ?_
      refine r_aload_n 41 rfl 0 rfl rfl (ck DX7_above_0 26 rfl) ?_
      refine r_geti 44 rfl sh_96 kd_7_1 fl_X7_13 (ck DX7_above_0 27 rfl) ?_
      refine r_iload_n 45 rfl 1 rfl rfl (ck DX7_above_0 28 rfl) ?_
      refine r_isub 46 rfl (ck DX7_above_0 29 rfl) ?_
      refine r_iconst 47 rfl ic_1 (ck DX7_above_0 30 rfl) ?_
      refine r_isub 48 rfl (ck DX7_above_0 31 rfl) ?_
      refine r_imul 49 rfl (ck DX7_above_0 32 rfl) ?_
      refine r_isub 50 rfl (ck DX7_above_0 33 rfl) ?_
      obtain ⟨v4, e5, hf⟩ := bo_so hf
      refine r_callVi 53 rfl (A_X7_least0 X (x2 - (v2 * (((h.1 96 1) - x1) - 1))) h v4 e5) (by omega) cw_X7_362 sh_96 cl_7 rfl rfl (Nat.le_of_ble_eq_true rfl) (ck DX7_above_0 34 rfl) ?_
      obtain rfl := so1 hf
      exact r_iret rfl rfl (ck DX7_above_0 35 rfl)
    · refine r_icmp_ge_f 12 rfl 32 (ck DX7_above_0 7 rfl) (by decide) c1 ?_
      refine r_iload_n 13 rfl 2 rfl rfl (ck DX7_above_0 8 rfl) ?_
      refine r_aload_n 14 rfl 0 rfl rfl (ck DX7_above_0 9 rfl) ?_
      refine r_getr (q := 99) 17 rfl (lq_7_8) sh_96 kd_7_8 fl_X7_35 (ck DX7_above_0 10 rfl) ?_
      refine r_aload_n 18 rfl 0 rfl rfl (ck DX7_above_0 11 rfl) ?_
      refine r_getr (q := 103) 21 rfl (lq_7_12) sh_96 kd_7_12 fl_X7_47 (ck DX7_above_0 12 rfl) ?_
      refine r_iload_n 22 rfl 3 rfl rfl (ck DX7_above_0 13 rfl) ?_
      obtain ⟨b6, hf⟩ := gd_so hf
      refine r_iald 23 rfl sh_103 (inb_vp b6) (ck DX7_above_0 14 rfl) ?_
      obtain ⟨b7, hf⟩ := gd_so hf
      refine r_iald 24 rfl sh_99 (inb_vp b7) (ck DX7_above_0 15 rfl) ?_
      refine r_iadd 25 rfl (ck DX7_above_0 16 rfl) ?_
      obtain ⟨v8, e9, hf⟩ := lt_so hf
      refine r_top e9 ?_
      refine r_istore_n (lv' := [(2, .int v8), (0, .ref (X.1 96)), (1, .int x1), (3, .int x3)]) 26 rfl (ck DX7_above_0 17 rfl) (by decide) rfl rfl ?_
      obtain ⟨v10, e11, hf⟩ := lt_so hf
      refine r_iinc (lv' := [(3, .int v10), (2, .int v8), (0, .ref (X.1 96)), (1, .int x1)]) 29 rfl 3 (ck DX7_above_0 18 rfl) rfl (by rw [e11, ic_1]) (by decide) rfl ?_
      refine r_goto 4 (ck DX7_above_0 19 rfl) (by decide) ?_
      refine r_sub (lv' := [(0, .ref (X.1 96)), (1, .int x1), (2, .int v8), (3, .int v10)]) [2, 3, 1, 0] rfl ?_
      exact ih x1 v8 v10 hf
def f_X7_above (x1 : Int32) (h : HP) : Option Int32 := f_X7_above_L4 h FZ x1 0 x1
set_option maxHeartbeats 4000000 in
set_option maxRecDepth 100000 in
theorem A_X7_above (X : XE) (x1 : Int32) (h : HP) (r : Int32) (hf : f_X7_above x1 h = some r) : CC mX7_above 3 X [.ref (X.1 96), .int x1] h (some (.int r)) h := by
  refine CC_of rfl (Nat.le_of_ble_eq_true rfl) ?_
  show Run mX7_above 3 X 0 [(0, .ref (X.1 96)), (1, .int x1)] [] h (some (.int r)) h
  unfold f_X7_above at hf
  refine r_iconst 1 rfl ic_0 (ck DX7_above_0 0 rfl) ?_
  refine r_istore_n (lv' := [(2, .int 0), (0, .ref (X.1 96)), (1, .int x1)]) 2 rfl (ck DX7_above_0 1 rfl) (by decide) rfl rfl ?_
  refine r_iload_n 3 rfl 2 rfl rfl (ck DX7_above_0 2 rfl) ?_
  refine r_istore_n (lv' := [(3, .int x1), (2, .int 0), (0, .ref (X.1 96)), (1, .int x1)]) 4 rfl (ck DX7_above_0 3 rfl) (by decide) rfl rfl ?_
  refine r_sub (lv' := [(0, .ref (X.1 96)), (1, .int x1), (2, .int 0), (3, .int x1)]) [2, 3, 1, 0] rfl ?_
  exact A_X7_above_L4 X h _ FZ x1 0 x1 hf
-- X7_height
def f_X7_height (h : HP) : Option Int32 := if (h.1 96 1) = 0 then (some 0) else (bo (f_X7_above 0 h) fun v2 => some v2)
set_option maxHeartbeats 4000000 in
set_option maxRecDepth 100000 in
theorem A_X7_height (X : XE) (h : HP) (r : Int32) (hf : f_X7_height h = some r) : CC mX7_height 4 X [.ref (X.1 96)] h (some (.int r)) h := by
  refine CC_of rfl (Nat.le_of_ble_eq_true rfl) ?_
  show Run mX7_height 4 X 0 [(0, .ref (X.1 96))] [] h (some (.int r)) h
  unfold f_X7_height at hf
  refine r_aload_n 1 rfl 0 rfl rfl (ck DX7_height_0 0 rfl) ?_
  refine r_geti 4 rfl sh_96 kd_7_1 fl_X7_13 (ck DX7_height_0 1 rfl) ?_
  rcases if_so hf with ⟨c1, hf⟩ | ⟨c1, hf⟩
  · refine r_if_ne_t 7 rfl 11 (ck DX7_height_0 2 rfl) (by decide) c1 ?_
    refine r_iconst 8 rfl ic_0 (ck DX7_height_0 3 rfl) ?_
    refine r_goto 16 (ck DX7_height_0 4 rfl) (by decide) ?_
    obtain rfl := so1 hf
    exact r_iret rfl rfl (ck DX7_height_0 8 rfl)
  · refine r_if_ne_f 11 (ck DX7_height_0 2 rfl) (by decide) c1 ?_
    refine r_aload_n 12 rfl 0 rfl rfl (ck DX7_height_0 5 rfl) ?_
    refine r_iconst 13 rfl ic_0 (ck DX7_height_0 6 rfl) ?_
    obtain ⟨v2, e3, hf⟩ := bo_so hf
    refine r_callVi 16 rfl (A_X7_above X 0 h v2 e3) (by omega) cw_X7_368 sh_96 cl_7 rfl rfl (Nat.le_of_ble_eq_true rfl) (ck DX7_height_0 7 rfl) ?_
    obtain rfl := so1 hf
    exact r_iret rfl rfl (ck DX7_height_0 8 rfl)
-- X7_load
def f_X7_load (x1 : Int32) (h : HP) : Option Int32 := bo (f_X7_above x1 h) fun v1 => bo (f_X7_lastOf 2 5 h) fun v3 => bo (f_X7_least0 ((((v1 * (h.1 96 2)) / 5) + v3) - (3 * (h.1 96 3)))) fun v5 => some v5
set_option maxHeartbeats 4000000 in
set_option maxRecDepth 100000 in
theorem A_X7_load (X : XE) (x1 : Int32) (h : HP) (r : Int32) (hf : f_X7_load x1 h = some r) : CC mX7_load 4 X [.ref (X.1 96), .int x1] h (some (.int r)) h := by
  refine CC_of rfl (Nat.le_of_ble_eq_true rfl) ?_
  show Run mX7_load 4 X 0 [(0, .ref (X.1 96)), (1, .int x1)] [] h (some (.int r)) h
  unfold f_X7_load at hf
  refine r_aload_n 1 rfl 0 rfl rfl (ck DX7_load_0 0 rfl) ?_
  refine r_aload_n 2 rfl 0 rfl rfl (ck DX7_load_0 1 rfl) ?_
  refine r_iload_n 3 rfl 1 rfl rfl (ck DX7_load_0 2 rfl) ?_
  obtain ⟨v1, e2, hf⟩ := bo_so hf
  refine r_callVi 6 rfl (A_X7_above X x1 h v1 e2) (by omega) cw_X7_368 sh_96 cl_7 rfl rfl (Nat.le_of_ble_eq_true rfl) (ck DX7_load_0 3 rfl) ?_
  refine r_aload_n 7 rfl 0 rfl rfl (ck DX7_load_0 4 rfl) ?_
  refine r_geti 10 rfl sh_96 kd_7_2 fl_X7_16 (ck DX7_load_0 5 rfl) ?_
  refine r_imul 11 rfl (ck DX7_load_0 6 rfl) ?_
  refine r_iconst 12 rfl ic_5 (ck DX7_load_0 7 rfl) ?_
  refine r_idiv 13 rfl (by decide) (ck DX7_load_0 8 rfl) ?_
  refine r_aload_n 14 rfl 0 rfl rfl (ck DX7_load_0 9 rfl) ?_
  refine r_iconst 15 rfl ic_2 (ck DX7_load_0 10 rfl) ?_
  refine r_iconst 16 rfl ic_5 (ck DX7_load_0 11 rfl) ?_
  obtain ⟨v3, e4, hf⟩ := bo_so hf
  refine r_callVi 19 rfl (A_X7_lastOf X 2 5 h v3 e4) (by omega) cw_X7_365 sh_96 cl_7 rfl rfl (Nat.le_of_ble_eq_true rfl) (ck DX7_load_0 12 rfl) ?_
  refine r_iadd 20 rfl (ck DX7_load_0 13 rfl) ?_
  refine r_iconst 21 rfl ic_3 (ck DX7_load_0 14 rfl) ?_
  refine r_aload_n 22 rfl 0 rfl rfl (ck DX7_load_0 15 rfl) ?_
  refine r_geti 25 rfl sh_96 kd_7_3 fl_X7_19 (ck DX7_load_0 16 rfl) ?_
  refine r_imul 26 rfl (ck DX7_load_0 17 rfl) ?_
  refine r_isub 27 rfl (ck DX7_load_0 18 rfl) ?_
  obtain ⟨v5, e6, hf⟩ := bo_so hf
  refine r_callVi 30 rfl (A_X7_least0 X ((((v1 * (h.1 96 2)) / 5) + v3) - (3 * (h.1 96 3))) h v5 e6) (by omega) cw_X7_362 sh_96 cl_7 rfl rfl (Nat.le_of_ble_eq_true rfl) (ck DX7_load_0 19 rfl) ?_
  obtain rfl := so1 hf
  exact r_iret rfl rfl (ck DX7_load_0 20 rfl)
-- X7_milesNow
def f_X7_milesNow (h : HP) : Option Int32 := bo (f_X7_height h) fun v1 => some ((v1 * (h.1 96 2)) / 10)
set_option maxHeartbeats 4000000 in
set_option maxRecDepth 100000 in
theorem A_X7_milesNow (X : XE) (h : HP) (r : Int32) (hf : f_X7_milesNow h = some r) : CC mX7_milesNow 5 X [.ref (X.1 96)] h (some (.int r)) h := by
  refine CC_of rfl (Nat.le_of_ble_eq_true rfl) ?_
  show Run mX7_milesNow 5 X 0 [(0, .ref (X.1 96))] [] h (some (.int r)) h
  unfold f_X7_milesNow at hf
  refine r_aload_n 1 rfl 0 rfl rfl (ck DX7_milesNow_0 0 rfl) ?_
  obtain ⟨v1, e2, hf⟩ := bo_so hf
  refine r_callVi 4 rfl (A_X7_height X h v1 e2) (by omega) cw_X7_371 sh_96 cl_7 rfl rfl (Nat.le_of_ble_eq_true rfl) (ck DX7_milesNow_0 1 rfl) ?_
  refine r_aload_n 5 rfl 0 rfl rfl (ck DX7_milesNow_0 2 rfl) ?_
  refine r_geti 8 rfl sh_96 kd_7_2 fl_X7_16 (ck DX7_milesNow_0 3 rfl) ?_
  refine r_imul 9 rfl (ck DX7_milesNow_0 4 rfl) ?_
  refine r_bipush 11 rfl bp_10 (ck DX7_milesNow_0 5 rfl) ?_
  refine r_idiv 12 rfl (by decide) (ck DX7_milesNow_0 6 rfl) ?_
  obtain rfl := so1 hf
  exact r_iret rfl rfl (ck DX7_milesNow_0 7 rfl)
-- X7_of
def f_X7_of (x1 : Int32) (x2 : Int32) (h : HP) : Option (Int32 × HP) := bo (f_X7_isPiece x1 h) fun v1 => if v1 = 0 then (some ((-1001), h)) else (bo (f_X7_placeOf x1 h) fun v4 => if x2 = 0 then (gd (inb x1 6) (some ((h.1 97 (Int32.toNatClampNeg x1)), h))) else (if x2 = 1 then (gd (inb x1 6) (some ((h.1 98 (Int32.toNatClampNeg x1)), h))) else (if x2 = 2 then (gd (inb x1 6) (some ((h.1 99 (Int32.toNatClampNeg x1)), h))) else (if x2 = 3 then (gd (inb x1 6) (some ((h.1 100 (Int32.toNatClampNeg x1)), h))) else (if x2 = 4 then (gd (inb x1 6) (some ((h.1 101 (Int32.toNatClampNeg x1)), h))) else (if x2 = 5 then (bd (f_X7_heart x1 h) fun v19 g17 => some (v19, g17)) else (if x2 = 6 then (bd (f_X7_strength x1 h) fun v23 g21 => some (v23, g21)) else (if x2 = 7 then (some (v4, h)) else (if x2 = 8 then (if (0 : Int32) ≤ v4 then (bo (f_X7_above v4 h) fun v27 => some (v27, h)) else (some ((-5), h))) else (if x2 = 9 then (if (0 : Int32) ≤ v4 then (bo (f_X7_load v4 h) fun v31 => some (v31, h)) else (some ((-5), h))) else ((some ((-1001), h)))))))))))))
set_option maxHeartbeats 4000000 in
set_option maxRecDepth 100000 in
theorem A_X7_of (X : XE) (x1 : Int32) (x2 : Int32) (h : HP) (r : Int32) (h' : HP) (hf : f_X7_of x1 x2 h = some (r, h')) : CC mX7_of 5 X [.ref (X.1 96), .int x1, .int x2] h (some (.int r)) h' := by
  refine CC_of rfl (Nat.le_of_ble_eq_true rfl) ?_
  show Run mX7_of 5 X 0 [(0, .ref (X.1 96)), (1, .int x1), (2, .int x2)] [] h (some (.int r)) h'
  unfold f_X7_of at hf
  refine r_aload_n 1 rfl 0 rfl rfl (ck DX7_of_0 0 rfl) ?_
  refine r_iload_n 2 rfl 1 rfl rfl (ck DX7_of_0 1 rfl) ?_
  obtain ⟨v1, e2, hf⟩ := bo_so hf
  refine r_callVi 5 rfl (A_X7_isPiece X x1 h v1 e2) (by omega) cw_X7_280 sh_96 cl_7 rfl rfl (Nat.le_of_ble_eq_true rfl) (ck DX7_of_0 2 rfl) ?_
  rcases if_so hf with ⟨c3, hf⟩ | ⟨c3, hf⟩
  · refine r_if_ne_t 8 rfl 12 (ck DX7_of_0 3 rfl) (by decide) c3 ?_
    refine r_sipush 11 rfl sp_m1001 (ck DX7_of_0 4 rfl) ?_
    obtain ⟨rfl, rfl⟩ := so2 hf
    exact r_iret rfl rfl (ck DX7_of_0 5 rfl)
  · refine r_if_ne_f 12 (ck DX7_of_0 3 rfl) (by decide) c3 ?_
    refine r_aload_n 13 rfl 0 rfl rfl (ck DX7_of_0 6 rfl) ?_
    refine r_iload_n 14 rfl 1 rfl rfl (ck DX7_of_0 7 rfl) ?_
    obtain ⟨v4, e5, hf⟩ := bo_so hf
    refine r_callVi 17 rfl (A_X7_placeOf X x1 h v4 e5) (by omega) cw_X7_287 sh_96 cl_7 rfl rfl (Nat.le_of_ble_eq_true rfl) (ck DX7_of_0 8 rfl) ?_
    refine r_istore_n (lv' := [(3, .int v4), (0, .ref (X.1 96)), (1, .int x1), (2, .int x2)]) 18 rfl (ck DX7_of_0 9 rfl) (by decide) rfl rfl ?_
    refine r_iload_n 19 rfl 3 rfl rfl (ck DX7_of_0 10 rfl) ?_
    rcases if_so hf with ⟨c6, hf⟩ | ⟨c6, hf⟩
    · refine r_tsw_in (v := 0) 72 (ck DX7_of_0 11 rfl) c6 (by decide) (by decide) rfl (by decide) ?_
      refine r_aload_n 73 rfl 1 rfl rfl (ck DX7_of_0 12 rfl) ?_
      refine r_getr (q := 97) 76 rfl (lq_7_6) sh_96 kd_7_6 fl_X7_28 (ck DX7_of_0 13 rfl) ?_
      refine r_iload_n 77 rfl 2 rfl rfl (ck DX7_of_0 14 rfl) ?_
      obtain ⟨b7, hf⟩ := gd_so hf
      refine r_iald 78 rfl sh_97 (inb_vp b7) (ck DX7_of_0 15 rfl) ?_
      obtain ⟨rfl, rfl⟩ := so2 hf
      exact r_iret rfl rfl (ck DX7_of_0 16 rfl)
    · skip
      rcases if_so hf with ⟨c8, hf⟩ | ⟨c8, hf⟩
      · refine r_tsw_in (v := 1) 79 (ck DX7_of_0 11 rfl) c8 (by decide) (by decide) rfl (by decide) ?_
        refine r_aload_n 80 rfl 1 rfl rfl (ck DX7_of_0 17 rfl) ?_
        refine r_getr (q := 98) 83 rfl (lq_7_7) sh_96 kd_7_7 fl_X7_32 (ck DX7_of_0 18 rfl) ?_
        refine r_iload_n 84 rfl 2 rfl rfl (ck DX7_of_0 19 rfl) ?_
        obtain ⟨b9, hf⟩ := gd_so hf
        refine r_iald 85 rfl sh_98 (inb_vp b9) (ck DX7_of_0 20 rfl) ?_
        obtain ⟨rfl, rfl⟩ := so2 hf
        exact r_iret rfl rfl (ck DX7_of_0 21 rfl)
      · skip
        rcases if_so hf with ⟨c10, hf⟩ | ⟨c10, hf⟩
        · refine r_tsw_in (v := 2) 86 (ck DX7_of_0 11 rfl) c10 (by decide) (by decide) rfl (by decide) ?_
          refine r_aload_n 87 rfl 1 rfl rfl (ck DX7_of_0 22 rfl) ?_
          refine r_getr (q := 99) 90 rfl (lq_7_8) sh_96 kd_7_8 fl_X7_35 (ck DX7_of_0 23 rfl) ?_
          refine r_iload_n 91 rfl 2 rfl rfl (ck DX7_of_0 24 rfl) ?_
          obtain ⟨b11, hf⟩ := gd_so hf
          refine r_iald 92 rfl sh_99 (inb_vp b11) (ck DX7_of_0 25 rfl) ?_
          obtain ⟨rfl, rfl⟩ := so2 hf
          exact r_iret rfl rfl (ck DX7_of_0 26 rfl)
        · skip
          rcases if_so hf with ⟨c12, hf⟩ | ⟨c12, hf⟩
          · refine r_tsw_in (v := 3) 93 (ck DX7_of_0 11 rfl) c12 (by decide) (by decide) rfl (by decide) ?_
            refine r_aload_n 94 rfl 1 rfl rfl (ck DX7_of_0 27 rfl) ?_
            refine r_getr (q := 100) 97 rfl (lq_7_9) sh_96 kd_7_9 fl_X7_38 (ck DX7_of_0 28 rfl) ?_
            refine r_iload_n 98 rfl 2 rfl rfl (ck DX7_of_0 29 rfl) ?_
            obtain ⟨b13, hf⟩ := gd_so hf
            refine r_iald 99 rfl sh_100 (inb_vp b13) (ck DX7_of_0 30 rfl) ?_
            obtain ⟨rfl, rfl⟩ := so2 hf
            exact r_iret rfl rfl (ck DX7_of_0 31 rfl)
          · skip
            rcases if_so hf with ⟨c14, hf⟩ | ⟨c14, hf⟩
            · refine r_tsw_in (v := 4) 100 (ck DX7_of_0 11 rfl) c14 (by decide) (by decide) rfl (by decide) ?_
              refine r_aload_n 101 rfl 1 rfl rfl (ck DX7_of_0 32 rfl) ?_
              refine r_getr (q := 101) 104 rfl (lq_7_10) sh_96 kd_7_10 fl_X7_41 (ck DX7_of_0 33 rfl) ?_
              refine r_iload_n 105 rfl 2 rfl rfl (ck DX7_of_0 34 rfl) ?_
              obtain ⟨b15, hf⟩ := gd_so hf
              refine r_iald 106 rfl sh_101 (inb_vp b15) (ck DX7_of_0 35 rfl) ?_
              obtain ⟨rfl, rfl⟩ := so2 hf
              exact r_iret rfl rfl (ck DX7_of_0 36 rfl)
            · skip
              rcases if_so hf with ⟨c16, hf⟩ | ⟨c16, hf⟩
              · refine r_tsw_in (v := 5) 107 (ck DX7_of_0 11 rfl) c16 (by decide) (by decide) rfl (by decide) ?_
                refine r_aload_n 108 rfl 1 rfl rfl (ck DX7_of_0 37 rfl) ?_
                refine r_iload_n 109 rfl 2 rfl rfl (ck DX7_of_0 38 rfl) ?_
                obtain ⟨v19, g17, e18, hf⟩ := bd_so hf
                refine r_callVi 112 rfl (A_X7_heart X x1 h v19 g17 e18) (by omega) cw_X7_359 sh_96 cl_7 rfl rfl (Nat.le_of_ble_eq_true rfl) (ck DX7_of_0 39 rfl) ?_
                obtain ⟨rfl, rfl⟩ := so2 hf
                exact r_iret rfl rfl (ck DX7_of_0 40 rfl)
              · skip
                rcases if_so hf with ⟨c20, hf⟩ | ⟨c20, hf⟩
                · refine r_tsw_in (v := 6) 113 (ck DX7_of_0 11 rfl) c20 (by decide) (by decide) rfl (by decide) ?_
                  refine r_aload_n 114 rfl 1 rfl rfl (ck DX7_of_0 41 rfl) ?_
                  refine r_iload_n 115 rfl 2 rfl rfl (ck DX7_of_0 42 rfl) ?_
                  obtain ⟨v23, g21, e22, hf⟩ := bd_so hf
                  refine r_callVi 118 rfl (A_X7_strength X x1 h v23 g21 e22) (by omega) cw_X7_374 sh_96 cl_7 rfl rfl (Nat.le_of_ble_eq_true rfl) (ck DX7_of_0 43 rfl) ?_
                  obtain ⟨rfl, rfl⟩ := so2 hf
                  exact r_iret rfl rfl (ck DX7_of_0 44 rfl)
                · skip
                  rcases if_so hf with ⟨c24, hf⟩ | ⟨c24, hf⟩
                  · refine r_tsw_in (v := 7) 119 (ck DX7_of_0 11 rfl) c24 (by decide) (by decide) rfl (by decide) ?_
                    refine r_iload_n 120 rfl 0 rfl rfl (ck DX7_of_0 45 rfl) ?_
                    obtain ⟨rfl, rfl⟩ := so2 hf
                    exact r_iret rfl rfl (ck DX7_of_0 46 rfl)
                  · skip
                    rcases if_so hf with ⟨c25, hf⟩ | ⟨c25, hf⟩
                    · refine r_tsw_in (v := 8) 121 (ck DX7_of_0 11 rfl) c25 (by decide) (by decide) rfl (by decide) ?_
                      refine r_iload_n 122 rfl 0 rfl rfl (ck DX7_of_0 47 rfl) ?_
                      rcases if_so hf with ⟨c26, hf⟩ | ⟨c26, hf⟩
                      · refine r_if_ge_t 130 (ck DX7_of_0 48 rfl) (by decide) c26 ?_
                        refine r_aload_n 131 rfl 1 rfl rfl (ck DX7_of_1 1 rfl) ?_
                        refine r_iload_n 132 rfl 0 rfl rfl (ck DX7_of_1 2 rfl) ?_
                        obtain ⟨v27, e28, hf⟩ := bo_so hf
                        refine r_callVi 135 rfl (A_X7_above X v4 h v27 e28) (by omega) cw_X7_368 sh_96 cl_7 rfl rfl (Nat.le_of_ble_eq_true rfl) (ck DX7_of_1 3 rfl) ?_
                        obtain ⟨rfl, rfl⟩ := so2 hf
                        exact r_iret rfl rfl (ck DX7_of_1 4 rfl)
                      · refine r_if_ge_f 125 rfl 130 (ck DX7_of_0 48 rfl) (by decide) c26 ?_
                        refine r_bipush 127 rfl bp_m5 (ck DX7_of_0 49 rfl) ?_
                        refine r_goto 135 (ck DX7_of_1 0 rfl) (by decide) ?_
                        obtain ⟨rfl, rfl⟩ := so2 hf
                        exact r_iret rfl rfl (ck DX7_of_1 4 rfl)
                    · skip
                      rcases if_so hf with ⟨c29, hf⟩ | ⟨c29, hf⟩
                      · refine r_tsw_in (v := 9) 136 (ck DX7_of_0 11 rfl) c29 (by decide) (by decide) rfl (by decide) ?_
                        refine r_iload_n 137 rfl 0 rfl rfl (ck DX7_of_1 5 rfl) ?_
                        rcases if_so hf with ⟨c30, hf⟩ | ⟨c30, hf⟩
                        · refine r_if_ge_t 145 (ck DX7_of_1 6 rfl) (by decide) c30 ?_
                          refine r_aload_n 146 rfl 1 rfl rfl (ck DX7_of_1 9 rfl) ?_
                          refine r_iload_n 147 rfl 0 rfl rfl (ck DX7_of_1 10 rfl) ?_
                          obtain ⟨v31, e32, hf⟩ := bo_so hf
                          refine r_callVi 150 rfl (A_X7_load X v4 h v31 e32) (by omega) cw_X7_377 sh_96 cl_7 rfl rfl (Nat.le_of_ble_eq_true rfl) (ck DX7_of_1 11 rfl) ?_
                          obtain ⟨rfl, rfl⟩ := so2 hf
                          exact r_iret rfl rfl (ck DX7_of_1 12 rfl)
                        · refine r_if_ge_f 140 rfl 145 (ck DX7_of_1 6 rfl) (by decide) c30 ?_
                          refine r_bipush 142 rfl bp_m5 (ck DX7_of_1 7 rfl) ?_
                          refine r_goto 150 (ck DX7_of_1 8 rfl) (by decide) ?_
                          obtain ⟨rfl, rfl⟩ := so2 hf
                          exact r_iret rfl rfl (ck DX7_of_1 12 rfl)
                      · skip
                        have hx9 : x2.toInt < 0 ∨ (9 : Int) < x2.toInt := by
                          have h8 := tsw_o (x := x2) 0 10 (fun k hk => by
                            match k, hk with
                            | 0, _ => exact ne_int c6
                            | 1, _ => exact ne_int c8
                            | 2, _ => exact ne_int c10
                            | 3, _ => exact ne_int c12
                            | 4, _ => exact ne_int c14
                            | 5, _ => exact ne_int c16
                            | 6, _ => exact ne_int c20
                            | 7, _ => exact ne_int c24
                            | 8, _ => exact ne_int c25
                            | 9, _ => exact ne_int c29
                            | k + 10, hk => exact absurd hk (by omega))
                          exact h8
                        refine r_tsw_out 151 (ck DX7_of_0 11 rfl) hx9 (by decide) ?_
                        refine r_sipush 154 rfl sp_m1001 (ck DX7_of_1 13 rfl) ?_
                        obtain ⟨rfl, rfl⟩ := so2 hf
                        exact r_iret rfl rfl (ck DX7_of_1 14 rfl)
-- X7_told
def f_X7_told (x1 : Int32) (h : HP) : Option Int32 := bo (f_X7_in x1 10 (9 + (h.1 96 1))) fun v1 => if v1 = 0 then (if x1 = 0 then (some (h.1 96 5)) else (if x1 = 1 then (bo (f_X7_lastOf 2 5 h) fun v6 => some v6) else (if x1 = 2 then (bo (f_X7_lastOf 3 2 h) fun v9 => some v9) else (if x1 = 3 then (some (h.1 96 2)) else (if x1 = 4 then (some (h.1 96 3)) else (if x1 = 5 then (some (h.1 96 4)) else (if x1 = 6 then (bo (f_X7_height h) fun v15 => some v15) else (if x1 = 7 then (bo (f_X7_milesNow h) fun v18 => some v18) else ((some (-1))))))))))) else (gd (inb (x1 - 10) 3) (some (h.1 103 (Int32.toNatClampNeg (x1 - 10)))))
set_option maxHeartbeats 4000000 in
set_option maxRecDepth 100000 in
theorem A_X7_told (X : XE) (x1 : Int32) (h : HP) (r : Int32) (hf : f_X7_told x1 h = some r) : CC mX7_told 6 X [.ref (X.1 96), .int x1] h (some (.int r)) h := by
  refine CC_of rfl (Nat.le_of_ble_eq_true rfl) ?_
  show Run mX7_told 6 X 0 [(0, .ref (X.1 96)), (1, .int x1)] [] h (some (.int r)) h
  unfold f_X7_told at hf
  refine r_aload_n 1 rfl 0 rfl rfl (ck DX7_told_0 0 rfl) ?_
  refine r_iload_n 2 rfl 1 rfl rfl (ck DX7_told_0 1 rfl) ?_
  refine r_bipush 4 rfl bp_10 (ck DX7_told_0 2 rfl) ?_
  refine r_bipush 6 rfl bp_9 (ck DX7_told_0 3 rfl) ?_
  refine r_aload_n 7 rfl 0 rfl rfl (ck DX7_told_0 4 rfl) ?_
  refine r_geti 10 rfl sh_96 kd_7_1 fl_X7_13 (ck DX7_told_0 5 rfl) ?_
  refine r_iadd 11 rfl (ck DX7_told_0 6 rfl) ?_
  obtain ⟨v1, e2, hf⟩ := bo_so hf
  refine r_callVi 14 rfl (A_X7_in X x1 10 (9 + (h.1 96 1)) h v1 e2) (by omega) cw_X7_276 sh_96 cl_7 rfl rfl (Nat.le_of_ble_eq_true rfl) (ck DX7_told_0 7 rfl) ?_
  rcases if_so hf with ⟨c3, hf⟩ | ⟨c3, hf⟩
  · refine r_if_eq_t 27 (ck DX7_told_0 8 rfl) (by decide) c3 ?_
    refine r_iload_n 28 rfl 1 rfl rfl (ck DX7_told_0 16 rfl) ?_
    rcases if_so hf with ⟨c4, hf⟩ | ⟨c4, hf⟩
    · refine r_tsw_in (v := 0) 76 (ck DX7_told_0 17 rfl) c4 (by decide) (by decide) rfl (by decide) ?_
      refine r_aload_n 77 rfl 0 rfl rfl (ck DX7_told_0 18 rfl) ?_
      refine r_geti 80 rfl sh_96 kd_7_5 fl_X7_25 (ck DX7_told_0 19 rfl) ?_
      obtain rfl := so1 hf
      exact r_iret rfl rfl (ck DX7_told_0 20 rfl)
    · skip
      rcases if_so hf with ⟨c5, hf⟩ | ⟨c5, hf⟩
      · refine r_tsw_in (v := 1) 81 (ck DX7_told_0 17 rfl) c5 (by decide) (by decide) rfl (by decide) ?_
        refine r_aload_n 82 rfl 0 rfl rfl (ck DX7_told_0 21 rfl) ?_
        refine r_iconst 83 rfl ic_2 (ck DX7_told_0 22 rfl) ?_
        refine r_iconst 84 rfl ic_5 (ck DX7_told_0 23 rfl) ?_
        obtain ⟨v6, e7, hf⟩ := bo_so hf
        refine r_callVi 87 rfl (A_X7_lastOf X 2 5 h v6 e7) (by omega) cw_X7_365 sh_96 cl_7 rfl rfl (Nat.le_of_ble_eq_true rfl) (ck DX7_told_0 24 rfl) ?_
        obtain rfl := so1 hf
        exact r_iret rfl rfl (ck DX7_told_0 25 rfl)
      · skip
        rcases if_so hf with ⟨c8, hf⟩ | ⟨c8, hf⟩
        · refine r_tsw_in (v := 2) 88 (ck DX7_told_0 17 rfl) c8 (by decide) (by decide) rfl (by decide) ?_
          refine r_aload_n 89 rfl 0 rfl rfl (ck DX7_told_0 26 rfl) ?_
          refine r_iconst 90 rfl ic_3 (ck DX7_told_0 27 rfl) ?_
          refine r_iconst 91 rfl ic_2 (ck DX7_told_0 28 rfl) ?_
          obtain ⟨v9, e10, hf⟩ := bo_so hf
          refine r_callVi 94 rfl (A_X7_lastOf X 3 2 h v9 e10) (by omega) cw_X7_365 sh_96 cl_7 rfl rfl (Nat.le_of_ble_eq_true rfl) (ck DX7_told_0 29 rfl) ?_
          obtain rfl := so1 hf
          exact r_iret rfl rfl (ck DX7_told_0 30 rfl)
        · skip
          rcases if_so hf with ⟨c11, hf⟩ | ⟨c11, hf⟩
          · refine r_tsw_in (v := 3) 95 (ck DX7_told_0 17 rfl) c11 (by decide) (by decide) rfl (by decide) ?_
            refine r_aload_n 96 rfl 0 rfl rfl (ck DX7_told_0 31 rfl) ?_
            refine r_geti 99 rfl sh_96 kd_7_2 fl_X7_16 (ck DX7_told_0 32 rfl) ?_
            obtain rfl := so1 hf
            exact r_iret rfl rfl (ck DX7_told_0 33 rfl)
          · skip
            rcases if_so hf with ⟨c12, hf⟩ | ⟨c12, hf⟩
            · refine r_tsw_in (v := 4) 100 (ck DX7_told_0 17 rfl) c12 (by decide) (by decide) rfl (by decide) ?_
              refine r_aload_n 101 rfl 0 rfl rfl (ck DX7_told_0 34 rfl) ?_
              refine r_geti 104 rfl sh_96 kd_7_3 fl_X7_19 (ck DX7_told_0 35 rfl) ?_
              obtain rfl := so1 hf
              exact r_iret rfl rfl (ck DX7_told_0 36 rfl)
            · skip
              rcases if_so hf with ⟨c13, hf⟩ | ⟨c13, hf⟩
              · refine r_tsw_in (v := 5) 105 (ck DX7_told_0 17 rfl) c13 (by decide) (by decide) rfl (by decide) ?_
                refine r_aload_n 106 rfl 0 rfl rfl (ck DX7_told_0 37 rfl) ?_
                refine r_geti 109 rfl sh_96 kd_7_4 fl_X7_22 (ck DX7_told_0 38 rfl) ?_
                obtain rfl := so1 hf
                exact r_iret rfl rfl (ck DX7_told_0 39 rfl)
              · skip
                rcases if_so hf with ⟨c14, hf⟩ | ⟨c14, hf⟩
                · refine r_tsw_in (v := 6) 110 (ck DX7_told_0 17 rfl) c14 (by decide) (by decide) rfl (by decide) ?_
                  refine r_aload_n 111 rfl 0 rfl rfl (ck DX7_told_0 40 rfl) ?_
                  obtain ⟨v15, e16, hf⟩ := bo_so hf
                  refine r_callVi 114 rfl (A_X7_height X h v15 e16) (by omega) cw_X7_371 sh_96 cl_7 rfl rfl (Nat.le_of_ble_eq_true rfl) (ck DX7_told_0 41 rfl) ?_
                  obtain rfl := so1 hf
                  exact r_iret rfl rfl (ck DX7_told_0 42 rfl)
                · skip
                  rcases if_so hf with ⟨c17, hf⟩ | ⟨c17, hf⟩
                  · refine r_tsw_in (v := 7) 115 (ck DX7_told_0 17 rfl) c17 (by decide) (by decide) rfl (by decide) ?_
                    refine r_aload_n 116 rfl 0 rfl rfl (ck DX7_told_0 43 rfl) ?_
                    obtain ⟨v18, e19, hf⟩ := bo_so hf
                    refine r_callVi 119 rfl (A_X7_milesNow X h v18 e19) (by omega) cw_X7_380 sh_96 cl_7 rfl rfl (Nat.le_of_ble_eq_true rfl) (ck DX7_told_0 44 rfl) ?_
                    obtain rfl := so1 hf
                    exact r_iret rfl rfl (ck DX7_told_0 45 rfl)
                  · skip
                    have hx9 : x1.toInt < 0 ∨ (7 : Int) < x1.toInt := by
                      have h8 := tsw_o (x := x1) 0 8 (fun k hk => by
                        match k, hk with
                        | 0, _ => exact ne_int c4
                        | 1, _ => exact ne_int c5
                        | 2, _ => exact ne_int c8
                        | 3, _ => exact ne_int c11
                        | 4, _ => exact ne_int c12
                        | 5, _ => exact ne_int c13
                        | 6, _ => exact ne_int c14
                        | 7, _ => exact ne_int c17
                        | k + 8, hk => exact absurd hk (by omega))
                      exact h8
                    refine r_tsw_out 120 (ck DX7_told_0 17 rfl) hx9 (by decide) ?_
                    refine r_iconst 121 rfl ic_m1 (ck DX7_told_0 46 rfl) ?_
                    obtain rfl := so1 hf
                    exact r_iret rfl rfl (ck DX7_told_0 47 rfl)
  · refine r_if_eq_f 17 rfl 27 (ck DX7_told_0 8 rfl) (by decide) c3 ?_
    refine r_aload_n 18 rfl 0 rfl rfl (ck DX7_told_0 9 rfl) ?_
    refine r_getr (q := 103) 21 rfl (lq_7_12) sh_96 kd_7_12 fl_X7_47 (ck DX7_told_0 10 rfl) ?_
    refine r_iload_n 22 rfl 1 rfl rfl (ck DX7_told_0 11 rfl) ?_
    refine r_bipush 24 rfl bp_10 (ck DX7_told_0 12 rfl) ?_
    refine r_isub 25 rfl (ck DX7_told_0 13 rfl) ?_
    obtain ⟨b20, hf⟩ := gd_so hf
    refine r_iald 26 rfl sh_103 (inb_vp b20) (ck DX7_told_0 14 rfl) ?_
    obtain rfl := so1 hf
    exact r_iret rfl rfl (ck DX7_told_0 15 rfl)
-- X7_breaksAt
def f_X7_breaksAt_L2 : Nat → Int32 → HP → Option (Int32 × HP)
  | 0, _, _ => none
  | n + 1, x1, h => if (h.1 96 1) ≤ x1 then (some ((-5), h)) else (bo (f_X7_load x1 h) fun v2 => gd (inb x1 3) (bd (f_X7_strength (h.1 103 (Int32.toNatClampNeg x1)) h) fun v7 g5 => if v2 ≤ v7 then (lt (x1 + 1 : Int32) fun v9 => f_X7_breaksAt_L2 n v9 g5) else (some (x1, g5))))
set_option maxHeartbeats 4000000 in
set_option maxRecDepth 100000 in
theorem A_X7_breaksAt_L2 (X : XE) (r : Int32) (h' : HP) : ∀ (n : Nat) (x1 : Int32) (h : HP), f_X7_breaksAt_L2 n x1 h = some (r, h') → Run mX7_breaksAt 5 X 2 [(0, .ref (X.1 96)), (1, .int x1)] [] h (some (.int r)) h' := by
  intro n
  induction n with
  | zero => intro x1 h hf; cases hf
  | succ n ih =>
    intro x1 h hf
    rw [f_X7_breaksAt_L2] at hf
    refine r_iload_n 3 rfl 1 rfl rfl (ck DX7_breaksAt_0 2 rfl) ?_
    refine r_aload_n 4 rfl 0 rfl rfl (ck DX7_breaksAt_0 3 rfl) ?_
    refine r_geti 7 rfl sh_96 kd_7_1 fl_X7_13 (ck DX7_breaksAt_0 4 rfl) ?_
    rcases if_so hf with ⟨c1, hf⟩ | ⟨c1, hf⟩
    · refine r_icmp_ge_t 36 (ck DX7_breaksAt_0 5 rfl) (by decide) c1 ?_
      refine r_bipush 38 rfl bp_m5 (ck DX7_breaksAt_0 20 rfl) ?_
      obtain ⟨rfl, rfl⟩ := so2 hf
      exact r_iret rfl rfl (ck DX7_breaksAt_0 21 rfl)
    · refine r_icmp_ge_f 10 rfl 36 (ck DX7_breaksAt_0 5 rfl) (by decide) c1 ?_
      refine r_aload_n 11 rfl 0 rfl rfl (ck DX7_breaksAt_0 6 rfl) ?_
      refine r_iload_n 12 rfl 1 rfl rfl (ck DX7_breaksAt_0 7 rfl) ?_
      obtain ⟨v2, e3, hf⟩ := bo_so hf
      refine r_callVi 15 rfl (A_X7_load X x1 h v2 e3) (by omega) cw_X7_377 sh_96 cl_7 rfl rfl (Nat.le_of_ble_eq_true rfl) (ck DX7_breaksAt_0 8 rfl) ?_
      refine r_aload_n 16 rfl 0 rfl rfl (ck DX7_breaksAt_0 9 rfl) ?_
      refine r_aload_n 17 rfl 0 rfl rfl (ck DX7_breaksAt_0 10 rfl) ?_
      refine r_getr (q := 103) 20 rfl (lq_7_12) sh_96 kd_7_12 fl_X7_47 (ck DX7_breaksAt_0 11 rfl) ?_
      refine r_iload_n 21 rfl 1 rfl rfl (ck DX7_breaksAt_0 12 rfl) ?_
      obtain ⟨b4, hf⟩ := gd_so hf
      refine r_iald 22 rfl sh_103 (inb_vp b4) (ck DX7_breaksAt_0 13 rfl) ?_
      obtain ⟨v7, g5, e6, hf⟩ := bd_so hf
      refine r_callVi 25 rfl (A_X7_strength X (h.1 103 (Int32.toNatClampNeg x1)) h v7 g5 e6) (by omega) cw_X7_374 sh_96 cl_7 rfl rfl (Nat.le_of_ble_eq_true rfl) (ck DX7_breaksAt_0 14 rfl) ?_
      rcases if_so hf with ⟨c8, hf⟩ | ⟨c8, hf⟩
      · refine r_icmp_le_t 30 (ck DX7_breaksAt_0 15 rfl) (by decide) c8 ?_
        obtain ⟨v9, e10, hf⟩ := lt_so hf
        refine r_iinc (lv' := [(1, .int v9), (0, .ref (X.1 96))]) 33 rfl 1 (ck DX7_breaksAt_0 18 rfl) rfl (by rw [e10, ic_1]) (by decide) rfl ?_
        refine r_goto 2 (ck DX7_breaksAt_0 19 rfl) (by decide) ?_
        refine r_sub (lv' := [(0, .ref (X.1 96)), (1, .int v9)]) [1, 0] rfl ?_
        exact ih v9 g5 hf
      · refine r_icmp_le_f 28 rfl 30 (ck DX7_breaksAt_0 15 rfl) (by decide) c8 ?_
        refine r_iload_n 29 rfl 1 rfl rfl (ck DX7_breaksAt_0 16 rfl) ?_
        obtain ⟨rfl, rfl⟩ := so2 hf
        exact r_iret rfl rfl (ck DX7_breaksAt_0 17 rfl)
def f_X7_breaksAt (h : HP) : Option (Int32 × HP) := f_X7_breaksAt_L2 FZ 0 h
set_option maxHeartbeats 4000000 in
set_option maxRecDepth 100000 in
theorem A_X7_breaksAt (X : XE) (h : HP) (r : Int32) (h' : HP) (hf : f_X7_breaksAt h = some (r, h')) : CC mX7_breaksAt 5 X [.ref (X.1 96)] h (some (.int r)) h' := by
  refine CC_of rfl (Nat.le_of_ble_eq_true rfl) ?_
  show Run mX7_breaksAt 5 X 0 [(0, .ref (X.1 96))] [] h (some (.int r)) h'
  unfold f_X7_breaksAt at hf
  refine r_iconst 1 rfl ic_0 (ck DX7_breaksAt_0 0 rfl) ?_
  refine r_istore_n (lv' := [(1, .int 0), (0, .ref (X.1 96))]) 2 rfl (ck DX7_breaksAt_0 1 rfl) (by decide) rfl rfl ?_
  refine r_sub (lv' := [(0, .ref (X.1 96)), (1, .int 0)]) [1, 0] rfl ?_
  exact A_X7_breaksAt_L2 X _ _ FZ 0 h hf
-- X7_goWear
def f_X7_goWear_L50 : Nat → Int32 → HP → Option HP
  | 0, _, _ => none
  | n + 1, x1, h => if (h.1 96 1) ≤ x1 then (some h) else (gd (inb x1 3) (gd (inb x1 3) (gd (inb (h.1 103 (Int32.toNatClampNeg x1)) 6) (gd (inb x1 3) (bo (f_X7_least ((h.1 100 (Int32.toNatClampNeg (h.1 103 (Int32.toNatClampNeg x1)))) + ((h.1 114 (Int32.toNatClampNeg x1)) / 10)) 99) fun v13 => gd (inb (h.1 103 (Int32.toNatClampNeg x1)) 6) (lt (si h 100 (Int32.toNatClampNeg (h.1 103 (Int32.toNatClampNeg x1))) v13) fun g16 => lt (x1 + 1 : Int32) fun v18 => f_X7_goWear_L50 n v18 g16))))))
set_option maxHeartbeats 4000000 in
set_option maxRecDepth 100000 in
theorem A_X7_goWear_L50 (X : XE) (h' : HP) : ∀ (n : Nat) (x1 : Int32) (h : HP), f_X7_goWear_L50 n x1 h = some h' → Run mX7_goWear 6 X 50 [(0, .ref (X.1 96)), (1, .int x1)] [] h none h' := by
  intro n
  induction n with
  | zero => intro x1 h hf; cases hf
  | succ n ih =>
    intro x1 h hf
    rw [f_X7_goWear_L50] at hf
    refine r_iload_n 51 rfl 1 rfl rfl (ck DX7_goWear_0 28 rfl) ?_
    refine r_aload_n 52 rfl 0 rfl rfl (ck DX7_goWear_0 29 rfl) ?_
    refine r_geti 55 rfl sh_96 kd_7_1 fl_X7_13 (ck DX7_goWear_0 30 rfl) ?_
    rcases if_so hf with ⟨c8, hf⟩ | ⟨c8, hf⟩
    · refine r_icmp_ge_t 102 (ck DX7_goWear_0 31 rfl) (by decide) c8 ?_
      obtain rfl := so1 hf
      exact r_vret rfl (ck DX7_goWear_1 8 rfl)
    · refine r_icmp_ge_f 58 rfl 102 (ck DX7_goWear_0 31 rfl) (by decide) c8 ?_
      refine r_aload_n 59 rfl 0 rfl rfl (ck DX7_goWear_0 32 rfl) ?_
      refine r_getr (q := 100) 62 rfl (lq_7_9) sh_96 kd_7_9 fl_X7_38 (ck DX7_goWear_0 33 rfl) ?_
      refine r_aload_n 63 rfl 0 rfl rfl (ck DX7_goWear_0 34 rfl) ?_
      refine r_getr (q := 103) 66 rfl (lq_7_12) sh_96 kd_7_12 fl_X7_47 (ck DX7_goWear_0 35 rfl) ?_
      refine r_iload_n 67 rfl 1 rfl rfl (ck DX7_goWear_0 36 rfl) ?_
      obtain ⟨b9, hf⟩ := gd_so hf
      refine r_iald 68 rfl sh_103 (inb_vp b9) (ck DX7_goWear_0 37 rfl) ?_
      refine r_aload_n 69 rfl 0 rfl rfl (ck DX7_goWear_0 38 rfl) ?_
      refine r_aload_n 70 rfl 0 rfl rfl (ck DX7_goWear_0 39 rfl) ?_
      refine r_getr (q := 100) 73 rfl (lq_7_9) sh_96 kd_7_9 fl_X7_38 (ck DX7_goWear_0 40 rfl) ?_
      refine r_aload_n 74 rfl 0 rfl rfl (ck DX7_goWear_0 41 rfl) ?_
      refine r_getr (q := 103) 77 rfl (lq_7_12) sh_96 kd_7_12 fl_X7_47 (ck DX7_goWear_0 42 rfl) ?_
      refine r_iload_n 78 rfl 1 rfl rfl (ck DX7_goWear_0 43 rfl) ?_
      obtain ⟨b10, hf⟩ := gd_so hf
      refine r_iald 79 rfl sh_103 (inb_vp b10) (ck DX7_goWear_0 44 rfl) ?_
      obtain ⟨b11, hf⟩ := gd_so hf
      refine r_iald 80 rfl sh_100 (inb_vp b11) (ck DX7_goWear_0 45 rfl) ?_
      refine r_aload_n 81 rfl 0 rfl rfl (ck DX7_goWear_0 46 rfl) ?_
      refine r_getr (q := 114) 84 rfl (lq_7_33) sh_96 kd_7_33 fl_X7_112 (ck DX7_goWear_0 47 rfl) ?_
      refine r_iload_n 85 rfl 1 rfl rfl (ck DX7_goWear_0 48 rfl) ?_
      obtain ⟨b12, hf⟩ := gd_so hf
      refine r_iald 86 rfl sh_114 (inb_vp b12) (ck DX7_goWear_0 49 rfl) ?_
      refine r_bipush 88 rfl bp_10 (ck DX7_goWear_1 0 rfl) ?_
      refine r_idiv 89 rfl (by decide) (ck DX7_goWear_1 1 rfl) ?_
      refine r_iadd 90 rfl (ck DX7_goWear_1 2 rfl) ?_
      refine r_bipush 92 rfl bp_99 (ck DX7_goWear_1 3 rfl) ?_
      obtain ⟨v13, e14, hf⟩ := bo_so hf
      refine r_callVi 95 rfl (A_X7_least X ((h.1 100 (Int32.toNatClampNeg (h.1 103 (Int32.toNatClampNeg x1)))) + ((h.1 114 (Int32.toNatClampNeg x1)) / 10)) 99 h v13 e14) (by omega) cw_X7_383 sh_96 cl_7 rfl rfl (Nat.le_of_ble_eq_true rfl) (ck DX7_goWear_1 4 rfl) ?_
      obtain ⟨b15, hf⟩ := gd_so hf
      obtain ⟨g16, e17, hf⟩ := lt_so hf
      refine r_iast 96 rfl sh_100 (inb_vp b15) (ck DX7_goWear_1 5 rfl) ?_
      refine r_heap e17 ?_
      obtain ⟨v18, e19, hf⟩ := lt_so hf
      refine r_iinc (lv' := [(1, .int v18), (0, .ref (X.1 96))]) 99 rfl 1 (ck DX7_goWear_1 6 rfl) rfl (by rw [e19, ic_1]) (by decide) rfl ?_
      refine r_goto 50 (ck DX7_goWear_1 7 rfl) (by decide) ?_
      refine r_sub (lv' := [(0, .ref (X.1 96)), (1, .int v18)]) [1, 0] rfl ?_
      exact ih v18 g16 hf
def f_X7_goWear_L23 : Nat → Int32 → HP → Option HP
  | 0, _, _ => none
  | n + 1, x1, h => if (h.1 96 1) ≤ x1 then (f_X7_goWear_L50 FZ 0 h) else (bo (f_X7_load x1 h) fun v20 => gd (inb x1 3) (lt (si h 114 (Int32.toNatClampNeg x1) v20) fun g23 => lt (x1 + 1 : Int32) fun v25 => f_X7_goWear_L23 n v25 g23))
set_option maxHeartbeats 4000000 in
set_option maxRecDepth 100000 in
theorem A_X7_goWear_L23 (X : XE) (h' : HP) : ∀ (n : Nat) (x1 : Int32) (h : HP), f_X7_goWear_L23 n x1 h = some h' → Run mX7_goWear 6 X 23 [(0, .ref (X.1 96)), (1, .int x1)] [] h none h' := by
  intro n
  induction n with
  | zero => intro x1 h hf; cases hf
  | succ n ih =>
    intro x1 h hf
    rw [f_X7_goWear_L23] at hf
    refine r_iload_n 24 rfl 1 rfl rfl (ck DX7_goWear_0 13 rfl) ?_
    refine r_aload_n 25 rfl 0 rfl rfl (ck DX7_goWear_0 14 rfl) ?_
    refine r_geti 28 rfl sh_96 kd_7_1 fl_X7_13 (ck DX7_goWear_0 15 rfl) ?_
    rcases if_so hf with ⟨c7, hf⟩ | ⟨c7, hf⟩
    · refine r_icmp_ge_t 48 (ck DX7_goWear_0 16 rfl) (by decide) c7 ?_
      refine r_iconst 49 rfl ic_0 (ck DX7_goWear_0 26 rfl) ?_
      refine r_istore_n (lv' := [(1, .int 0), (0, .ref (X.1 96))]) 50 rfl (ck DX7_goWear_0 27 rfl) (by decide) rfl rfl ?_
      refine r_sub (lv' := [(0, .ref (X.1 96)), (1, .int 0)]) [1, 0] rfl ?_
      exact A_X7_goWear_L50 X _ FZ 0 h hf
    · refine r_icmp_ge_f 31 rfl 48 (ck DX7_goWear_0 16 rfl) (by decide) c7 ?_
      refine r_aload_n 32 rfl 0 rfl rfl (ck DX7_goWear_0 17 rfl) ?_
      refine r_getr (q := 114) 35 rfl (lq_7_33) sh_96 kd_7_33 fl_X7_112 (ck DX7_goWear_0 18 rfl) ?_
      refine r_iload_n 36 rfl 1 rfl rfl (ck DX7_goWear_0 19 rfl) ?_
      refine r_aload_n 37 rfl 0 rfl rfl (ck DX7_goWear_0 20 rfl) ?_
      refine r_iload_n 38 rfl 1 rfl rfl (ck DX7_goWear_0 21 rfl) ?_
      obtain ⟨v20, e21, hf⟩ := bo_so hf
      refine r_callVi 41 rfl (A_X7_load X x1 h v20 e21) (by omega) cw_X7_377 sh_96 cl_7 rfl rfl (Nat.le_of_ble_eq_true rfl) (ck DX7_goWear_0 22 rfl) ?_
      obtain ⟨b22, hf⟩ := gd_so hf
      obtain ⟨g23, e24, hf⟩ := lt_so hf
      refine r_iast 42 rfl sh_114 (inb_vp b22) (ck DX7_goWear_0 23 rfl) ?_
      refine r_heap e24 ?_
      obtain ⟨v25, e26, hf⟩ := lt_so hf
      refine r_iinc (lv' := [(1, .int v25), (0, .ref (X.1 96))]) 45 rfl 1 (ck DX7_goWear_0 24 rfl) rfl (by rw [e26, ic_1]) (by decide) rfl ?_
      refine r_goto 23 (ck DX7_goWear_0 25 rfl) (by decide) ?_
      refine r_sub (lv' := [(0, .ref (X.1 96)), (1, .int v25)]) [1, 0] rfl ?_
      exact ih v25 g23 hf
def f_X7_goWear (h : HP) : Option HP := bo (f_X7_milesNow h) fun v1 => bo (f_X7_least ((h.1 96 4) + v1) (h.1 96 31)) fun v3 => lt (si h 96 4 v3) fun g5 => f_X7_goWear_L23 FZ 0 g5
set_option maxHeartbeats 4000000 in
set_option maxRecDepth 100000 in
theorem A_X7_goWear (X : XE) (h : HP) (h' : HP) (hf : f_X7_goWear h = some h') : CC mX7_goWear 6 X [.ref (X.1 96)] h none h' := by
  refine CC_of rfl (Nat.le_of_ble_eq_true rfl) ?_
  show Run mX7_goWear 6 X 0 [(0, .ref (X.1 96))] [] h none h'
  unfold f_X7_goWear at hf
  refine r_aload_n 1 rfl 0 rfl rfl (ck DX7_goWear_0 0 rfl) ?_
  refine r_aload_n 2 rfl 0 rfl rfl (ck DX7_goWear_0 1 rfl) ?_
  refine r_aload_n 3 rfl 0 rfl rfl (ck DX7_goWear_0 2 rfl) ?_
  refine r_geti 6 rfl sh_96 kd_7_4 fl_X7_22 (ck DX7_goWear_0 3 rfl) ?_
  refine r_aload_n 7 rfl 0 rfl rfl (ck DX7_goWear_0 4 rfl) ?_
  obtain ⟨v1, e2, hf⟩ := bo_so hf
  refine r_callVi 10 rfl (A_X7_milesNow X h v1 e2) (by omega) cw_X7_380 sh_96 cl_7 rfl rfl (Nat.le_of_ble_eq_true rfl) (ck DX7_goWear_0 5 rfl) ?_
  refine r_iadd 11 rfl (ck DX7_goWear_0 6 rfl) ?_
  refine r_aload_n 12 rfl 0 rfl rfl (ck DX7_goWear_0 7 rfl) ?_
  refine r_geti 15 rfl sh_96 kd_7_31 fl_X7_106 (ck DX7_goWear_0 8 rfl) ?_
  obtain ⟨v3, e4, hf⟩ := bo_so hf
  refine r_callVi 18 rfl (A_X7_least X ((h.1 96 4) + v1) (h.1 96 31) h v3 e4) (by omega) cw_X7_383 sh_96 cl_7 rfl rfl (Nat.le_of_ble_eq_true rfl) (ck DX7_goWear_0 9 rfl) ?_
  obtain ⟨g5, e6, hf⟩ := lt_so hf
  refine r_puti 21 rfl sh_96 kd_7_4 fw_X7_22 rfl rfl (ck DX7_goWear_0 10 rfl) ?_
  refine r_heap e6 ?_
  refine r_iconst 22 rfl ic_0 (ck DX7_goWear_0 11 rfl) ?_
  refine r_istore_n (lv' := [(1, .int 0), (0, .ref (X.1 96))]) 23 rfl (ck DX7_goWear_0 12 rfl) (by decide) rfl rfl ?_
  refine r_sub (lv' := [(0, .ref (X.1 96)), (1, .int 0)]) [1, 0] rfl ?_
  exact A_X7_goWear_L23 X _ FZ 0 g5 hf
-- X7_goDay
def f_X7_goDay_J20 (x1 : Int32) (s0 : Int32) (h : HP) : Option (Int32 × HP) := if (0 : Int32) ≤ x1 then (gd (inb s0 6) (gd (inb s0 6) (lt (si h 99 (Int32.toNatClampNeg s0) ((h.1 99 (Int32.toNatClampNeg s0)) / 2)) fun g9 => gd (inb s0 6) (lt (si g9 100 (Int32.toNatClampNeg s0) 0) fun g12 => gd (inb s0 6) (bo (f_X7_least ((g12.1 101 (Int32.toNatClampNeg s0)) + 1) (g12.1 96 32)) fun v15 => gd (inb s0 6) (lt (si g12 101 (Int32.toNatClampNeg s0) v15) fun g18 => lt (si g18 96 1 x1) fun g20 => lt (si g20 96 5 ((g20.1 96 5) + 1)) fun g22 => some (s0, g22))))))) else (bo (f_X7_goWear h) fun g24 => lt (si g24 96 5 ((g24.1 96 5) + 1)) fun g26 => some (s0, g26))
set_option maxHeartbeats 4000000 in
set_option maxRecDepth 100000 in
theorem A_X7_goDay_J20 (X : XE) (r : Int32) (h' : HP) (x1 : Int32) (s0 : Int32) (h : HP) (hf : f_X7_goDay_J20 x1 s0 h = some (r, h')) : Run mX7_goDay 7 X 20 [(0, .ref (X.1 96)), (1, .int x1)] [.int s0] h (some (.int r)) h' := by
  unfold f_X7_goDay_J20 at hf
  refine r_istore_n (lv' := [(2, .int s0), (0, .ref (X.1 96)), (1, .int x1)]) 21 rfl (ck DX7_goDay_0 11 rfl) (by decide) rfl rfl ?_
  refine r_iload_n 22 rfl 2 rfl rfl (ck DX7_goDay_0 12 rfl) ?_
  rcases if_so hf with ⟨c6, hf⟩ | ⟨c6, hf⟩
  · refine r_if_ge_t 32 (ck DX7_goDay_0 13 rfl) (by decide) c6 ?_
    refine r_aload_n 33 rfl 1 rfl rfl (ck DX7_goDay_0 17 rfl) ?_
    refine r_getr (q := 99) 36 rfl (lq_7_8) sh_96 kd_7_8 fl_X7_35 (ck DX7_goDay_0 18 rfl) ?_
    refine r_iload_n 37 rfl 0 rfl rfl (ck DX7_goDay_0 19 rfl) ?_
    refine r_dup2 38 rfl rfl rfl (ck DX7_goDay_0 20 rfl) ?_
    obtain ⟨b7, hf⟩ := gd_so hf
    refine r_iald 39 rfl sh_99 (inb_vp b7) (ck DX7_goDay_0 21 rfl) ?_
    refine r_iconst 40 rfl ic_2 (ck DX7_goDay_0 22 rfl) ?_
    refine r_idiv 41 rfl (by decide) (ck DX7_goDay_0 23 rfl) ?_
    obtain ⟨b8, hf⟩ := gd_so hf
    obtain ⟨g9, e10, hf⟩ := lt_so hf
    refine r_iast 42 rfl sh_99 (inb_vp b8) (ck DX7_goDay_0 24 rfl) ?_
    refine r_heap e10 ?_
    refine r_aload_n 43 rfl 1 rfl rfl (ck DX7_goDay_0 25 rfl) ?_
    refine r_getr (q := 100) 46 rfl (lq_7_9) sh_96 kd_7_9 fl_X7_38 (ck DX7_goDay_0 26 rfl) ?_
    refine r_iload_n 47 rfl 0 rfl rfl (ck DX7_goDay_0 27 rfl) ?_
    refine r_iconst 48 rfl ic_0 (ck DX7_goDay_0 28 rfl) ?_
    obtain ⟨b11, hf⟩ := gd_so hf
    obtain ⟨g12, e13, hf⟩ := lt_so hf
    refine r_iast 49 rfl sh_100 (inb_vp b11) (ck DX7_goDay_0 29 rfl) ?_
    refine r_heap e13 ?_
    refine r_aload_n 50 rfl 1 rfl rfl (ck DX7_goDay_0 30 rfl) ?_
    refine r_getr (q := 101) 53 rfl (lq_7_10) sh_96 kd_7_10 fl_X7_41 (ck DX7_goDay_0 31 rfl) ?_
    refine r_iload_n 54 rfl 0 rfl rfl (ck DX7_goDay_0 32 rfl) ?_
    refine r_aload_n 55 rfl 1 rfl rfl (ck DX7_goDay_0 33 rfl) ?_
    refine r_aload_n 56 rfl 1 rfl rfl (ck DX7_goDay_0 34 rfl) ?_
    refine r_getr (q := 101) 59 rfl (lq_7_10) sh_96 kd_7_10 fl_X7_41 (ck DX7_goDay_0 35 rfl) ?_
    refine r_iload_n 60 rfl 0 rfl rfl (ck DX7_goDay_0 36 rfl) ?_
    obtain ⟨b14, hf⟩ := gd_so hf
    refine r_iald 61 rfl sh_101 (inb_vp b14) (ck DX7_goDay_0 37 rfl) ?_
    refine r_iconst 62 rfl ic_1 (ck DX7_goDay_0 38 rfl) ?_
    refine r_iadd 63 rfl (ck DX7_goDay_0 39 rfl) ?_
    refine r_aload_n 64 rfl 1 rfl rfl (ck DX7_goDay_0 40 rfl) ?_
    refine r_geti 67 rfl sh_96 kd_7_32 fl_X7_109 (ck DX7_goDay_0 41 rfl) ?_
    obtain ⟨v15, e16, hf⟩ := bo_so hf
    refine r_callVi 70 rfl (A_X7_least X ((g12.1 101 (Int32.toNatClampNeg s0)) + 1) (g12.1 96 32) g12 v15 e16) (by omega) cw_X7_383 sh_96 cl_7 rfl rfl (Nat.le_of_ble_eq_true rfl) (ck DX7_goDay_0 42 rfl) ?_
    obtain ⟨b17, hf⟩ := gd_so hf
    obtain ⟨g18, e19, hf⟩ := lt_so hf
    refine r_iast 71 rfl sh_101 (inb_vp b17) (ck DX7_goDay_0 43 rfl) ?_
    refine r_heap e19 ?_
    refine r_aload_n 72 rfl 1 rfl rfl (ck DX7_goDay_0 44 rfl) ?_
    refine r_iload_n 73 rfl 2 rfl rfl (ck DX7_goDay_0 45 rfl) ?_
    obtain ⟨g20, e21, hf⟩ := lt_so hf
    refine r_puti 76 rfl sh_96 kd_7_1 fw_X7_13 rfl rfl (ck DX7_goDay_0 46 rfl) ?_
    refine r_heap e21 ?_
    refine r_aload_n 77 rfl 1 rfl rfl (ck DX7_goDay_0 47 rfl) ?_
    refine r_dup 78 rfl rfl (ck DX7_goDay_0 48 rfl) ?_
    refine r_geti 81 rfl sh_96 kd_7_5 fl_X7_25 (ck DX7_goDay_0 49 rfl) ?_
    refine r_iconst 82 rfl ic_1 (ck DX7_goDay_1 0 rfl) ?_
    refine r_iadd 83 rfl (ck DX7_goDay_1 1 rfl) ?_
    obtain ⟨g22, e23, hf⟩ := lt_so hf
    refine r_puti 86 rfl sh_96 kd_7_5 fw_X7_25 rfl rfl (ck DX7_goDay_1 2 rfl) ?_
    refine r_heap e23 ?_
    refine r_iload_n 87 rfl 0 rfl rfl (ck DX7_goDay_1 3 rfl) ?_
    obtain ⟨rfl, rfl⟩ := so2 hf
    exact r_iret rfl rfl (ck DX7_goDay_1 4 rfl)
  · refine r_if_ge_f 25 rfl 32 (ck DX7_goDay_0 13 rfl) (by decide) c6 ?_
    refine r_aload_n 26 rfl 1 rfl rfl (ck DX7_goDay_0 14 rfl) ?_
    obtain ⟨g24, e25, hf⟩ := bo_so hf
    refine r_callVv 29 rfl (A_X7_goWear X h g24 e25) (by omega) cw_X7_389 sh_96 cl_7 rfl rfl (Nat.le_of_ble_eq_true rfl) (ck DX7_goDay_0 15 rfl) ?_
    refine r_goto 76 (ck DX7_goDay_0 16 rfl) (by decide) ?_
    refine r_aload_n 77 rfl 1 rfl rfl (ck DX7_goDay_0 47 rfl) ?_
    refine r_dup 78 rfl rfl (ck DX7_goDay_0 48 rfl) ?_
    refine r_geti 81 rfl sh_96 kd_7_5 fl_X7_25 (ck DX7_goDay_0 49 rfl) ?_
    refine r_iconst 82 rfl ic_1 (ck DX7_goDay_1 0 rfl) ?_
    refine r_iadd 83 rfl (ck DX7_goDay_1 1 rfl) ?_
    obtain ⟨g26, e27, hf⟩ := lt_so hf
    refine r_puti 86 rfl sh_96 kd_7_5 fw_X7_25 rfl rfl (ck DX7_goDay_1 2 rfl) ?_
    refine r_heap e27 ?_
    refine r_iload_n 87 rfl 0 rfl rfl (ck DX7_goDay_1 3 rfl) ?_
    obtain ⟨rfl, rfl⟩ := so2 hf
    exact r_iret rfl rfl (ck DX7_goDay_1 4 rfl)
def f_X7_goDay (h : HP) : Option (Int32 × HP) := bd (f_X7_breaksAt h) fun v3 g1 => if (0 : Int32) ≤ v3 then (gd (inb v3 3) (f_X7_goDay_J20 v3 (g1.1 103 (Int32.toNatClampNeg v3)) g1)) else (f_X7_goDay_J20 v3 (-5) g1)
set_option maxHeartbeats 4000000 in
set_option maxRecDepth 100000 in
theorem A_X7_goDay (X : XE) (h : HP) (r : Int32) (h' : HP) (hf : f_X7_goDay h = some (r, h')) : CC mX7_goDay 7 X [.ref (X.1 96)] h (some (.int r)) h' := by
  refine CC_of rfl (Nat.le_of_ble_eq_true rfl) ?_
  show Run mX7_goDay 7 X 0 [(0, .ref (X.1 96))] [] h (some (.int r)) h'
  unfold f_X7_goDay at hf
  refine r_aload_n 1 rfl 0 rfl rfl (ck DX7_goDay_0 0 rfl) ?_
  obtain ⟨v3, g1, e2, hf⟩ := bd_so hf
  refine r_callVi 4 rfl (A_X7_breaksAt X h v3 g1 e2) (by omega) cw_X7_386 sh_96 cl_7 rfl rfl (Nat.le_of_ble_eq_true rfl) (ck DX7_goDay_0 1 rfl) ?_
  refine r_istore_n (lv' := [(1, .int v3), (0, .ref (X.1 96))]) 5 rfl (ck DX7_goDay_0 2 rfl) (by decide) rfl rfl ?_
  refine r_iload_n 6 rfl 0 rfl rfl (ck DX7_goDay_0 3 rfl) ?_
  rcases if_so hf with ⟨c4, hf⟩ | ⟨c4, hf⟩
  · refine r_if_ge_t 14 (ck DX7_goDay_0 4 rfl) (by decide) c4 ?_
    refine r_aload_n 15 rfl 1 rfl rfl (ck DX7_goDay_0 7 rfl) ?_
    refine r_getr (q := 103) 18 rfl (lq_7_12) sh_96 kd_7_12 fl_X7_47 (ck DX7_goDay_0 8 rfl) ?_
    refine r_iload_n 19 rfl 0 rfl rfl (ck DX7_goDay_0 9 rfl) ?_
    obtain ⟨b5, hf⟩ := gd_so hf
    refine r_iald 20 rfl sh_103 (inb_vp b5) (ck DX7_goDay_0 10 rfl) ?_
    refine r_sub (lv' := [(0, .ref (X.1 96)), (1, .int v3)]) [1, 0] rfl ?_
    exact A_X7_goDay_J20 X _ _ v3 (g1.1 103 (Int32.toNatClampNeg v3)) g1 hf
  · refine r_if_ge_f 9 rfl 14 (ck DX7_goDay_0 4 rfl) (by decide) c4 ?_
    refine r_bipush 11 rfl bp_m5 (ck DX7_goDay_0 5 rfl) ?_
    refine r_goto 20 (ck DX7_goDay_0 6 rfl) (by decide) ?_
    refine r_sub (lv' := [(0, .ref (X.1 96)), (1, .int v3)]) [1, 0] rfl ?_
    exact A_X7_goDay_J20 X _ _ v3 (-5) g1 hf
-- X7_goDays
def f_X7_goDays_L2 : Nat → Int32 → Int32 → HP → Option HP
  | 0, _, _, _ => none
  | n + 1, x1, x2, h => if x1 ≤ x2 then (some h) else (bd (f_X7_goDay h) fun v4 g2 => lt (x2 + 1 : Int32) fun v5 => f_X7_goDays_L2 n x1 v5 g2)
set_option maxHeartbeats 4000000 in
set_option maxRecDepth 100000 in
theorem A_X7_goDays_L2 (X : XE) (h' : HP) : ∀ (n : Nat) (x1 : Int32) (x2 : Int32) (h : HP), f_X7_goDays_L2 n x1 x2 h = some h' → Run mX7_goDays 8 X 2 [(0, .ref (X.1 96)), (1, .int x1), (2, .int x2)] [] h none h' := by
  intro n
  induction n with
  | zero => intro x1 x2 h hf; cases hf
  | succ n ih =>
    intro x1 x2 h hf
    rw [f_X7_goDays_L2] at hf
    refine r_iload_n 3 rfl 2 rfl rfl (ck DX7_goDays_0 2 rfl) ?_
    refine r_iload_n 4 rfl 1 rfl rfl (ck DX7_goDays_0 3 rfl) ?_
    rcases if_so hf with ⟨c1, hf⟩ | ⟨c1, hf⟩
    · refine r_icmp_ge_t 18 (ck DX7_goDays_0 4 rfl) (by decide) c1 ?_
      obtain rfl := so1 hf
      exact r_vret rfl (ck DX7_goDays_0 10 rfl)
    · refine r_icmp_ge_f 7 rfl 18 (ck DX7_goDays_0 4 rfl) (by decide) c1 ?_
      refine r_aload_n 8 rfl 0 rfl rfl (ck DX7_goDays_0 5 rfl) ?_
      obtain ⟨v4, g2, e3, hf⟩ := bd_so hf
      refine r_callVi 11 rfl (A_X7_goDay X h v4 g2 e3) (by omega) cw_X7_392 sh_96 cl_7 rfl rfl (Nat.le_of_ble_eq_true rfl) (ck DX7_goDays_0 6 rfl) ?_
      refine r_pop 12 rfl rfl (ck DX7_goDays_0 7 rfl) ?_
      obtain ⟨v5, e6, hf⟩ := lt_so hf
      refine r_iinc (lv' := [(2, .int v5), (0, .ref (X.1 96)), (1, .int x1)]) 15 rfl 2 (ck DX7_goDays_0 8 rfl) rfl (by rw [e6, ic_1]) (by decide) rfl ?_
      refine r_goto 2 (ck DX7_goDays_0 9 rfl) (by decide) ?_
      refine r_sub (lv' := [(0, .ref (X.1 96)), (1, .int x1), (2, .int v5)]) [1, 2, 0] rfl ?_
      exact ih x1 v5 g2 hf
def f_X7_goDays (x1 : Int32) (h : HP) : Option HP := f_X7_goDays_L2 FZ x1 0 h
set_option maxHeartbeats 4000000 in
set_option maxRecDepth 100000 in
theorem A_X7_goDays (X : XE) (x1 : Int32) (h : HP) (h' : HP) (hf : f_X7_goDays x1 h = some h') : CC mX7_goDays 8 X [.ref (X.1 96), .int x1] h none h' := by
  refine CC_of rfl (Nat.le_of_ble_eq_true rfl) ?_
  show Run mX7_goDays 8 X 0 [(0, .ref (X.1 96)), (1, .int x1)] [] h none h'
  unfold f_X7_goDays at hf
  refine r_iconst 1 rfl ic_0 (ck DX7_goDays_0 0 rfl) ?_
  refine r_istore_n (lv' := [(2, .int 0), (0, .ref (X.1 96)), (1, .int x1)]) 2 rfl (ck DX7_goDays_0 1 rfl) (by decide) rfl rfl ?_
  refine r_sub (lv' := [(0, .ref (X.1 96)), (1, .int x1), (2, .int 0)]) [1, 2, 0] rfl ?_
  exact A_X7_goDays_L2 X _ FZ x1 0 h hf
-- X7_pass
def f_X7_pass (x1 : Int32) (h : HP) : Option (Int32 × HP) := bo (f_X7_isDays x1) fun v1 => if v1 = 0 then (some ((-2), h)) else (if ((h.1 96 5) + x1) ≤ 9999 then (bo (f_X7_goDays x1 h) fun g5 => some ((g5.1 96 4), g5)) else (some ((-3), h)))
set_option maxHeartbeats 4000000 in
set_option maxRecDepth 100000 in
theorem A_X7_pass (X : XE) (x1 : Int32) (h : HP) (r : Int32) (h' : HP) (hf : f_X7_pass x1 h = some (r, h')) : CC mX7_pass 9 X [.ref (X.1 96), .int x1] h (some (.int r)) h' := by
  refine CC_of rfl (Nat.le_of_ble_eq_true rfl) ?_
  show Run mX7_pass 9 X 0 [(0, .ref (X.1 96)), (1, .int x1)] [] h (some (.int r)) h'
  unfold f_X7_pass at hf
  refine r_aload_n 1 rfl 0 rfl rfl (ck DX7_pass_0 0 rfl) ?_
  refine r_iload_n 2 rfl 1 rfl rfl (ck DX7_pass_0 1 rfl) ?_
  obtain ⟨v1, e2, hf⟩ := bo_so hf
  refine r_callVi 5 rfl (A_X7_isDays X x1 h v1 e2) (by omega) cw_X7_395 sh_96 cl_7 rfl rfl (Nat.le_of_ble_eq_true rfl) (ck DX7_pass_0 2 rfl) ?_
  rcases if_so hf with ⟨c3, hf⟩ | ⟨c3, hf⟩
  · refine r_if_ne_t 8 rfl 11 (ck DX7_pass_0 3 rfl) (by decide) c3 ?_
    refine r_bipush 10 rfl bp_m2 (ck DX7_pass_0 4 rfl) ?_
    obtain ⟨rfl, rfl⟩ := so2 hf
    exact r_iret rfl rfl (ck DX7_pass_0 5 rfl)
  · refine r_if_ne_f 11 (ck DX7_pass_0 3 rfl) (by decide) c3 ?_
    refine r_aload_n 12 rfl 0 rfl rfl (ck DX7_pass_0 6 rfl) ?_
    refine r_geti 15 rfl sh_96 kd_7_5 fl_X7_25 (ck DX7_pass_0 7 rfl) ?_
    refine r_iload_n 16 rfl 1 rfl rfl (ck DX7_pass_0 8 rfl) ?_
    refine r_iadd 17 rfl (ck DX7_pass_0 9 rfl) ?_
    refine r_sipush 20 rfl sp_9999 (ck DX7_pass_0 10 rfl) ?_
    rcases if_so hf with ⟨c4, hf⟩ | ⟨c4, hf⟩
    · refine r_icmp_le_t 26 (ck DX7_pass_0 11 rfl) (by decide) c4 ?_
      refine r_aload_n 27 rfl 0 rfl rfl (ck DX7_pass_0 14 rfl) ?_
      refine r_iload_n 28 rfl 1 rfl rfl (ck DX7_pass_0 15 rfl) ?_
      obtain ⟨g5, e6, hf⟩ := bo_so hf
      refine r_callVv 31 rfl (A_X7_goDays X x1 h g5 e6) (by omega) cw_X7_398 sh_96 cl_7 rfl rfl (Nat.le_of_ble_eq_true rfl) (ck DX7_pass_0 16 rfl) ?_
      refine r_aload_n 32 rfl 0 rfl rfl (ck DX7_pass_0 17 rfl) ?_
      refine r_geti 35 rfl sh_96 kd_7_4 fl_X7_22 (ck DX7_pass_0 18 rfl) ?_
      obtain ⟨rfl, rfl⟩ := so2 hf
      exact r_iret rfl rfl (ck DX7_pass_0 19 rfl)
    · refine r_icmp_le_f 23 rfl 26 (ck DX7_pass_0 11 rfl) (by decide) c4 ?_
      refine r_bipush 25 rfl bp_m3 (ck DX7_pass_0 12 rfl) ?_
      obtain ⟨rfl, rfl⟩ := so2 hf
      exact r_iret rfl rfl (ck DX7_pass_0 13 rfl)
end
