noncomputable section
-- X5_add
def f_X5_add (x1 : Int32) (h : HP) : Option (Int32 × HP) := if (h.1 79 3) < 100 then (gd (inb (h.1 79 3) 100) (lt (si h 80 (Int32.toNatClampNeg (h.1 79 3)) (vp_nar .byte x1)) fun g3 => lt (si g3 79 3 ((g3.1 79 3) + 1)) fun g5 => some (1, g5))) else (some (0, h))
set_option maxHeartbeats 4000000 in
set_option maxRecDepth 100000 in
theorem A_X5_add (X : XE) (x1 : Int32) (h : HP) (r : Int32) (h' : HP) (hf : f_X5_add x1 h = some (r, h')) : CC mX5_add 1 X [.ref (X.1 79), .int x1] h (some (.int r)) h' := by
  refine CC_of rfl (Nat.le_of_ble_eq_true rfl) ?_
  show Run mX5_add 1 X 0 [(0, .ref (X.1 79)), (1, .int x1)] [] h (some (.int r)) h'
  unfold f_X5_add at hf
  refine r_aload_n 1 rfl 0 rfl rfl (ck DX5_add_0 0 rfl) ?_
  refine r_geti 4 rfl sh_79 kd_5_3 fl_X5_13 (ck DX5_add_0 1 rfl) ?_
  refine r_bipush 6 rfl bp_100 (ck DX5_add_0 2 rfl) ?_
  rcases if_so hf with ⟨c1, hf⟩ | ⟨c1, hf⟩
  · refine r_icmp_lt_t 11 (ck DX5_add_0 3 rfl) (by decide) c1 ?_
    refine r_aload_n 12 rfl 0 rfl rfl (ck DX5_add_0 6 rfl) ?_
    refine r_getr (q := 80) 15 rfl (lq_5_0 79) sh_79 kd_5_0 fl_X5_9 (ck DX5_add_0 7 rfl) ?_
    refine r_aload_n 16 rfl 0 rfl rfl (ck DX5_add_0 8 rfl) ?_
    refine r_geti 19 rfl sh_79 kd_5_3 fl_X5_13 (ck DX5_add_0 9 rfl) ?_
    refine r_iload_n 20 rfl 1 rfl rfl (ck DX5_add_0 10 rfl) ?_
    obtain ⟨b2, hf⟩ := gd_so hf
    obtain ⟨g3, e4, hf⟩ := lt_so hf
    refine r_bast 21 rfl sh_80 (inb_vp b2) (ck DX5_add_0 11 rfl) ?_
    refine r_heap e4 ?_
    refine r_aload_n 22 rfl 0 rfl rfl (ck DX5_add_0 12 rfl) ?_
    refine r_dup 23 rfl rfl (ck DX5_add_0 13 rfl) ?_
    refine r_geti 26 rfl sh_79 kd_5_3 fl_X5_13 (ck DX5_add_0 14 rfl) ?_
    refine r_iconst 27 rfl ic_1 (ck DX5_add_0 15 rfl) ?_
    refine r_iadd 28 rfl (ck DX5_add_0 16 rfl) ?_
    obtain ⟨g5, e6, hf⟩ := lt_so hf
    refine r_puti 31 rfl sh_79 kd_5_3 fw_X5_13 rfl rfl (ck DX5_add_0 17 rfl) ?_
    refine r_heap e6 ?_
    refine r_iconst 32 rfl ic_1 (ck DX5_add_0 18 rfl) ?_
    obtain ⟨rfl, rfl⟩ := so2 hf
    exact r_iret rfl rfl (ck DX5_add_0 19 rfl)
  · refine r_icmp_lt_f 9 rfl 11 (ck DX5_add_0 3 rfl) (by decide) c1 ?_
    refine r_iconst 10 rfl ic_0 (ck DX5_add_0 4 rfl) ?_
    obtain ⟨rfl, rfl⟩ := so2 hf
    exact r_iret rfl rfl (ck DX5_add_0 5 rfl)
-- X5_takesWord
def f_X5_takesWord_J59 (rc4 : Int32 → Int32 → HP → Option (Int32 × HP)) (x1 : Int32) (x2 : Int32) (x3 : Int32) (h : HP) : Option (Int32 × HP) := if x3 = 4 then (lt (si h 79 2 ((h.1 79 2) + 4)) fun g6 => some (x2, g6)) else (lt ((if x1 < x3 then x3 else x1) : Int32) fun v8 => lt (x2 + 1 : Int32) fun v10 => rc4 v8 v10 h)
set_option maxHeartbeats 4000000 in
set_option maxRecDepth 100000 in
theorem A_X5_takesWord_J59 (X : XE) (rc4 : Int32 → Int32 → HP → Option (Int32 × HP)) (r : Int32) (h' : HP) (hr4 : ∀ (x1 : Int32) (x2 : Int32) (h : HP), rc4 x1 x2 h = some (r, h') → Run mX5_takesWord 8 X 4 [(0, .ref (X.1 79)), (1, .int x1), (2, .int x2)] [] h (some (.int r)) h') (x1 : Int32) (x2 : Int32) (x3 : Int32) (h : HP) (hf : f_X5_takesWord_J59 rc4 x1 x2 x3 h = some (r, h')) : Run mX5_takesWord 8 X 59 [(0, .ref (X.1 79)), (1, .int x1), (2, .int x2), (3, .int x3)] [] h (some (.int r)) h' := by
  unfold f_X5_takesWord_J59 at hf
  refine r_iload_n 60 rfl 3 rfl rfl (ck DX5_takesWord_0 36 rfl) ?_
  refine r_iconst 61 rfl ic_4 (ck DX5_takesWord_0 37 rfl) ?_
  rcases if_so hf with ⟨c5, hf⟩ | ⟨c5, hf⟩
  · refine r_icmp_ne_t 64 rfl 76 (ck DX5_takesWord_0 38 rfl) (by decide) c5 ?_
    refine r_aload_n 65 rfl 0 rfl rfl (ck DX5_takesWord_0 39 rfl) ?_
    refine r_dup 66 rfl rfl (ck DX5_takesWord_0 40 rfl) ?_
    refine r_geti 69 rfl sh_79 kd_5_2 fl_X5_26 (ck DX5_takesWord_0 41 rfl) ?_
    refine r_iconst 70 rfl ic_4 (ck DX5_takesWord_0 42 rfl) ?_
    refine r_iadd 71 rfl (ck DX5_takesWord_0 43 rfl) ?_
    obtain ⟨g6, e7, hf⟩ := lt_so hf
    refine r_puti 74 rfl sh_79 kd_5_2 fw_X5_26 rfl rfl (ck DX5_takesWord_0 44 rfl) ?_
    refine r_heap e7 ?_
    refine r_iload_n 75 rfl 2 rfl rfl (ck DX5_takesWord_0 45 rfl) ?_
    obtain ⟨rfl, rfl⟩ := so2 hf
    exact r_iret rfl rfl (ck DX5_takesWord_0 46 rfl)
  · refine r_icmp_ne_f 76 (ck DX5_takesWord_0 38 rfl) (by decide) c5 ?_
    refine r_iload_n 77 rfl 1 rfl rfl (ck DX5_takesWord_0 47 rfl) ?_
    refine r_iload_n 78 rfl 3 rfl rfl (ck DX5_takesWord_0 48 rfl) ?_
    refine r_max 81 rfl (by decide) ml_X5_77 ms_max ini_Math mc_max (Nat.le_of_ble_eq_true rfl) (ck DX5_takesWord_0 49 rfl) ?_
    obtain ⟨v8, e9, hf⟩ := lt_so hf
    refine r_top e9 ?_
    refine r_istore_n (lv' := [(1, .int v8), (0, .ref (X.1 79)), (2, .int x2), (3, .int x3)]) 82 rfl (ck DX5_takesWord_1 0 rfl) (by decide) rfl rfl ?_
    obtain ⟨v10, e11, hf⟩ := lt_so hf
    refine r_iinc (lv' := [(2, .int v10), (1, .int v8), (0, .ref (X.1 79)), (3, .int x3)]) 85 rfl 2 (ck DX5_takesWord_1 1 rfl) rfl (by rw [e11, ic_1]) (by decide) rfl ?_
    refine r_goto 4 (ck DX5_takesWord_1 2 rfl) (by decide) ?_
    refine r_sub (lv' := [(0, .ref (X.1 79)), (1, .int v8), (2, .int v10)]) [2, 1, 0] rfl ?_
    exact hr4 v8 v10 h hf
def f_X5_takesWord_L11 (rc4 : Int32 → Int32 → HP → Option (Int32 × HP)) : Nat → Int32 → Int32 → Int32 → HP → Option (Int32 × HP)
  | 0, _, _, _, _ => none
  | n + 1, x1, x2, x3, h => if (4 : Int32) ≤ x3 then (f_X5_takesWord_J59 rc4 x1 x2 x3 h) else (if (h.1 79 3) ≤ ((h.1 79 2) + x3) then (f_X5_takesWord_J59 rc4 x1 x2 x3 h) else (gd (inb ((h.1 79 2) + x3) 100) (gd (inb ((4 * x2) + x3) 16) (if (h.1 80 (Int32.toNatClampNeg ((h.1 79 2) + x3))) = (([102, 105, 114, 109, 119, 101, 97, 107, 119, 105, 110, 100, 108, 97, 115, 104] : List Int32).getD (Int32.toNatClampNeg ((4 * x2) + x3)) 0) then (lt (x3 + 1 : Int32) fun v16 => f_X5_takesWord_L11 rc4 n x1 x2 v16 h) else (f_X5_takesWord_J59 rc4 x1 x2 x3 h)))))
set_option maxHeartbeats 4000000 in
set_option maxRecDepth 100000 in
theorem A_X5_takesWord_L11 (X : XE) (rc4 : Int32 → Int32 → HP → Option (Int32 × HP)) (r : Int32) (h' : HP) (hr4 : ∀ (x1 : Int32) (x2 : Int32) (h : HP), rc4 x1 x2 h = some (r, h') → Run mX5_takesWord 8 X 4 [(0, .ref (X.1 79)), (1, .int x1), (2, .int x2)] [] h (some (.int r)) h') : ∀ (n : Nat) (x1 : Int32) (x2 : Int32) (x3 : Int32) (h : HP), f_X5_takesWord_L11 rc4 n x1 x2 x3 h = some (r, h') → Run mX5_takesWord 8 X 11 [(0, .ref (X.1 79)), (1, .int x1), (2, .int x2), (3, .int x3)] [] h (some (.int r)) h' := by
  intro n
  induction n with
  | zero => intro x1 x2 x3 h hf; cases hf
  | succ n ih =>
    intro x1 x2 x3 h hf
    rw [f_X5_takesWord_L11] at hf
    refine r_iload_n 12 rfl 3 rfl rfl (ck DX5_takesWord_0 9 rfl) ?_
    refine r_iconst 13 rfl ic_4 (ck DX5_takesWord_0 10 rfl) ?_
    rcases if_so hf with ⟨c4, hf⟩ | ⟨c4, hf⟩
    · refine r_icmp_ge_t 59 (ck DX5_takesWord_0 11 rfl) (by decide) c4 ?_
      refine r_sub (lv' := [(0, .ref (X.1 79)), (1, .int x1), (2, .int x2), (3, .int x3)]) [0, 1, 2, 3] rfl ?_
      exact A_X5_takesWord_J59 X rc4 _ _ hr4 x1 x2 x3 h hf
    · refine r_icmp_ge_f 16 rfl 59 (ck DX5_takesWord_0 11 rfl) (by decide) c4 ?_
      refine r_aload_n 17 rfl 0 rfl rfl (ck DX5_takesWord_0 12 rfl) ?_
      refine r_geti 20 rfl sh_79 kd_5_2 fl_X5_26 (ck DX5_takesWord_0 13 rfl) ?_
      refine r_iload_n 21 rfl 3 rfl rfl (ck DX5_takesWord_0 14 rfl) ?_
      refine r_iadd 22 rfl (ck DX5_takesWord_0 15 rfl) ?_
      refine r_aload_n 23 rfl 0 rfl rfl (ck DX5_takesWord_0 16 rfl) ?_
      refine r_geti 26 rfl sh_79 kd_5_3 fl_X5_13 (ck DX5_takesWord_0 17 rfl) ?_
      rcases if_so hf with ⟨c12, hf⟩ | ⟨c12, hf⟩
      · refine r_icmp_ge_t 59 (ck DX5_takesWord_0 18 rfl) (by decide) c12 ?_
        refine r_sub (lv' := [(0, .ref (X.1 79)), (1, .int x1), (2, .int x2), (3, .int x3)]) [0, 1, 2, 3] rfl ?_
        exact A_X5_takesWord_J59 X rc4 _ _ hr4 x1 x2 x3 h hf
      · refine r_icmp_ge_f 29 rfl 59 (ck DX5_takesWord_0 18 rfl) (by decide) c12 ?_
        refine r_aload_n 30 rfl 0 rfl rfl (ck DX5_takesWord_0 19 rfl) ?_
        refine r_getr (q := 80) 33 rfl (lq_5_0 79) sh_79 kd_5_0 fl_X5_9 (ck DX5_takesWord_0 20 rfl) ?_
        refine r_aload_n 34 rfl 0 rfl rfl (ck DX5_takesWord_0 21 rfl) ?_
        refine r_geti 37 rfl sh_79 kd_5_2 fl_X5_26 (ck DX5_takesWord_0 22 rfl) ?_
        refine r_iload_n 38 rfl 3 rfl rfl (ck DX5_takesWord_0 23 rfl) ?_
        refine r_iadd 39 rfl (ck DX5_takesWord_0 24 rfl) ?_
        obtain ⟨b13, hf⟩ := gd_so hf
        refine r_bald 40 rfl sh_80 (inb_vp b13) (ck DX5_takesWord_0 25 rfl) ?_
        refine r_ldS0 42 rfl rfl (ck DX5_takesWord_0 26 rfl) ?_
        refine r_iconst 43 rfl ic_4 (ck DX5_takesWord_0 27 rfl) ?_
        refine r_iload_n 44 rfl 2 rfl rfl (ck DX5_takesWord_0 28 rfl) ?_
        refine r_imul 45 rfl (ck DX5_takesWord_0 29 rfl) ?_
        refine r_iload_n 46 rfl 3 rfl rfl (ck DX5_takesWord_0 30 rfl) ?_
        refine r_iadd 47 rfl (ck DX5_takesWord_0 31 rfl) ?_
        obtain ⟨b14, hf⟩ := gd_so hf
        refine r_charAt 50 rfl (by decide) rfl (inb_vp b14) (Nat.le_of_ble_eq_true rfl) (ck DX5_takesWord_0 32 rfl) ?_
        rcases if_so hf with ⟨c15, hf⟩ | ⟨c15, hf⟩
        · refine r_icmp_ne_t 53 rfl 59 (ck DX5_takesWord_0 33 rfl) (by decide) c15 ?_
          obtain ⟨v16, e17, hf⟩ := lt_so hf
          refine r_iinc (lv' := [(3, .int v16), (0, .ref (X.1 79)), (1, .int x1), (2, .int x2)]) 56 rfl 3 (ck DX5_takesWord_0 34 rfl) rfl (by rw [e17, ic_1]) (by decide) rfl ?_
          refine r_goto 11 (ck DX5_takesWord_0 35 rfl) (by decide) ?_
          refine r_sub (lv' := [(0, .ref (X.1 79)), (1, .int x1), (2, .int x2), (3, .int v16)]) [1, 2, 3, 0] rfl ?_
          exact ih x1 x2 v16 h hf
        · refine r_icmp_ne_f 59 (ck DX5_takesWord_0 33 rfl) (by decide) c15 ?_
          refine r_sub (lv' := [(0, .ref (X.1 79)), (1, .int x1), (2, .int x2), (3, .int x3)]) [0, 1, 2, 3] rfl ?_
          exact A_X5_takesWord_J59 X rc4 _ _ hr4 x1 x2 x3 h hf
def f_X5_takesWord_L4 : Nat → Int32 → Int32 → HP → Option (Int32 × HP)
  | 0, _, _, _ => none
  | n + 1, x1, x2, h => if (3 : Int32) < x2 then (lt (si h 79 2 ((h.1 79 2) + x1)) fun g2 => some ((-1), g2)) else (f_X5_takesWord_L11 (fun z0 z1 z2 => f_X5_takesWord_L4 n z0 z1 z2) FZ x1 x2 0 h)
set_option maxHeartbeats 4000000 in
set_option maxRecDepth 100000 in
theorem A_X5_takesWord_L4 (X : XE) (r : Int32) (h' : HP) : ∀ (n : Nat) (x1 : Int32) (x2 : Int32) (h : HP), f_X5_takesWord_L4 n x1 x2 h = some (r, h') → Run mX5_takesWord 8 X 4 [(0, .ref (X.1 79)), (1, .int x1), (2, .int x2)] [] h (some (.int r)) h' := by
  intro n
  induction n with
  | zero => intro x1 x2 h hf; cases hf
  | succ n ih =>
    intro x1 x2 h hf
    rw [f_X5_takesWord_L4] at hf
    refine r_iload_n 5 rfl 2 rfl rfl (ck DX5_takesWord_0 4 rfl) ?_
    refine r_iconst 6 rfl ic_3 (ck DX5_takesWord_0 5 rfl) ?_
    rcases if_so hf with ⟨c1, hf⟩ | ⟨c1, hf⟩
    · refine r_icmp_gt_t 88 (ck DX5_takesWord_0 6 rfl) (by decide) c1 ?_
      refine r_aload_n 89 rfl 0 rfl rfl (ck DX5_takesWord_1 3 rfl) ?_
      refine r_dup 90 rfl rfl (ck DX5_takesWord_1 4 rfl) ?_
      refine r_geti 93 rfl sh_79 kd_5_2 fl_X5_26 (ck DX5_takesWord_1 5 rfl) ?_
      refine r_iload_n 94 rfl 1 rfl rfl (ck DX5_takesWord_1 6 rfl) ?_
      refine r_iadd 95 rfl (ck DX5_takesWord_1 7 rfl) ?_
      obtain ⟨g2, e3, hf⟩ := lt_so hf
      refine r_puti 98 rfl sh_79 kd_5_2 fw_X5_26 rfl rfl (ck DX5_takesWord_1 8 rfl) ?_
      refine r_heap e3 ?_
      refine r_iconst 99 rfl ic_m1 (ck DX5_takesWord_1 9 rfl) ?_
      obtain ⟨rfl, rfl⟩ := so2 hf
      exact r_iret rfl rfl (ck DX5_takesWord_1 10 rfl)
    · refine r_icmp_gt_f 9 rfl 88 (ck DX5_takesWord_0 6 rfl) (by decide) c1 ?_
      refine r_iconst 10 rfl ic_0 (ck DX5_takesWord_0 7 rfl) ?_
      refine r_istore_n (lv' := [(3, .int 0), (0, .ref (X.1 79)), (1, .int x1), (2, .int x2)]) 11 rfl (ck DX5_takesWord_0 8 rfl) (by decide) rfl rfl ?_
      refine r_sub (lv' := [(0, .ref (X.1 79)), (1, .int x1), (2, .int x2), (3, .int 0)]) [1, 2, 3, 0] rfl ?_
      exact A_X5_takesWord_L11 X (fun z0 z1 z2 => f_X5_takesWord_L4 n z0 z1 z2) _ _ ih FZ x1 x2 0 h hf
def f_X5_takesWord (h : HP) : Option (Int32 × HP) := f_X5_takesWord_L4 FZ 0 0 h
set_option maxHeartbeats 4000000 in
set_option maxRecDepth 100000 in
theorem A_X5_takesWord (X : XE) (h : HP) (r : Int32) (h' : HP) (hf : f_X5_takesWord h = some (r, h')) : CC mX5_takesWord 8 X [.ref (X.1 79)] h (some (.int r)) h' := by
  refine CC_of rfl (Nat.le_of_ble_eq_true rfl) ?_
  show Run mX5_takesWord 8 X 0 [(0, .ref (X.1 79))] [] h (some (.int r)) h'
  unfold f_X5_takesWord at hf
  refine r_iconst 1 rfl ic_0 (ck DX5_takesWord_0 0 rfl) ?_
  refine r_istore_n (lv' := [(1, .int 0), (0, .ref (X.1 79))]) 2 rfl (ck DX5_takesWord_0 1 rfl) (by decide) rfl rfl ?_
  refine r_iconst 3 rfl ic_0 (ck DX5_takesWord_0 2 rfl) ?_
  refine r_istore_n (lv' := [(2, .int 0), (1, .int 0), (0, .ref (X.1 79))]) 4 rfl (ck DX5_takesWord_0 3 rfl) (by decide) rfl rfl ?_
  refine r_sub (lv' := [(0, .ref (X.1 79)), (1, .int 0), (2, .int 0)]) [2, 1, 0] rfl ?_
  exact A_X5_takesWord_L4 X _ _ FZ 0 0 h hf
-- X5_takes
def f_X5_takes (x1 : Int32) (h : HP) : Option (Int32 × HP) := if (h.1 79 3) ≤ (h.1 79 2) then (some (0, h)) else (gd (inb (h.1 79 2) 100) (if (h.1 80 (Int32.toNatClampNeg (h.1 79 2))) = x1 then (lt (si h 79 2 ((h.1 79 2) + 1)) fun g4 => some (1, g4)) else (some (0, h))))
set_option maxHeartbeats 4000000 in
set_option maxRecDepth 100000 in
theorem A_X5_takes (X : XE) (x1 : Int32) (h : HP) (r : Int32) (h' : HP) (hf : f_X5_takes x1 h = some (r, h')) : CC mX5_takes 1 X [.ref (X.1 79), .int x1] h (some (.int r)) h' := by
  refine CC_of rfl (Nat.le_of_ble_eq_true rfl) ?_
  show Run mX5_takes 1 X 0 [(0, .ref (X.1 79)), (1, .int x1)] [] h (some (.int r)) h'
  unfold f_X5_takes at hf
  refine r_aload_n 1 rfl 0 rfl rfl (ck DX5_takes_0 0 rfl) ?_
  refine r_geti 4 rfl sh_79 kd_5_2 fl_X5_26 (ck DX5_takes_0 1 rfl) ?_
  refine r_aload_n 5 rfl 0 rfl rfl (ck DX5_takes_0 2 rfl) ?_
  refine r_geti 8 rfl sh_79 kd_5_3 fl_X5_13 (ck DX5_takes_0 3 rfl) ?_
  rcases if_so hf with ⟨c1, hf⟩ | ⟨c1, hf⟩
  · refine r_icmp_ge_t 36 (ck DX5_takes_0 4 rfl) (by decide) c1 ?_
    refine r_iconst 37 rfl ic_0 (ck DX5_takes_0 20 rfl) ?_
    obtain ⟨rfl, rfl⟩ := so2 hf
    exact r_iret rfl rfl (ck DX5_takes_0 21 rfl)
  · refine r_icmp_ge_f 11 rfl 36 (ck DX5_takes_0 4 rfl) (by decide) c1 ?_
    refine r_aload_n 12 rfl 0 rfl rfl (ck DX5_takes_0 5 rfl) ?_
    refine r_getr (q := 80) 15 rfl (lq_5_0 79) sh_79 kd_5_0 fl_X5_9 (ck DX5_takes_0 6 rfl) ?_
    refine r_aload_n 16 rfl 0 rfl rfl (ck DX5_takes_0 7 rfl) ?_
    refine r_geti 19 rfl sh_79 kd_5_2 fl_X5_26 (ck DX5_takes_0 8 rfl) ?_
    obtain ⟨b2, hf⟩ := gd_so hf
    refine r_bald 20 rfl sh_80 (inb_vp b2) (ck DX5_takes_0 9 rfl) ?_
    refine r_iload_n 21 rfl 1 rfl rfl (ck DX5_takes_0 10 rfl) ?_
    rcases if_so hf with ⟨c3, hf⟩ | ⟨c3, hf⟩
    · refine r_icmp_ne_t 24 rfl 36 (ck DX5_takes_0 11 rfl) (by decide) c3 ?_
      refine r_aload_n 25 rfl 0 rfl rfl (ck DX5_takes_0 12 rfl) ?_
      refine r_dup 26 rfl rfl (ck DX5_takes_0 13 rfl) ?_
      refine r_geti 29 rfl sh_79 kd_5_2 fl_X5_26 (ck DX5_takes_0 14 rfl) ?_
      refine r_iconst 30 rfl ic_1 (ck DX5_takes_0 15 rfl) ?_
      refine r_iadd 31 rfl (ck DX5_takes_0 16 rfl) ?_
      obtain ⟨g4, e5, hf⟩ := lt_so hf
      refine r_puti 34 rfl sh_79 kd_5_2 fw_X5_26 rfl rfl (ck DX5_takes_0 17 rfl) ?_
      refine r_heap e5 ?_
      refine r_iconst 35 rfl ic_1 (ck DX5_takes_0 18 rfl) ?_
      obtain ⟨rfl, rfl⟩ := so2 hf
      exact r_iret rfl rfl (ck DX5_takes_0 19 rfl)
    · refine r_icmp_ne_f 36 (ck DX5_takes_0 11 rfl) (by decide) c3 ?_
      refine r_iconst 37 rfl ic_0 (ck DX5_takes_0 20 rfl) ?_
      obtain ⟨rfl, rfl⟩ := so2 hf
      exact r_iret rfl rfl (ck DX5_takes_0 21 rfl)
-- X5_takesNumber
def f_X5_takesNumber_L4 : Nat → Int32 → Int32 → HP → Option (Int32 × HP)
  | 0, _, _, _ => none
  | n + 1, x1, x2, h => if (2 : Int32) ≤ x2 then (some (x1, h)) else (if (h.1 79 3) ≤ (h.1 79 2) then (some (x1, h)) else (gd (inb (h.1 79 2) 100) (if (h.1 80 (Int32.toNatClampNeg (h.1 79 2))) < 48 then (some (x1, h)) else (gd (inb (h.1 79 2) 100) (if (57 : Int32) < (h.1 80 (Int32.toNatClampNeg (h.1 79 2))) then (some (x1, h)) else (gd (inb (h.1 79 2) 100) (lt (((((if x1 < 0 then 0 else x1) * 10) + (h.1 80 (Int32.toNatClampNeg (h.1 79 2)))) - 48) : Int32) fun v8 => lt (si h 79 2 ((h.1 79 2) + 1)) fun g10 => lt (x2 + 1 : Int32) fun v12 => f_X5_takesNumber_L4 n v8 v12 g10)))))))
set_option maxHeartbeats 4000000 in
set_option maxRecDepth 100000 in
theorem A_X5_takesNumber_L4 (X : XE) (r : Int32) (h' : HP) : ∀ (n : Nat) (x1 : Int32) (x2 : Int32) (h : HP), f_X5_takesNumber_L4 n x1 x2 h = some (r, h') → Run mX5_takesNumber 1 X 4 [(0, .ref (X.1 79)), (1, .int x1), (2, .int x2)] [] h (some (.int r)) h' := by
  intro n
  induction n with
  | zero => intro x1 x2 h hf; cases hf
  | succ n ih =>
    intro x1 x2 h hf
    rw [f_X5_takesNumber_L4] at hf
    refine r_iload_n 5 rfl 2 rfl rfl (ck DX5_takesNumber_0 4 rfl) ?_
    refine r_iconst 6 rfl ic_2 (ck DX5_takesNumber_0 5 rfl) ?_
    rcases if_so hf with ⟨c1, hf⟩ | ⟨c1, hf⟩
    · refine r_icmp_ge_t 86 (ck DX5_takesNumber_0 6 rfl) (by decide) c1 ?_
      refine r_iload_n 87 rfl 1 rfl rfl (ck DX5_takesNumber_0 48 rfl) ?_
      obtain ⟨rfl, rfl⟩ := so2 hf
      exact r_iret rfl rfl (ck DX5_takesNumber_0 49 rfl)
    · refine r_icmp_ge_f 9 rfl 86 (ck DX5_takesNumber_0 6 rfl) (by decide) c1 ?_
      refine r_aload_n 10 rfl 0 rfl rfl (ck DX5_takesNumber_0 7 rfl) ?_
      refine r_geti 13 rfl sh_79 kd_5_2 fl_X5_26 (ck DX5_takesNumber_0 8 rfl) ?_
      refine r_aload_n 14 rfl 0 rfl rfl (ck DX5_takesNumber_0 9 rfl) ?_
      refine r_geti 17 rfl sh_79 kd_5_3 fl_X5_13 (ck DX5_takesNumber_0 10 rfl) ?_
      rcases if_so hf with ⟨c2, hf⟩ | ⟨c2, hf⟩
      · refine r_icmp_ge_t 86 (ck DX5_takesNumber_0 11 rfl) (by decide) c2 ?_
        refine r_iload_n 87 rfl 1 rfl rfl (ck DX5_takesNumber_0 48 rfl) ?_
        obtain ⟨rfl, rfl⟩ := so2 hf
        exact r_iret rfl rfl (ck DX5_takesNumber_0 49 rfl)
      · refine r_icmp_ge_f 20 rfl 86 (ck DX5_takesNumber_0 11 rfl) (by decide) c2 ?_
        refine r_aload_n 21 rfl 0 rfl rfl (ck DX5_takesNumber_0 12 rfl) ?_
        refine r_getr (q := 80) 24 rfl (lq_5_0 79) sh_79 kd_5_0 fl_X5_9 (ck DX5_takesNumber_0 13 rfl) ?_
        refine r_aload_n 25 rfl 0 rfl rfl (ck DX5_takesNumber_0 14 rfl) ?_
        refine r_geti 28 rfl sh_79 kd_5_2 fl_X5_26 (ck DX5_takesNumber_0 15 rfl) ?_
        obtain ⟨b3, hf⟩ := gd_so hf
        refine r_bald 29 rfl sh_80 (inb_vp b3) (ck DX5_takesNumber_0 16 rfl) ?_
        refine r_bipush 31 rfl bp_48 (ck DX5_takesNumber_0 17 rfl) ?_
        rcases if_so hf with ⟨c4, hf⟩ | ⟨c4, hf⟩
        · refine r_icmp_lt_t 86 (ck DX5_takesNumber_0 18 rfl) (by decide) c4 ?_
          refine r_iload_n 87 rfl 1 rfl rfl (ck DX5_takesNumber_0 48 rfl) ?_
          obtain ⟨rfl, rfl⟩ := so2 hf
          exact r_iret rfl rfl (ck DX5_takesNumber_0 49 rfl)
        · refine r_icmp_lt_f 34 rfl 86 (ck DX5_takesNumber_0 18 rfl) (by decide) c4 ?_
          refine r_aload_n 35 rfl 0 rfl rfl (ck DX5_takesNumber_0 19 rfl) ?_
          refine r_getr (q := 80) 38 rfl (lq_5_0 79) sh_79 kd_5_0 fl_X5_9 (ck DX5_takesNumber_0 20 rfl) ?_
          refine r_aload_n 39 rfl 0 rfl rfl (ck DX5_takesNumber_0 21 rfl) ?_
          refine r_geti 42 rfl sh_79 kd_5_2 fl_X5_26 (ck DX5_takesNumber_0 22 rfl) ?_
          obtain ⟨b5, hf⟩ := gd_so hf
          refine r_bald 43 rfl sh_80 (inb_vp b5) (ck DX5_takesNumber_0 23 rfl) ?_
          refine r_bipush 45 rfl bp_57 (ck DX5_takesNumber_0 24 rfl) ?_
          rcases if_so hf with ⟨c6, hf⟩ | ⟨c6, hf⟩
          · refine r_icmp_gt_t 86 (ck DX5_takesNumber_0 25 rfl) (by decide) c6 ?_
            refine r_iload_n 87 rfl 1 rfl rfl (ck DX5_takesNumber_0 48 rfl) ?_
            obtain ⟨rfl, rfl⟩ := so2 hf
            exact r_iret rfl rfl (ck DX5_takesNumber_0 49 rfl)
          · refine r_icmp_gt_f 48 rfl 86 (ck DX5_takesNumber_0 25 rfl) (by decide) c6 ?_
            refine r_iload_n 49 rfl 1 rfl rfl (ck DX5_takesNumber_0 26 rfl) ?_
            refine r_iconst 50 rfl ic_0 (ck DX5_takesNumber_0 27 rfl) ?_
            refine r_max 53 rfl (by decide) ml_X5_77 ms_max ini_Math mc_max (Nat.le_of_ble_eq_true rfl) (ck DX5_takesNumber_0 28 rfl) ?_
            refine r_bipush 55 rfl bp_10 (ck DX5_takesNumber_0 29 rfl) ?_
            refine r_imul 56 rfl (ck DX5_takesNumber_0 30 rfl) ?_
            refine r_aload_n 57 rfl 0 rfl rfl (ck DX5_takesNumber_0 31 rfl) ?_
            refine r_getr (q := 80) 60 rfl (lq_5_0 79) sh_79 kd_5_0 fl_X5_9 (ck DX5_takesNumber_0 32 rfl) ?_
            refine r_aload_n 61 rfl 0 rfl rfl (ck DX5_takesNumber_0 33 rfl) ?_
            refine r_geti 64 rfl sh_79 kd_5_2 fl_X5_26 (ck DX5_takesNumber_0 34 rfl) ?_
            obtain ⟨b7, hf⟩ := gd_so hf
            refine r_bald 65 rfl sh_80 (inb_vp b7) (ck DX5_takesNumber_0 35 rfl) ?_
            refine r_iadd 66 rfl (ck DX5_takesNumber_0 36 rfl) ?_
            refine r_bipush 68 rfl bp_48 (ck DX5_takesNumber_0 37 rfl) ?_
            refine r_isub 69 rfl (ck DX5_takesNumber_0 38 rfl) ?_
            obtain ⟨v8, e9, hf⟩ := lt_so hf
            refine r_top e9 ?_
            refine r_istore_n (lv' := [(1, .int v8), (0, .ref (X.1 79)), (2, .int x2)]) 70 rfl (ck DX5_takesNumber_0 39 rfl) (by decide) rfl rfl ?_
            refine r_aload_n 71 rfl 1 rfl rfl (ck DX5_takesNumber_0 40 rfl) ?_
            refine r_dup 72 rfl rfl (ck DX5_takesNumber_0 41 rfl) ?_
            refine r_geti 75 rfl sh_79 kd_5_2 fl_X5_26 (ck DX5_takesNumber_0 42 rfl) ?_
            refine r_iconst 76 rfl ic_1 (ck DX5_takesNumber_0 43 rfl) ?_
            refine r_iadd 77 rfl (ck DX5_takesNumber_0 44 rfl) ?_
            obtain ⟨g10, e11, hf⟩ := lt_so hf
            refine r_puti 80 rfl sh_79 kd_5_2 fw_X5_26 rfl rfl (ck DX5_takesNumber_0 45 rfl) ?_
            refine r_heap e11 ?_
            obtain ⟨v12, e13, hf⟩ := lt_so hf
            refine r_iinc (lv' := [(2, .int v12), (1, .int v8), (0, .ref (X.1 79))]) 83 rfl 2 (ck DX5_takesNumber_0 46 rfl) rfl (by rw [e13, ic_1]) (by decide) rfl ?_
            refine r_goto 4 (ck DX5_takesNumber_0 47 rfl) (by decide) ?_
            refine r_sub (lv' := [(0, .ref (X.1 79)), (1, .int v8), (2, .int v12)]) [2, 1, 0] rfl ?_
            exact ih v8 v12 g10 hf
def f_X5_takesNumber (h : HP) : Option (Int32 × HP) := f_X5_takesNumber_L4 FZ (-1) 0 h
set_option maxHeartbeats 4000000 in
set_option maxRecDepth 100000 in
theorem A_X5_takesNumber (X : XE) (h : HP) (r : Int32) (h' : HP) (hf : f_X5_takesNumber h = some (r, h')) : CC mX5_takesNumber 1 X [.ref (X.1 79)] h (some (.int r)) h' := by
  refine CC_of rfl (Nat.le_of_ble_eq_true rfl) ?_
  show Run mX5_takesNumber 1 X 0 [(0, .ref (X.1 79))] [] h (some (.int r)) h'
  unfold f_X5_takesNumber at hf
  refine r_iconst 1 rfl ic_m1 (ck DX5_takesNumber_0 0 rfl) ?_
  refine r_istore_n (lv' := [(1, .int (-1)), (0, .ref (X.1 79))]) 2 rfl (ck DX5_takesNumber_0 1 rfl) (by decide) rfl rfl ?_
  refine r_iconst 3 rfl ic_0 (ck DX5_takesNumber_0 2 rfl) ?_
  refine r_istore_n (lv' := [(2, .int 0), (1, .int (-1)), (0, .ref (X.1 79))]) 4 rfl (ck DX5_takesNumber_0 3 rfl) (by decide) rfl rfl ?_
  refine r_sub (lv' := [(0, .ref (X.1 79)), (1, .int (-1)), (2, .int 0)]) [2, 1, 0] rfl ?_
  exact A_X5_takesNumber_L4 X _ _ FZ (-1) 0 h hf
-- X5_readsAll
def f_X5_readsAll_L12 (rcM : Int32 → HP → Option (Int32 × HP)) : Nat → Int32 → Int32 → HP → Option (Int32 × HP)
  | 0, _, _, _ => none
  | n + 1, x1, x2, h => if (100 : Int32) ≤ x2 then (some (1, h)) else (bd (f_X5_takes 38 h) fun v8 g6 => if v8 = 0 then (some (1, g6)) else (bd (rcM x1 g6) fun v12 g10 => if v12 = 0 then (some (0, g10)) else (bo (g10.2.2 79) fun w14 => gd (isOc w14) (bo (f_X2_add w14 38 0 0 g10) fun g17 => lt (x2 + 1 : Int32) fun v19 => f_X5_readsAll_L12 rcM n x1 v19 g17))))
set_option maxHeartbeats 4000000 in
set_option maxRecDepth 100000 in
theorem A_X5_readsAll_L12 (X : XE) (rcM : Int32 → HP → Option (Int32 × HP)) (dM : Nat) (hrM : ∀ (a0 : Int32) (h : HP) (r : Int32) (h1 : HP), rcM a0 h = some (r, h1) → CC mX5_readsOne dM X [.ref (X.1 79), .int a0] h (some (.int r)) h1) (r : Int32) (h' : HP) : ∀ (n : Nat) (x1 : Int32) (x2 : Int32) (h : HP), f_X5_readsAll_L12 rcM n x1 x2 h = some (r, h') → Run mX5_readsAll (dM + 2) X 12 [(0, .ref (X.1 79)), (1, .int x1), (2, .int x2)] [] h (some (.int r)) h' := by
  intro n
  induction n with
  | zero => intro x1 x2 h hf; cases hf
  | succ n ih =>
    intro x1 x2 h hf
    rw [f_X5_readsAll_L12] at hf
    refine r_iload_n 13 rfl 2 rfl rfl (ck DX5_readsAll_0 8 rfl) ?_
    refine r_bipush 15 rfl bp_100 (ck DX5_readsAll_0 9 rfl) ?_
    rcases if_so hf with ⟨c5, hf⟩ | ⟨c5, hf⟩
    · refine r_icmp_ge_t 54 (ck DX5_readsAll_0 10 rfl) (by decide) c5 ?_
      refine r_iconst 55 rfl ic_1 (ck DX5_readsAll_0 29 rfl) ?_
      obtain ⟨rfl, rfl⟩ := so2 hf
      exact r_iret rfl rfl (ck DX5_readsAll_0 30 rfl)
    · refine r_icmp_ge_f 18 rfl 54 (ck DX5_readsAll_0 10 rfl) (by decide) c5 ?_
      refine r_aload_n 19 rfl 0 rfl rfl (ck DX5_readsAll_0 11 rfl) ?_
      refine r_bipush 21 rfl bp_38 (ck DX5_readsAll_0 12 rfl) ?_
      obtain ⟨v8, g6, e7, hf⟩ := bd_so hf
      refine r_callVi 24 rfl (A_X5_takes X 38 h v8 g6 e7) (by omega) cw_X5_33 sh_79 cl_5 rfl rfl (Nat.le_of_ble_eq_true rfl) (ck DX5_readsAll_0 13 rfl) ?_
      rcases if_so hf with ⟨c9, hf⟩ | ⟨c9, hf⟩
      · refine r_if_eq_t 54 (ck DX5_readsAll_0 14 rfl) (by decide) c9 ?_
        refine r_iconst 55 rfl ic_1 (ck DX5_readsAll_0 29 rfl) ?_
        obtain ⟨rfl, rfl⟩ := so2 hf
        exact r_iret rfl rfl (ck DX5_readsAll_0 30 rfl)
      · refine r_if_eq_f 27 rfl 54 (ck DX5_readsAll_0 14 rfl) (by decide) c9 ?_
        refine r_aload_n 28 rfl 0 rfl rfl (ck DX5_readsAll_0 15 rfl) ?_
        refine r_iload_n 29 rfl 1 rfl rfl (ck DX5_readsAll_0 16 rfl) ?_
        obtain ⟨v12, g10, e11, hf⟩ := bd_so hf
        refine r_callVi 32 rfl (hrM x1 g6 v12 g10 e11) (by omega) cw_X5_60 sh_79 cl_5 rfl rfl (Nat.le_of_ble_eq_true rfl) (ck DX5_readsAll_0 17 rfl) ?_
        rcases if_so hf with ⟨c13, hf⟩ | ⟨c13, hf⟩
        · refine r_if_ne_t 35 rfl 37 (ck DX5_readsAll_0 18 rfl) (by decide) c13 ?_
          refine r_iconst 36 rfl ic_0 (ck DX5_readsAll_0 19 rfl) ?_
          obtain ⟨rfl, rfl⟩ := so2 hf
          exact r_iret rfl rfl (ck DX5_readsAll_0 20 rfl)
        · refine r_if_ne_f 37 (ck DX5_readsAll_0 18 rfl) (by decide) c13 ?_
          refine r_aload_n 38 rfl 0 rfl rfl (ck DX5_readsAll_0 21 rfl) ?_
          obtain ⟨w14, e15, hf⟩ := bo_so hf
          obtain ⟨b16, hf⟩ := gd_so hf
          have ow14 := oc_of b16
          refine r_gets 41 rfl e15 sh_79 kd_5_1 fl_X5_17 (ck DX5_readsAll_0 22 rfl) ?_
          refine r_bipush 43 rfl bp_38 (ck DX5_readsAll_0 23 rfl) ?_
          refine r_iconst 44 rfl ic_0 (ck DX5_readsAll_0 24 rfl) ?_
          refine r_iconst 45 rfl ic_0 (ck DX5_readsAll_0 25 rfl) ?_
          obtain ⟨g17, e18, hf⟩ := bo_so hf
          refine r_callVv 48 rfl (A_X2_add X w14 ow14 38 0 0 g10 g17 e18) (by omega) cw_X5_53 ow14.1 cl_2 rfl rfl (Nat.le_of_ble_eq_true rfl) (ck DX5_readsAll_0 26 rfl) ?_
          obtain ⟨v19, e20, hf⟩ := lt_so hf
          refine r_iinc (lv' := [(2, .int v19), (0, .ref (X.1 79)), (1, .int x1)]) 51 rfl 2 (ck DX5_readsAll_0 27 rfl) rfl (by rw [e20, ic_1]) (by decide) rfl ?_
          refine r_goto 12 (ck DX5_readsAll_0 28 rfl) (by decide) ?_
          refine r_sub (lv' := [(0, .ref (X.1 79)), (1, .int x1), (2, .int v19)]) [1, 2, 0] rfl ?_
          exact ih x1 v19 g17 hf
def f_X5_readsAll (rcM : Int32 → HP → Option (Int32 × HP)) (x1 : Int32) (h : HP) : Option (Int32 × HP) := bd (rcM x1 h) fun v3 g1 => if v3 = 0 then (some (0, g1)) else (f_X5_readsAll_L12 rcM FZ x1 0 g1)
set_option maxHeartbeats 4000000 in
set_option maxRecDepth 100000 in
theorem A_X5_readsAll (X : XE) (rcM : Int32 → HP → Option (Int32 × HP)) (dM : Nat) (hrM : ∀ (a0 : Int32) (h : HP) (r : Int32) (h1 : HP), rcM a0 h = some (r, h1) → CC mX5_readsOne dM X [.ref (X.1 79), .int a0] h (some (.int r)) h1) (x1 : Int32) (h : HP) (r : Int32) (h' : HP) (hf : f_X5_readsAll rcM x1 h = some (r, h')) : CC mX5_readsAll (dM + 2) X [.ref (X.1 79), .int x1] h (some (.int r)) h' := by
  refine CC_of rfl (Nat.le_of_ble_eq_true rfl) ?_
  show Run mX5_readsAll (dM + 2) X 0 [(0, .ref (X.1 79)), (1, .int x1)] [] h (some (.int r)) h'
  unfold f_X5_readsAll at hf
  refine r_aload_n 1 rfl 0 rfl rfl (ck DX5_readsAll_0 0 rfl) ?_
  refine r_iload_n 2 rfl 1 rfl rfl (ck DX5_readsAll_0 1 rfl) ?_
  obtain ⟨v3, g1, e2, hf⟩ := bd_so hf
  refine r_callVi 5 rfl (hrM x1 h v3 g1 e2) (by omega) cw_X5_60 sh_79 cl_5 rfl rfl (Nat.le_of_ble_eq_true rfl) (ck DX5_readsAll_0 2 rfl) ?_
  rcases if_so hf with ⟨c4, hf⟩ | ⟨c4, hf⟩
  · refine r_if_ne_t 8 rfl 10 (ck DX5_readsAll_0 3 rfl) (by decide) c4 ?_
    refine r_iconst 9 rfl ic_0 (ck DX5_readsAll_0 4 rfl) ?_
    obtain ⟨rfl, rfl⟩ := so2 hf
    exact r_iret rfl rfl (ck DX5_readsAll_0 5 rfl)
  · refine r_if_ne_f 10 (ck DX5_readsAll_0 3 rfl) (by decide) c4 ?_
    refine r_iconst 11 rfl ic_0 (ck DX5_readsAll_0 6 rfl) ?_
    refine r_istore_n (lv' := [(2, .int 0), (0, .ref (X.1 79)), (1, .int x1)]) 12 rfl (ck DX5_readsAll_0 7 rfl) (by decide) rfl rfl ?_
    refine r_sub (lv' := [(0, .ref (X.1 79)), (1, .int x1), (2, .int 0)]) [1, 2, 0] rfl ?_
    exact A_X5_readsAll_L12 X rcM dM hrM _ _ FZ x1 0 g1 hf
-- X5_readsAny
def f_X5_readsAny_L12 (rcM : Int32 → HP → Option (Int32 × HP)) : Nat → Int32 → Int32 → HP → Option (Int32 × HP)
  | 0, _, _, _ => none
  | n + 1, x1, x2, h => if (100 : Int32) ≤ x2 then (some (1, h)) else (bd (f_X5_takes 124 h) fun v8 g6 => if v8 = 0 then (some (1, g6)) else (bd (f_X5_readsAll rcM x1 g6) fun v12 g10 => if v12 = 0 then (some (0, g10)) else (bo (g10.2.2 79) fun w14 => gd (isOc w14) (bo (f_X2_add w14 124 0 0 g10) fun g17 => lt (x2 + 1 : Int32) fun v19 => f_X5_readsAny_L12 rcM n x1 v19 g17))))
set_option maxHeartbeats 4000000 in
set_option maxRecDepth 100000 in
theorem A_X5_readsAny_L12 (X : XE) (rcM : Int32 → HP → Option (Int32 × HP)) (dM : Nat) (hrM : ∀ (a0 : Int32) (h : HP) (r : Int32) (h1 : HP), rcM a0 h = some (r, h1) → CC mX5_readsOne dM X [.ref (X.1 79), .int a0] h (some (.int r)) h1) (r : Int32) (h' : HP) : ∀ (n : Nat) (x1 : Int32) (x2 : Int32) (h : HP), f_X5_readsAny_L12 rcM n x1 x2 h = some (r, h') → Run mX5_readsAny (dM + 3) X 12 [(0, .ref (X.1 79)), (1, .int x1), (2, .int x2)] [] h (some (.int r)) h' := by
  intro n
  induction n with
  | zero => intro x1 x2 h hf; cases hf
  | succ n ih =>
    intro x1 x2 h hf
    rw [f_X5_readsAny_L12] at hf
    refine r_iload_n 13 rfl 2 rfl rfl (ck DX5_readsAny_0 8 rfl) ?_
    refine r_bipush 15 rfl bp_100 (ck DX5_readsAny_0 9 rfl) ?_
    rcases if_so hf with ⟨c5, hf⟩ | ⟨c5, hf⟩
    · refine r_icmp_ge_t 54 (ck DX5_readsAny_0 10 rfl) (by decide) c5 ?_
      refine r_iconst 55 rfl ic_1 (ck DX5_readsAny_0 29 rfl) ?_
      obtain ⟨rfl, rfl⟩ := so2 hf
      exact r_iret rfl rfl (ck DX5_readsAny_0 30 rfl)
    · refine r_icmp_ge_f 18 rfl 54 (ck DX5_readsAny_0 10 rfl) (by decide) c5 ?_
      refine r_aload_n 19 rfl 0 rfl rfl (ck DX5_readsAny_0 11 rfl) ?_
      refine r_bipush 21 rfl bp_124 (ck DX5_readsAny_0 12 rfl) ?_
      obtain ⟨v8, g6, e7, hf⟩ := bd_so hf
      refine r_callVi 24 rfl (A_X5_takes X 124 h v8 g6 e7) (by omega) cw_X5_33 sh_79 cl_5 rfl rfl (Nat.le_of_ble_eq_true rfl) (ck DX5_readsAny_0 13 rfl) ?_
      rcases if_so hf with ⟨c9, hf⟩ | ⟨c9, hf⟩
      · refine r_if_eq_t 54 (ck DX5_readsAny_0 14 rfl) (by decide) c9 ?_
        refine r_iconst 55 rfl ic_1 (ck DX5_readsAny_0 29 rfl) ?_
        obtain ⟨rfl, rfl⟩ := so2 hf
        exact r_iret rfl rfl (ck DX5_readsAny_0 30 rfl)
      · refine r_if_eq_f 27 rfl 54 (ck DX5_readsAny_0 14 rfl) (by decide) c9 ?_
        refine r_aload_n 28 rfl 0 rfl rfl (ck DX5_readsAny_0 15 rfl) ?_
        refine r_iload_n 29 rfl 1 rfl rfl (ck DX5_readsAny_0 16 rfl) ?_
        obtain ⟨v12, g10, e11, hf⟩ := bd_so hf
        refine r_callVi 32 rfl (A_X5_readsAll X rcM dM hrM x1 g6 v12 g10 e11) (by omega) cw_X5_57 sh_79 cl_5 rfl rfl (Nat.le_of_ble_eq_true rfl) (ck DX5_readsAny_0 17 rfl) ?_
        rcases if_so hf with ⟨c13, hf⟩ | ⟨c13, hf⟩
        · refine r_if_ne_t 35 rfl 37 (ck DX5_readsAny_0 18 rfl) (by decide) c13 ?_
          refine r_iconst 36 rfl ic_0 (ck DX5_readsAny_0 19 rfl) ?_
          obtain ⟨rfl, rfl⟩ := so2 hf
          exact r_iret rfl rfl (ck DX5_readsAny_0 20 rfl)
        · refine r_if_ne_f 37 (ck DX5_readsAny_0 18 rfl) (by decide) c13 ?_
          refine r_aload_n 38 rfl 0 rfl rfl (ck DX5_readsAny_0 21 rfl) ?_
          obtain ⟨w14, e15, hf⟩ := bo_so hf
          obtain ⟨b16, hf⟩ := gd_so hf
          have ow14 := oc_of b16
          refine r_gets 41 rfl e15 sh_79 kd_5_1 fl_X5_17 (ck DX5_readsAny_0 22 rfl) ?_
          refine r_bipush 43 rfl bp_124 (ck DX5_readsAny_0 23 rfl) ?_
          refine r_iconst 44 rfl ic_0 (ck DX5_readsAny_0 24 rfl) ?_
          refine r_iconst 45 rfl ic_0 (ck DX5_readsAny_0 25 rfl) ?_
          obtain ⟨g17, e18, hf⟩ := bo_so hf
          refine r_callVv 48 rfl (A_X2_add X w14 ow14 124 0 0 g10 g17 e18) (by omega) cw_X5_53 ow14.1 cl_2 rfl rfl (Nat.le_of_ble_eq_true rfl) (ck DX5_readsAny_0 26 rfl) ?_
          obtain ⟨v19, e20, hf⟩ := lt_so hf
          refine r_iinc (lv' := [(2, .int v19), (0, .ref (X.1 79)), (1, .int x1)]) 51 rfl 2 (ck DX5_readsAny_0 27 rfl) rfl (by rw [e20, ic_1]) (by decide) rfl ?_
          refine r_goto 12 (ck DX5_readsAny_0 28 rfl) (by decide) ?_
          refine r_sub (lv' := [(0, .ref (X.1 79)), (1, .int x1), (2, .int v19)]) [1, 2, 0] rfl ?_
          exact ih x1 v19 g17 hf
def f_X5_readsAny (rcM : Int32 → HP → Option (Int32 × HP)) (x1 : Int32) (h : HP) : Option (Int32 × HP) := bd (f_X5_readsAll rcM x1 h) fun v3 g1 => if v3 = 0 then (some (0, g1)) else (f_X5_readsAny_L12 rcM FZ x1 0 g1)
set_option maxHeartbeats 4000000 in
set_option maxRecDepth 100000 in
theorem A_X5_readsAny (X : XE) (rcM : Int32 → HP → Option (Int32 × HP)) (dM : Nat) (hrM : ∀ (a0 : Int32) (h : HP) (r : Int32) (h1 : HP), rcM a0 h = some (r, h1) → CC mX5_readsOne dM X [.ref (X.1 79), .int a0] h (some (.int r)) h1) (x1 : Int32) (h : HP) (r : Int32) (h' : HP) (hf : f_X5_readsAny rcM x1 h = some (r, h')) : CC mX5_readsAny (dM + 3) X [.ref (X.1 79), .int x1] h (some (.int r)) h' := by
  refine CC_of rfl (Nat.le_of_ble_eq_true rfl) ?_
  show Run mX5_readsAny (dM + 3) X 0 [(0, .ref (X.1 79)), (1, .int x1)] [] h (some (.int r)) h'
  unfold f_X5_readsAny at hf
  refine r_aload_n 1 rfl 0 rfl rfl (ck DX5_readsAny_0 0 rfl) ?_
  refine r_iload_n 2 rfl 1 rfl rfl (ck DX5_readsAny_0 1 rfl) ?_
  obtain ⟨v3, g1, e2, hf⟩ := bd_so hf
  refine r_callVi 5 rfl (A_X5_readsAll X rcM dM hrM x1 h v3 g1 e2) (by omega) cw_X5_57 sh_79 cl_5 rfl rfl (Nat.le_of_ble_eq_true rfl) (ck DX5_readsAny_0 2 rfl) ?_
  rcases if_so hf with ⟨c4, hf⟩ | ⟨c4, hf⟩
  · refine r_if_ne_t 8 rfl 10 (ck DX5_readsAny_0 3 rfl) (by decide) c4 ?_
    refine r_iconst 9 rfl ic_0 (ck DX5_readsAny_0 4 rfl) ?_
    obtain ⟨rfl, rfl⟩ := so2 hf
    exact r_iret rfl rfl (ck DX5_readsAny_0 5 rfl)
  · refine r_if_ne_f 10 (ck DX5_readsAny_0 3 rfl) (by decide) c4 ?_
    refine r_iconst 11 rfl ic_0 (ck DX5_readsAny_0 6 rfl) ?_
    refine r_istore_n (lv' := [(2, .int 0), (0, .ref (X.1 79)), (1, .int x1)]) 12 rfl (ck DX5_readsAny_0 7 rfl) (by decide) rfl rfl ?_
    refine r_sub (lv' := [(0, .ref (X.1 79)), (1, .int x1), (2, .int 0)]) [1, 2, 0] rfl ?_
    exact A_X5_readsAny_L12 X rcM dM hrM _ _ FZ x1 0 g1 hf
-- X5_readsOne
def f_X5_readsOne_J179 (rcM : Int32 → HP → Option (Int32 × HP)) (x2 : Int32) (x3 : Int32) (h : HP) : Option (Int32 × HP) := bd (f_X5_takesNumber h) fun v22 g20 => if (0 : Int32) ≤ v22 then (bo (g20.2.2 79) fun w24 => gd (isOc w24) (bo (f_X2_add w24 x3 x2 v22 g20) fun g27 => some (1, g27))) else (some (0, g20))
set_option maxHeartbeats 4000000 in
set_option maxRecDepth 100000 in
theorem A_X5_readsOne_J179 (X : XE) (rcM : Int32 → HP → Option (Int32 × HP)) (dM : Nat) (hrM : ∀ (a0 : Int32) (h : HP) (r : Int32) (h1 : HP), rcM a0 h = some (r, h1) → CC mX5_readsOne dM X [.ref (X.1 79), .int a0] h (some (.int r)) h1) (r : Int32) (h' : HP) (x2 : Int32) (x3 : Int32) (h : HP) (hf : f_X5_readsOne_J179 rcM x2 x3 h = some (r, h')) : Run mX5_readsOne (dM + 8) X 179 [(0, .ref (X.1 79)), (2, .int x2), (3, .int x3)] [] h (some (.int r)) h' := by
  unfold f_X5_readsOne_J179 at hf
  refine r_aload_n 180 rfl 0 rfl rfl (ck DX5_readsOne_1 47 rfl) ?_
  obtain ⟨v22, g20, e21, hf⟩ := bd_so hf
  refine r_callVi 183 rfl (A_X5_takesNumber X h v22 g20 e21) (by omega) cw_X5_41 sh_79 cl_5 rfl rfl (Nat.le_of_ble_eq_true rfl) (ck DX5_readsOne_1 48 rfl) ?_
  refine r_istore (lv' := [(4, .int v22), (0, .ref (X.1 79)), (2, .int x2), (3, .int x3)]) 185 rfl (ck DX5_readsOne_1 49 rfl) (by decide) rfl ?_
  refine r_iload 187 rfl 0 rfl (ck DX5_readsOne_2 0 rfl) ?_
  rcases if_so hf with ⟨c23, hf⟩ | ⟨c23, hf⟩
  · refine r_if_ge_t 192 (ck DX5_readsOne_2 1 rfl) (by decide) c23 ?_
    refine r_aload_n 193 rfl 1 rfl rfl (ck DX5_readsOne_2 4 rfl) ?_
    obtain ⟨w24, e25, hf⟩ := bo_so hf
    obtain ⟨b26, hf⟩ := gd_so hf
    have ow24 := oc_of b26
    refine r_gets 196 rfl e25 sh_79 kd_5_1 fl_X5_17 (ck DX5_readsOne_2 5 rfl) ?_
    refine r_iload_n 197 rfl 3 rfl rfl (ck DX5_readsOne_2 6 rfl) ?_
    refine r_iload_n 198 rfl 2 rfl rfl (ck DX5_readsOne_2 7 rfl) ?_
    refine r_iload 200 rfl 0 rfl (ck DX5_readsOne_2 8 rfl) ?_
    obtain ⟨g27, e28, hf⟩ := bo_so hf
    refine r_callVv 203 rfl (A_X2_add X w24 ow24 x3 x2 v22 g20 g27 e28) (by omega) cw_X5_53 ow24.1 cl_2 rfl rfl (Nat.le_of_ble_eq_true rfl) (ck DX5_readsOne_2 9 rfl) ?_
    refine r_iconst 204 rfl ic_1 (ck DX5_readsOne_2 10 rfl) ?_
    obtain ⟨rfl, rfl⟩ := so2 hf
    exact r_iret rfl rfl (ck DX5_readsOne_2 11 rfl)
  · refine r_if_ge_f 190 rfl 192 (ck DX5_readsOne_2 1 rfl) (by decide) c23 ?_
    refine r_iconst 191 rfl ic_0 (ck DX5_readsOne_2 2 rfl) ?_
    obtain ⟨rfl, rfl⟩ := so2 hf
    exact r_iret rfl rfl (ck DX5_readsOne_2 3 rfl)
def f_X5_readsOne_J149 (rcM : Int32 → HP → Option (Int32 × HP)) (x2 : Int32) (s0 : Int32) (h : HP) : Option (Int32 × HP) := bd (f_X5_takes 60 h) fun v10 g8 => if v10 = 0 then (bd (f_X5_takes 61 g8) fun v14 g12 => if v14 = 0 then (bd (f_X5_takes 62 g12) fun v18 g16 => if v18 = 0 then (some (0, g16)) else (f_X5_readsOne_J179 rcM x2 s0 g16)) else (f_X5_readsOne_J179 rcM x2 s0 g12)) else (f_X5_readsOne_J179 rcM x2 s0 g8)
set_option maxHeartbeats 4000000 in
set_option maxRecDepth 100000 in
theorem A_X5_readsOne_J149 (X : XE) (rcM : Int32 → HP → Option (Int32 × HP)) (dM : Nat) (hrM : ∀ (a0 : Int32) (h : HP) (r : Int32) (h1 : HP), rcM a0 h = some (r, h1) → CC mX5_readsOne dM X [.ref (X.1 79), .int a0] h (some (.int r)) h1) (r : Int32) (h' : HP) (x2 : Int32) (s0 : Int32) (h : HP) (hf : f_X5_readsOne_J149 rcM x2 s0 h = some (r, h')) : Run mX5_readsOne (dM + 8) X 149 [(0, .ref (X.1 79)), (2, .int x2)] [.int s0] h (some (.int r)) h' := by
  unfold f_X5_readsOne_J149 at hf
  refine r_istore_n (lv' := [(3, .int s0), (0, .ref (X.1 79)), (2, .int x2)]) 150 rfl (ck DX5_readsOne_1 32 rfl) (by decide) rfl rfl ?_
  refine r_aload_n 151 rfl 1 rfl rfl (ck DX5_readsOne_1 33 rfl) ?_
  refine r_bipush 153 rfl bp_60 (ck DX5_readsOne_1 34 rfl) ?_
  obtain ⟨v10, g8, e9, hf⟩ := bd_so hf
  refine r_callVi 156 rfl (A_X5_takes X 60 h v10 g8 e9) (by omega) cw_X5_33 sh_79 cl_5 rfl rfl (Nat.le_of_ble_eq_true rfl) (ck DX5_readsOne_1 35 rfl) ?_
  rcases if_so hf with ⟨c11, hf⟩ | ⟨c11, hf⟩
  · refine r_if_ne_t 159 rfl 179 (ck DX5_readsOne_1 36 rfl) (by decide) c11 ?_
    refine r_aload_n 160 rfl 1 rfl rfl (ck DX5_readsOne_1 37 rfl) ?_
    refine r_bipush 162 rfl bp_61 (ck DX5_readsOne_1 38 rfl) ?_
    obtain ⟨v14, g12, e13, hf⟩ := bd_so hf
    refine r_callVi 165 rfl (A_X5_takes X 61 g8 v14 g12 e13) (by omega) cw_X5_33 sh_79 cl_5 rfl rfl (Nat.le_of_ble_eq_true rfl) (ck DX5_readsOne_1 39 rfl) ?_
    rcases if_so hf with ⟨c15, hf⟩ | ⟨c15, hf⟩
    · refine r_if_ne_t 168 rfl 179 (ck DX5_readsOne_1 40 rfl) (by decide) c15 ?_
      refine r_aload_n 169 rfl 1 rfl rfl (ck DX5_readsOne_1 41 rfl) ?_
      refine r_bipush 171 rfl bp_62 (ck DX5_readsOne_1 42 rfl) ?_
      obtain ⟨v18, g16, e17, hf⟩ := bd_so hf
      refine r_callVi 174 rfl (A_X5_takes X 62 g12 v18 g16 e17) (by omega) cw_X5_33 sh_79 cl_5 rfl rfl (Nat.le_of_ble_eq_true rfl) (ck DX5_readsOne_1 43 rfl) ?_
      rcases if_so hf with ⟨c19, hf⟩ | ⟨c19, hf⟩
      · refine r_if_ne_t 177 rfl 179 (ck DX5_readsOne_1 44 rfl) (by decide) c19 ?_
        refine r_iconst 178 rfl ic_0 (ck DX5_readsOne_1 45 rfl) ?_
        obtain ⟨rfl, rfl⟩ := so2 hf
        exact r_iret rfl rfl (ck DX5_readsOne_1 46 rfl)
      · refine r_if_ne_f 179 (ck DX5_readsOne_1 44 rfl) (by decide) c19 ?_
        refine r_sub (lv' := [(0, .ref (X.1 79)), (2, .int x2), (3, .int s0)]) [1, 2, 0] rfl ?_
        exact A_X5_readsOne_J179 X rcM dM hrM _ _ x2 s0 g16 hf
    · refine r_if_ne_f 179 (ck DX5_readsOne_1 40 rfl) (by decide) c15 ?_
      refine r_sub (lv' := [(0, .ref (X.1 79)), (2, .int x2), (3, .int s0)]) [1, 2, 0] rfl ?_
      exact A_X5_readsOne_J179 X rcM dM hrM _ _ x2 s0 g12 hf
  · refine r_if_ne_f 179 (ck DX5_readsOne_1 36 rfl) (by decide) c11 ?_
    refine r_sub (lv' := [(0, .ref (X.1 79)), (2, .int x2), (3, .int s0)]) [1, 2, 0] rfl ?_
    exact A_X5_readsOne_J179 X rcM dM hrM _ _ x2 s0 g8 hf
def f_X5_readsOne_J108 (rcM : Int32 → HP → Option (Int32 × HP)) (s0 : Int32) (h : HP) : Option (Int32 × HP) := if (0 : Int32) ≤ s0 then (lt (si h 79 2 ((h.1 79 2) + 1)) fun g5 => if (g5.1 79 3) ≤ (g5.1 79 2) then (f_X5_readsOne_J149 rcM s0 0 g5) else (gd (inb (g5.1 79 2) 100) (f_X5_readsOne_J149 rcM s0 (g5.1 80 (Int32.toNatClampNeg (g5.1 79 2))) g5))) else (some (0, h))
set_option maxHeartbeats 4000000 in
set_option maxRecDepth 100000 in
theorem A_X5_readsOne_J108 (X : XE) (rcM : Int32 → HP → Option (Int32 × HP)) (dM : Nat) (hrM : ∀ (a0 : Int32) (h : HP) (r : Int32) (h1 : HP), rcM a0 h = some (r, h1) → CC mX5_readsOne dM X [.ref (X.1 79), .int a0] h (some (.int r)) h1) (r : Int32) (h' : HP) (s0 : Int32) (h : HP) (hf : f_X5_readsOne_J108 rcM s0 h = some (r, h')) : Run mX5_readsOne (dM + 8) X 108 [(0, .ref (X.1 79))] [.int s0] h (some (.int r)) h' := by
  unfold f_X5_readsOne_J108 at hf
  refine r_istore_n (lv' := [(2, .int s0), (0, .ref (X.1 79))]) 109 rfl (ck DX5_readsOne_1 9 rfl) (by decide) rfl rfl ?_
  refine r_iload_n 110 rfl 0 rfl rfl (ck DX5_readsOne_1 10 rfl) ?_
  rcases if_so hf with ⟨c4, hf⟩ | ⟨c4, hf⟩
  · refine r_if_ge_t 115 (ck DX5_readsOne_1 11 rfl) (by decide) c4 ?_
    refine r_aload_n 116 rfl 1 rfl rfl (ck DX5_readsOne_1 14 rfl) ?_
    refine r_dup 117 rfl rfl (ck DX5_readsOne_1 15 rfl) ?_
    refine r_geti 120 rfl sh_79 kd_5_2 fl_X5_26 (ck DX5_readsOne_1 16 rfl) ?_
    refine r_iconst 121 rfl ic_1 (ck DX5_readsOne_1 17 rfl) ?_
    refine r_iadd 122 rfl (ck DX5_readsOne_1 18 rfl) ?_
    obtain ⟨g5, e6, hf⟩ := lt_so hf
    refine r_puti 125 rfl sh_79 kd_5_2 fw_X5_26 rfl rfl (ck DX5_readsOne_1 19 rfl) ?_
    refine r_heap e6 ?_
    refine r_aload_n 126 rfl 1 rfl rfl (ck DX5_readsOne_1 20 rfl) ?_
    refine r_geti 129 rfl sh_79 kd_5_2 fl_X5_26 (ck DX5_readsOne_1 21 rfl) ?_
    refine r_aload_n 130 rfl 1 rfl rfl (ck DX5_readsOne_1 22 rfl) ?_
    refine r_geti 133 rfl sh_79 kd_5_3 fl_X5_13 (ck DX5_readsOne_1 23 rfl) ?_
    rcases if_so hf with ⟨c7, hf⟩ | ⟨c7, hf⟩
    · refine r_icmp_ge_t 148 (ck DX5_readsOne_1 24 rfl) (by decide) c7 ?_
      refine r_iconst 149 rfl ic_0 (ck DX5_readsOne_1 31 rfl) ?_
      refine r_sub (lv' := [(0, .ref (X.1 79)), (2, .int s0)]) [1, 0] rfl ?_
      exact A_X5_readsOne_J149 X rcM dM hrM _ _ s0 0 g5 hf
    · refine r_icmp_ge_f 136 rfl 148 (ck DX5_readsOne_1 24 rfl) (by decide) c7 ?_
      refine r_aload_n 137 rfl 1 rfl rfl (ck DX5_readsOne_1 25 rfl) ?_
      refine r_getr (q := 80) 140 rfl (lq_5_0 79) sh_79 kd_5_0 fl_X5_9 (ck DX5_readsOne_1 26 rfl) ?_
      refine r_aload_n 141 rfl 1 rfl rfl (ck DX5_readsOne_1 27 rfl) ?_
      refine r_geti 144 rfl sh_79 kd_5_2 fl_X5_26 (ck DX5_readsOne_1 28 rfl) ?_
      obtain ⟨b29, hf⟩ := gd_so hf
      refine r_bald 145 rfl sh_80 (inb_vp b29) (ck DX5_readsOne_1 29 rfl) ?_
      refine r_goto 149 (ck DX5_readsOne_1 30 rfl) (by decide) ?_
      refine r_sub (lv' := [(0, .ref (X.1 79)), (2, .int s0)]) [1, 0] rfl ?_
      exact A_X5_readsOne_J149 X rcM dM hrM _ _ s0 (g5.1 80 (Int32.toNatClampNeg (g5.1 79 2))) g5 hf
  · refine r_if_ge_f 113 rfl 115 (ck DX5_readsOne_1 11 rfl) (by decide) c4 ?_
    refine r_iconst 114 rfl ic_0 (ck DX5_readsOne_1 12 rfl) ?_
    obtain ⟨rfl, rfl⟩ := so2 hf
    exact r_iret rfl rfl (ck DX5_readsOne_1 13 rfl)
def f_X5_readsOne_J78 (rcM : Int32 → HP → Option (Int32 × HP)) (h : HP) : Option (Int32 × HP) := if (h.1 79 3) ≤ (h.1 79 2) then (f_X5_readsOne_J108 rcM (-1) h) else (gd (inb (h.1 79 2) 100) (f_X5_readsOne_J108 rcM (lix (UInt32.toInt32 (Int32.toUInt32 (h.1 80 (Int32.toNatClampNeg (h.1 79 2))) % 65536))) h))
set_option maxHeartbeats 4000000 in
set_option maxRecDepth 100000 in
theorem A_X5_readsOne_J78 (X : XE) (rcM : Int32 → HP → Option (Int32 × HP)) (dM : Nat) (hrM : ∀ (a0 : Int32) (h : HP) (r : Int32) (h1 : HP), rcM a0 h = some (r, h1) → CC mX5_readsOne dM X [.ref (X.1 79), .int a0] h (some (.int r)) h1) (r : Int32) (h' : HP) (h : HP) (hf : f_X5_readsOne_J78 rcM h = some (r, h')) : Run mX5_readsOne (dM + 8) X 78 [(0, .ref (X.1 79))] [] h (some (.int r)) h' := by
  unfold f_X5_readsOne_J78 at hf
  refine r_aload_n 79 rfl 0 rfl rfl (ck DX5_readsOne_0 44 rfl) ?_
  refine r_geti 82 rfl sh_79 kd_5_2 fl_X5_26 (ck DX5_readsOne_0 45 rfl) ?_
  refine r_aload_n 83 rfl 0 rfl rfl (ck DX5_readsOne_0 46 rfl) ?_
  refine r_geti 86 rfl sh_79 kd_5_3 fl_X5_13 (ck DX5_readsOne_0 47 rfl) ?_
  rcases if_so hf with ⟨c3, hf⟩ | ⟨c3, hf⟩
  · refine r_icmp_ge_t 107 (ck DX5_readsOne_0 48 rfl) (by decide) c3 ?_
    refine r_iconst 108 rfl ic_m1 (ck DX5_readsOne_1 8 rfl) ?_
    refine r_sub (lv' := [(0, .ref (X.1 79))]) [0] rfl ?_
    exact A_X5_readsOne_J108 X rcM dM hrM _ _ (-1) h hf
  · refine r_icmp_ge_f 89 rfl 107 (ck DX5_readsOne_0 48 rfl) (by decide) c3 ?_
    refine r_ldS1 91 rfl rfl (ck DX5_readsOne_0 49 rfl) ?_
    refine r_aload_n 92 rfl 0 rfl rfl (ck DX5_readsOne_1 0 rfl) ?_
    refine r_getr (q := 80) 95 rfl (lq_5_0 79) sh_79 kd_5_0 fl_X5_9 (ck DX5_readsOne_1 1 rfl) ?_
    refine r_aload_n 96 rfl 0 rfl rfl (ck DX5_readsOne_1 2 rfl) ?_
    refine r_geti 99 rfl sh_79 kd_5_2 fl_X5_26 (ck DX5_readsOne_1 3 rfl) ?_
    obtain ⟨b30, hf⟩ := gd_so hf
    refine r_bald 100 rfl sh_80 (inb_vp b30) (ck DX5_readsOne_1 4 rfl) ?_
    refine r_i2c 101 rfl (ck DX5_readsOne_1 5 rfl) ?_
    refine r_indexOf 104 rfl (by omega) rfl (Nat.le_of_ble_eq_true rfl) (ck DX5_readsOne_1 6 rfl) ?_
    refine r_goto 108 (ck DX5_readsOne_1 7 rfl) (by decide) ?_
    refine r_sub (lv' := [(0, .ref (X.1 79))]) [0] rfl ?_
    exact A_X5_readsOne_J108 X rcM dM hrM _ _ (lix (UInt32.toInt32 (Int32.toUInt32 (h.1 80 (Int32.toNatClampNeg (h.1 79 2))) % 65536))) h hf
def f_X5_readsOne_J39 (rcM : Int32 → HP → Option (Int32 × HP)) (x1 : Int32) (h : HP) : Option (Int32 × HP) := if (4 : Int32) ≤ x1 then (f_X5_readsOne_J78 rcM h) else (bd (f_X5_takes 40 h) fun v33 g31 => if v33 = 0 then (f_X5_readsOne_J78 rcM g31) else (bd (f_X5_readsAny rcM (x1 + 1) g31) fun v37 g35 => if v37 = 0 then (some (0, g35)) else (bd (f_X5_takes 41 g35) fun v41 g39 => if v41 = 0 then (some (0, g39)) else (some (1, g39)))))
set_option maxHeartbeats 4000000 in
set_option maxRecDepth 100000 in
theorem A_X5_readsOne_J39 (X : XE) (rcM : Int32 → HP → Option (Int32 × HP)) (dM : Nat) (hrM : ∀ (a0 : Int32) (h : HP) (r : Int32) (h1 : HP), rcM a0 h = some (r, h1) → CC mX5_readsOne dM X [.ref (X.1 79), .int a0] h (some (.int r)) h1) (r : Int32) (h' : HP) (x1 : Int32) (h : HP) (hf : f_X5_readsOne_J39 rcM x1 h = some (r, h')) : Run mX5_readsOne (dM + 8) X 39 [(0, .ref (X.1 79)), (1, .int x1)] [] h (some (.int r)) h' := by
  unfold f_X5_readsOne_J39 at hf
  refine r_iload_n 40 rfl 1 rfl rfl (ck DX5_readsOne_0 23 rfl) ?_
  refine r_iconst 41 rfl ic_4 (ck DX5_readsOne_0 24 rfl) ?_
  rcases if_so hf with ⟨c2, hf⟩ | ⟨c2, hf⟩
  · refine r_icmp_ge_t 78 (ck DX5_readsOne_0 25 rfl) (by decide) c2 ?_
    refine r_sub (lv' := [(0, .ref (X.1 79))]) [0] rfl ?_
    exact A_X5_readsOne_J78 X rcM dM hrM _ _ h hf
  · refine r_icmp_ge_f 44 rfl 78 (ck DX5_readsOne_0 25 rfl) (by decide) c2 ?_
    refine r_aload_n 45 rfl 0 rfl rfl (ck DX5_readsOne_0 26 rfl) ?_
    refine r_bipush 47 rfl bp_40 (ck DX5_readsOne_0 27 rfl) ?_
    obtain ⟨v33, g31, e32, hf⟩ := bd_so hf
    refine r_callVi 50 rfl (A_X5_takes X 40 h v33 g31 e32) (by omega) cw_X5_33 sh_79 cl_5 rfl rfl (Nat.le_of_ble_eq_true rfl) (ck DX5_readsOne_0 28 rfl) ?_
    rcases if_so hf with ⟨c34, hf⟩ | ⟨c34, hf⟩
    · refine r_if_eq_t 78 (ck DX5_readsOne_0 29 rfl) (by decide) c34 ?_
      refine r_sub (lv' := [(0, .ref (X.1 79))]) [0] rfl ?_
      exact A_X5_readsOne_J78 X rcM dM hrM _ _ g31 hf
    · refine r_if_eq_f 53 rfl 78 (ck DX5_readsOne_0 29 rfl) (by decide) c34 ?_
      refine r_aload_n 54 rfl 0 rfl rfl (ck DX5_readsOne_0 30 rfl) ?_
      refine r_iload_n 55 rfl 1 rfl rfl (ck DX5_readsOne_0 31 rfl) ?_
      refine r_iconst 56 rfl ic_1 (ck DX5_readsOne_0 32 rfl) ?_
      refine r_iadd 57 rfl (ck DX5_readsOne_0 33 rfl) ?_
      obtain ⟨v37, g35, e36, hf⟩ := bd_so hf
      refine r_callVi 60 rfl (A_X5_readsAny X rcM dM hrM (x1 + 1) g31 v37 g35 e36) (by omega) cw_X5_50 sh_79 cl_5 rfl rfl (Nat.le_of_ble_eq_true rfl) (ck DX5_readsOne_0 34 rfl) ?_
      rcases if_so hf with ⟨c38, hf⟩ | ⟨c38, hf⟩
      · refine r_if_eq_t 76 (ck DX5_readsOne_0 35 rfl) (by decide) c38 ?_
        refine r_iconst 77 rfl ic_0 (ck DX5_readsOne_0 42 rfl) ?_
        obtain ⟨rfl, rfl⟩ := so2 hf
        exact r_iret rfl rfl (ck DX5_readsOne_0 43 rfl)
      · refine r_if_eq_f 63 rfl 76 (ck DX5_readsOne_0 35 rfl) (by decide) c38 ?_
        refine r_aload_n 64 rfl 0 rfl rfl (ck DX5_readsOne_0 36 rfl) ?_
        refine r_bipush 66 rfl bp_41 (ck DX5_readsOne_0 37 rfl) ?_
        obtain ⟨v41, g39, e40, hf⟩ := bd_so hf
        refine r_callVi 69 rfl (A_X5_takes X 41 g35 v41 g39 e40) (by omega) cw_X5_33 sh_79 cl_5 rfl rfl (Nat.le_of_ble_eq_true rfl) (ck DX5_readsOne_0 38 rfl) ?_
        rcases if_so hf with ⟨c42, hf⟩ | ⟨c42, hf⟩
        · refine r_if_eq_t 76 (ck DX5_readsOne_0 39 rfl) (by decide) c42 ?_
          refine r_iconst 77 rfl ic_0 (ck DX5_readsOne_0 42 rfl) ?_
          obtain ⟨rfl, rfl⟩ := so2 hf
          exact r_iret rfl rfl (ck DX5_readsOne_0 43 rfl)
        · refine r_if_eq_f 72 rfl 76 (ck DX5_readsOne_0 39 rfl) (by decide) c42 ?_
          refine r_iconst 73 rfl ic_1 (ck DX5_readsOne_0 40 rfl) ?_
          refine r_goto 77 (ck DX5_readsOne_0 41 rfl) (by decide) ?_
          obtain ⟨rfl, rfl⟩ := so2 hf
          exact r_iret rfl rfl (ck DX5_readsOne_0 43 rfl)
def f_X5_readsOne_B (rcM : Int32 → HP → Option (Int32 × HP)) (x1 : Int32) (h : HP) : Option (Int32 × HP) := if (4 : Int32) ≤ x1 then (f_X5_readsOne_J39 rcM x1 h) else (bd (f_X5_takes 33 h) fun v45 g43 => if v45 = 0 then (f_X5_readsOne_J39 rcM x1 g43) else (bd (rcM (x1 + 1) g43) fun v49 g47 => if v49 = 0 then (some (0, g47)) else (bo (g47.2.2 79) fun w51 => gd (isOc w51) (bo (f_X2_add w51 33 0 0 g47) fun g54 => some (1, g54)))))
set_option maxHeartbeats 4000000 in
set_option maxRecDepth 100000 in
theorem A_X5_readsOne_B (X : XE) (rcM : Int32 → HP → Option (Int32 × HP)) (dM : Nat) (hrM : ∀ (a0 : Int32) (h : HP) (r : Int32) (h1 : HP), rcM a0 h = some (r, h1) → CC mX5_readsOne dM X [.ref (X.1 79), .int a0] h (some (.int r)) h1) (x1 : Int32) (h : HP) (r : Int32) (h' : HP) (hf : f_X5_readsOne_B rcM x1 h = some (r, h')) : CC mX5_readsOne (dM + 8) X [.ref (X.1 79), .int x1] h (some (.int r)) h' := by
  refine CC_of rfl (Nat.le_of_ble_eq_true rfl) ?_
  show Run mX5_readsOne (dM + 8) X 0 [(0, .ref (X.1 79)), (1, .int x1)] [] h (some (.int r)) h'
  unfold f_X5_readsOne_B at hf
  refine r_iload_n 1 rfl 1 rfl rfl (ck DX5_readsOne_0 0 rfl) ?_
  refine r_iconst 2 rfl ic_4 (ck DX5_readsOne_0 1 rfl) ?_
  rcases if_so hf with ⟨c1, hf⟩ | ⟨c1, hf⟩
  · refine r_icmp_ge_t 39 (ck DX5_readsOne_0 2 rfl) (by decide) c1 ?_
    refine r_sub (lv' := [(0, .ref (X.1 79)), (1, .int x1)]) [0, 1] rfl ?_
    exact A_X5_readsOne_J39 X rcM dM hrM _ _ x1 h hf
  · refine r_icmp_ge_f 5 rfl 39 (ck DX5_readsOne_0 2 rfl) (by decide) c1 ?_
    refine r_aload_n 6 rfl 0 rfl rfl (ck DX5_readsOne_0 3 rfl) ?_
    refine r_bipush 8 rfl bp_33 (ck DX5_readsOne_0 4 rfl) ?_
    obtain ⟨v45, g43, e44, hf⟩ := bd_so hf
    refine r_callVi 11 rfl (A_X5_takes X 33 h v45 g43 e44) (by omega) cw_X5_33 sh_79 cl_5 rfl rfl (Nat.le_of_ble_eq_true rfl) (ck DX5_readsOne_0 5 rfl) ?_
    rcases if_so hf with ⟨c46, hf⟩ | ⟨c46, hf⟩
    · refine r_if_eq_t 39 (ck DX5_readsOne_0 6 rfl) (by decide) c46 ?_
      refine r_sub (lv' := [(0, .ref (X.1 79)), (1, .int x1)]) [0, 1] rfl ?_
      exact A_X5_readsOne_J39 X rcM dM hrM _ _ x1 g43 hf
    · refine r_if_eq_f 14 rfl 39 (ck DX5_readsOne_0 6 rfl) (by decide) c46 ?_
      refine r_aload_n 15 rfl 0 rfl rfl (ck DX5_readsOne_0 7 rfl) ?_
      refine r_iload_n 16 rfl 1 rfl rfl (ck DX5_readsOne_0 8 rfl) ?_
      refine r_iconst 17 rfl ic_1 (ck DX5_readsOne_0 9 rfl) ?_
      refine r_iadd 18 rfl (ck DX5_readsOne_0 10 rfl) ?_
      obtain ⟨v49, g47, e48, hf⟩ := bd_so hf
      refine r_callVi 21 rfl (hrM (x1 + 1) g43 v49 g47 e48) (by omega) cw_X5_60 sh_79 cl_5 rfl rfl (Nat.le_of_ble_eq_true rfl) (ck DX5_readsOne_0 11 rfl) ?_
      rcases if_so hf with ⟨c50, hf⟩ | ⟨c50, hf⟩
      · refine r_if_ne_t 24 rfl 26 (ck DX5_readsOne_0 12 rfl) (by decide) c50 ?_
        refine r_iconst 25 rfl ic_0 (ck DX5_readsOne_0 13 rfl) ?_
        obtain ⟨rfl, rfl⟩ := so2 hf
        exact r_iret rfl rfl (ck DX5_readsOne_0 14 rfl)
      · refine r_if_ne_f 26 (ck DX5_readsOne_0 12 rfl) (by decide) c50 ?_
        refine r_aload_n 27 rfl 0 rfl rfl (ck DX5_readsOne_0 15 rfl) ?_
        obtain ⟨w51, e52, hf⟩ := bo_so hf
        obtain ⟨b53, hf⟩ := gd_so hf
        have ow51 := oc_of b53
        refine r_gets 30 rfl e52 sh_79 kd_5_1 fl_X5_17 (ck DX5_readsOne_0 16 rfl) ?_
        refine r_bipush 32 rfl bp_33 (ck DX5_readsOne_0 17 rfl) ?_
        refine r_iconst 33 rfl ic_0 (ck DX5_readsOne_0 18 rfl) ?_
        refine r_iconst 34 rfl ic_0 (ck DX5_readsOne_0 19 rfl) ?_
        obtain ⟨g54, e55, hf⟩ := bo_so hf
        refine r_callVv 37 rfl (A_X2_add X w51 ow51 33 0 0 g47 g54 e55) (by omega) cw_X5_53 ow51.1 cl_2 rfl rfl (Nat.le_of_ble_eq_true rfl) (ck DX5_readsOne_0 20 rfl) ?_
        refine r_iconst 38 rfl ic_1 (ck DX5_readsOne_0 21 rfl) ?_
        obtain ⟨rfl, rfl⟩ := so2 hf
        exact r_iret rfl rfl (ck DX5_readsOne_0 22 rfl)
def f_X5_readsOne : Nat → Int32 → HP → Option (Int32 × HP)
  | 0, _, _ => none
  | n + 1, x1, h => f_X5_readsOne_B (f_X5_readsOne n) x1 h
theorem A_X5_readsOne (X : XE) : ∀ (n : Nat) (a0 : Int32) (h : HP) (r : Int32) (h1 : HP), f_X5_readsOne n a0 h = some (r, h1) → CC mX5_readsOne (n * 8) X [.ref (X.1 79), .int a0] h (some (.int r)) h1 := by
  intro n
  induction n with
  | zero => intro a0 h r h1 hf; cases hf
  | succ n ih =>
    intro a0 h r h1 hf
    rw [f_X5_readsOne] at hf
    have q := A_X5_readsOne_B X (f_X5_readsOne n) (n * 8) ih a0 h r h1 hf
    have e : (n + 1) * 8 = n * 8 + 8 := by omega
    rw [e]
    exact q
-- X5_readsClause
def f_X5_readsClause (h : HP) : Option (Int32 × HP) := bd (f_X5_takesWord h) fun v3 g1 => if v3 < 0 then (some (0, g1)) else (bd (f_X5_takes 32 g1) fun v7 g5 => if v7 = 0 then (some (0, g5)) else (bd (f_X5_takesNumber g5) fun v11 g9 => if (0 : Int32) ≤ v11 then (if v3 = 2 then (bo (g9.2.2 79) fun w14 => gd (isOc w14) (lt (si g9 w14 5 v11) fun g17 => some (1, g17))) else (if v3 = 3 then (bo (g9.2.2 79) fun w20 => gd (isOc w20) (lt (si g9 w20 6 v11) fun g23 => some (1, g23))) else (bd (f_X5_takes 32 g9) fun v27 g25 => if v27 = 0 then (some (0, g25)) else (bd (f_X5_readsAny (f_X5_readsOne 10) 0 g25) fun v31 g29 => if v31 = 0 then (some (0, g29)) else (bo (g29.2.2 79) fun w33 => gd (isOc w33) (if v3 = 0 then (bo (f_X2_add w33 59 0 v11 g29) fun g37 => some (1, g37)) else (bo (f_X2_add w33 59 0 (-v11) g29) fun g39 => some (1, g39)))))))) else (some (0, g9))))
set_option maxHeartbeats 4000000 in
set_option maxRecDepth 100000 in
theorem A_X5_readsClause (X : XE) (h : HP) (r : Int32) (h' : HP) (hf : f_X5_readsClause h = some (r, h')) : CC mX5_readsClause 84 X [.ref (X.1 79)] h (some (.int r)) h' := by
  refine CC_of rfl (Nat.le_of_ble_eq_true rfl) ?_
  show Run mX5_readsClause 84 X 0 [(0, .ref (X.1 79))] [] h (some (.int r)) h'
  unfold f_X5_readsClause at hf
  refine r_aload_n 1 rfl 0 rfl rfl (ck DX5_readsClause_0 0 rfl) ?_
  obtain ⟨v3, g1, e2, hf⟩ := bd_so hf
  refine r_callVi 4 rfl (A_X5_takesWord X h v3 g1 e2) (by omega) cw_X5_37 sh_79 cl_5 rfl rfl (Nat.le_of_ble_eq_true rfl) (ck DX5_readsClause_0 1 rfl) ?_
  refine r_istore_n (lv' := [(1, .int v3), (0, .ref (X.1 79))]) 5 rfl (ck DX5_readsClause_0 2 rfl) (by decide) rfl rfl ?_
  refine r_iload_n 6 rfl 0 rfl rfl (ck DX5_readsClause_0 3 rfl) ?_
  rcases if_so hf with ⟨c4, hf⟩ | ⟨c4, hf⟩
  · refine r_if_lt_t 18 (ck DX5_readsClause_0 4 rfl) (by decide) c4 ?_
    refine r_iconst 19 rfl ic_0 (ck DX5_readsClause_0 9 rfl) ?_
    obtain ⟨rfl, rfl⟩ := so2 hf
    exact r_iret rfl rfl (ck DX5_readsClause_0 10 rfl)
  · refine r_if_lt_f 9 rfl 18 (ck DX5_readsClause_0 4 rfl) (by decide) c4 ?_
    refine r_aload_n 10 rfl 1 rfl rfl (ck DX5_readsClause_0 5 rfl) ?_
    refine r_bipush 12 rfl bp_32 (ck DX5_readsClause_0 6 rfl) ?_
    obtain ⟨v7, g5, e6, hf⟩ := bd_so hf
    refine r_callVi 15 rfl (A_X5_takes X 32 g1 v7 g5 e6) (by omega) cw_X5_33 sh_79 cl_5 rfl rfl (Nat.le_of_ble_eq_true rfl) (ck DX5_readsClause_0 7 rfl) ?_
    rcases if_so hf with ⟨c8, hf⟩ | ⟨c8, hf⟩
    · refine r_if_ne_t 18 rfl 20 (ck DX5_readsClause_0 8 rfl) (by decide) c8 ?_
      refine r_iconst 19 rfl ic_0 (ck DX5_readsClause_0 9 rfl) ?_
      obtain ⟨rfl, rfl⟩ := so2 hf
      exact r_iret rfl rfl (ck DX5_readsClause_0 10 rfl)
    · refine r_if_ne_f 20 (ck DX5_readsClause_0 8 rfl) (by decide) c8 ?_
      refine r_aload_n 21 rfl 1 rfl rfl (ck DX5_readsClause_0 11 rfl) ?_
      obtain ⟨v11, g9, e10, hf⟩ := bd_so hf
      refine r_callVi 24 rfl (A_X5_takesNumber X g5 v11 g9 e10) (by omega) cw_X5_41 sh_79 cl_5 rfl rfl (Nat.le_of_ble_eq_true rfl) (ck DX5_readsClause_0 12 rfl) ?_
      refine r_istore_n (lv' := [(2, .int v11), (1, .int v3), (0, .ref (X.1 79))]) 25 rfl (ck DX5_readsClause_0 13 rfl) (by decide) rfl rfl ?_
      refine r_iload_n 26 rfl 0 rfl rfl (ck DX5_readsClause_0 14 rfl) ?_
      rcases if_so hf with ⟨c12, hf⟩ | ⟨c12, hf⟩
      · refine r_if_ge_t 31 (ck DX5_readsClause_0 15 rfl) (by decide) c12 ?_
        refine r_iload_n 32 rfl 1 rfl rfl (ck DX5_readsClause_0 18 rfl) ?_
        refine r_iconst 33 rfl ic_2 (ck DX5_readsClause_0 19 rfl) ?_
        rcases if_so hf with ⟨c13, hf⟩ | ⟨c13, hf⟩
        · refine r_icmp_ne_t 36 rfl 46 (ck DX5_readsClause_0 20 rfl) (by decide) c13 ?_
          refine r_aload_n 37 rfl 2 rfl rfl (ck DX5_readsClause_0 21 rfl) ?_
          obtain ⟨w14, e15, hf⟩ := bo_so hf
          obtain ⟨b16, hf⟩ := gd_so hf
          have ow14 := oc_of b16
          refine r_gets 40 rfl e15 sh_79 kd_5_1 fl_X5_17 (ck DX5_readsClause_0 22 rfl) ?_
          refine r_iload_n 41 rfl 0 rfl rfl (ck DX5_readsClause_0 23 rfl) ?_
          obtain ⟨g17, e18, hf⟩ := lt_so hf
          refine r_puti 44 rfl ow14.1 kd_2_5 fw_X5_44 rfl rfl (ck DX5_readsClause_0 24 rfl) ?_
          refine r_heap e18 ?_
          refine r_iconst 45 rfl ic_1 (ck DX5_readsClause_0 25 rfl) ?_
          obtain ⟨rfl, rfl⟩ := so2 hf
          exact r_iret rfl rfl (ck DX5_readsClause_0 26 rfl)
        · refine r_icmp_ne_f 46 (ck DX5_readsClause_0 20 rfl) (by decide) c13 ?_
          refine r_iload_n 47 rfl 1 rfl rfl (ck DX5_readsClause_0 27 rfl) ?_
          refine r_iconst 48 rfl ic_3 (ck DX5_readsClause_0 28 rfl) ?_
          rcases if_so hf with ⟨c19, hf⟩ | ⟨c19, hf⟩
          · refine r_icmp_ne_t 51 rfl 61 (ck DX5_readsClause_0 29 rfl) (by decide) c19 ?_
            refine r_aload_n 52 rfl 2 rfl rfl (ck DX5_readsClause_0 30 rfl) ?_
            obtain ⟨w20, e21, hf⟩ := bo_so hf
            obtain ⟨b22, hf⟩ := gd_so hf
            have ow20 := oc_of b22
            refine r_gets 55 rfl e21 sh_79 kd_5_1 fl_X5_17 (ck DX5_readsClause_0 31 rfl) ?_
            refine r_iload_n 56 rfl 0 rfl rfl (ck DX5_readsClause_0 32 rfl) ?_
            obtain ⟨g23, e24, hf⟩ := lt_so hf
            refine r_puti 59 rfl ow20.1 kd_2_6 fw_X5_47 rfl rfl (ck DX5_readsClause_0 33 rfl) ?_
            refine r_heap e24 ?_
            refine r_iconst 60 rfl ic_1 (ck DX5_readsClause_0 34 rfl) ?_
            obtain ⟨rfl, rfl⟩ := so2 hf
            exact r_iret rfl rfl (ck DX5_readsClause_0 35 rfl)
          · refine r_icmp_ne_f 61 (ck DX5_readsClause_0 29 rfl) (by decide) c19 ?_
            refine r_aload_n 62 rfl 2 rfl rfl (ck DX5_readsClause_0 36 rfl) ?_
            refine r_bipush 64 rfl bp_32 (ck DX5_readsClause_0 37 rfl) ?_
            obtain ⟨v27, g25, e26, hf⟩ := bd_so hf
            refine r_callVi 67 rfl (A_X5_takes X 32 g9 v27 g25 e26) (by omega) cw_X5_33 sh_79 cl_5 rfl rfl (Nat.le_of_ble_eq_true rfl) (ck DX5_readsClause_0 38 rfl) ?_
            rcases if_so hf with ⟨c28, hf⟩ | ⟨c28, hf⟩
            · refine r_if_eq_t 78 (ck DX5_readsClause_0 39 rfl) (by decide) c28 ?_
              refine r_iconst 79 rfl ic_0 (ck DX5_readsClause_0 44 rfl) ?_
              obtain ⟨rfl, rfl⟩ := so2 hf
              exact r_iret rfl rfl (ck DX5_readsClause_0 45 rfl)
            · refine r_if_eq_f 70 rfl 78 (ck DX5_readsClause_0 39 rfl) (by decide) c28 ?_
              refine r_aload_n 71 rfl 2 rfl rfl (ck DX5_readsClause_0 40 rfl) ?_
              refine r_iconst 72 rfl ic_0 (ck DX5_readsClause_0 41 rfl) ?_
              obtain ⟨v31, g29, e30, hf⟩ := bd_so hf
              refine r_callVi 75 rfl (A_X5_readsAny X (f_X5_readsOne 10) (10 * 8) (A_X5_readsOne X 10) 0 g25 v31 g29 e30) (by omega) cw_X5_50 sh_79 cl_5 rfl rfl (Nat.le_of_ble_eq_true rfl) (ck DX5_readsClause_0 42 rfl) ?_
              rcases if_so hf with ⟨c32, hf⟩ | ⟨c32, hf⟩
              · refine r_if_ne_t 78 rfl 80 (ck DX5_readsClause_0 43 rfl) (by decide) c32 ?_
                refine r_iconst 79 rfl ic_0 (ck DX5_readsClause_0 44 rfl) ?_
                obtain ⟨rfl, rfl⟩ := so2 hf
                exact r_iret rfl rfl (ck DX5_readsClause_0 45 rfl)
              · refine r_if_ne_f 80 (ck DX5_readsClause_0 43 rfl) (by decide) c32 ?_
                refine r_aload_n 81 rfl 2 rfl rfl (ck DX5_readsClause_0 46 rfl) ?_
                obtain ⟨w33, e34, hf⟩ := bo_so hf
                obtain ⟨b35, hf⟩ := gd_so hf
                have ow33 := oc_of b35
                refine r_gets 84 rfl e34 sh_79 kd_5_1 fl_X5_17 (ck DX5_readsClause_0 47 rfl) ?_
                refine r_bipush 86 rfl bp_59 (ck DX5_readsClause_0 48 rfl) ?_
                refine r_iconst 87 rfl ic_0 (ck DX5_readsClause_0 49 rfl) ?_
                refine r_iload_n 88 rfl 1 rfl rfl (ck DX5_readsClause_1 0 rfl) ?_
                rcases if_so hf with ⟨c36, hf⟩ | ⟨c36, hf⟩
                · refine r_if_ne_t 91 rfl 95 (ck DX5_readsClause_1 1 rfl) (by decide) c36 ?_
                  refine r_iload_n 92 rfl 0 rfl rfl (ck DX5_readsClause_1 2 rfl) ?_
                  refine r_goto 97 (ck DX5_readsClause_1 3 rfl) (by decide) ?_
                  obtain ⟨g37, e38, hf⟩ := bo_so hf
                  refine r_callVv 100 rfl (A_X2_add X w33 ow33 59 0 v11 g29 g37 e38) (by omega) cw_X5_53 ow33.1 cl_2 rfl rfl (Nat.le_of_ble_eq_true rfl) (ck DX5_readsClause_1 6 rfl) ?_
                  refine r_iconst 101 rfl ic_1 (ck DX5_readsClause_1 7 rfl) ?_
                  obtain ⟨rfl, rfl⟩ := so2 hf
                  exact r_iret rfl rfl (ck DX5_readsClause_1 8 rfl)
                · refine r_if_ne_f 95 (ck DX5_readsClause_1 1 rfl) (by decide) c36 ?_
                  refine r_iload_n 96 rfl 0 rfl rfl (ck DX5_readsClause_1 4 rfl) ?_
                  refine r_ineg 97 rfl (ck DX5_readsClause_1 5 rfl) ?_
                  obtain ⟨g39, e40, hf⟩ := bo_so hf
                  refine r_callVv 100 rfl (A_X2_add X w33 ow33 59 0 (-v11) g29 g39 e40) (by omega) cw_X5_53 ow33.1 cl_2 rfl rfl (Nat.le_of_ble_eq_true rfl) (ck DX5_readsClause_1 6 rfl) ?_
                  refine r_iconst 101 rfl ic_1 (ck DX5_readsClause_1 7 rfl) ?_
                  obtain ⟨rfl, rfl⟩ := so2 hf
                  exact r_iret rfl rfl (ck DX5_readsClause_1 8 rfl)
      · refine r_if_ge_f 29 rfl 31 (ck DX5_readsClause_0 15 rfl) (by decide) c12 ?_
        refine r_iconst 30 rfl ic_0 (ck DX5_readsClause_0 16 rfl) ?_
        obtain ⟨rfl, rfl⟩ := so2 hf
        exact r_iret rfl rfl (ck DX5_readsClause_0 17 rfl)
-- X5_readInto
def f_X5_readInto_L19 (q1 : Nat) (w3 : Nat) : Nat → Int32 → HP → Option (Int32 × HP)
  | 0, _, _ => none
  | n + 1, x2, h => if (10 : Int32) < x2 then (some ((h.1 79 2), h)) else (bd (f_X5_readsClause h) fun v13 g11 => if v13 = 0 then (some ((g11.1 79 2), g11)) else (if (g11.1 79 2) = (g11.1 79 3) then (some ((-1), g11)) else (if x2 = 10 then (some ((g11.1 79 2), g11)) else (bd (f_X5_takes 59 g11) fun v19 g17 => if v19 = 0 then (some ((g17.1 79 2), g17)) else (lt (x2 + 1 : Int32) fun v21 => f_X5_readInto_L19 q1 w3 n v21 g17)))))
set_option maxHeartbeats 4000000 in
set_option maxRecDepth 100000 in
theorem A_X5_readInto_L19 (X : XE) (q1 : Nat) (hq1 : OC q1) (w3 : Nat) (ow3 : OC w3) (r : Int32) (h' : HP) : ∀ (n : Nat) (x2 : Int32) (h : HP), f_X5_readInto_L19 q1 w3 n x2 h = some (r, h') → Run mX5_readInto 85 X 19 [(0, .ref (X.1 79)), (2, .int x2)] [] h (some (.int r)) h' := by
  intro n
  induction n with
  | zero => intro x2 h hf; cases hf
  | succ n ih =>
    intro x2 h hf
    rw [f_X5_readInto_L19] at hf
    refine r_iload_n 20 rfl 1 rfl rfl (ck DX5_readInto_0 11 rfl) ?_
    refine r_bipush 22 rfl bp_10 (ck DX5_readInto_0 12 rfl) ?_
    rcases if_so hf with ⟨c10, hf⟩ | ⟨c10, hf⟩
    · refine r_icmp_gt_t 76 (ck DX5_readInto_0 13 rfl) (by decide) c10 ?_
      refine r_aload_n 77 rfl 0 rfl rfl (ck DX5_readInto_0 39 rfl) ?_
      refine r_geti 80 rfl sh_79 kd_5_2 fl_X5_26 (ck DX5_readInto_0 40 rfl) ?_
      obtain ⟨rfl, rfl⟩ := so2 hf
      exact r_iret rfl rfl (ck DX5_readInto_0 41 rfl)
    · refine r_icmp_gt_f 25 rfl 76 (ck DX5_readInto_0 13 rfl) (by decide) c10 ?_
      refine r_aload_n 26 rfl 0 rfl rfl (ck DX5_readInto_0 14 rfl) ?_
      obtain ⟨v13, g11, e12, hf⟩ := bd_so hf
      refine r_callVi 29 rfl (A_X5_readsClause X h v13 g11 e12) (by omega) cw_X5_29 sh_79 cl_5 rfl rfl (Nat.le_of_ble_eq_true rfl) (ck DX5_readInto_0 15 rfl) ?_
      rcases if_so hf with ⟨c14, hf⟩ | ⟨c14, hf⟩
      · refine r_if_ne_t 32 rfl 37 (ck DX5_readInto_0 16 rfl) (by decide) c14 ?_
        refine r_aload_n 33 rfl 0 rfl rfl (ck DX5_readInto_0 17 rfl) ?_
        refine r_geti 36 rfl sh_79 kd_5_2 fl_X5_26 (ck DX5_readInto_0 18 rfl) ?_
        obtain ⟨rfl, rfl⟩ := so2 hf
        exact r_iret rfl rfl (ck DX5_readInto_0 19 rfl)
      · refine r_if_ne_f 37 (ck DX5_readInto_0 16 rfl) (by decide) c14 ?_
        refine r_aload_n 38 rfl 0 rfl rfl (ck DX5_readInto_0 20 rfl) ?_
        refine r_geti 41 rfl sh_79 kd_5_2 fl_X5_26 (ck DX5_readInto_0 21 rfl) ?_
        refine r_aload_n 42 rfl 0 rfl rfl (ck DX5_readInto_0 22 rfl) ?_
        refine r_geti 45 rfl sh_79 kd_5_3 fl_X5_13 (ck DX5_readInto_0 23 rfl) ?_
        rcases if_so hf with ⟨c15, hf⟩ | ⟨c15, hf⟩
        · refine r_icmp_ne_t 48 rfl 50 (ck DX5_readInto_0 24 rfl) (by decide) c15 ?_
          refine r_iconst 49 rfl ic_m1 (ck DX5_readInto_0 25 rfl) ?_
          obtain ⟨rfl, rfl⟩ := so2 hf
          exact r_iret rfl rfl (ck DX5_readInto_0 26 rfl)
        · refine r_icmp_ne_f 50 (ck DX5_readInto_0 24 rfl) (by decide) c15 ?_
          refine r_iload_n 51 rfl 1 rfl rfl (ck DX5_readInto_0 27 rfl) ?_
          refine r_bipush 53 rfl bp_10 (ck DX5_readInto_0 28 rfl) ?_
          rcases if_so hf with ⟨c16, hf⟩ | ⟨c16, hf⟩
          · refine r_icmp_eq_t 65 (ck DX5_readInto_0 29 rfl) (by decide) c16 ?_
            refine r_aload_n 66 rfl 0 rfl rfl (ck DX5_readInto_0 34 rfl) ?_
            refine r_geti 69 rfl sh_79 kd_5_2 fl_X5_26 (ck DX5_readInto_0 35 rfl) ?_
            obtain ⟨rfl, rfl⟩ := so2 hf
            exact r_iret rfl rfl (ck DX5_readInto_0 36 rfl)
          · refine r_icmp_eq_f 56 rfl 65 (ck DX5_readInto_0 29 rfl) (by decide) c16 ?_
            refine r_aload_n 57 rfl 0 rfl rfl (ck DX5_readInto_0 30 rfl) ?_
            refine r_bipush 59 rfl bp_59 (ck DX5_readInto_0 31 rfl) ?_
            obtain ⟨v19, g17, e18, hf⟩ := bd_so hf
            refine r_callVi 62 rfl (A_X5_takes X 59 g11 v19 g17 e18) (by omega) cw_X5_33 sh_79 cl_5 rfl rfl (Nat.le_of_ble_eq_true rfl) (ck DX5_readInto_0 32 rfl) ?_
            rcases if_so hf with ⟨c20, hf⟩ | ⟨c20, hf⟩
            · refine r_if_ne_t 65 rfl 70 (ck DX5_readInto_0 33 rfl) (by decide) c20 ?_
              refine r_aload_n 66 rfl 0 rfl rfl (ck DX5_readInto_0 34 rfl) ?_
              refine r_geti 69 rfl sh_79 kd_5_2 fl_X5_26 (ck DX5_readInto_0 35 rfl) ?_
              obtain ⟨rfl, rfl⟩ := so2 hf
              exact r_iret rfl rfl (ck DX5_readInto_0 36 rfl)
            · refine r_if_ne_f 70 (ck DX5_readInto_0 33 rfl) (by decide) c20 ?_
              obtain ⟨v21, e22, hf⟩ := lt_so hf
              refine r_iinc (lv' := [(2, .int v21), (0, .ref (X.1 79))]) 73 rfl 1 (ck DX5_readInto_0 37 rfl) rfl (by rw [e22, ic_1]) (by decide) rfl ?_
              refine r_goto 19 (ck DX5_readInto_0 38 rfl) (by decide) ?_
              refine r_sub (lv' := [(0, .ref (X.1 79)), (2, .int v21)]) [1, 0] rfl ?_
              exact ih v21 g17 hf
def f_X5_readInto (q1 : Nat) (h : HP) : Option (Int32 × HP) := lt (sr h 79 (some q1)) fun g1 => bo (g1.2.2 79) fun w3 => gd (isOc w3) (bo (f_X2_becomeCalm w3 g1) fun g6 => lt (si g6 79 2 0) fun g8 => f_X5_readInto_L19 q1 w3 FZ 1 g8)
set_option maxHeartbeats 4000000 in
set_option maxRecDepth 100000 in
theorem A_X5_readInto (X : XE) (q1 : Nat) (hq1 : OC q1) (h : HP) (r : Int32) (h' : HP) (hf : f_X5_readInto q1 h = some (r, h')) : CC mX5_readInto 85 X [.ref (X.1 79), .ref (X.1 q1)] h (some (.int r)) h' := by
  refine CC_of rfl (Nat.le_of_ble_eq_true rfl) ?_
  show Run mX5_readInto 85 X 0 [(0, .ref (X.1 79)), (1, .ref (X.1 q1))] [] h (some (.int r)) h'
  unfold f_X5_readInto at hf
  refine r_aload_n 1 rfl 0 rfl rfl (ck DX5_readInto_0 0 rfl) ?_
  refine r_aload_n 2 rfl 1 rfl rfl (ck DX5_readInto_0 1 rfl) ?_
  obtain ⟨g1, e2, hf⟩ := lt_so hf
  refine r_puts 5 rfl sh_79 kd_5_1 ho_T fw_X5_17 rfl rfl (ck DX5_readInto_0 2 rfl) ?_
  refine r_heap e2 ?_
  refine r_aload_n 6 rfl 0 rfl rfl (ck DX5_readInto_0 3 rfl) ?_
  obtain ⟨w3, e4, hf⟩ := bo_so hf
  obtain ⟨b5, hf⟩ := gd_so hf
  have ow3 := oc_of b5
  refine r_gets 9 rfl e4 sh_79 kd_5_1 fl_X5_17 (ck DX5_readInto_0 4 rfl) ?_
  obtain ⟨g6, e7, hf⟩ := bo_so hf
  refine r_callVv 12 rfl (A_X2_becomeCalm X w3 ow3 g1 g6 e7) (by omega) cw_X5_21 ow3.1 cl_2 rfl rfl (Nat.le_of_ble_eq_true rfl) (ck DX5_readInto_0 5 rfl) ?_
  refine r_aload_n 13 rfl 0 rfl rfl (ck DX5_readInto_0 6 rfl) ?_
  refine r_iconst 14 rfl ic_0 (ck DX5_readInto_0 7 rfl) ?_
  obtain ⟨g8, e9, hf⟩ := lt_so hf
  refine r_puti 17 rfl sh_79 kd_5_2 fw_X5_26 rfl rfl (ck DX5_readInto_0 8 rfl) ?_
  refine r_heap e9 ?_
  refine r_iconst 18 rfl ic_1 (ck DX5_readInto_0 9 rfl) ?_
  refine r_istore_n (lv' := [(2, .int 1), (0, .ref (X.1 79)), (1, .ref (X.1 q1))]) 19 rfl (ck DX5_readInto_0 10 rfl) (by decide) rfl rfl ?_
  refine r_sub (lv' := [(0, .ref (X.1 79)), (2, .int 1)]) [1, 0] rfl ?_
  exact A_X5_readInto_L19 X q1 hq1 w3 ow3 _ _ FZ 1 g8 hf
end
