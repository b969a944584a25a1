/-! count, trace, taken, judge, read, tape, item, shift -/
theorem IVq.ocn {O : OS} {n m : Nat} {T : Nat → OS} {h : HP} (w : IVq O n m T h) : h.1 0 11 = nI m ∧ h.1 96 13 = nI m := ⟨w.2.1.2.1, w.2.1.2.2.1⟩
theorem C_count {O : OS} {n m : Nat} {T : Nat → OS} {h : HP} (w : IVq O n m T h) (x1 : Int32) : ∃ r, f_X6_count x1 h = some r ∧ f_X7_count x1 h = some r := by
  have d := w.1
  have a0 : h.1 96 0 = h.1 6 7 := d.as (j := 0) (by omega)
  have a1 : h.1 96 1 = h.1 6 8 := d.as (j := 1) (by omega)
  have a2 : h.1 96 13 = h.1 0 11 := w.ocn.2.trans w.ocn.1.symm
  obtain ⟨-, -, ⟨k1, -, p1, p2, -⟩, ⟨k2, -, p3, p4, -⟩, ⟨k3, -, p5, p6, -⟩, -, ⟨s, -, t1, t2, -⟩, ⟨a, -, c1, c2, -⟩, -⟩ := w
  have e : f_X7_count x1 h = f_X6_count x1 h := by
    unfold f_X7_count f_X6_count
    rw [a0, a1, a2, p2, p4, p6, t2, c2, p1, p3, p5, t1, c1]
  have ex : ∃ r, f_X6_count x1 h = some r := by
    unfold f_X6_count
    repeat' split
    all_goals exact ⟨_, rfl⟩
  obtain ⟨r, er⟩ := ex
  exact ⟨r, er, e.trans er⟩
theorem C_trace {O : OS} {n m : Nat} {T : Nat → OS} {h : HP} (w : IVq O n m T h) (x1 : Int32) : ∃ r, f_X6_trace x1 h = some r ∧ f_X7_trace x1 h = some r := by
  obtain ⟨-, -, -, -, -, -, -, ⟨a, ha, c1, c2, c3⟩, -⟩ := w
  unfold f_X6_trace f_X7_trace
  rw [E_in, bo_s, c1, c2]
  by_cases q : x1 < 0
  · exact ⟨-1, by rw [if_pos q], by rw [show rng x1 0 19 = 0 from if_pos q, if_pos rfl]⟩
  · obtain ⟨j, hj, rfl⟩ := nI_of q
    rw [if_neg q]
    by_cases z : j < 20
    · have r1 : rng (nI j) 0 19 = 1 := by
        unfold rng
        rw [if_neg q, if_neg (by rw [show (19 : Int32) = nI 19 from rfl, lt_n (by omega) (by omega)]; omega)]
      rw [r1, if_neg one_ne]
      by_cases y : a ≤ j
      · have : nI a ≤ nI j := by rw [le_n (by omega) (by omega)]; exact y
        exact ⟨-1, by rw [if_pos this], by rw [if_pos this]⟩
      · have : ¬ nI a ≤ nI j := by rw [le_n (by omega) (by omega)]; exact y
        have i20 := inb_n z (show (20 : Nat) < 2147483648 by omega)
        refine ⟨h.1 140 j, ?_, ?_⟩
        · rw [if_neg this, if_neg (by rw [show (20 : Int32) = nI 20 from rfl, le_n (by omega) (by omega)]; omega), gd_b i20, cl_n (by omega), c3 j z (by omega)]
        · rw [if_neg this, gd_b i20, cl_n (by omega)]
    · have r1 : rng (nI j) 0 19 = 0 := by
        unfold rng
        rw [if_neg q, if_pos (by rw [show (19 : Int32) = nI 19 from rfl, lt_n (by omega) (by omega)]; omega)]
      have y : (20 : Int32) ≤ nI j := by rw [show (20 : Int32) = nI 20 from rfl, le_n (by omega) (by omega)]; omega
      refine ⟨-1, ?_, by rw [r1, if_pos rfl]⟩
      by_cases y2 : nI a ≤ nI j
      · rw [if_pos y2]
      · rw [if_neg y2, if_pos y]
theorem D6q.kind {n p : Nat} {h : HP} (d : D6q n h) (hp : p < 6) : ∃ k v, k ≤ 6 ∧ v ≤ 9 ∧ h.1 7 p = nI k ∧ h.1 97 p = nI k ∧ h.1 8 p = nI v ∧ h.1 98 p = nI v := by
  obtain ⟨n', k', w1, w2, w3, w4, w5, w6, w7, w8, w9, w12⟩ := d.2.2.2.1
  obtain ⟨-, -, ⟨v, hv, ev⟩, ⟨k, hk, ek⟩⟩ := w12 p hp
  rw [dv_a 6 h (by omega) hp] at ev ek
  exact ⟨k, v, hk, hv, ek, (d.al (i := 0) (by omega) hp).trans ek, ev, (d.al (i := 1) (by omega) hp).trans ev⟩
theorem taken_t (h : HP) (f : Nat) : ∀ kk k : Nat, kk ≤ 6 → k ≤ 6 → f_X6_taken_L43 h (f + 8) (nI k) (nI kk) (nI kk) 0 = (if nI k = 0 then some (nI kk) else if nI kk = nI k then some (nI kk) else if nI k = 1 then (if nI kk = 4 then some (nI kk) else f_X7_taken_J51 h (nI k) (nI kk)) else f_X7_taken_J51 h (nI k) (nI kk)) := by
  intro kk k h1 h2
  have a1 : kk = 0 ∨ kk = 1 ∨ kk = 2 ∨ kk = 3 ∨ kk = 4 ∨ kk = 5 ∨ kk = 6 := by omega
  have a2 : k = 0 ∨ k = 1 ∨ k = 2 ∨ k = 3 ∨ k = 4 ∨ k = 5 ∨ k = 6 := by omega
  rcases a1 with rfl | rfl | rfl | rfl | rfl | rfl | rfl <;> rcases a2 with rfl | rfl | rfl | rfl | rfl | rfl | rfl <;> rfl
theorem C_taken {O : OS} {n m : Nat} {T : Nat → OS} {h : HP} (w : IVq O n m T h) (x1 x2 : Int32) : ∃ r, f_X6_taken x1 x2 h = some r ∧ f_X7_taken x1 x2 h = some r := by
  have d := w.1
  have n6 := d.2.2.2.2.2.1
  have e0 := d.2.2.2.2.2.2
  have e9 := d.mv0
  rcases rngc x2 (lo := 0) (hi := 6) 0 6 rfl rfl (by omega) (by omega) with ⟨q1, -⟩ | ⟨k, -, hk, rfl, q1⟩
  · exact ⟨-2, by unfold f_X6_taken; rw [E_within, q1, bo_s, if_pos rfl], by unfold f_X7_taken; rw [E_in, q1, bo_s, if_pos rfl]⟩
  · rcases piecec x1 n6 with ⟨p1, p2, -⟩ | ⟨p, hp, rfl, p1, p2⟩
    · exact ⟨-11, by unfold f_X6_taken; rw [E_within, q1, bo_s, if_neg one_ne, E_hasq n h e0, p1, bo_s, if_pos rfl], by unfold f_X7_taken; rw [E_in, q1, bo_s, if_neg one_ne, E_isPq n h e9, p2, bo_s, if_pos rfl]⟩
    · obtain ⟨kk, v, hkk, -, k1, k2, -⟩ := d.kind (p := p) (by omega)
      have i6 := inb_n (show p < 6 by omega) (show (6 : Nat) < 2147483648 by omega)
      obtain ⟨f, hf⟩ : ∃ f, FZ = f + 8 := ⟨FZ - 8, by have := FZ_ge; omega⟩
      have key := taken_t h f kk k hkk hk
      have e6 : f_X6_taken (nI p) (nI k) h = f_X6_taken_L43 h (f + 8) (nI k) (nI kk) (nI kk) 0 := by
        unfold f_X6_taken; rw [E_within, q1, bo_s, if_neg one_ne, E_hasq n h e0, p1, bo_s, if_neg one_ne, gd_b i6, cl_n (by omega), k1, lt_e, hf]
      have e7 : f_X7_taken (nI p) (nI k) h = (if nI k = 0 then some (nI kk) else if nI kk = nI k then some (nI kk) else if nI k = 1 then (if nI kk = 4 then some (nI kk) else f_X7_taken_J51 h (nI k) (nI kk)) else f_X7_taken_J51 h (nI k) (nI kk)) := by
        unfold f_X7_taken; rw [E_in, q1, bo_s, if_neg one_ne, E_isPq n h e9, p2, bo_s, if_neg one_ne, gd_b i6, cl_n (by omega), k2, lt_e]
      have ex : ∃ r, f_X7_taken (nI p) (nI k) h = some r := by
        rw [e7]
        unfold f_X7_taken_J51
        repeat' split
        all_goals exact ⟨_, rfl⟩
      obtain ⟨r, er⟩ := ex
      exact ⟨r, by rw [e6, key, ← e7]; exact er, er⟩
theorem sizc (x : Int32) {z : Nat} (hz : z ≤ 100) : (rng x 0 (nI z - 1) = 0 ∧ ∀ j, j < z → x ≠ nI j) ∨ ∃ j, j < z ∧ x = nI j ∧ rng x 0 (nI z - 1) = 1 := by
  by_cases q : x < 0
  · left
    refine ⟨if_pos q, fun j hj e => ?_⟩
    subst e; exact nI_pos (by omega) q
  · obtain ⟨j, hj, rfl⟩ := nI_of q
    have key : nI z - 1 < nI j ↔ z ≤ j := by
      by_cases h0 : z = 0
      · subst h0
        have e : nI 0 - 1 = (-1 : Int32) := by decide
        rw [e, Int32.lt_iff_toInt_lt, nI_toInt hj]
        have : (-1 : Int32).toInt = -1 := by decide
        omega
      · rw [show (1 : Int32) = nI 1 from rfl, sub_n (by omega), lt_n (by omega) (by omega)]; omega
    by_cases q1 : z ≤ j
    · left
      refine ⟨?_, fun j' h1 e => ?_⟩
      · unfold rng; rw [if_neg q, if_pos (key.mpr q1)]
      · have := (eq_n (by omega) (by omega)).mp e; omega
    · right
      refine ⟨j, by omega, rfl, ?_⟩
      unfold rng; rw [if_neg q, if_neg (fun z => q1 (key.mp z))]
theorem lra6 (t : Nat) : lra 6 t = 84 + 2 * t := rfl
theorem sort_ne {q : Nat} (hq : q ≤ 4) : ¬ nI q = (-1 : Int32) := by
  intro e
  have := congrArg Int32.toInt e
  rw [nI_toInt (by omega)] at this
  have e2 : (-1 : Int32).toInt = -1 := by decide
  omega
theorem subI {z a : Nat} (hz : z < 2147483648) (ha : a < 2147483648) : (nI z - nI a).toInt = (z : Int) - a := by
  rw [Int32.toInt_sub, nI_toInt (by omega), nI_toInt (by omega)]
  exact Int.bmod_eq_of_le (by omega) (by omega)
theorem C_judge {O : OS} {n m : Nat} {T : Nat → OS} {h : HP} (w : IVq O n m T h) (x1 x2 : Int32) : ∃ r, f_X6_judge x1 x2 h = some r ∧ f_X7_judge x1 x2 h = some r := by
  have d := w.1
  have n6 := d.2.2.2.2.2.1
  have e0 := d.2.2.2.2.2.2
  have e9 := d.mv0
  rcases rngc x1 (lo := 0) (hi := 5) 0 5 rfl rfl (by omega) (by omega) with ⟨q1, -⟩ | ⟨t, -, ht, rfl, q1⟩
  · exact ⟨-1, by unfold f_X6_judge; rw [E_within, q1, bo_s, if_pos rfl], by unfold f_X7_judge; rw [E_isTape, q1, bo_s, if_pos rfl]⟩
  · obtain ⟨⟨z, hz, z1, z2, zs⟩, z3, z4⟩ := w.2.2.2.2.2.2.2.2 t (by omega)
    have i6 := inb_n (show t < 6 by omega) (show (6 : Nat) < 2147483648 by omega)
    have key : (h.1 141 t = -1 ∧ z = 0 ∨ h.1 141 t = nI 0) → ∀ (c p fuel : Nat), p + c = n → c < fuel → ∃ r, f_X6_judge_L39 (84 + 2 * t) h fuel x2 (nI p) = some r ∧ f_X7_judge_L24 h fuel (nI t) x2 (nI p) = some r := by
      intro hs c
      induction c with
      | zero =>
        intro p fuel hi hf
        obtain ⟨f, rfl⟩ : ∃ f, fuel = f + 1 := ⟨fuel - 1, by omega⟩
        have y : nI n ≤ nI p := by rw [le_n (by omega) (by omega)]; omega
        exact ⟨-5, by rw [f_X6_judge_L39, e0, if_pos y], by rw [f_X7_judge_L24, e9, if_pos y]⟩
      | succ c ih =>
        intro p fuel hi hf
        obtain ⟨f, rfl⟩ : ∃ f, fuel = f + 1 := ⟨fuel - 1, by omega⟩
        have y : ¬ nI n ≤ nI p := by rw [le_n (by omega) (by omega)]; omega
        have sg : (h.1 141 t < 0 ∧ z = 0) ∨ ¬ h.1 141 t < 0 := by
          rcases hs with ⟨a, b⟩ | a
          · left; exact ⟨by rw [a]; decide, b⟩
          · right; rw [a]; decide
        by_cases s0 : x2 < 0
        · refine ⟨100 + nI p, by rw [f_X6_judge_L39, e0, if_neg y, if_pos s0], ?_⟩
          rw [f_X7_judge_L24, e9, if_neg y, gd_b i6, cl_n (by omega)]
          by_cases s1 : h.1 141 t < 0
          · rw [if_pos s1]
          · rw [if_neg s1, if_pos s0]
        · obtain ⟨i, hi2, rfl⟩ := nI_of s0
          have lt6 : nI i < nI z - nI p ↔ i + p < z := by
            rw [Int32.lt_iff_toInt_lt, subI (by omega) (by omega), nI_toInt (by omega)]; omega
          have le7 : nI i ≤ nI z - nI p - 1 ↔ i + p < z := by
            rw [show nI z - nI p - 1 = nI z - nI (p + 1) by rw [← one_n]; grind, Int32.le_iff_toInt_le, subI (by omega) (by omega), nI_toInt (by omega)]; omega
          by_cases s1 : i + p < z
          · have sn : ¬ h.1 141 t < 0 := by
              rcases sg with ⟨_, b⟩ | a
              · omega
              · exact a
            have ix : nI i + nI p = nI (i + p) := add_n i p
            have ix7 : (60 : Int32) * nI t + nI i + nI p = nI (60 * t + (i + p)) := by
              rw [show (60 : Int32) = nI 60 from rfl, mul_n, add_n, add_n]; congr 1; omega
            have i60 := inb_n (show i + p < 60 by omega) (show (60 : Nat) < 2147483648 by omega)
            have i360 := inb_n (show 60 * t + (i + p) < 360 by omega) (show (360 : Nat) < 2147483648 by omega)
            have ip := inb_n (show p < 6 by omega) (show (6 : Nat) < 2147483648 by omega)
            have al : h.1 99 p = h.1 9 p := d.al (i := 2) (by omega) (by omega)
            have it : h.2.1 (84 + 2 * t + 1) (i + p) = h.2.1 143 (60 * t + (i + p)) := by
              rw [show 84 + 2 * t + 1 = 85 + 2 * t by omega]; exact z4 _ (by omega)
            obtain ⟨r, r1, r2⟩ := ih (p + 1) f (by omega) (by omega)
            by_cases s2 : lg_cmp (h.2.1 143 (60 * t + (i + p))) (Int32.toInt64 (h.1 9 p)) = 0
            · refine ⟨r, ?_, ?_⟩
              · rw [f_X6_judge_L39, e0, if_neg y, if_neg s0, z1, if_pos (lt6.mpr s1), ix, gd_b i60, gd_b ip, cl_n (by omega), cl_n (by omega), it, if_pos s2, lt_e, one_n]; exact r1
              · rw [f_X7_judge_L24, e9, if_neg y, gd_b i6, cl_n (by omega), if_neg sn, if_neg s0, gd_b i6, z2, if_pos (le7.mpr s1), ix7, gd_b i360, gd_b ip, cl_n (by omega), cl_n (by omega), al, if_pos s2, lt_e, one_n]; exact r2
            · refine ⟨nI p, ?_, ?_⟩
              · rw [f_X6_judge_L39, e0, if_neg y, if_neg s0, z1, if_pos (lt6.mpr s1), ix, gd_b i60, gd_b ip, cl_n (by omega), cl_n (by omega), it, if_neg s2]
              · rw [f_X7_judge_L24, e9, if_neg y, gd_b i6, cl_n (by omega), if_neg sn, if_neg s0, gd_b i6, z2, if_pos (le7.mpr s1), ix7, gd_b i360, gd_b ip, cl_n (by omega), cl_n (by omega), al, if_neg s2]
          · refine ⟨100 + nI p, by rw [f_X6_judge_L39, e0, if_neg y, if_neg s0, z1, if_neg (fun q => s1 (lt6.mp q))], ?_⟩
            rw [f_X7_judge_L24, e9, if_neg y, gd_b i6, cl_n (by omega)]
            by_cases s3 : h.1 141 t < 0
            · rw [if_pos s3]
            · rw [if_neg s3, if_neg s0, gd_b i6, z2, if_neg (fun q => s1 (le7.mp q))]
    unfold f_X6_judge f_X7_judge
    rw [E_within, q1, bo_s, if_neg one_ne, gd_b i6, lt_e, E_isTape, q1, bo_s, if_neg one_ne, gd_b i6, cl_n (by omega), lra6, z3]
    rcases zs with ⟨a, b⟩ | ⟨q, hq, a⟩
    · obtain ⟨r, r1, r2⟩ := key (Or.inl ⟨a, b⟩) n 0 FZ (by omega) (by have := FZ_ge; omega)
      exact ⟨r, by rw [if_pos a]; exact r1, by rw [a, if_pos (by decide)]; exact r2⟩
    · have nm := sort_ne hq
      by_cases y : q = 0
      · subst y
        obtain ⟨r, r1, r2⟩ := key (Or.inr a) n 0 FZ (by omega) (by have := FZ_ge; omega)
        exact ⟨r, by rw [a, if_neg nm, if_pos (show nI 0 = 0 from rfl)]; exact r1, by rw [a, if_pos (by decide)]; exact r2⟩
      · exact ⟨-12, by rw [a, if_neg nm, if_neg (show ¬ nI q = 0 from fun e => y ((eq_n (by omega) (by omega)).mp e))], by rw [a, if_neg (show ¬ nI q ≤ 0 from fun e => y (by have := (le_n (a := q) (b := 0) (by omega) (by omega)).mp e; omega))]⟩
theorem C_read {O : OS} {n m : Nat} {T : Nat → OS} {h : HP} (w : IVq O n m T h) (x1 x2 : Int32) : ∃ r, f_X6_read x1 x2 h = some r ∧ f_X7_read x1 x2 h = some r := by
  rcases rngc x1 (lo := 0) (hi := 5) 0 5 rfl rfl (by omega) (by omega) with ⟨q1, -⟩ | ⟨t, -, ht, rfl, q1⟩
  · exact ⟨-9223372036854775808, by unfold f_X6_read; rw [E_within, q1, bo_s, if_pos rfl], by unfold f_X7_read; rw [E_isTape, q1, bo_s, if_pos rfl]⟩
  · obtain ⟨⟨z, hz, z1, z2, zs⟩, z3, z4⟩ := w.2.2.2.2.2.2.2.2 t (by omega)
    have i6 := inb_n (show t < 6 by omega) (show (6 : Nat) < 2147483648 by omega)
    rcases sizc x2 (show z ≤ 100 by omega) with ⟨r1, -⟩ | ⟨j, hj, rfl, r1⟩
    · refine ⟨-9223372036854775808, ?_, ?_⟩
      · unfold f_X6_read; rw [E_within, q1, bo_s, if_neg one_ne, gd_b i6, lt_e, cl_n (by omega), lra6, z1, E_within, r1, bo_s, if_pos rfl]
      · unfold f_X7_read; rw [E_isTape, q1, bo_s, if_neg one_ne, gd_b i6, cl_n (by omega)]
        by_cases s : h.1 141 t < 0
        · rw [if_pos s]
        · rw [if_neg s, gd_b i6, z2, E_in, r1, bo_s, if_pos rfl]
    · have s : ¬ h.1 141 t < 0 := by
        rcases zs with ⟨_, b⟩ | ⟨q, hq, a⟩
        · omega
        · rw [a]; exact nI_pos (by omega)
      have ix7 : (60 : Int32) * nI t + nI j = nI (60 * t + j) := by rw [show (60 : Int32) = nI 60 from rfl, mul_n, add_n]
      refine ⟨h.2.1 143 (60 * t + j), ?_, ?_⟩
      · unfold f_X6_read; rw [E_within, q1, bo_s, if_neg one_ne, gd_b i6, lt_e, cl_n (by omega), lra6, z1, E_within, r1, bo_s, if_neg one_ne, gd_b i6, lt_e, gd_b (inb_n (by omega) (by omega)), cl_n (by omega), show 84 + 2 * t + 1 = 85 + 2 * t by omega, z4 j (by omega)]
      · unfold f_X7_read; rw [E_isTape, q1, bo_s, if_neg one_ne, gd_b i6, cl_n (by omega), if_neg s, gd_b i6, z2, E_in, r1, bo_s, if_neg one_ne, ix7, gd_b (inb_n (by omega) (by omega)), cl_n (by omega)]
