/-! item, shift -/
theorem cutv {o q : Nat} {h : HP} {y : Int64} (hq : q ≤ 4) (e : h.1 o 1 = nI q) : ∃ v, f_X4_cut o y h = some v ∧ f_X7_narrow (nI q) y = some v := by
  unfold f_X4_cut f_X7_narrow
  rw [e]
  simp only [lt_e]
  have a1 : q = 0 ∨ q = 1 ∨ q = 2 ∨ q = 3 ∨ q = 4 := by omega
  rcases a1 with rfl | rfl | rfl | rfl | rfl
  · exact ⟨_, if_pos rfl, if_pos rfl⟩
  · exact ⟨_, (if_neg (by decide)).trans (if_pos rfl), (if_neg (by decide)).trans (if_pos rfl)⟩
  · exact ⟨_, (if_neg (by decide)).trans ((if_neg (by decide)).trans (if_pos rfl)), (if_neg (by decide)).trans ((if_neg (by decide)).trans (if_pos rfl))⟩
  · exact ⟨_, (if_neg (by decide)).trans ((if_neg (by decide)).trans ((if_neg (by decide)).trans (if_pos rfl))), (if_neg (by decide)).trans ((if_neg (by decide)).trans ((if_neg (by decide)).trans (if_neg (by decide))))⟩
  · by_cases z : lg_cmp y 0 = 0
    · exact ⟨0, (if_neg (by decide)).trans ((if_neg (by decide)).trans ((if_neg (by decide)).trans ((if_neg (by decide)).trans ((if_pos rfl).trans (if_pos z))))), (if_neg (by decide)).trans ((if_neg (by decide)).trans ((if_neg (by decide)).trans ((if_pos rfl).trans (if_pos z))))⟩
    · exact ⟨1, (if_neg (by decide)).trans ((if_neg (by decide)).trans ((if_neg (by decide)).trans ((if_neg (by decide)).trans ((if_pos rfl).trans (if_neg z))))), (if_neg (by decide)).trans ((if_neg (by decide)).trans ((if_neg (by decide)).trans ((if_pos rfl).trans (if_neg z))))⟩
/-- items alone change, alike on both sides -/
theorem IVq.its {O : OS} {n m : Nat} {T : Nat → OS} {h h' : HP} (v : IVq O n m T h) (e1 : h'.1 = h.1) (e2 : h'.2.2 = h.2.2) (e3 : ∀ c, ¬ LTq c → h'.2.1 c = h.2.1 c) (e4 : ∀ t j, t < 6 → j < 60 → h'.2.1 (85 + 2 * t) j = h'.2.1 143 (60 * t + j)) : IVq O n m T h' := by
  refine v.tps ⟨fun c _ _ => by rw [e1], fun j _ => by rw [e1], e3, fun c _ => by rw [e2]⟩ (fun u hu => ?_)
  obtain ⟨z1, z2, z3⟩ := v.2.2.2.2.2.2.2.2 u hu
  rw [e1]
  exact ⟨z1, z2, fun j hj => e4 u j hu hj⟩
theorem C_item {O : OS} {n m : Nat} {T : Nat → OS} {h : HP} (w : IVq O n m T h) (x1 x2 : Int32) (y : Int64) : ∃ r h1 h2, f_X6_item x1 x2 y h = some (r, h1) ∧ f_X7_item x1 x2 y h1 = some (r, h2) ∧ IVxq h2 := by
  have stay : ∀ r, f_X6_item x1 x2 y h = some (r, h) → f_X7_item x1 x2 y h = some (r, h) → ∃ r h1 h2, f_X6_item x1 x2 y h = some (r, h1) ∧ f_X7_item x1 x2 y h1 = some (r, h2) ∧ IVxq h2 := fun r a b => ⟨r, h, h, a, b, O, n, m, T, w⟩
  rcases rngc x1 (lo := 0) (hi := 5) 0 5 rfl rfl (by omega) (by omega) with ⟨q1, -⟩ | ⟨t, -, ht, rfl, q1⟩
  · refine stay (-1) ?_ ?_
    · unfold f_X6_item; rw [E_within, q1, bo_s, if_pos rfl]
    · unfold f_X7_item; rw [E_isTape, q1, bo_s, if_pos rfl]
  · have i6 := inb_n (show t < 6 by omega) (show (6 : Nat) < 2147483648 by omega)
    obtain ⟨⟨z, hz, z1, z2, zs⟩, z3, z4⟩ := w.2.2.2.2.2.2.2.2 t (by omega)
    rcases zs with ⟨a, b⟩ | ⟨q, hq, a⟩
    · refine stay (-11) ?_ ?_
      · unfold f_X6_item; rw [E_within, q1, bo_s, if_neg one_ne, gd_b i6, lt_e, cl_n (by omega), lra6, z3, if_pos a]
      · unfold f_X7_item; rw [E_isTape, q1, bo_s, if_neg one_ne, gd_b i6, cl_n (by omega), a, if_neg (by decide)]
    · have nm := sort_ne hq
      have pos : (0 : Int32) ≤ nI q := Int32.not_lt.mp (nI_pos (by omega))
      rcases sizc x2 (show z ≤ 100 by omega) with ⟨r1, -⟩ | ⟨j, hj, rfl, r1⟩
      · refine stay (-13) ?_ ?_
        · unfold f_X6_item; rw [E_within, q1, bo_s, if_neg one_ne, gd_b i6, lt_e, cl_n (by omega), lra6, z3, a, if_neg nm, z1, E_within, r1, bo_s, if_pos rfl]
        · unfold f_X7_item; rw [E_isTape, q1, bo_s, if_neg one_ne, gd_b i6, cl_n (by omega), a, if_pos pos, gd_b i6, z2, E_in, r1, bo_s, if_pos rfl]
      · obtain ⟨v, v1, v2⟩ := cutv (o := 84 + 2 * t) (h := h) (y := y) hq (z3.trans a)
        have ix7 : (60 : Int32) * nI t + nI j = nI (60 * t + j) := by rw [show (60 : Int32) = nI 60 from rfl, mul_n, add_n]
        refine ⟨1, sl h (85 + 2 * t) j v, sl (sl h (85 + 2 * t) j v) 143 (60 * t + j) v, ?_, ?_, O, n, m, T, w.its rfl rfl (fun c hc => ?_) (fun u k hu hk => ?_)⟩
        · unfold f_X6_item; rw [E_within, q1, bo_s, if_neg one_ne, gd_b i6, lt_e, cl_n (by omega), lra6, z3, a, if_neg nm, z1, E_within, r1, bo_s, if_neg one_ne, v1, bo_s, gd_b (inb_n (by omega) (by omega)), cl_n (by omega), lt_e, show 84 + 2 * t + 1 = 85 + 2 * t by omega]
        · unfold f_X7_item; rw [sl_1, E_isTape, q1, bo_s, if_neg one_ne, gd_b i6, cl_n (by omega), a, if_pos pos, gd_b i6, z2, E_in, r1, bo_s, if_neg one_ne, gd_b i6, v2, bo_s, ix7, gd_b (inb_n (by omega) (by omega)), cl_n (by omega), lt_e]
        · unfold LTq at hc
          rw [sl_r (by omega), sl_r (by omega)]
        · have o := (w.2.2.2.2.2.2.2.2 u hu).2.2 k hk
          rw [sl_r (show 85 + 2 * u ≠ 143 by omega), sl_w, sl_r (show (143 : Nat) ≠ 85 + 2 * t by omega)]
          by_cases e : u = t
          · subst e
            rw [sl_w]
            by_cases e2 : k = j
            · subst e2; rw [up_s, up_s]
            · rw [up_n _ _ e2, up_n _ _ (by omega)]; exact o
          · rw [sl_r (show 85 + 2 * u ≠ 85 + 2 * t by omega), up_n _ _ (by omega)]; exact o
theorem B7_shift_L141 {u b k : Nat} (hu : u < 6) (hb : b + k ≤ 60) : ∀ (c i : Nat) (g : HP) (fuel : Nat), i + c = k → c < fuel → (∀ j, j < i → g.2.1 143 (60 * u + b + j) = g.2.1 144 j) → ∃ g', f_X7_shift_L141 fuel (nI u) (nI b) (nI k) (nI i) g = some (nI k, g') ∧ (∀ j, j < k → g'.2.1 143 (60 * u + b + j) = g.2.1 144 j) ∧ LW 143 (60 * u + b) (60 * u + b + k) g g' := by
  intro c
  induction c with
  | zero =>
    intro i g fuel hi hf e
    obtain ⟨f, rfl⟩ : ∃ f, fuel = f + 1 := ⟨fuel - 1, by omega⟩
    exact ⟨g, by rw [f_X7_shift_L141, if_pos (by rw [le_n (by omega) (by omega)]; omega)], fun j hj => e j (by omega), LW.rf⟩
  | succ c ih =>
    intro i g fuel hi hf e
    obtain ⟨f, rfl⟩ : ∃ f, fuel = f + 1 := ⟨fuel - 1, by omega⟩
    have ix7 : (60 : Int32) * nI u + nI b + nI i = nI (60 * u + b + i) := by rw [show (60 : Int32) = nI 60 from rfl, mul_n, add_n, add_n]
    obtain ⟨g', e1, e2, e3⟩ := ih (i + 1) (sl g 143 (60 * u + b + i) (g.2.1 144 i)) f (by omega) (by omega) (fun j hj => by
      rw [sl_w, sl_r (show (144 : Nat) ≠ 143 by omega)]
      by_cases z : j = i
      · subst z; rw [up_s]
      · rw [up_n _ _ (by omega)]; exact e j (by omega))
    refine ⟨g', ?_, fun j hj => (e2 j hj).trans (by rw [sl_r (show (144 : Nat) ≠ 143 by omega)]), e3.s (by omega) (by omega)⟩
    rw [f_X7_shift_L141, if_neg (by rw [le_n (by omega) (by omega)]; omega), gd_b (inb_n (by omega) (by omega)), ix7, gd_b (inb_n (by omega) (by omega)), cl_n (by omega), cl_n (by omega), lt_e, lt_e, one_n]
    exact e1
theorem B7_shift_L104 {t u a b k : Nat} (ht : t < 6) (ha : a + k ≤ 60) (x3 x4 : Int32) : ∀ (c i : Nat) (g : HP) (fuel : Nat), i + c = k → c < fuel → (∀ j, j < i → g.2.1 144 j = g.2.1 143 (60 * t + a + j)) → ∃ g', f_X7_shift_L104 fuel (nI t) (nI a) x3 x4 (nI k) (nI i) g = f_X7_shift_L141 FZ x3 x4 (nI k) 0 g' ∧ (∀ j, j < k → g'.2.1 144 j = g.2.1 143 (60 * t + a + j)) ∧ LW 144 0 60 g g' := by
  intro c
  induction c with
  | zero =>
    intro i g fuel hi hf e
    obtain ⟨f, rfl⟩ : ∃ f, fuel = f + 1 := ⟨fuel - 1, by omega⟩
    exact ⟨g, by rw [f_X7_shift_L104, if_pos (by rw [le_n (by omega) (by omega)]; omega)], fun j hj => e j (by omega), LW.rf⟩
  | succ c ih =>
    intro i g fuel hi hf e
    obtain ⟨f, rfl⟩ : ∃ f, fuel = f + 1 := ⟨fuel - 1, by omega⟩
    have ix7 : (60 : Int32) * nI t + nI a + nI i = nI (60 * t + a + i) := by rw [show (60 : Int32) = nI 60 from rfl, mul_n, add_n, add_n]
    obtain ⟨g', e1, e2, e3⟩ := ih (i + 1) (sl g 144 i (g.2.1 143 (60 * t + a + i))) f (by omega) (by omega) (fun j hj => by
      rw [sl_w, sl_r (show (143 : Nat) ≠ 144 by omega)]
      by_cases z : j = i
      · subst z; rw [up_s]
      · rw [up_n _ _ (by omega)]; exact e j (by omega))
    refine ⟨g', ?_, fun j hj => (e2 j hj).trans (by rw [sl_r (show (143 : Nat) ≠ 144 by omega)]), e3.s (by omega) (by omega)⟩
    rw [f_X7_shift_L104, if_neg (by rw [le_n (by omega) (by omega)]; omega), ix7, gd_b (inb_n (by omega) (by omega)), gd_b (inb_n (by omega) (by omega)), cl_n (by omega), cl_n (by omega), lt_e, lt_e, one_n]
    exact e1
theorem C_shift {O : OS} {n m : Nat} {T : Nat → OS} {h : HP} (w : IVq O n m T h) (x1 x2 x3 x4 x5 : Int32) : ∃ r h1 h2, f_X6_shift x1 x2 x3 x4 x5 h = some (r, h1) ∧ f_X7_shift x1 x2 x3 x4 x5 h1 = some (r, h2) ∧ IVxq h2 := by
  have stay : ∀ r, f_X6_shift x1 x2 x3 x4 x5 h = some (r, h) → f_X7_shift x1 x2 x3 x4 x5 h = some (r, h) → ∃ r h1 h2, f_X6_shift x1 x2 x3 x4 x5 h = some (r, h1) ∧ f_X7_shift x1 x2 x3 x4 x5 h1 = some (r, h2) ∧ IVxq h2 := fun r a b => ⟨r, h, h, a, b, O, n, m, T, w⟩
  rcases rngc x1 (lo := 0) (hi := 5) 0 5 rfl rfl (by omega) (by omega) with ⟨q1, -⟩ | ⟨t, -, ht, rfl, q1⟩
  · refine stay (-1) ?_ ?_
    · unfold f_X6_shift; rw [E_within, q1, bo_s, if_pos rfl]
    · unfold f_X7_shift; rw [E_isTape, q1, bo_s, if_pos rfl]
  · rcases rngc x3 (lo := 0) (hi := 5) 0 5 rfl rfl (by omega) (by omega) with ⟨q3, -⟩ | ⟨u, -, hu, rfl, q3⟩
    · refine stay (-1) ?_ ?_
      · unfold f_X6_shift; rw [E_within, q1, bo_s, if_neg one_ne, E_within, q3, bo_s, if_pos rfl]
      · unfold f_X7_shift; rw [E_isTape, q1, bo_s, if_neg one_ne, E_isTape, q3, bo_s, if_pos rfl]
    · have i6 := inb_n (show t < 6 by omega) (show (6 : Nat) < 2147483648 by omega)
      have j6 := inb_n (show u < 6 by omega) (show (6 : Nat) < 2147483648 by omega)
      obtain ⟨⟨z, hz, z1, z2, zs⟩, z3, z4⟩ := w.2.2.2.2.2.2.2.2 t (by omega)
      obtain ⟨⟨y, hy, y1, y2, ys⟩, y3, y4⟩ := w.2.2.2.2.2.2.2.2 u (by omega)
      have h6 : ∀ R, (f_X6_shift (nI t) x2 (nI u) x4 x5 h = R) = ((if h.1 141 t = -1 then some (-11, h) else if h.1 141 u = -1 then some (-11, h) else if h.1 141 t = h.1 141 u then (if x5 < 0 then (some ((-13), h)) else (if x2 < 0 then (some ((-13), h)) else (if x4 < 0 then (some ((-13), h)) else (if (nI z - x2) < x5 then (some ((-13), h)) else (if x5 ≤ (nI y - x4) then (gd (cpk x2 x5 60) (gd (cpk x4 x5 60) (lt (cl h (84 + 2 * t + 1) (84 + 2 * u + 1) x2 x4 x5) fun g23 => some (x5, g23)))) else (some ((-13), h))))))) else some (-12, h)) = R) := fun R => by
        unfold f_X6_shift; rw [E_within, q1, bo_s, if_neg one_ne, E_within, q3, bo_s, if_neg one_ne, gd_b i6, cl_n (by omega), lra6, lt_e, gd_b j6, cl_n (by omega), lra6, lt_e, z3, y3, z1, y1]
      have h7 : ∀ g : HP, g.1 = h.1 → f_X7_shift (nI t) x2 (nI u) x4 x5 g = (if h.1 141 t < 0 then some (-11, g) else if 0 ≤ h.1 141 u then (if h.1 141 t = h.1 141 u then (if x5 < 0 then (some ((-13), g)) else (if x2 < 0 then (some ((-13), g)) else (if x4 < 0 then (some ((-13), g)) else (if (nI z - x5) < x2 then (some ((-13), g)) else (if x4 ≤ (nI y - x5) then (f_X7_shift_L104 FZ (nI t) x2 (nI u) x4 x5 0 g) else (some ((-13), g))))))) else some (-12, g)) else some (-11, g)) := fun g eg => by
        unfold f_X7_shift; rw [E_isTape, q1, bo_s, if_neg one_ne, E_isTape, q3, bo_s, if_neg one_ne, eg]; simp only [gd_b i6, gd_b j6, cl_n (show t < 2147483648 by omega), cl_n (show u < 2147483648 by omega), z2, y2]
      have h7' := h7 h rfl
      rcases zs with ⟨a, b⟩ | ⟨q, hq, a⟩
      · exact stay (-11) (by rw [h6, if_pos a]) (by rw [h7', if_pos (by rw [a]; decide)])
      · have na : ¬ h.1 141 t = -1 := by rw [a]; exact sort_ne hq
        have na2 : ¬ h.1 141 t < 0 := by rw [a]; exact nI_pos (by omega)
        rcases ys with ⟨a', b'⟩ | ⟨q', hq', a'⟩
        · exact stay (-11) (by rw [h6, if_neg na, if_pos a']) (by rw [h7', if_neg na2, if_neg (by rw [a']; decide)])
        · have nb : ¬ h.1 141 u = -1 := by rw [a']; exact sort_ne hq'
          have nb2 : 0 ≤ h.1 141 u := by rw [a']; exact Int32.not_lt.mp (nI_pos (by omega))
          by_cases s : h.1 141 t = h.1 141 u
          · by_cases c5 : x5 < 0
            · exact stay (-13) (by rw [h6, if_neg na, if_neg nb, if_pos s, if_pos c5]) (by rw [h7', if_neg na2, if_pos nb2, if_pos s, if_pos c5])
            · by_cases c2 : x2 < 0
              · exact stay (-13) (by rw [h6, if_neg na, if_neg nb, if_pos s, if_neg c5, if_pos c2]) (by rw [h7', if_neg na2, if_pos nb2, if_pos s, if_neg c5, if_pos c2])
              · by_cases c4 : x4 < 0
                · exact stay (-13) (by rw [h6, if_neg na, if_neg nb, if_pos s, if_neg c5, if_neg c2, if_pos c4]) (by rw [h7', if_neg na2, if_pos nb2, if_pos s, if_neg c5, if_neg c2, if_pos c4])
                · obtain ⟨k, hk, rfl⟩ := nI_of c5
                  obtain ⟨i, hi, rfl⟩ := nI_of c2
                  obtain ⟨j, hj, rfl⟩ := nI_of c4
                  have l6 : nI z - nI i < nI k ↔ z < i + k := by rw [Int32.lt_iff_toInt_lt, subI (by omega) (by omega), nI_toInt (by omega)]; omega
                  have l7 : nI z - nI k < nI i ↔ z < i + k := by rw [Int32.lt_iff_toInt_lt, subI (by omega) (by omega), nI_toInt (by omega)]; omega
                  have m6 : nI k ≤ nI y - nI j ↔ j + k ≤ y := by rw [Int32.le_iff_toInt_le, subI (by omega) (by omega), nI_toInt (by omega)]; omega
                  have m7 : nI j ≤ nI y - nI k ↔ j + k ≤ y := by rw [Int32.le_iff_toInt_le, subI (by omega) (by omega), nI_toInt (by omega)]; omega
                  by_cases c : z < i + k
                  · exact stay (-13) (by rw [h6, if_neg na, if_neg nb, if_pos s, if_neg c5, if_neg c2, if_neg c4, if_pos (l6.mpr c)]) (by rw [h7', if_neg na2, if_pos nb2, if_pos s, if_neg c5, if_neg c2, if_neg c4, if_pos (l7.mpr c)])
                  · by_cases e : j + k ≤ y
                    · have k6 : ∀ i', i' + k ≤ 60 → cpk (nI i') (nI k) 60 = true := fun i' hi' => by
                        simp only [cpk, Bool.and_eq_true, Bool.not_eq_true', decide_eq_false_iff_not, decide_eq_true_eq, cl_n (show i' < 2147483648 by omega), cl_n (show k < 2147483648 by omega)]
                        exact ⟨⟨nI_pos (by omega), nI_pos (by omega)⟩, hi'⟩
                      have al : 84 + 2 * t + 1 = 85 + 2 * t := by omega
                      have al2 : 84 + 2 * u + 1 = 85 + 2 * u := by omega
                      generalize hg : cl h (85 + 2 * t) (85 + 2 * u) (nI i) (nI j) (nI k) = g
                      have g1 : g.1 = h.1 := by rw [← hg]; rfl
                      have g3 : g.2.2 = h.2.2 := by rw [← hg]; rfl
                      have g2 : ∀ c x, g.2.1 c x = if c = 85 + 2 * u then (if j ≤ x ∧ x < j + k then h.2.1 (85 + 2 * t) (i + (x - j)) else h.2.1 c x) else h.2.1 c x := fun c x => by
                        rw [← hg, cpl_2, cl_n (by omega), cl_n (by omega), cl_n (by omega)]
                      have gr : ∀ c, c ≠ 85 + 2 * u → g.2.1 c = h.2.1 c := fun c hc => by funext x; rw [g2, if_neg hc]
                      obtain ⟨p, p1, p2, p3⟩ := B7_shift_L104 (t := t) (u := u) (a := i) (b := j) (k := k) (by omega) (by omega) (nI u) (nI j) k 0 g FZ (by omega) (by have := FZ_ge; omega) (fun j hj => by omega)
                      obtain ⟨p', p1', p2', p3'⟩ := B7_shift_L141 (u := u) (b := j) (k := k) (by omega) (by omega) k 0 p FZ (by omega) (by have := FZ_ge; omega) (fun j hj => by omega)
                      refine ⟨nI k, g, p', ?_, ?_, O, n, m, T, w.its ?_ ?_ (fun c hc => ?_) (fun v x hv hx => ?_)⟩
                      · rw [h6, if_neg na, if_neg nb, if_pos s, if_neg c5, if_neg c2, if_neg c4, if_neg (fun q => c (l6.mp q)), if_pos (m6.mpr e), gd_b (k6 i (by omega)), gd_b (k6 j (by omega)), lt_e, al, al2, hg]
                      · rw [h7 g g1, if_neg na2, if_pos nb2, if_pos s, if_neg c5, if_neg c2, if_neg c4, if_neg (fun q => c (l7.mp q)), if_pos (m7.mpr e)]
                        exact Eq.trans p1 p1'
                      · rw [p3'.1, p3.1, g1]
                      · rw [p3'.2.1, p3.2.1, g3]
                      · unfold LTq at hc
                        rw [p3'.2.2.1 c (by omega), p3.2.2.1 c (by omega), gr c (by omega)]
                      · have o := (w.2.2.2.2.2.2.2.2 v hv).2.2 x hx
                        rw [p3'.2.2.1 _ (by omega), p3.2.2.1 _ (by omega), g2]
                        by_cases ev : v = u
                        · subst ev
                          rw [if_pos rfl]
                          by_cases ex : j ≤ x ∧ x < j + k
                          · have o2 := p2' (x - j) (by omega)
                            have o3 := p2 (x - j) (by omega)
                            rw [show 60 * v + j + (x - j) = 60 * v + x by omega] at o2
                            rw [if_pos ex, o2, o3, gr 143 (by omega), z4 _ (by omega), show 60 * t + i + (x - j) = 60 * t + (i + (x - j)) by omega]
                          · rw [if_neg ex, p3'.2.2.2 _ (by omega), p3.2.2.1 _ (by omega), gr 143 (by omega)]
                            exact o
                        · rw [if_neg (by omega), p3'.2.2.2 _ (by omega), p3.2.2.1 _ (by omega), gr 143 (by omega)]
                          exact o
                    · exact stay (-13) (by rw [h6, if_neg na, if_neg nb, if_pos s, if_neg c5, if_neg c2, if_neg c4, if_neg (fun q => c (l6.mp q)), if_neg (fun q => e (m6.mp q))]) (by rw [h7', if_neg na2, if_pos nb2, if_pos s, if_neg c5, if_neg c2, if_neg c4, if_neg (fun q => c (l7.mp q)), if_neg (fun q => e (m7.mp q))])
          · exact stay (-12) (by rw [h6, if_neg na, if_neg nb, if_neg s]) (by rw [h7', if_neg na2, if_pos nb2, if_neg s])
