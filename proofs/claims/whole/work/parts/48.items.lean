/-! tape, item, shift -/
def STq (c : Nat) : Prop := 84 ≤ c ∧ c ≤ 95 ∨ 141 ≤ c ∧ c ≤ 142
def LTq (c : Nat) : Prop := 84 ≤ c ∧ c ≤ 95 ∨ 143 ≤ c ∧ c ≤ 144
theorem IVq.tps {O : OS} {n m : Nat} {T : Nat → OS} {h h' : HP} (v : IVq O n m T h) (f : Kq STq N_q LTq N_q h h') (t' : TPSq h') : IVq O n m T h' := by
  obtain ⟨d, o, s, p, b, i, t, a, tp⟩ := v
  have c2 : ∀ c, ¬ (84 ≤ c ∧ c ≤ 95) → ¬ (141 ≤ c ∧ c ≤ 142) → ¬ STq c := fun c a1 a2 z => by unfold STq at z; omega
  exact ⟨d.kp f (fun c _ _ => c2 c (by omega) (by omega)) (fun c _ _ => c2 c (by omega) (by omega)) (fun j _ z => z) (fun z => z) (fun z => z),
    o.kp f (c2 _ (by omega) (by omega)) (fun c z => c2 c (by unfold OCcq at z; omega) (by unfold OCcq at z; omega)) (fun c _ _ => c2 c (by omega) (by omega)) (fun z => z) (fun z => z) (fun z => z),
    s.kp f (by omega) (by omega) (fun c _ _ => c2 c (by omega) (by omega)) (fun c _ _ => c2 c (by omega) (by omega)) (fun z => z),
    p.kp f (by omega) (by omega) (fun c _ _ => c2 c (by omega) (by omega)) (fun c _ _ => c2 c (by omega) (by omega)) (fun z => z),
    b.kp f (by omega) (by omega) (fun c _ _ => c2 c (by omega) (by omega)) (fun c _ _ => c2 c (by omega) (by omega)) (fun z => z),
    i.kp f (c2 _ (by omega) (by omega)) (fun c _ _ => c2 c (by omega) (by omega)) (fun c _ _ => c2 c (by omega) (by omega)) (fun c _ _ => c2 c (by omega) (by omega)) (fun j _ _ z => z) (fun z => z),
    t.kp f (c2 _ (by omega) (by omega)) (c2 _ (by omega) (by omega)) (c2 _ (by omega) (by omega)) (c2 _ (by omega) (by omega)) (fun z => z),
    a.kp f (c2 _ (by omega) (by omega)) (c2 _ (by omega) (by omega)) (c2 _ (by omega) (by omega)) (fun z => z),
    t'⟩
/-- only places of one row of longs change -/
def LW (q lo hi : Nat) (g g' : HP) : Prop := g'.1 = g.1 ∧ g'.2.2 = g.2.2 ∧ (∀ c, c ≠ q → g'.2.1 c = g.2.1 c) ∧ ∀ j, ¬ (lo ≤ j ∧ j < hi) → g'.2.1 q j = g.2.1 q j
theorem LW.rf {q lo hi : Nat} {g : HP} : LW q lo hi g g := ⟨rfl, rfl, fun _ _ => rfl, fun _ _ => rfl⟩
theorem sl_w (h : HP) (k j : Nat) (v : Int64) : (sl h k j v).2.1 k = va_up (h.2.1 k) j v := by funext a; simp [sl, va_up]
theorem sl_r {h : HP} {k j : Nat} {v : Int64} {c : Nat} (hc : c ≠ k) : (sl h k j v).2.1 c = h.2.1 c := by funext a; rw [sl_2, if_neg hc]
theorem LW.s {q lo hi j : Nat} {g g' : HP} {v : Int64} (a : LW q lo hi (sl g q j v) g') (h1 : lo ≤ j) (h2 : j < hi) : LW q lo hi g g' :=
  ⟨a.1, a.2.1, fun c hc => (a.2.2.1 c hc).trans (sl_r hc), fun x hx => (a.2.2.2 x hx).trans (by rw [sl_w, up_n _ _ (show x ≠ j by omega)])⟩
theorem B4_become_L12 {o : Nat} : ∀ (c i : Nat) (g : HP) (fuel : Nat), i + c = 60 → c < fuel → (∀ j, j < i → g.2.1 (o + 1) j = 0) → ∃ g', f_X4_become_L12 o fuel (nI i) g = some g' ∧ (∀ j, j < 60 → g'.2.1 (o + 1) j = 0) ∧ LW (o + 1) 0 60 g g' := by
  intro c
  induction c with
  | zero =>
    intro i g fuel hi hf e
    obtain ⟨f, rfl⟩ : ∃ f, fuel = f + 1 := ⟨fuel - 1, by omega⟩
    exact ⟨g, by rw [f_X4_become_L12, if_pos (by rw [show (60 : Int32) = nI 60 from rfl, le_n (by omega) (by omega)]; omega)], fun j hj => e j (by omega), LW.rf⟩
  | succ c ih =>
    intro i g fuel hi hf e
    obtain ⟨f, rfl⟩ : ∃ f, fuel = f + 1 := ⟨fuel - 1, by omega⟩
    obtain ⟨g', e1, e2, e3⟩ := ih (i + 1) (sl g (o + 1) i 0) f (by omega) (by omega) (fun j hj => by
      rw [sl_w]
      by_cases z : j = i
      · subst z; rw [up_s]
      · rw [up_n _ _ z]; exact e j (by omega))
    refine ⟨g', ?_, e2, e3.s (by omega) (by omega)⟩
    rw [f_X4_become_L12, if_neg (by rw [show (60 : Int32) = nI 60 from rfl, le_n (by omega) (by omega)]; omega), gd_b (inb_n (by omega) (by omega)), cl_n (by omega), lt_e, lt_e, one_n]
    exact e1
theorem B7_tape_L69 {t : Nat} (ht : t < 6) : ∀ (c i : Nat) (g : HP) (fuel : Nat), i + c = 60 → c < fuel → (∀ j, j < i → g.2.1 143 (60 * t + j) = 0) → ∃ g', f_X7_tape_L69 fuel (nI t) (nI i) g = some (1, g') ∧ (∀ j, j < 60 → g'.2.1 143 (60 * t + j) = 0) ∧ LW 143 (60 * t) (60 * t + 60) g g' := by
  intro c
  induction c with
  | zero =>
    intro i g fuel hi hf e
    obtain ⟨f, rfl⟩ : ∃ f, fuel = f + 1 := ⟨fuel - 1, by omega⟩
    exact ⟨g, by rw [f_X7_tape_L69, if_pos (by rw [show (60 : Int32) = nI 60 from rfl, le_n (by omega) (by omega)]; omega)], fun j hj => e j (by omega), LW.rf⟩
  | succ c ih =>
    intro i g fuel hi hf e
    obtain ⟨f, rfl⟩ : ∃ f, fuel = f + 1 := ⟨fuel - 1, by omega⟩
    have ix7 : (60 : Int32) * nI t + nI i = nI (60 * t + i) := by rw [show (60 : Int32) = nI 60 from rfl, mul_n, add_n]
    obtain ⟨g', e1, e2, e3⟩ := ih (i + 1) (sl g 143 (60 * t + i) 0) f (by omega) (by omega) (fun j hj => by
      rw [sl_w]
      by_cases z : j = i
      · subst z; rw [up_s]
      · rw [up_n _ _ (by omega)]; exact e j (by omega))
    refine ⟨g', ?_, e2, e3.s (by omega) (by omega)⟩
    rw [f_X7_tape_L69, if_neg (by rw [show (60 : Int32) = nI 60 from rfl, le_n (by omega) (by omega)]; omega), ix7, gd_b (inb_n (by omega) (by omega)), cl_n (by omega), lt_e, lt_e, one_n]
    exact e1
/-- a tape becomes another on both sides -/
theorem tape_go {O : OS} {n m : Nat} {T : Nat → OS} {h : HP} {t z : Nat} {s x3 : Int32} (w : IVq O n m T h) (ht : t < 6) (hz : z ≤ 60) (hs : s = -1 ∧ z = 0 ∨ (∃ q, q ≤ 4 ∧ s = nI q) ∧ x3 = nI z) : ∃ h1 h2, f_X4_become (84 + 2 * t) s (nI z) h = some h1 ∧ f_X7_tape_J44 (nI t) s x3 h1 = some (1, h2) ∧ IVxq h2 := by
  have i6 := inb_n (show t < 6 by omega) (show (6 : Nat) < 2147483648 by omega)
  obtain ⟨g, e1, e2, e3⟩ := B4_become_L12 (o := 84 + 2 * t) 60 0 (si (si h (84 + 2 * t) 1 s) (84 + 2 * t) 2 (nI z)) FZ (by omega) (by have := FZ_ge; omega) (fun j hj => by omega)
  obtain ⟨g', f1, f2, f3⟩ := B7_tape_L69 ht 60 0 (si (si g 141 t s) 142 t (nI z)) FZ (by omega) (by have := FZ_ge; omega) (fun j hj => by omega)
  refine ⟨g, g', ?_, ?_, O, n, m, T, w.tps ⟨fun c hc q => ?_, fun j _ => ?_, fun c q => ?_, fun c _ => ?_⟩ ?_⟩
  · unfold f_X4_become; rw [lt_e, lt_e]; exact e1
  · unfold f_X7_tape_J44
    rw [gd_b i6, cl_n (by omega), lt_e]
    rcases hs with ⟨a, b⟩ | ⟨⟨q, hq, a⟩, b⟩
    · subst b
      rw [if_neg (by rw [a]; decide), gd_b i6, lt_e]
      exact f1
    · rw [if_pos (by rw [a, show (0 : Int32) = nI 0 from rfl, le_n (by omega) (by omega)]; omega), gd_b i6, lt_e, b]
      exact f1
  · unfold STq at q
    rw [f3.1, si_r (by omega), si_r (by omega), e3.1, si_r (by omega), si_r (by omega)]
  · rw [f3.1, si_r (by omega), si_r (by omega), e3.1, si_r (by omega), si_r (by omega)]
  · unfold LTq at q
    rw [f3.2.2.1 c (by omega)]
    show g.2.1 c = h.2.1 c
    rw [e3.2.2.1 c (by omega)]
    rfl
  · rw [f3.2.1]
    show g.2.2 c = h.2.2 c
    rw [e3.2.1]
    rfl
  · intro u hu
    have o1 : ∀ c, 84 ≤ c → c ≤ 95 → g'.1 c = (si (si h (84 + 2 * t) 1 s) (84 + 2 * t) 2 (nI z)).1 c := fun c a b => by rw [f3.1, si_r (by omega), si_r (by omega), e3.1]
    have o2 : g'.1 141 u = va_up (h.1 141) t s u := by
      rw [f3.1, si_r (by omega), si_w]
      rw [e3.1, si_r (by omega), si_r (by omega)]
    have o3 : g'.1 142 u = va_up (h.1 142) t (nI z) u := by
      rw [f3.1, si_w, si_r (by omega), e3.1, si_r (by omega), si_r (by omega)]
    by_cases e : u = t
    · subst e
      rw [o2, o3, up_s, up_s, o1 _ (by omega) (by omega), si_w, up_s, up_n _ _ (by omega), si_w, up_s]
      refine ⟨⟨z, hz, rfl, rfl, ?_⟩, rfl, fun j hj => ?_⟩
      · rcases hs with ⟨a, b⟩ | ⟨a, b⟩
        · exact Or.inl ⟨a, b⟩
        · exact Or.inr a
      · rw [f2 j hj, f3.2.2.1 _ (by omega)]
        show g.2.1 (85 + 2 * u) j = 0
        rw [show 85 + 2 * u = 84 + 2 * u + 1 by omega]
        exact e2 j hj
    · rw [o2, o3, up_n _ _ e, up_n _ _ e, o1 _ (by omega) (by omega), si_r (by omega), si_r (by omega)]
      obtain ⟨z1, z2, z3⟩ := w.2.2.2.2.2.2.2.2 u hu
      refine ⟨z1, z2, fun j hj => ?_⟩
      rw [f3.2.2.1 _ (by omega), f3.2.2.2 _ (by omega)]
      show g.2.1 (85 + 2 * u) j = g.2.1 143 (60 * u + j)
      rw [e3.2.2.1 _ (by omega), e3.2.2.1 _ (by omega)]
      exact z3 j hj
theorem C_tape {O : OS} {n m : Nat} {T : Nat → OS} {h : HP} (w : IVq O n m T h) (x1 x2 x3 : Int32) : ∃ r h1 h2, f_X6_tape x1 x2 x3 h = some (r, h1) ∧ f_X7_tape x1 x2 x3 h1 = some (r, h2) ∧ IVxq h2 := by
  have stay : ∀ r, f_X6_tape x1 x2 x3 h = some (r, h) → f_X7_tape x1 x2 x3 h = some (r, h) → ∃ r h1 h2, f_X6_tape x1 x2 x3 h = some (r, h1) ∧ f_X7_tape x1 x2 x3 h1 = some (r, h2) ∧ IVxq h2 := fun r a b => ⟨r, h, h, a, b, O, n, m, T, w⟩
  rcases rngc x1 (lo := 0) (hi := 5) 0 5 rfl rfl (by omega) (by omega) with ⟨q1, -⟩ | ⟨t, -, ht, rfl, q1⟩
  · refine stay (-1) ?_ ?_
    · unfold f_X6_tape; rw [E_within, q1, bo_s, if_pos rfl]
    · unfold f_X7_tape; rw [E_isTape, q1, bo_s, if_pos rfl]
  · have i6 := inb_n (show t < 6 by omega) (show (6 : Nat) < 2147483648 by omega)
    by_cases z : x2 = -1
    · subst z
      obtain ⟨h1, h2, a, b, c⟩ := tape_go (t := t) (z := 0) (s := -1) (x3 := x3) w (by omega) (by omega) (Or.inl ⟨rfl, rfl⟩)
      have a' : f_X4_become (84 + 2 * t) (-1) 0 h = some h1 := a
      refine ⟨1, h1, h2, ?_, ?_, c⟩
      · unfold f_X6_tape; rw [E_within, q1, bo_s, if_neg one_ne, if_pos rfl, gd_b i6, cl_n (by omega), lra6, lt_e, a', bo_s]
      · unfold f_X7_tape; rw [E_isTape, q1, bo_s, if_neg one_ne, E_in, show rng (-1) (-1) 4 = 1 from rfl, bo_s, if_neg one_ne, if_pos (by decide), if_pos (by decide)]; exact b
    · rcases rngc x2 (lo := 0) (hi := 4) 0 4 rfl rfl (by omega) (by omega) with ⟨q2, nq⟩ | ⟨q, -, hq, rfl, q2⟩
      · have r7 : rng x2 (-1) 4 = 0 := by
          unfold rng at q2 ⊢
          by_cases y : x2 < -1
          · rw [if_pos y]
          · rw [if_neg y]
            by_cases y2 : x2 < 0
            · exfalso
              apply z
              have e1 := Int32.lt_iff_toInt_lt.mp y2
              have e2 : ¬ x2.toInt < (-1 : Int32).toInt := fun q => y (Int32.lt_iff_toInt_lt.mpr q)
              have e3 : (-1 : Int32).toInt = -1 := by decide
              have e4 : (0 : Int32).toInt = 0 := by decide
              apply Int32.toInt_inj.mp
              omega
            · rw [if_neg y2] at q2
              by_cases y3 : 4 < x2
              · rw [if_pos y3]
              · rw [if_neg y3] at q2; exact absurd q2 one_ne
        refine stay (-2) ?_ ?_
        · unfold f_X6_tape; rw [E_within, q1, bo_s, if_neg one_ne, if_neg z, E_within, q2, bo_s, if_pos rfl]
        · unfold f_X7_tape; rw [E_isTape, q1, bo_s, if_neg one_ne, E_in, r7, bo_s, if_pos rfl]
      · have r7 : rng (nI q) (-1) 4 = 1 := by
          have a1 : q = 0 ∨ q = 1 ∨ q = 2 ∨ q = 3 ∨ q = 4 := by omega
          rcases a1 with rfl | rfl | rfl | rfl | rfl <;> rfl
        have pos := nI_pos (n := q) (by omega)
        by_cases y1 : x3 ≤ 60
        · by_cases y2 : (0 : Int32) ≤ x3
          · have : ¬ x3 < 0 := Int32.not_lt.mpr y2
            obtain ⟨k, hk, rfl⟩ := nI_of this
            have hk60 : k ≤ 60 := by rw [show (60 : Int32) = nI 60 from rfl, le_n (by omega) (by omega)] at y1; exact y1
            obtain ⟨h1, h2, a, b, c⟩ := tape_go (t := t) (z := k) (s := nI q) (x3 := nI k) w (by omega) hk60 (Or.inr ⟨⟨q, hq, rfl⟩, rfl⟩)
            refine ⟨1, h1, h2, ?_, ?_, c⟩
            · unfold f_X6_tape; rw [E_within, q1, bo_s, if_neg one_ne, if_neg z, E_within, q2, bo_s, if_neg one_ne, if_pos y1, if_pos y2, gd_b i6, cl_n (by omega), lra6, lt_e, a, bo_s]
            · unfold f_X7_tape; rw [E_isTape, q1, bo_s, if_neg one_ne, E_in, r7, bo_s, if_neg one_ne, if_neg pos, if_pos y1, if_neg pos, if_pos y2]; exact b
          · refine stay (-14) ?_ ?_
            · unfold f_X6_tape; rw [E_within, q1, bo_s, if_neg one_ne, if_neg z, E_within, q2, bo_s, if_neg one_ne, if_pos y1, if_neg y2]
            · unfold f_X7_tape; rw [E_isTape, q1, bo_s, if_neg one_ne, E_in, r7, bo_s, if_neg one_ne, if_neg pos, if_pos y1, if_neg pos, if_neg y2]
        · refine stay (-2) ?_ ?_
          · unfold f_X6_tape; rw [E_within, q1, bo_s, if_neg one_ne, if_neg z, E_within, q2, bo_s, if_neg one_ne, if_neg y1]
          · unfold f_X7_tape; rw [E_isTape, q1, bo_s, if_neg one_ne, E_in, r7, bo_s, if_neg one_ne, if_neg pos, if_neg y1]
