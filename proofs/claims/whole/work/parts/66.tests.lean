/-! the reference reads: numbers, tests -/
theorem rng_d {s : Nat} {X : Nat → Nat} (x : XOK s X) (a : Nat) : rng (chI s X a) 48 57 = if digQ (X a) then 1 else 0 := by
  unfold chI
  by_cases z : s ≤ a
  · rw [if_pos z, if_neg (show ¬ digQ (X a) by rw [x.2.2 a z]; decide)]; rfl
  · have := x.2.1 a (by omega)
    rw [if_neg z]
    unfold rng
    by_cases y : X a < 48
    · rw [if_pos (by rw [show (48 : Int32) = nI 48 from rfl, lt_n (by omega) (by omega)]; exact y), if_neg (show ¬ digQ (X a) by omega)]
    · rw [if_neg (by rw [show (48 : Int32) = nI 48 from rfl, lt_n (by omega) (by omega)]; exact y)]
      by_cases y2 : 57 < X a
      · rw [if_pos (by rw [show (57 : Int32) = nI 57 from rfl, lt_n (by omega) (by omega)]; exact y2), if_neg (show ¬ digQ (X a) by omega)]
      · rw [if_neg (by rw [show (57 : Int32) = nI 57 from rfl, lt_n (by omega) (by omega)]; exact y2), if_pos (show digQ (X a) from ⟨by omega, by omega⟩)]
theorem E7_isDigit {f s a : Nat} {X : Nat → Nat} {S : List Tq} {W : List Nat} {g : HP} (x : XOK s X) (k : RPq f s X a S W g) : f_X7_isDigit g = some (if digQ (X a) then 1 else 0) := by
  unfold f_X7_isDigit
  rw [E7_next x k, bo_s, E_in, bo_s, rng_d x]
  by_cases z : digQ (X a)
  · rw [if_pos z]; rfl
  · rw [if_neg z]; rfl
theorem chI_d {s : Nat} {X : Nat → Nat} (x : XOK s X) {a : Nat} (h : digQ (X a)) : chI s X a = nI (X a) ∧ a < s := by
  have := x.lt (show X a ≤ 127 by unfold digQ at h; omega)
  unfold chI
  exact ⟨if_neg (by omega), this⟩
theorem E7_num {f s a cc : Nat} {X : Nat → Nat} {S : List Tq} {W : List Nat} {g : HP} (x : XOK s X) (k : RPq f s X a S W g) : (∀ n b, numQ X a = (some n, b) → ∃ g', f_X7_takesNumber g = some (1, g') ∧ RPq f s X b S W g' ∧ g'.1 96 17 = nI n ∧ FLq f cc g g') ∧ (numQ X a = (none, a) → f_X7_takesNumber g = some (0, g)) := by
  have xs := x.1
  obtain ⟨fu, hfu⟩ : ∃ fu, FZ = fu + 3 := ⟨FZ - 3, by have := FZ_ge; omega⟩
  have stop : ∀ (g : HP) (a : Nat) (fu : Nat) (i : Nat), i < 2 → RPq f s X a S W g → ¬ digQ (X a) → f_X7_takesNumber_L16 (fu + 1) (nI i) g = some (1, g) := fun g a fu i hi kk z => by
    rw [f_X7_takesNumber_L16, if_neg (by rw [show (2 : Int32) = nI 2 from rfl, le_n (by omega) (by omega)]; omega), E7_isDigit x kk, if_neg z, bo_s, if_pos rfl]
  have go : ∀ (g : HP) (a : Nat) (fu : Nat) (m : Nat) (i : Nat), i < 2 → m ≤ 9 → g.1 96 17 = nI m → RPq f s X a S W g → digQ (X a) → f_X7_takesNumber_L16 (fu + 1) (nI i) g = f_X7_takesNumber_L16 fu (nI (i + 1)) (si (si g 96 17 (nI (10 * m + (X a - 48)))) 96 16 (nI (a + 1))) := fun g a fu m i hi hm hv kk z => by
    obtain ⟨d1, d2⟩ := chI_d x z
    have z1 := z.1
    have z2 := z.2
    have e16 : (si g 96 17 (nI (10 * m + (X a - 48)))).1 96 16 = nI a := by rw [si_w, up_n _ _ (by omega)]; exact kk.2.1
    rw [f_X7_takesNumber_L16, if_neg (by rw [show (2 : Int32) = nI 2 from rfl, le_n (by omega) (by omega)]; omega), E7_isDigit x kk, if_pos z, bo_s, if_neg one_ne, E7_next x kk, bo_s, d1, hv, show (10 : Int32) = nI 10 from rfl, mul_n, add_n, show (48 : Int32) = nI 48 from rfl, sub_n (by omega), show 10 * m + X a - 48 = 10 * m + (X a - 48) by omega, lt_e, e16, one_n, lt_e, one_n, lt_e]
  refine ⟨fun n b e => ?_, fun e => ?_⟩
  · unfold numQ at e
    by_cases z : digQ (X a)
    · rw [if_pos z] at e
      obtain ⟨k1, f1⟩ := k.dg (cc := cc) (v := 0)
      have d := (chI_d x z).2
      have zz := z
      have z1 := z.1
      have z2 := z.2
      have g1 := go (si g 96 17 0) a (fu + 2) 0 0 (by omega) (by omega) (by rw [si_w, up_s]; rfl) k1 z
      obtain ⟨k2, f2⟩ := k1.dg (cc := cc) (v := nI (10 * 0 + (X a - 48)))
      obtain ⟨k3, f3⟩ := k2.at (cc := cc) (show a ≤ a + 1 by omega) (by omega)
      have st : f_X7_takesNumber g = f_X7_takesNumber_L16 FZ 0 (si g 96 17 0) := by
        unfold f_X7_takesNumber; rw [E7_isDigit x k, if_pos z, bo_s, if_neg one_ne, lt_e]
      have e17 : (si (si (si g 96 17 0) 96 17 (nI (10 * 0 + (X a - 48)))) 96 16 (nI (a + 1))).1 96 17 = nI (X a - 48) := by rw [si_w, up_n _ _ (by omega), si_w, up_s]; congr 1; omega
      by_cases y : digQ (X (a + 1))
      · rw [if_pos y] at e
        obtain ⟨e1, e2⟩ := Prod.mk.inj e
        have e1 := Option.some.inj e1
        subst e1; subst e2
        have d2 := (chI_d x y).2
        have g2 := go _ (a + 1) (fu + 1) (X a - 48) 1 (by omega) (by omega) e17 k3 y
        obtain ⟨k4, f4⟩ := k3.dg (cc := cc) (v := nI (10 * (X a - 48) + (X (a + 1) - 48)))
        obtain ⟨k5, f5⟩ := k4.at (cc := cc) (show a + 1 ≤ a + 1 + 1 by omega) (by omega)
        refine ⟨_, ?_, k5, by rw [si_w, up_n _ _ (by omega), si_w, up_s], f1.trans (f2.trans (f3.trans (f4.trans f5)))⟩
        rw [st, hfu]
        refine Eq.trans g1 (Eq.trans g2 ?_)
        rw [f_X7_takesNumber_L16, if_pos (by decide)]
      · rw [if_neg y] at e
        obtain ⟨e1, e2⟩ := Prod.mk.inj e
        have e1 := Option.some.inj e1
        subst e1; subst e2
        refine ⟨_, ?_, k3, e17, f1.trans (f2.trans f3)⟩
        rw [st, hfu]
        exact Eq.trans g1 (stop _ (a + 1) (fu + 1) 1 (by omega) k3 y)
    · rw [if_neg z] at e; cases e
  · have z : ¬ digQ (X a) := fun z => by
      unfold numQ at e
      rw [if_pos z] at e
      split at e <;> cases e
    unfold f_X7_takesNumber
    rw [E7_isDigit x k, if_neg z, bo_s, if_pos rfl]
theorem place_t : ∀ b : Fin 128, f_X7_place (nI b.val) = some (match letQ b.val with | some l => nI l | none => -1) := by decide
theorem E7_place {s : Nat} {X : Nat → Nat} (x : XOK s X) (a : Nat) : f_X7_place (chI s X a) = some (match letQ (X a) with | some l => nI l | none => -1) := by
  unfold chI
  by_cases z : s ≤ a
  · rw [if_pos z, show letQ (X a) = none by rw [x.2.2 a z]; rfl]; rfl
  · rw [if_neg z]
    exact place_t ⟨X a, by have := x.2.1 a (by omega); omega⟩
theorem rng_s {s : Nat} {X : Nat → Nat} (x : XOK s X) (a : Nat) : rng (chI s X a) 60 62 = if X a = 60 ∨ X a = 61 ∨ X a = 62 then 1 else 0 := by
  unfold chI
  by_cases z : s ≤ a
  · have := x.2.2 a z
    rw [if_pos z, if_neg (by omega)]; rfl
  · have := x.2.1 a (by omega)
    rw [if_neg z]
    unfold rng
    by_cases y : X a < 60
    · rw [if_pos (by rw [show (60 : Int32) = nI 60 from rfl, lt_n (by omega) (by omega)]; exact y), if_neg (by omega)]
    · rw [if_neg (by rw [show (60 : Int32) = nI 60 from rfl, lt_n (by omega) (by omega)]; exact y)]
      by_cases y2 : 62 < X a
      · rw [if_pos (by rw [show (62 : Int32) = nI 62 from rfl, lt_n (by omega) (by omega)]; exact y2), if_neg (by omega)]
      · rw [if_neg (by rw [show (62 : Int32) = nI 62 from rfl, lt_n (by omega) (by omega)]; exact y2), if_pos (by omega)]
theorem E7_test {f s a cc : Nat} {X : Nat → Nat} {S : List Tq} {W : List Nat} {g : HP} (x : XOK s X) (hf : f < 6) (k : RPq f s X a S W g) : (∀ t b, testQ X a = (some t, b) → ∃ g', f_X7_takesTest g = some (1, g') ∧ RPq f s X b (S ++ t ++ List.replicate (bngQ W) (tkO 33)) (W.drop (bngQ W)) g' ∧ FLq f cc g g') ∧ ∀ b, testQ X a = (none, b) → ∃ g', f_X7_takesTest g = some (0, g') ∧ g'.1 96 16 = nI b ∧ FLq f cc g g' := by
  have xs := x.1
  have k9 := k.2.2.2.2.2.2.2.2.1
  unfold f_X7_takesTest testQ
  rw [E7_next x k, bo_s, E7_place x a, bo_s]
  cases h : letQ (X a) with
  | none =>
    dsimp only
    rw [if_neg (by decide)]
    refine ⟨fun t b e => (by cases e), fun b e => ?_⟩
    obtain ⟨-, e2⟩ := Prod.mk.inj e
    subst e2
    exact ⟨g, rfl, k.2.1, FLq.rf⟩
  | some l =>
    have hl := letQ_l h
    have h1 := x.lt hl.2
    dsimp only
    obtain ⟨k1, f1⟩ := k.at (cc := cc) (show a ≤ a + 1 by omega) (by omega)
    rw [if_pos (show (0 : Int32) ≤ nI l by rw [show (0 : Int32) = nI 0 from rfl, le_n (by omega) (by omega)]; omega), k.2.1, one_n, lt_e, E7_next x k1, bo_s, E_in, bo_s, rng_s x]
    by_cases h2 : X (a + 1) = 60 ∨ X (a + 1) = 61 ∨ X (a + 1) = 62
    · have h3 := x.lt (show X (a + 1) ≤ 127 by omega)
      obtain ⟨k2, f2⟩ := k1.at (cc := cc) (show a + 1 ≤ a + 2 by omega) (by omega)
      have ch : chI s X (a + 1) = nI (X (a + 1)) := by unfold chI; exact if_neg (by omega)
      rw [if_pos h2, if_pos h2, if_neg one_ne, k1.2.1, one_n, lt_e]
      obtain ⟨n1, n2⟩ := E7_num (cc := cc) x k2
      rcases numQ_g x (show a + 2 ≤ s by omega) with ⟨n, b, e, hn, e2, e3⟩ | e
      · obtain ⟨g3, e4, k3, o17, f3⟩ := n1 n b e
        obtain ⟨g4, e5, f4, -, r4, -⟩ := E7_emits (cc := cc) (b := b) x hf k3 (X (a + 1), l, nI n) (by omega) (by omega)
        obtain ⟨g5, e6, k5, f5⟩ := E7_whole (cc := cc) x hf (r4 rfl)
        have cd : (1000 : Int32) * nI l + 100 * (nI (X (a + 1)) - 60) + nI n = cdQ (X (a + 1), l, nI n) := by
          unfold cdQ; rw [if_neg (show ¬ (X (a + 1) = 33 ∨ X (a + 1) = 38 ∨ X (a + 1) = 124) by omega)]
        rw [e]
        dsimp only
        refine ⟨fun t b' q => ?_, fun b' q => (by cases q)⟩
        obtain ⟨q1, q2⟩ := Prod.mk.inj q
        have q1 := Option.some.inj q1
        subst q1; subst q2
        exact ⟨g5, by rw [e4, bd_s, if_neg one_ne, o17, ch, cd, e5, bo_s, e6, bo_s], k5, f1.trans (f2.trans (f3.trans (f4.trans f5)))⟩
      · rw [e]
        dsimp only
        refine ⟨fun t b' q => (by cases q), fun b' q => ?_⟩
        obtain ⟨-, q2⟩ := Prod.mk.inj q
        subst q2
        exact ⟨_, by rw [n2 e, bd_s, if_pos rfl], k2.2.1, f1.trans f2⟩
    · rw [if_neg h2, if_neg h2, if_pos rfl]
      refine ⟨fun t b e => (by cases e), fun b e => ?_⟩
      obtain ⟨-, e2⟩ := Prod.mk.inj e
      subst e2
      exact ⟨_, rfl, k1.2.1, f1⟩
