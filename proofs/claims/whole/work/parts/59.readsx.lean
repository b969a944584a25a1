/-! the class reads: F, T, E -/
theorem CN5.s {oc s : Nat} {X : Nat → Nat} {rc : HP → Option (Int32 × HP)} {p : Nat → Rq} (c : CN5 oc s X rc p) {a b : Nat} {C t : List Tq} {g : HP} (k : CPq oc s X a C g) (e : p a = (some t, b)) : ∃ g', rc g = some (1, g') ∧ CPq oc s X b (C ++ t) g' ∧ FOq oc g g' := (c a C g k).1 t b e
theorem CN5.n {oc s : Nat} {X : Nat → Nat} {rc : HP → Option (Int32 × HP)} {p : Nat → Rq} (c : CN5 oc s X rc p) {a b : Nat} {C : List Tq} {g : HP} (k : CPq oc s X a C g) (e : p a = (none, b)) : ∃ g', rc g = some (0, g') ∧ g'.1 79 2 = nI b ∧ FOq oc g g' := (c a C g k).2 b e
/-- a loop of T or of E, its function given by what it does -/
theorem E5_loop {oc s op : Nat} {X : Nat → Nat} {rc : HP → Option (Int32 × HP)} {p : Nat → Rq} (x : XOK s X) (gq : GQ s p) (c : CN5 oc s X rc p) (hop : op ≤ 127) (L : Nat → Int32 → HP → Option (Int32 × HP)) (hL : ∀ n x2 h, L (n + 1) x2 h = if (100 : Int32) ≤ x2 then (some (1, h)) else (bd (f_X5_takes (nI op) h) fun v8 g6 => if v8 = 0 then (some (1, g6)) else (bd (rc g6) fun v12 g10 => if v12 = 0 then (some (0, g10)) else (bo (g10.2.2 79) fun w14 => gd (isOc w14) (bo (f_X2_add w14 (nI op) 0 0 g10) fun g17 => lt (x2 + 1 : Int32) fun v19 => L n v19 g17))))) : ∀ (f i a : Nat) (C t : List Tq) (g : HP) (fuel : Nat), i + f = 100 → f < fuel → CPq oc s X a (C ++ t) g → (∀ t' b, loopQ X p op f a t = (some t', b) → ∃ g', L fuel (nI i) g = some (1, g') ∧ CPq oc s X b (C ++ t') g' ∧ FOq oc g g') ∧ ∀ b, loopQ X p op f a t = (none, b) → ∃ g', L fuel (nI i) g = some (0, g') ∧ g'.1 79 2 = nI b ∧ FOq oc g g' := by
  intro f
  induction f with
  | zero =>
    intro i a C t g fuel hi hf k
    obtain ⟨fu, rfl⟩ : ∃ fu, fuel = fu + 1 := ⟨fuel - 1, by omega⟩
    refine ⟨fun t' b e => ?_, fun b e => (by cases e)⟩
    obtain ⟨e1, e2⟩ := Prod.mk.inj e
    have e1 := Option.some.inj e1
    subst e1; subst e2
    exact ⟨g, by rw [hL, if_pos (by rw [show (100 : Int32) = nI 100 from rfl, le_n (by omega) (by omega)]; omega)], k, FOq.rf⟩
  | succ f ih =>
    intro i a C t g fuel hi hf k
    obtain ⟨fu, rfl⟩ : ∃ fu, fuel = fu + 1 := ⟨fuel - 1, by omega⟩
    have n100 : ¬ (100 : Int32) ≤ nI i := by rw [show (100 : Int32) = nI 100 from rfl, le_n (by omega) (by omega)]; omega
    have x1 := x.1
    rw [loopQ]
    by_cases z : X a = op
    · rw [if_pos z]
      have h1 := x.lt (show X a ≤ 127 by omega)
      obtain ⟨k1, f1⟩ := k.at (show a ≤ a + 1 by omega) (by omega)
      have tk := E5_takes (c := op) x k hop
      rw [if_pos z] at tk
      generalize hg1 : si g 79 2 (nI (a + 1)) = g1 at k1 f1 tk
      cases q : p (a + 1) with
      | mk r b' =>
        cases r with
        | none =>
          obtain ⟨g2, e2, k2, f2⟩ := c.n k1 q
          refine ⟨fun t' b e => (by cases e), fun b e => ?_⟩
          obtain ⟨-, e3⟩ := Prod.mk.inj e
          subst e3
          exact ⟨g2, by rw [hL, if_neg n100, tk, bd_s, if_neg one_ne, e2, bd_s, if_pos rfl], k2, f1.trans f2⟩
        | some u =>
          obtain ⟨g2, e2, k2, f2⟩ := c.s k1 q
          have gl := gq.s (by omega) q
          have len : (C ++ t ++ u).length + 2 ≤ b' := by
            have := k.2.2.2.2.2.2.2.2
            rw [List.length_append]; omega
          obtain ⟨g3, e3, k3, f3⟩ := E5_add (c := op) (l := 0) (n := 0) k2 (by omega) (by omega)
          have k3' : CPq oc s X b' (C ++ (t ++ u ++ [(op, 0, 0)])) g3 := by
            rw [List.append_assoc, List.append_assoc] at k3
            rw [List.append_assoc]
            exact k3
          obtain ⟨i1, i2⟩ := ih (i + 1) b' C (t ++ u ++ [(op, 0, 0)]) g3 fu (by omega) (by omega) k3'
          have e3' : f_X2_add oc (nI op) 0 0 g2 = some g3 := e3
          have st : L (fu + 1) (nI i) g = L fu (nI (i + 1)) g3 := by
            rw [hL, if_neg n100, tk, bd_s, if_neg one_ne, e2, bd_s, if_neg one_ne, k2.1, bo_s, gd_b k2.2.1, e3', bo_s, one_n, lt_e]
          rw [st]
          dsimp only
          refine ⟨fun t' b e => ?_, fun b e => ?_⟩
          · obtain ⟨g4, e4, k4, f4⟩ := i1 t' b e
            exact ⟨g4, e4, k4, f1.trans (f2.trans (f3.trans f4))⟩
          · obtain ⟨g4, e4, k4, f4⟩ := i2 b e
            exact ⟨g4, e4, k4, f1.trans (f2.trans (f3.trans f4))⟩
    · rw [if_neg z]
      have tk := E5_takes (c := op) x k hop
      rw [if_neg z] at tk
      refine ⟨fun t' b e => ?_, fun b e => (by cases e)⟩
      obtain ⟨e1, e2⟩ := Prod.mk.inj e
      have e1 := Option.some.inj e1
      subst e1; subst e2
      exact ⟨g, by rw [hL, if_neg n100, tk, bd_s, if_pos rfl], k, FOq.rf⟩
theorem E5_all {oc s : Nat} {X : Nat → Nat} {rcM : Int32 → HP → Option (Int32 × HP)} {x1 : Int32} {p : Nat → Rq} (x : XOK s X) (gq : GQ s p) (c : CN5 oc s X (fun g => rcM x1 g) p) : CN5 oc s X (fun g => f_X5_readsAll rcM x1 g) (allQ X p) := by
  intro a C g k
  dsimp only
  unfold f_X5_readsAll allQ
  have LL := E5_loop x gq c (op := 38) (by omega) (fun n x2 h => f_X5_readsAll_L12 rcM n x1 x2 h) (fun n x2 h => rfl)
  cases q : p a with
  | mk r b' =>
    cases r with
    | none =>
      obtain ⟨g2, e2, k2, f2⟩ := c.n k q
      dsimp only at e2 ⊢
      rw [e2]
      refine ⟨fun t' b e => (by cases e), fun b e => ?_⟩
      obtain ⟨-, e3⟩ := Prod.mk.inj e
      subst e3
      exact ⟨g2, by rw [bd_s, if_pos rfl], k2, f2⟩
    | some u =>
      obtain ⟨g2, e2, k2, f2⟩ := c.s k q
      obtain ⟨i1, i2⟩ := LL 100 0 b' C u g2 FZ (by omega) (by have := FZ_ge; omega) k2
      dsimp only at e2 i1 i2 ⊢
      rw [e2, bd_s, if_neg one_ne]
      refine ⟨fun t' b e => ?_, fun b e => ?_⟩
      · obtain ⟨g4, e4, k4, f4⟩ := i1 t' b e
        exact ⟨g4, e4, k4, f2.trans f4⟩
      · obtain ⟨g4, e4, k4, f4⟩ := i2 b e
        exact ⟨g4, e4, k4, f2.trans f4⟩
theorem E5_any {oc s : Nat} {X : Nat → Nat} {rcM : Int32 → HP → Option (Int32 × HP)} {x1 : Int32} {p : Nat → Rq} (x : XOK s X) (gq : GQ s p) (c : CN5 oc s X (fun g => rcM x1 g) p) : CN5 oc s X (fun g => f_X5_readsAny rcM x1 g) (anyQ X p) := by
  intro a C g k
  have ca := E5_all x gq c
  dsimp only
  unfold f_X5_readsAny anyQ
  have LL := E5_loop x (allQ_g x gq) ca (op := 124) (by omega) (fun n x2 h => f_X5_readsAny_L12 rcM n x1 x2 h) (fun n x2 h => rfl)
  cases q : allQ X p a with
  | mk r b' =>
    cases r with
    | none =>
      obtain ⟨g2, e2, k2, f2⟩ := ca.n k q
      dsimp only at e2 ⊢
      rw [e2]
      refine ⟨fun t' b e => (by cases e), fun b e => ?_⟩
      obtain ⟨-, e3⟩ := Prod.mk.inj e
      subst e3
      exact ⟨g2, by rw [bd_s, if_pos rfl], k2, f2⟩
    | some u =>
      obtain ⟨g2, e2, k2, f2⟩ := ca.s k q
      obtain ⟨i1, i2⟩ := LL 100 0 b' C u g2 FZ (by omega) (by have := FZ_ge; omega) k2
      dsimp only at e2 i1 i2 ⊢
      rw [e2, bd_s, if_neg one_ne]
      refine ⟨fun t' b e => ?_, fun b e => ?_⟩
      · obtain ⟨g4, e4, k4, f4⟩ := i1 t' b e
        exact ⟨g4, e4, k4, f2.trans f4⟩
      · obtain ⟨g4, e4, k4, f4⟩ := i2 b e
        exact ⟨g4, e4, k4, f2.trans f4⟩
theorem E5_one {oc s : Nat} {X : Nat → Nat} (x : XOK s X) : ∀ (e fuel : Nat), e ≤ 4 → e < fuel → CN5 oc s X (fun g => f_X5_readsOne fuel (nI (4 - e)) g) (oneQ X e) := by
  intro e
  induction e with
  | zero =>
    intro fuel _ hf a C g k
    obtain ⟨fu, rfl⟩ : ∃ fu, fuel = fu + 1 := ⟨fuel - 1, by omega⟩
    have t := E5_test (oc := oc) x (f_X5_readsOne fu) a C g k
    have e1 : f_X5_readsOne (fu + 1) (nI (4 - 0)) g = f_X5_readsOne_J78 (f_X5_readsOne fu) g := by
      rw [f_X5_readsOne]; unfold f_X5_readsOne_B f_X5_readsOne_J39
      rw [if_pos (by decide), if_pos (by decide)]
    dsimp only at t ⊢
    rw [e1]
    exact t
  | succ e ih =>
    intro fuel he hf a C g k
    obtain ⟨fu, rfl⟩ : ∃ fu, fuel = fu + 1 := ⟨fuel - 1, by omega⟩
    have c := ih fu (by omega) (by omega)
    have gq := oneQ_g x e
    have d4 : ¬ (4 : Int32) ≤ nI (4 - (e + 1)) := by rw [show (4 : Int32) = nI 4 from rfl, le_n (by omega) (by omega)]; omega
    have dp : nI (4 - (e + 1)) + 1 = nI (4 - e) := by rw [one_n]; congr 1; omega
    have x1 := x.1
    have t33 := E5_takes (c := 33) x k (by omega)
    have t40 := E5_takes (c := 40) x k (by omega)
    have t33' : f_X5_takes 33 g = _ := t33
    have t40' : f_X5_takes 40 g = _ := t40
    dsimp only
    rw [f_X5_readsOne, oneQ]
    unfold f_X5_readsOne_B
    rw [if_neg d4, t33']
    by_cases z : X a = 33
    · rw [if_pos z, if_pos z, bd_s, if_neg one_ne, dp]
      have h1 := x.lt (show X a ≤ 127 by omega)
      obtain ⟨k1, f1⟩ := k.at (show a ≤ a + 1 by omega) (by omega)
      generalize hg1 : si g 79 2 (nI (a + 1)) = g1 at k1 f1
      cases q : oneQ X e (a + 1) with
      | mk r b' =>
        cases r with
        | none =>
          obtain ⟨g2, e2, k2, f2⟩ := c.n k1 q
          dsimp only at e2 ⊢
          rw [e2]
          refine ⟨fun t' b e => (by cases e), fun b e => ?_⟩
          obtain ⟨-, e3⟩ := Prod.mk.inj e
          subst e3
          exact ⟨g2, by rw [bd_s, if_pos rfl], k2, f1.trans f2⟩
        | some u =>
          obtain ⟨g2, e2, k2, f2⟩ := c.s k1 q
          have gl := gq.s (by omega) q
          have len : (C ++ u).length + 2 ≤ b' := by
            have := k.2.2.2.2.2.2.2.2
            rw [List.length_append]; omega
          obtain ⟨g3, e3, k3, f3⟩ := E5_add (c := 33) (l := 0) (n := 0) k2 (by omega) (by omega)
          have e3' : f_X2_add oc 33 0 0 g2 = some g3 := e3
          dsimp only at e2 ⊢
          rw [e2]
          refine ⟨fun t' b e => ?_, fun b e => (by cases e)⟩
          obtain ⟨q1, q2⟩ := Prod.mk.inj e
          have q1 := Option.some.inj q1
          subst q1; subst q2
          exact ⟨g3, by rw [bd_s, if_neg one_ne, k2.1, bo_s, gd_b k2.2.1, e3', bo_s], by rw [List.append_assoc] at k3; exact k3, f1.trans (f2.trans f3)⟩
    · rw [if_neg z, if_neg z, bd_s, if_pos rfl]
      unfold f_X5_readsOne_J39
      rw [if_neg d4, t40']
      by_cases z2 : X a = 40
      · rw [if_pos z2, if_pos z2, bd_s, if_neg one_ne, dp]
        have h1 := x.lt (show X a ≤ 127 by omega)
        obtain ⟨k1, f1⟩ := k.at (show a ≤ a + 1 by omega) (by omega)
        generalize hg1 : si g 79 2 (nI (a + 1)) = g1 at k1 f1
        have ca := E5_any x gq c
        have ga := anyQ_g x gq
        cases q : anyQ X (oneQ X e) (a + 1) with
        | mk r b' =>
          cases r with
          | none =>
            obtain ⟨g2, e2, k2, f2⟩ := ca.n k1 q
            dsimp only at e2 ⊢
            rw [e2]
            refine ⟨fun t' b e => (by cases e), fun b e => ?_⟩
            obtain ⟨-, e3⟩ := Prod.mk.inj e
            subst e3
            exact ⟨g2, by rw [bd_s, if_pos rfl], k2, f1.trans f2⟩
          | some u =>
            obtain ⟨g2, e2, k2, f2⟩ := ca.s k1 q
            have gl := ga.s (by omega) q
            have t41 := E5_takes (c := 41) x k2 (by omega)
            have t41' : f_X5_takes 41 g2 = _ := t41
            dsimp only at e2 ⊢
            rw [e2, bd_s, if_neg one_ne, t41']
            by_cases z3 : X b' = 41
            · rw [if_pos z3, if_pos z3, bd_s, if_neg one_ne]
              have h3 := x.lt (show X b' ≤ 127 by omega)
              obtain ⟨k3, f3⟩ := k2.at (show b' ≤ b' + 1 by omega) (by omega)
              refine ⟨fun t' b e => ?_, fun b e => (by cases e)⟩
              obtain ⟨q1, q2⟩ := Prod.mk.inj e
              have q1 := Option.some.inj q1
              subst q1; subst q2
              exact ⟨_, rfl, k3, f1.trans (f2.trans f3)⟩
            · rw [if_neg z3, if_neg z3, bd_s, if_pos rfl]
              refine ⟨fun t' b e => (by cases e), fun b e => ?_⟩
              obtain ⟨-, e3⟩ := Prod.mk.inj e
              subst e3
              exact ⟨g2, rfl, k2.2.2.2.1, f1.trans f2⟩
      · rw [if_neg z2, if_neg z2, bd_s, if_pos rfl]
        exact E5_test x _ a C g k
