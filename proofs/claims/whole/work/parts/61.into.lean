/-! clauses and the whole text, of the class -/
def stpQ (q : Cq) : List Tq := if q.1 = 0 then q.2.2 ++ [(59, 0, nI q.2.1)] else if q.1 = 1 then q.2.2 ++ [(59, 0, -(nI q.2.1))] else []
def stpF : List Cq → List Tq
  | [] => []
  | q :: qs => stpQ q ++ stpF qs
def lasF (w : Nat) : List Cq → Int32 → Int32
  | [], d => d
  | q :: qs, d => lasF w qs (if q.1 = w then nI q.2.1 else d)
/-- a clause as it must be -/
def okC (q : Cq) : Prop := q.1 < 4 ∧ q.2.1 ≤ 99 ∧ (q.1 ≤ 1 → ∃ v, WfQ 11 q.2.2 v)
theorem clsQ_g {s : Nat} {X : Nat → Nat} (x : XOK s X) {a : Nat} (ha : a ≤ s) : (∀ q b, clsQ X a = (some q, b) → okC q ∧ a + (stpQ q).length + 2 ≤ b ∧ b ≤ s) ∧ ∀ b, clsQ X a = (none, b) → a ≤ b ∧ b ≤ s := by
  have sl := (sel_max X a).1
  have ps := preQ_s x (a := a) (w := selQ X a) 4 0 ha
  have pl := (preQ_le (X := X) (a := a) (w := selQ X a) 4 0).2
  unfold clsQ wordQ
  by_cases z : preQ X a (selQ X a) 4 0 = 4
  · rw [if_pos z]
    dsimp only
    by_cases z1 : X (a + 4) = 32
    · rw [if_pos z1]
      have h1 := x.lt (show X (a + 4) ≤ 127 by omega)
      rcases numQ_g x (show a + 4 + 1 ≤ s by omega) with ⟨n, c, e, hn, e2, e3⟩ | e
      · rw [e]
        dsimp only
        by_cases z2 : 2 ≤ selQ X a
        · rw [if_pos z2]
          refine ⟨fun q b e => ?_, fun b e => (by cases e)⟩
          obtain ⟨q1, q2⟩ := Prod.mk.inj e
          have q1 := Option.some.inj q1
          subst q1; subst q2
          refine ⟨⟨sl, hn, fun h => by dsimp only at h; omega⟩, ?_, e3⟩
          have : (stpQ (selQ X a, n, [])).length = 0 := by unfold stpQ; rw [if_neg (show ¬ selQ X a = 0 by omega), if_neg (show ¬ selQ X a = 1 by omega)]; rfl
          omega
        · rw [if_neg z2]
          by_cases z3 : X c = 32
          · rw [if_pos z3]
            have h3 := x.lt (show X c ≤ 127 by omega)
            have ga := anyQ_g x (oneQ_g x 4)
            cases q : anyQ X (oneQ X 4) (c + 1) with
            | mk r d =>
              cases r with
              | none =>
                have := ga.n (by omega) q
                refine ⟨fun q b e => (by cases e), fun b e => ?_⟩
                obtain ⟨-, q2⟩ := Prod.mk.inj e
                subst q2
                omega
              | some t =>
                have g1 := ga.s (by omega) q
                obtain ⟨v, hv⟩ := anyQ_w (X := X) (oneQ_w x 4) _ _ _ q
                refine ⟨fun q b e => ?_, fun b e => (by cases e)⟩
                obtain ⟨q1, q2⟩ := Prod.mk.inj e
                have q1 := Option.some.inj q1
                subst q1; subst q2
                refine ⟨⟨sl, hn, fun _ => ⟨v, hv⟩⟩, ?_, g1.2⟩
                have : (stpQ (selQ X a, n, t)).length = t.length + 1 := by
                  unfold stpQ
                  dsimp only
                  have a2 : selQ X a = 0 ∨ selQ X a = 1 := by omega
                  rcases a2 with e | e
                  · rw [if_pos e, List.length_append]; rfl
                  · rw [if_neg (by omega), if_pos e, List.length_append]; rfl
                omega
          · rw [if_neg z3]
            refine ⟨fun q b e => (by cases e), fun b e => ?_⟩
            obtain ⟨-, q2⟩ := Prod.mk.inj e
            subst q2
            omega
      · rw [e]
        refine ⟨fun q b e => (by cases e), fun b e => ?_⟩
        obtain ⟨-, q2⟩ := Prod.mk.inj e
        subst q2
        omega
    · rw [if_neg z1]
      refine ⟨fun q b e => (by cases e), fun b e => ?_⟩
      obtain ⟨-, q2⟩ := Prod.mk.inj e
      subst q2
      omega
  · rw [if_neg z]
    refine ⟨fun q b e => (by cases e), fun b e => ?_⟩
    obtain ⟨-, q2⟩ := Prod.mk.inj e
    subst q2
    omega
def FC5 (oc : Nat) (g g' : HP) : Prop := (∀ c, c ≠ 79 → ¬ (oc ≤ c ∧ c ≤ oc + 3) → g'.1 c = g.1 c) ∧ (∀ j, j ≠ 2 → g'.1 79 j = g.1 79 j) ∧ g'.2 = g.2
theorem FC5.trans {oc : Nat} {g g1 g2 : HP} (a : FC5 oc g g1) (b : FC5 oc g1 g2) : FC5 oc g g2 := ⟨fun c x y => (b.1 c x y).trans (a.1 c x y), fun j x => (b.2.1 j x).trans (a.2.1 j x), b.2.2.trans a.2.2⟩
theorem FOq.c {oc : Nat} {g g1 : HP} (a : FOq oc g g1) : FC5 oc g g1 := ⟨a.1, a.2.1, a.2.2.2⟩
theorem CPq.wl {oc s a j : Nat} {v : Int32} {X : Nat → Nat} {C : List Tq} {g : HP} (c : CPq oc s X a C g) (hj : j = 5 ∨ j = 6) : CPq oc s X a C (si g oc j v) ∧ FC5 oc g (si g oc j v) := by
  obtain ⟨c1, c2, c3, c4, c5, c6, c7, c8, c9⟩ := c
  have o := oc_79 c2
  refine ⟨⟨c1, c2, by rw [si_r (by omega)]; exact c3, by rw [si_r (by omega)]; exact c4, fun i hi => by rw [si_r (by omega)]; exact c5 i hi, by rw [si_w, up_n _ _ (by omega)]; exact c6, fun i hi => by rw [si_r (by omega), si_r (by omega), si_r (by omega)]; exact c7 i hi, c8, c9⟩, fun c h1 h2 => si_r (by omega), fun j hj => by rw [si_r (by omega)], rfl⟩
theorem E5_clause {oc s a : Nat} {X : Nat → Nat} {C : List Tq} {g : HP} (x : XOK s X) (k : CPq oc s X a C g) : (∀ q b, clsQ X a = (some q, b) → ∃ g', f_X5_readsClause g = some (1, g') ∧ CPq oc s X b (C ++ stpQ q) g' ∧ FC5 oc g g' ∧ g'.1 oc 5 = (if q.1 = 2 then nI q.2.1 else g.1 oc 5) ∧ g'.1 oc 6 = (if q.1 = 3 then nI q.2.1 else g.1 oc 6)) ∧ ∀ b, clsQ X a = (none, b) → ∃ g', f_X5_readsClause g = some (0, g') ∧ g'.1 79 2 = nI b ∧ FC5 oc g g' := by
  obtain ⟨w1, w2⟩ := E5_word x k
  have xs := x.1
  unfold clsQ f_X5_readsClause
  cases hw : wordQ X a with
  | mk r b =>
    cases r with
    | none =>
      obtain ⟨g1, e1, k1, f1⟩ := w2 b hw
      dsimp only
      rw [e1]
      refine ⟨fun q b e => (by cases e), fun b e => ?_⟩
      obtain ⟨-, q2⟩ := Prod.mk.inj e
      subst q2
      exact ⟨g1, by rw [bd_s, if_pos (by decide)], k1, f1.c⟩
    | some w =>
      obtain ⟨hw4, hb, g1, e1, k1, f1⟩ := w1 w b hw
      have t32 := E5_takes (c := 32) x k1 (by omega)
      have t32' : f_X5_takes 32 g1 = _ := t32
      dsimp only
      rw [e1, bd_s, if_neg (nI_pos (show w < 2 ^ 31 by omega)), t32']
      by_cases z1 : X b = 32
      · rw [if_pos z1, if_pos z1, bd_s, if_neg one_ne]
        have h1 := x.lt (show X b ≤ 127 by omega)
        obtain ⟨k2, f2⟩ := k1.at (show b ≤ b + 1 by omega) (by omega)
        generalize hg2 : si g1 79 2 (nI (b + 1)) = g2 at k2 f2
        obtain ⟨n1, n2⟩ := E5_num x k2
        rcases numQ_g x (show b + 1 ≤ s by omega) with ⟨n, c, e, hn, e2, e3⟩ | e
        · obtain ⟨g3, e4, k3, f3⟩ := n1 n c e
          have ff := f1.trans (f2.trans f3)
          rw [e, e4, bd_s, if_pos (by rw [show (0 : Int32) = nI 0 from rfl, le_n (by omega) (by omega)]; omega)]
          dsimp only
          have o5 : g3.1 oc 5 = g.1 oc 5 := ff.2.2.1 5 (by omega)
          have o6 : g3.1 oc 6 = g.1 oc 6 := ff.2.2.1 6 (by omega)
          by_cases z2 : 2 ≤ w
          · rw [if_pos z2]
            refine ⟨fun q b e => ?_, fun b e => (by cases e)⟩
            obtain ⟨q1, q2⟩ := Prod.mk.inj e
            have q1 := Option.some.inj q1
            subst q1; subst q2
            have st : stpQ (w, n, []) = [] := by unfold stpQ; rw [if_neg (show ¬ w = 0 by omega), if_neg (show ¬ w = 1 by omega)]
            rw [st, List.append_nil]
            have a2 : w = 2 ∨ w = 3 := by omega
            rcases a2 with rfl | rfl
            · obtain ⟨k4, f4⟩ := k3.wl (j := 5) (v := nI n) (Or.inl rfl)
              refine ⟨_, by rw [if_pos (show nI 2 = 2 from rfl), k3.1, bo_s, gd_b k3.2.1, lt_e], k4, ff.c.trans f4, ?_, ?_⟩
              · rw [si_w, up_s, if_pos rfl]
              · rw [si_w, up_n _ _ (by omega), if_neg (show ¬ (2 : Nat) = 3 by decide)]; exact o6
            · obtain ⟨k4, f4⟩ := k3.wl (j := 6) (v := nI n) (Or.inr rfl)
              refine ⟨_, by rw [if_neg (show ¬ nI 3 = 2 by decide), if_pos (show nI 3 = 3 from rfl), k3.1, bo_s, gd_b k3.2.1, lt_e], k4, ff.c.trans f4, ?_, ?_⟩
              · rw [si_w, up_n _ _ (by omega), if_neg (show ¬ (3 : Nat) = 2 by decide)]; exact o5
              · rw [si_w, up_s, if_pos rfl]
          · rw [if_neg z2, if_neg (show ¬ nI w = 2 by rw [show (2 : Int32) = nI 2 from rfl, eq_n (by omega) (by omega)]; omega), if_neg (show ¬ nI w = 3 by rw [show (3 : Int32) = nI 3 from rfl, eq_n (by omega) (by omega)]; omega)]
            have u32 := E5_takes (c := 32) x k3 (by omega)
            have u32' : f_X5_takes 32 g3 = _ := u32
            rw [u32']
            by_cases z3 : X c = 32
            · rw [if_pos z3, if_pos z3, bd_s, if_neg one_ne]
              have h3 := x.lt (show X c ≤ 127 by omega)
              obtain ⟨k4, f4⟩ := k3.at (show c ≤ c + 1 by omega) (by omega)
              generalize hg4 : si g3 79 2 (nI (c + 1)) = g4 at k4 f4
              have ca : CN5 oc s X (fun g => f_X5_readsAny (f_X5_readsOne 10) 0 g) (anyQ X (oneQ X 4)) := E5_any x (oneQ_g x 4) (E5_one (oc := oc) x 4 10 (by omega) (by omega))
              have ga := anyQ_g x (oneQ_g x 4)
              cases q : anyQ X (oneQ X 4) (c + 1) with
              | mk r d =>
                cases r with
                | none =>
                  obtain ⟨g5, e5, k5, f5⟩ := ca.n k4 q
                  dsimp only at e5 ⊢
                  rw [e5]
                  refine ⟨fun q b e => (by cases e), fun b e => ?_⟩
                  obtain ⟨-, q2⟩ := Prod.mk.inj e
                  subst q2
                  exact ⟨g5, by rw [bd_s, if_pos rfl], k5, (ff.trans (f4.trans f5)).c⟩
                | some t =>
                  obtain ⟨g5, e5, k5, f5⟩ := ca.s k4 q
                  have gl := ga.s (by omega) q
                  have len : (C ++ t).length + 2 ≤ d := by
                    have := k.2.2.2.2.2.2.2.2
                    rw [List.length_append]; omega
                  dsimp only at e5 ⊢
                  rw [e5, bd_s, if_neg one_ne, k5.1, bo_s, gd_b k5.2.1]
                  refine ⟨fun q b e => ?_, fun b e => (by cases e)⟩
                  obtain ⟨q1, q2⟩ := Prod.mk.inj e
                  have q1 := Option.some.inj q1
                  subst q1; subst q2
                  have fin : ∀ v : Int32, ∃ g', f_X2_add oc 59 0 v g5 = some g' ∧ CPq oc s X d (C ++ (t ++ [(59, 0, v)])) g' ∧ FC5 oc g g' ∧ g'.1 oc 5 = g.1 oc 5 ∧ g'.1 oc 6 = g.1 oc 6 := fun v => by
                    obtain ⟨g6, e6, k6, f6⟩ := E5_add (c := 59) (l := 0) (n := v) k5 (by omega) (by omega)
                    have fa := ff.trans (f4.trans (f5.trans f6))
                    exact ⟨g6, e6, by rw [List.append_assoc] at k6; exact k6, fa.c, fa.2.2.1 5 (by omega), fa.2.2.1 6 (by omega)⟩
                  have a2 : w = 0 ∨ w = 1 := by omega
                  rcases a2 with rfl | rfl
                  · obtain ⟨g6, e6, k6, f6, y5, y6⟩ := fin (nI n)
                    exact ⟨g6, by rw [if_pos (show nI 0 = 0 from rfl), e6, bo_s], k6, f6, by rw [if_neg (show ¬ (0 : Nat) = 2 by decide)]; exact y5, by rw [if_neg (show ¬ (0 : Nat) = 3 by decide)]; exact y6⟩
                  · obtain ⟨g6, e6, k6, f6, y5, y6⟩ := fin (-(nI n))
                    exact ⟨g6, by rw [if_neg (show ¬ nI 1 = 0 by decide), e6, bo_s], k6, f6, by rw [if_neg (show ¬ (1 : Nat) = 2 by decide)]; exact y5, by rw [if_neg (show ¬ (1 : Nat) = 3 by decide)]; exact y6⟩
            · rw [if_neg z3, if_neg z3, bd_s, if_pos rfl]
              refine ⟨fun q b e => (by cases e), fun b e => ?_⟩
              obtain ⟨-, q2⟩ := Prod.mk.inj e
              subst q2
              exact ⟨g3, rfl, k3.2.2.2.1, ff.c⟩
        · rw [e, n2 e, bd_s, if_neg (by decide)]
          refine ⟨fun q b e => (by cases e), fun b e => ?_⟩
          obtain ⟨-, q2⟩ := Prod.mk.inj e
          subst q2
          exact ⟨g2, rfl, k2.2.2.2.1, (f1.trans f2).c⟩
      · rw [if_neg z1, if_neg z1, bd_s, if_pos rfl]
        refine ⟨fun q b e => (by cases e), fun b e => ?_⟩
        obtain ⟨-, q2⟩ := Prod.mk.inj e
        subst q2
        exact ⟨g1, rfl, k1.2.2.2.1, f1.c⟩
theorem E5_L19 {oc s : Nat} {X : Nat → Nat} (x : XOK s X) (q1 w3 : Nat) : ∀ (f i a : Nat) (C : List Tq) (g : HP) (fuel : Nat), i + f = 11 → f < fuel → CPq oc s X a C g → (∀ qs b, txtQ X s f a = (some qs, b) → ∃ g', f_X5_readInto_L19 q1 w3 fuel (nI i) g = some (-1, g') ∧ CPq oc s X b (C ++ stpF qs) g' ∧ FC5 oc g g' ∧ g'.1 oc 5 = lasF 2 qs (g.1 oc 5) ∧ g'.1 oc 6 = lasF 3 qs (g.1 oc 6)) ∧ ∀ b, txtQ X s f a = (none, b) → ∃ g', f_X5_readInto_L19 q1 w3 fuel (nI i) g = some (nI b, g') ∧ b ≤ s ∧ FC5 oc g g' := by
  intro f
  induction f with
  | zero =>
    intro i a C g fuel hi hf k
    obtain ⟨fu, rfl⟩ : ∃ fu, fuel = fu + 1 := ⟨fuel - 1, by omega⟩
    refine ⟨fun qs b e => (by cases e), fun b e => ?_⟩
    obtain ⟨-, q2⟩ := Prod.mk.inj e
    subst q2
    exact ⟨g, by rw [f_X5_readInto_L19, if_pos (by rw [show (10 : Int32) = nI 10 from rfl, lt_n (by omega) (by omega)]; omega), k.2.2.2.1], k.2.2.2.2.2.2.2.1, FOq.rf.c⟩
  | succ f ih =>
    intro i a C g fuel hi hf k
    obtain ⟨fu, rfl⟩ : ∃ fu, fuel = fu + 1 := ⟨fuel - 1, by omega⟩
    have xs := x.1
    obtain ⟨c1, c2⟩ := E5_clause x k
    obtain ⟨g1, g2⟩ := clsQ_g x k.2.2.2.2.2.2.2.1
    rw [txtQ, f_X5_readInto_L19, if_neg (by rw [show (10 : Int32) = nI 10 from rfl, lt_n (by omega) (by omega)]; omega)]
    cases hc : clsQ X a with
    | mk r b =>
      cases r with
      | none =>
        obtain ⟨h1, e1, k1, f1⟩ := c2 b hc
        rw [e1, bd_s, if_pos rfl]
        refine ⟨fun qs b e => (by cases e), fun b' e => ?_⟩
        obtain ⟨-, q2⟩ := Prod.mk.inj e
        subst q2
        exact ⟨h1, by rw [k1], (g2 b hc).2, f1⟩
      | some q =>
        obtain ⟨h1, e1, k1, f1, y5, y6⟩ := c1 q b hc
        have gb := g1 q b hc
        dsimp only
        rw [e1, bd_s, if_neg one_ne, k1.2.2.2.1, k1.2.2.1]
        by_cases z1 : b = s
        · subst z1
          rw [if_pos rfl, if_pos rfl]
          refine ⟨fun qs b' e => ?_, fun b e => (by cases e)⟩
          obtain ⟨q1, q2⟩ := Prod.mk.inj e
          have q1 := Option.some.inj q1
          subst q1; subst q2
          refine ⟨h1, rfl, ?_, f1, y5, y6⟩
          show CPq oc b X b (C ++ (stpQ q ++ [])) h1
          rw [List.append_nil]; exact k1
        · rw [if_neg z1, if_neg (fun q => z1 ((eq_n (by omega) (by omega)).mp q))]
          by_cases z2 : f = 0
          · subst z2
            rw [if_pos rfl, if_pos (by rw [show (10 : Int32) = nI 10 from rfl, eq_n (by omega) (by omega)]; omega)]
            refine ⟨fun qs b e => (by cases e), fun b' e => ?_⟩
            obtain ⟨-, q2⟩ := Prod.mk.inj e
            subst q2
            exact ⟨h1, rfl, gb.2.2, f1⟩
          · rw [if_neg z2, if_neg (show ¬ nI i = 10 by rw [show (10 : Int32) = nI 10 from rfl, eq_n (by omega) (by omega)]; omega)]
            have t59 := E5_takes (c := 59) x k1 (by omega)
            have t59' : f_X5_takes 59 h1 = _ := t59
            rw [t59']
            by_cases z3 : X b = 59
            · rw [if_pos z3, if_pos z3, bd_s, if_neg one_ne, one_n, lt_e]
              have h3 := x.lt (show X b ≤ 127 by omega)
              obtain ⟨k2, f2⟩ := k1.at (show b ≤ b + 1 by omega) (by omega)
              have o := oc_79 k.2.1
              obtain ⟨i1, i2⟩ := ih (i + 1) (b + 1) (C ++ stpQ q) (si h1 79 2 (nI (b + 1))) fu (by omega) (by omega) k2
              have o5 : (si h1 79 2 (nI (b + 1))).1 oc = h1.1 oc := si_r (by omega)
              cases ht : txtQ X s f (b + 1) with
              | mk r c =>
                cases r with
                | none =>
                  obtain ⟨h2, e2, k3, f3⟩ := i2 c ht
                  refine ⟨fun qs b e => (by cases e), fun b' e => ?_⟩
                  obtain ⟨-, q2⟩ := Prod.mk.inj e
                  subst q2
                  exact ⟨h2, e2, k3, f1.trans (f2.c.trans f3)⟩
                | some qs =>
                  obtain ⟨h2, e2, k3, f3, w5, w6⟩ := i1 qs c ht
                  refine ⟨fun qs' b' e => ?_, fun b e => (by cases e)⟩
                  obtain ⟨q1, q2⟩ := Prod.mk.inj e
                  have q1 := Option.some.inj q1
                  subst q1; subst q2
                  refine ⟨h2, e2, ?_, f1.trans (f2.c.trans f3), ?_, ?_⟩
                  · rw [List.append_assoc] at k3; exact k3
                  · rw [w5, o5, y5]; rfl
                  · rw [w6, o5, y6]; rfl
            · rw [if_neg z3, if_neg z3, bd_s, if_pos rfl]
              refine ⟨fun qs b e => (by cases e), fun b' e => ?_⟩
              obtain ⟨-, q2⟩ := Prod.mk.inj e
              subst q2
              exact ⟨h1, by rw [k1.2.2.2.1], gb.2.2, f1⟩
