/-! the text of an ocean, as both read it: X tells the sign at a place, 999 behind the last -/
abbrev Tq : Type := Nat × Nat × Int32
abbrev Rq : Type := Option (List Tq) × Nat
def letQ (c : Nat) : Option Nat := if c = 112 then some 0 else if c = 107 then some 1 else if c = 118 then some 2 else if c = 108 then some 3 else if c = 119 then some 4 else if c = 100 then some 5 else none
abbrev digQ (c : Nat) : Prop := 48 ≤ c ∧ c ≤ 57
def numQ (X : Nat → Nat) (at' : Nat) : Option Nat × Nat := if digQ (X at') then (if digQ (X (at' + 1)) then (some (10 * (X at' - 48) + (X (at' + 1) - 48)), at' + 2) else (some (X at' - 48), at' + 1)) else (none, at')
def testQ (X : Nat → Nat) (a : Nat) : Rq :=
  match letQ (X a) with
  | none => (none, a)
  | some l => if X (a + 1) = 60 ∨ X (a + 1) = 61 ∨ X (a + 1) = 62 then (match numQ X (a + 2) with
    | (some n, b) => (some [(X (a + 1), l, nI n)], b)
    | (none, b) => (none, b)) else (none, a + 1)
def loopQ (X : Nat → Nat) (rc : Nat → Rq) (op : Nat) : Nat → Nat → List Tq → Rq
  | 0, a, t => (some t, a)
  | f + 1, a, t => if X a = op then (match rc (a + 1) with
    | (some u, b) => loopQ X rc op f b (t ++ u ++ [(op, 0, 0)])
    | (none, b) => (none, b)) else (some t, a)
def allQ (X : Nat → Nat) (rc : Nat → Rq) (a : Nat) : Rq :=
  match rc a with
  | (some t, b) => loopQ X rc 38 100 b t
  | (none, b) => (none, b)
def anyQ (X : Nat → Nat) (rc : Nat → Rq) (a : Nat) : Rq :=
  match allQ X rc a with
  | (some t, b) => loopQ X (allQ X rc) 124 100 b t
  | (none, b) => (none, b)
def oneQ (X : Nat → Nat) : Nat → Nat → Rq
  | 0, a => testQ X a
  | e + 1, a => if X a = 33 then (match oneQ X e (a + 1) with
      | (some t, b) => (some (t ++ [(33, 0, 0)]), b)
      | (none, b) => (none, b))
    else if X a = 40 then (match anyQ X (oneQ X e) (a + 1) with
      | (some t, b) => if X b = 41 then (some t, b + 1) else (none, b)
      | (none, b) => (none, b))
    else testQ X a
/-- what is known of the text -/
def XOK (s : Nat) (X : Nat → Nat) : Prop := s ≤ 100 ∧ (∀ i, i < s → X i ≤ 127) ∧ ∀ i, s ≤ i → X i = 999
theorem XOK.lt {s : Nat} {X : Nat → Nat} (x : XOK s X) {i : Nat} (h : X i ≤ 127) : i < s := by
  by_cases z : i < s
  · exact z
  · have := x.2.2 i (by omega); omega
/-- reading goes on, and what is read is longer than what is told of it -/
def GQ (s : Nat) (p : Nat → Rq) : Prop := ∀ a, a ≤ s → match p a with
  | (some t, b) => a + t.length + 2 ≤ b ∧ b ≤ s
  | (none, b) => a ≤ b ∧ b ≤ s
theorem GQ.s {s : Nat} {p : Nat → Rq} (g : GQ s p) {a b : Nat} {t : List Tq} (ha : a ≤ s) (e : p a = (some t, b)) : a + t.length + 2 ≤ b ∧ b ≤ s := by
  have := g a ha; rw [e] at this; exact this
theorem GQ.n {s : Nat} {p : Nat → Rq} (g : GQ s p) {a b : Nat} (ha : a ≤ s) (e : p a = (none, b)) : a ≤ b ∧ b ≤ s := by
  have := g a ha; rw [e] at this; exact this
theorem numQ_g {s : Nat} {X : Nat → Nat} (x : XOK s X) {a : Nat} (ha : a ≤ s) : (∃ n b, numQ X a = (some n, b) ∧ n ≤ 99 ∧ a + 1 ≤ b ∧ b ≤ s) ∨ numQ X a = (none, a) := by
  unfold numQ
  by_cases h : digQ (X a)
  · rw [if_pos h]
    have h1 := x.lt (show X a ≤ 127 by unfold digQ at h; omega)
    by_cases h2 : digQ (X (a + 1))
    · have h3 := x.lt (show X (a + 1) ≤ 127 by unfold digQ at h2; omega)
      unfold digQ at h h2
      exact Or.inl ⟨_, _, if_pos h2, by omega, by omega, by omega⟩
    · unfold digQ at h
      exact Or.inl ⟨_, _, if_neg h2, by omega, by omega, by omega⟩
  · exact Or.inr (if_neg h)
theorem letQ_l {c l : Nat} (h : letQ c = some l) : l < 6 ∧ c ≤ 127 := by
  unfold letQ at h
  repeat' split at h
  all_goals first | (cases h; omega) | cases h
theorem testQ_g {s : Nat} {X : Nat → Nat} (x : XOK s X) : GQ s (testQ X) := by
  intro a ha
  unfold testQ
  cases h : letQ (X a) with
  | none => exact ⟨Nat.le_refl _, ha⟩
  | some l =>
    have h1 := x.lt (letQ_l h).2
    dsimp only
    by_cases h2 : X (a + 1) = 60 ∨ X (a + 1) = 61 ∨ X (a + 1) = 62
    · rw [if_pos h2]
      have h3 := x.lt (show X (a + 1) ≤ 127 by omega)
      rcases numQ_g x (show a + 2 ≤ s by omega) with ⟨n, b, e, -, e2, e3⟩ | e
      · rw [e]; exact ⟨by show a + 1 + 2 ≤ b; omega, e3⟩
      · rw [e]; exact ⟨by omega, by omega⟩
    · rw [if_neg h2]; exact ⟨by omega, by omega⟩
theorem loopQ_g {s op : Nat} {X : Nat → Nat} {rc : Nat → Rq} (x : XOK s X) (g : GQ s rc) (hop : op ≤ 127) {a0 : Nat} : ∀ (f a : Nat) (t : List Tq), a ≤ s → a0 + t.length + 2 ≤ a → match loopQ X rc op f a t with
  | (some t, b) => a0 + t.length + 2 ≤ b ∧ b ≤ s
  | (none, b) => a ≤ b ∧ b ≤ s := by
  intro f
  induction f with
  | zero => intro a t ha ht; exact ⟨ht, ha⟩
  | succ f ih =>
    intro a t ha ht
    rw [loopQ]
    by_cases h : X a = op
    · rw [if_pos h]
      have h1 := x.lt (show X a ≤ 127 by omega)
      cases e : rc (a + 1) with
      | mk r b =>
        cases r with
        | none =>
          have := g.n (by omega) e
          exact ⟨by omega, by omega⟩
        | some u =>
          have := g.s (by omega) e
          dsimp only
          have i := ih b (t ++ u ++ [(op, 0, 0)]) this.2 (by rw [List.length_append, List.length_append]; show a0 + (t.length + u.length + 1) + 2 ≤ b; omega)
          revert i
          cases loopQ X rc op f b (t ++ u ++ [(op, 0, 0)]) with
          | mk r c =>
            cases r with
            | none => intro i; exact ⟨by have := i.1; omega, i.2⟩
            | some v => intro i; exact i
    · rw [if_neg h]; exact ⟨ht, ha⟩
theorem allQ_g {s : Nat} {X : Nat → Nat} {rc : Nat → Rq} (x : XOK s X) (g : GQ s rc) : GQ s (allQ X rc) := by
  intro a ha
  unfold allQ
  cases e : rc a with
  | mk r b =>
    cases r with
    | none => exact g.n ha e
    | some t =>
      have := g.s ha e
      have i := loopQ_g x g (show 38 ≤ 127 by omega) 100 b t this.2 this.1
      dsimp only
      revert i
      cases loopQ X rc 38 100 b t with
      | mk r c =>
        cases r with
        | none => intro i; exact ⟨by have := i.1; omega, i.2⟩
        | some v => intro i; exact i
theorem anyQ_g {s : Nat} {X : Nat → Nat} {rc : Nat → Rq} (x : XOK s X) (g : GQ s rc) : GQ s (anyQ X rc) := by
  intro a ha
  unfold anyQ
  have ga := allQ_g x g
  cases e : allQ X rc a with
  | mk r b =>
    cases r with
    | none => exact ga.n ha e
    | some t =>
      have := ga.s ha e
      have i := loopQ_g x ga (show 124 ≤ 127 by omega) 100 b t this.2 this.1
      dsimp only
      revert i
      cases loopQ X (allQ X rc) 124 100 b t with
      | mk r c =>
        cases r with
        | none => intro i; exact ⟨by have := i.1; omega, i.2⟩
        | some v => intro i; exact i
theorem oneQ_g {s : Nat} {X : Nat → Nat} (x : XOK s X) : ∀ e, GQ s (oneQ X e) := by
  intro e
  induction e with
  | zero => exact testQ_g x
  | succ e ih =>
    intro a ha
    rw [oneQ]
    by_cases h : X a = 33
    · rw [if_pos h]
      have h1 := x.lt (show X a ≤ 127 by omega)
      cases q : oneQ X e (a + 1) with
      | mk r b =>
        cases r with
        | none => have := ih.n (by omega) q; exact ⟨by omega, this.2⟩
        | some t =>
          have := ih.s (by omega) q
          exact ⟨by rw [List.length_append]; show a + (t.length + 1) + 2 ≤ b; omega, this.2⟩
    · rw [if_neg h]
      by_cases h2 : X a = 40
      · rw [if_pos h2]
        have h1 := x.lt (show X a ≤ 127 by omega)
        have ga := anyQ_g x ih
        cases q : anyQ X (oneQ X e) (a + 1) with
        | mk r b =>
          cases r with
          | none => have := ga.n (by omega) q; exact ⟨by omega, this.2⟩
          | some t =>
            have := ga.s (by omega) q
            dsimp only
            by_cases h3 : X b = 41
            · rw [if_pos h3]
              have := x.lt (show X b ≤ 127 by omega)
              exact ⟨by omega, by omega⟩
            · rw [if_neg h3]; exact ⟨by omega, by omega⟩
      · rw [if_neg h2]; exact testQ_g x a ha
/-! what the outcome is, and how many outcomes wait at most -/
def tstQ (c : Nat) (x n : Int32) : Bool := if c = 60 then decide (x < n) else if c = 61 then decide (x = n) else decide (n < x)
def WfQ (k : Nat) (t : List Tq) (v : List Int32 → Bool) : Prop := ∀ P : Nat → List Tq → (List Int32 → Bool) → Prop, (∀ (k c l : Nat) (n : Int32), 1 ≤ k → (c = 60 ∨ c = 61 ∨ c = 62) → l < 6 → (∃ m, m ≤ 99 ∧ n = nI m) → P k [(c, l, n)] (fun f => tstQ c (f.getD l 0) n)) → (∀ k t v, P k t v → P k (t ++ [(33, 0, 0)]) (fun f => !v f)) → (∀ (k op : Nat) t t' v v', P (k + 1) t v → P k t' v' → (op = 38 ∨ op = 124) → P (k + 1) (t ++ t' ++ [(op, 0, 0)]) (fun f => if op = 38 then v f && v' f else v f || v' f)) → P k t v
theorem WfQ.test {k c l : Nat} {n : Int32} (hk : 1 ≤ k) (hc : c = 60 ∨ c = 61 ∨ c = 62) (hl : l < 6) (hn : ∃ m, m ≤ 99 ∧ n = nI m) : WfQ k [(c, l, n)] (fun f => tstQ c (f.getD l 0) n) := fun P a _ _ => a k c l n hk hc hl hn
theorem WfQ.neg {k : Nat} {t : List Tq} {v : List Int32 → Bool} (w : WfQ k t v) : WfQ k (t ++ [(33, 0, 0)]) (fun f => !v f) := fun P a b c => b k t v (w P a b c)
theorem WfQ.bin {k op : Nat} {t t' : List Tq} {v v' : List Int32 → Bool} (w : WfQ (k + 1) t v) (w' : WfQ k t' v') (hop : op = 38 ∨ op = 124) : WfQ (k + 1) (t ++ t' ++ [(op, 0, 0)]) (fun f => if op = 38 then v f && v' f else v f || v' f) := fun P a b c => c k op t t' v v' (w P a b c) (w' P a b c) hop
theorem WfQ.up {k : Nat} {t : List Tq} {v : List Int32 → Bool} (w : WfQ k t v) : ∀ k2, k ≤ k2 → WfQ k2 t v := by
  refine w (fun k t v => ∀ k2, k ≤ k2 → WfQ k2 t v) (fun k c l n hk hc hl hn k2 h => WfQ.test (by omega) hc hl hn) (fun k t v ih k2 h => WfQ.neg (ih k2 h)) (fun k op t t' v v' ih ih' hop k2 h => ?_)
  obtain ⟨j, rfl⟩ : ∃ j, k2 = j + 1 := ⟨k2 - 1, by omega⟩
  exact WfQ.bin (ih (j + 1) h) (ih' j (by omega)) hop
def WPq (k : Nat) (p : Nat → Rq) : Prop := ∀ a t b, p a = (some t, b) → ∃ v, WfQ k t v
theorem testQ_w {s : Nat} {X : Nat → Nat} (x : XOK s X) : WPq 1 (testQ X) := by
  intro a t b e
  unfold testQ at e
  cases h : letQ (X a) with
  | none => rw [h] at e; cases e
  | some l =>
    rw [h] at e
    dsimp only at e
    by_cases h2 : X (a + 1) = 60 ∨ X (a + 1) = 61 ∨ X (a + 1) = 62
    · rw [if_pos h2] at e
      have h1 := x.lt (letQ_l h).2
      have h3 := x.lt (show X (a + 1) ≤ 127 by omega)
      rcases numQ_g x (show a + 2 ≤ s by omega) with ⟨n, b', e1, e2, -⟩ | e1
      · rw [e1] at e
        dsimp only at e
        obtain ⟨e3, -⟩ := Prod.mk.inj e
        have e4 := Option.some.inj e3
        subst e4
        exact ⟨_, WfQ.test (Nat.le_refl _) h2 (letQ_l h).1 ⟨n, e2, rfl⟩⟩
      · rw [e1] at e; cases e
    · rw [if_neg h2] at e; cases e
theorem loopQ_w {k op : Nat} {X : Nat → Nat} {rc : Nat → Rq} (w : WPq k rc) (hop : op = 38 ∨ op = 124) : ∀ (f a : Nat) (t : List Tq) (t' : List Tq) (b : Nat), (∃ v, WfQ (k + 1) t v) → loopQ X rc op f a t = (some t', b) → ∃ v, WfQ (k + 1) t' v := by
  intro f
  induction f with
  | zero => intro a t t' b h e; obtain ⟨e1, -⟩ := Prod.mk.inj e; have := Option.some.inj e1; subst this; exact h
  | succ f ih =>
    intro a t t' b h e
    rw [loopQ] at e
    by_cases z : X a = op
    · rw [if_pos z] at e
      cases q : rc (a + 1) with
      | mk r c =>
        rw [q] at e
        cases r with
        | none => cases e
        | some u =>
          dsimp only at e
          obtain ⟨v, hv⟩ := h
          obtain ⟨v', hv'⟩ := w _ _ _ q
          exact ih c _ t' b ⟨_, WfQ.bin hv hv' hop⟩ e
    · rw [if_neg z] at e; obtain ⟨e1, -⟩ := Prod.mk.inj e; have := Option.some.inj e1; subst this; exact h
theorem allQ_w {k : Nat} {X : Nat → Nat} {rc : Nat → Rq} (w : WPq k rc) : WPq (k + 1) (allQ X rc) := by
  intro a t b e
  unfold allQ at e
  cases q : rc a with
  | mk r c =>
    rw [q] at e
    cases r with
    | none => cases e
    | some u =>
      obtain ⟨v, hv⟩ := w _ _ _ q
      exact loopQ_w w (Or.inl rfl) 100 c u t b ⟨v, hv.up _ (by omega)⟩ e
theorem anyQ_w {k : Nat} {X : Nat → Nat} {rc : Nat → Rq} (w : WPq k rc) : WPq (k + 2) (anyQ X rc) := by
  intro a t b e
  unfold anyQ at e
  have w2 := allQ_w (X := X) w
  cases q : allQ X rc a with
  | mk r c =>
    rw [q] at e
    cases r with
    | none => cases e
    | some u =>
      obtain ⟨v, hv⟩ := w2 _ _ _ q
      exact loopQ_w w2 (Or.inr rfl) 100 c u t b ⟨v, hv.up _ (by omega)⟩ e
theorem oneQ_w {s : Nat} {X : Nat → Nat} (x : XOK s X) : ∀ e, WPq (1 + 2 * e) (oneQ X e) := by
  intro e
  induction e with
  | zero => exact testQ_w x
  | succ e ih =>
    intro a t b h
    rw [oneQ] at h
    by_cases z : X a = 33
    · rw [if_pos z] at h
      cases q : oneQ X e (a + 1) with
      | mk r c =>
        rw [q] at h
        cases r with
        | none => cases h
        | some u =>
          obtain ⟨v, hv⟩ := ih _ _ _ q
          obtain ⟨e1, -⟩ := Prod.mk.inj h
          have := Option.some.inj e1
          subst this
          exact ⟨_, (WfQ.neg hv).up _ (by omega)⟩
    · rw [if_neg z] at h
      by_cases z2 : X a = 40
      · rw [if_pos z2] at h
        cases q : anyQ X (oneQ X e) (a + 1) with
        | mk r c =>
          rw [q] at h
          cases r with
          | none => cases h
          | some u =>
            dsimp only at h
            obtain ⟨v, hv⟩ := anyQ_w ih _ _ _ q
            by_cases z3 : X c = 41
            · rw [if_pos z3] at h
              obtain ⟨e1, -⟩ := Prod.mk.inj h
              have := Option.some.inj e1
              subst this
              exact ⟨v, hv.up _ (by omega)⟩
            · rw [if_neg z3] at h; cases h
      · rw [if_neg z2] at h
        obtain ⟨v, hv⟩ := testQ_w x _ _ _ h
        exact ⟨v, hv.up _ (by omega)⟩
