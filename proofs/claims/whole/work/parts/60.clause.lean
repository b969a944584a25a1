/-! words and clauses; the class reads them -/
def preQ (X : Nat → Nat) (a w : Nat) : Nat → Nat → Nat
  | 0, j => j
  | f + 1, j => if X (a + j) = wordL (4 * w + j) then preQ X a w f (j + 1) else j
def selQ (X : Nat → Nat) (a : Nat) : Nat := if X a = 102 then 0 else if X a = 108 then 3 else if X (a + 1) = 105 then 2 else 1
def wordQ (X : Nat → Nat) (a : Nat) : Option Nat × Nat := if preQ X a (selQ X a) 4 0 = 4 then (some (selQ X a), a + 4) else (none, a + preQ X a (selQ X a) 4 0)
abbrev Cq : Type := Nat × Nat × List Tq
def clsQ (X : Nat → Nat) (a : Nat) : Option Cq × Nat :=
  match wordQ X a with
  | (none, b) => (none, b)
  | (some w, b) => if X b = 32 then (match numQ X (b + 1) with
    | (none, c) => (none, c)
    | (some n, c) => if 2 ≤ w then (some (w, n, []), c) else if X c = 32 then (match anyQ X (oneQ X 4) (c + 1) with
      | (some t, d) => (some (w, n, t), d)
      | (none, d) => (none, d)) else (none, c)) else (none, b)
def txtQ (X : Nat → Nat) (s : Nat) : Nat → Nat → Option (List Cq) × Nat
  | 0, a => (none, a)
  | f + 1, a => match clsQ X a with
    | (none, b) => (none, b)
    | (some q, b) => if b = s then (some [q], b) else if f = 0 then (none, b) else if X b = 59 then (match txtQ X s f (b + 1) with
      | (some qs, c) => (some (q :: qs), c)
      | (none, c) => (none, c)) else (none, b)
theorem wordL_le : ∀ i, wordL i ≤ 127 := by
  intro i
  by_cases h : i < 16
  · exact (show ∀ i : Fin 16, wordL i.val ≤ 127 by decide) ⟨i, h⟩
  · unfold wordL
    rw [List.getD_eq_getElem?_getD, List.getElem?_eq_none (by show 16 ≤ i; omega)]
    decide
theorem wl_t : ∀ i : Fin 16, ([102, 105, 114, 109, 119, 101, 97, 107, 119, 105, 110, 100, 108, 97, 115, 104] : List Int32).getD i.val 0 = nI (wordL i.val) := by decide
theorem preQ_le {X : Nat → Nat} {a w : Nat} : ∀ (f j : Nat), j ≤ preQ X a w f j ∧ preQ X a w f j ≤ j + f := by
  intro f
  induction f with
  | zero => intro j; exact ⟨Nat.le_refl _, Nat.le_refl _⟩
  | succ f ih =>
    intro j
    rw [preQ]
    split
    · have := ih (j + 1); omega
    · omega
theorem preQ_s {s : Nat} {X : Nat → Nat} (x : XOK s X) {a w : Nat} : ∀ (f j : Nat), a + j ≤ s → a + preQ X a w f j ≤ s := by
  intro f
  induction f with
  | zero => intro j h; exact h
  | succ f ih =>
    intro j h
    rw [preQ]
    split
    · rename_i e
      have := x.lt (show X (a + j) ≤ 127 by rw [e]; exact wordL_le _)
      exact ih (j + 1) (by omega)
    · exact h
theorem preQ_z {X : Nat → Nat} {a w : Nat} (h : X a ≠ wordL (4 * w)) : preQ X a w 4 0 = 0 := by
  rw [preQ, if_neg (by rw [Nat.add_zero, Nat.add_zero]; exact h)]
theorem preQ_1 {X : Nat → Nat} {a w : Nat} (h : X (a + 1) ≠ wordL (4 * w + 1)) : preQ X a w 4 0 ≤ 1 := by
  rw [preQ]
  split
  · rw [preQ, if_neg h]
    exact Nat.le_refl _
  · omega
theorem preQ_1' {X : Nat → Nat} {a w : Nat} (h : X a = wordL (4 * w)) : 1 ≤ preQ X a w 4 0 := by
  rw [preQ, if_pos (by rw [Nat.add_zero, Nat.add_zero]; exact h)]
  exact (preQ_le 3 1).1
/-- the other words begin less alike -/
theorem sel_max (X : Nat → Nat) (a : Nat) : selQ X a < 4 ∧ ∀ w, w < 4 → w ≠ selQ X a → preQ X a w 4 0 ≤ preQ X a (selQ X a) 4 0 ∧ preQ X a w 4 0 < 4 := by
  have l0 : wordL (4 * 0) = 102 := rfl
  have l1 : wordL (4 * 1) = 119 := rfl
  have l2 : wordL (4 * 2) = 119 := rfl
  have l3 : wordL (4 * 3) = 108 := rfl
  have m1 : wordL (4 * 1 + 1) = 101 := rfl
  have m2 : wordL (4 * 2 + 1) = 105 := rfl
  unfold selQ
  by_cases h1 : X a = 102
  · rw [if_pos h1]
    refine ⟨by omega, fun w hw hn => ?_⟩
    have : preQ X a w 4 0 = 0 := by
      have a2 : w = 1 ∨ w = 2 ∨ w = 3 := by omega
      rcases a2 with rfl | rfl | rfl <;> exact preQ_z (by omega)
    omega
  · rw [if_neg h1]
    by_cases h2 : X a = 108
    · rw [if_pos h2]
      refine ⟨by omega, fun w hw hn => ?_⟩
      have : preQ X a w 4 0 = 0 := by
        have a2 : w = 0 ∨ w = 1 ∨ w = 2 := by omega
        rcases a2 with rfl | rfl | rfl <;> exact preQ_z (by omega)
      omega
    · rw [if_neg h2]
      have z0 : preQ X a 0 4 0 = 0 := preQ_z (by omega)
      have z3 : preQ X a 3 4 0 = 0 := preQ_z (by omega)
      by_cases h3 : X (a + 1) = 105
      · rw [if_pos h3]
        refine ⟨by omega, fun w hw hn => ?_⟩
        have a2 : w = 0 ∨ w = 1 ∨ w = 3 := by omega
        rcases a2 with rfl | rfl | rfl
        · omega
        · by_cases h4 : X a = 119
          · have b1 := preQ_1 (X := X) (a := a) (w := 1) (by omega)
            have b2 := preQ_1' (X := X) (a := a) (w := 2) (by omega)
            omega
          · have : preQ X a 1 4 0 = 0 := preQ_z (by omega)
            omega
        · omega
      · rw [if_neg h3]
        refine ⟨by omega, fun w hw hn => ?_⟩
        have a2 : w = 0 ∨ w = 2 ∨ w = 3 := by omega
        rcases a2 with rfl | rfl | rfl
        · omega
        · by_cases h4 : X a = 119
          · have b1 := preQ_1 (X := X) (a := a) (w := 2) (by omega)
            have b2 := preQ_1' (X := X) (a := a) (w := 1) (by omega)
            omega
          · have : preQ X a 2 4 0 = 0 := preQ_z (by omega)
            omega
        · omega
theorem E5_L11 {oc s a w : Nat} {X : Nat → Nat} {C : List Tq} {g : HP} (x : XOK s X) (k : CPq oc s X a C g) (hw : w < 4) (rc : Int32 → Int32 → HP → Option (Int32 × HP)) (x1 : Int32) : ∀ (f j fuel : Nat), j + f = 4 → f < fuel → f_X5_takesWord_L11 rc fuel x1 (nI w) (nI j) g = f_X5_takesWord_J59 rc x1 (nI w) (nI (preQ X a w f j)) g := by
  obtain ⟨c1, c2, c3, c4, c5, c6, c7, c8, c9⟩ := k
  have xs := x.1
  intro f
  induction f with
  | zero =>
    intro j fuel hj hf
    obtain ⟨fu, rfl⟩ : ∃ fu, fuel = fu + 1 := ⟨fuel - 1, by omega⟩
    rw [f_X5_takesWord_L11, if_pos (by rw [show (4 : Int32) = nI 4 from rfl, le_n (by omega) (by omega)]; omega)]
    rfl
  | succ f ih =>
    intro j fuel hj hf
    obtain ⟨fu, rfl⟩ : ∃ fu, fuel = fu + 1 := ⟨fuel - 1, by omega⟩
    rw [f_X5_takesWord_L11, if_neg (by rw [show (4 : Int32) = nI 4 from rfl, le_n (by omega) (by omega)]; omega), c3, c4, add_n, preQ]
    have wl := wordL_le (4 * w + j)
    by_cases z : s ≤ a + j
    · rw [if_pos ((le_n (by omega) (by omega)).mpr z), if_neg (X_ne x z wl)]
    · have xb := x.2.1 (a + j) (by omega)
      rw [if_neg (fun q => z ((le_n (by omega) (by omega)).mp q)), gd_b (inb_n (by omega) (by omega)), show (4 : Int32) * nI w + nI j = nI (4 * w + j) by rw [show (4 : Int32) = nI 4 from rfl, mul_n, add_n], gd_b (inb_n (by omega) (by omega)), cl_n (by omega), cl_n (by omega), c5 _ (by omega), show ([102, 105, 114, 109, 119, 101, 97, 107, 119, 105, 110, 100, 108, 97, 115, 104] : List Int32).getD (4 * w + j) 0 = nI (wordL (4 * w + j)) from wl_t ⟨4 * w + j, by omega⟩]
      by_cases y : X (a + j) = wordL (4 * w + j)
      · rw [if_pos (by rw [y]), if_pos y, one_n, lt_e]
        exact ih (j + 1) fu (by omega) (by omega)
      · rw [if_neg (fun q => y ((eq_n (by omega) (by omega)).mp q)), if_neg y]
theorem E5_word_go {oc s a : Nat} {X : Nat → Nat} {C : List Tq} {g : HP} (x : XOK s X) (k : CPq oc s X a C g) : ∀ (c w lo fuel : Nat), w + c = 4 → c < fuel → (∀ v, v < w → preQ X a v 4 0 < 4 ∧ preQ X a v 4 0 ≤ lo) → lo ≤ preQ X a (selQ X a) 4 0 → f_X5_takesWord_L4 fuel (nI lo) (nI w) g = if preQ X a (selQ X a) 4 0 = 4 then some (nI (selQ X a), si g 79 2 (nI (a + 4))) else some (-1, si g 79 2 (nI (a + preQ X a (selQ X a) 4 0))) := by
  obtain ⟨sl, sm⟩ := sel_max X a
  have c4 := k.2.2.2.1
  intro c
  induction c with
  | zero =>
    intro w lo fuel hw hf hv hl
    obtain ⟨fu, rfl⟩ : ∃ fu, fuel = fu + 1 := ⟨fuel - 1, by omega⟩
    have q := hv (selQ X a) (by omega)
    rw [f_X5_takesWord_L4, if_pos (by rw [show (3 : Int32) = nI 3 from rfl, lt_n (by omega) (by omega)]; omega), c4, add_n, lt_e, if_neg (by omega), show lo = preQ X a (selQ X a) 4 0 by omega]
  | succ c ih =>
    intro w lo fuel hw hf hv hl
    obtain ⟨fu, rfl⟩ : ∃ fu, fuel = fu + 1 := ⟨fuel - 1, by omega⟩
    have e0 := E5_L11 x k (show w < 4 by omega) (fun z0 z1 z2 => f_X5_takesWord_L4 fu z0 z1 z2) (nI lo) 4 0 FZ (by omega) (by have := FZ_ge; omega)
    have pl := (preQ_le (X := X) (a := a) (w := w) 4 0).2
    rw [f_X5_takesWord_L4, if_neg (by rw [show (3 : Int32) = nI 3 from rfl, lt_n (by omega) (by omega)]; omega)]
    refine Eq.trans e0 ?_
    unfold f_X5_takesWord_J59
    by_cases z : preQ X a w 4 0 = 4
    · have : w = selQ X a := by
        by_cases y : w = selQ X a
        · exact y
        · have := (sm w (by omega) y).2; omega
      rw [if_pos (by rw [z]; rfl), c4, show (4 : Int32) = nI 4 from rfl, add_n, lt_e, ← this, if_pos z]
    · rw [if_neg (show ¬ nI (preQ X a w 4 0) = 4 by rw [show (4 : Int32) = nI 4 from rfl, eq_n (by omega) (by omega)]; exact z)]
      have mx : (if nI lo < nI (preQ X a w 4 0) then nI (preQ X a w 4 0) else nI lo) = nI (max lo (preQ X a w 4 0)) := by
        have l4 : lo < 2147483648 := by have := (preQ_le (X := X) (a := a) (w := selQ X a) 4 0).2; omega
        by_cases y : lo < preQ X a w 4 0
        · rw [if_pos ((lt_n (by omega) (by omega)).mpr y)]; congr 1; omega
        · rw [if_neg (fun q => y ((lt_n (by omega) (by omega)).mp q))]; congr 1; omega
      rw [mx, lt_e, one_n, lt_e]
      refine ih (w + 1) (max lo (preQ X a w 4 0)) fu (by omega) (by omega) (fun v hv' => ?_) ?_
      · by_cases y : v = w
        · subst y; omega
        · have := hv v (by omega); omega
      · by_cases y : w = selQ X a
        · rw [← y] at hl ⊢; omega
        · have := (sm w (by omega) y).1; omega
theorem E5_word {oc s a : Nat} {X : Nat → Nat} {C : List Tq} {g : HP} (x : XOK s X) (k : CPq oc s X a C g) : (∀ w b, wordQ X a = (some w, b) → w < 4 ∧ a + 4 = b ∧ ∃ g', f_X5_takesWord g = some (nI w, g') ∧ CPq oc s X b C g' ∧ FOq oc g g') ∧ ∀ b, wordQ X a = (none, b) → ∃ g', f_X5_takesWord g = some (-1, g') ∧ g'.1 79 2 = nI b ∧ FOq oc g g' := by
  have e0 := E5_word_go x k 4 0 0 FZ (by omega) (by have := FZ_ge; omega) (fun v hv => by omega) (Nat.zero_le _)
  have e0' : f_X5_takesWord g = _ := e0
  have ps := preQ_s x (a := a) (w := selQ X a) 4 0 k.2.2.2.2.2.2.2.1
  have pl := (preQ_le (X := X) (a := a) (w := selQ X a) 4 0).2
  rw [e0']
  unfold wordQ
  by_cases z : preQ X a (selQ X a) 4 0 = 4
  · rw [if_pos z, if_pos z]
    refine ⟨fun w b e => ?_, fun b e => (by cases e)⟩
    obtain ⟨e1, e2⟩ := Prod.mk.inj e
    have e1 := Option.some.inj e1
    subst e1; subst e2
    obtain ⟨k1, f1⟩ := k.at (show a ≤ a + 4 by omega) (by omega)
    exact ⟨(sel_max X a).1, rfl, _, rfl, k1, f1⟩
  · rw [if_neg z, if_neg z]
    refine ⟨fun w b e => (by cases e), fun b e => ?_⟩
    obtain ⟨-, e2⟩ := Prod.mk.inj e
    subst e2
    obtain ⟨k1, f1⟩ := k.at (show a ≤ a + preQ X a (selQ X a) 4 0 by omega) ps
    exact ⟨_, rfl, k1.2.2.2.1, f1⟩
