/-! the class reads -/
def CPq (oc s : Nat) (X : Nat → Nat) (a : Nat) (C : List Tq) (g : HP) : Prop := g.2.2 79 = some oc ∧ isOc oc = true ∧ g.1 79 3 = nI s ∧ g.1 79 2 = nI a ∧ (∀ i, i < s → g.1 80 i = nI (X i)) ∧ g.1 oc 4 = nI C.length ∧ (∀ i, i < C.length → g.1 (oc + 1) i = nI (C.getD i (0, 0, 0)).1 ∧ g.1 (oc + 2) i = nI (C.getD i (0, 0, 0)).2.1 ∧ g.1 (oc + 3) i = (C.getD i (0, 0, 0)).2.2) ∧ a ≤ s ∧ C.length ≤ a
def FOq (oc : Nat) (g g' : HP) : Prop := (∀ c, c ≠ 79 → ¬ (oc ≤ c ∧ c ≤ oc + 3) → g'.1 c = g.1 c) ∧ (∀ j, j ≠ 2 → g'.1 79 j = g.1 79 j) ∧ (∀ j, j ≠ 4 → g'.1 oc j = g.1 oc j) ∧ g'.2 = g.2
theorem FOq.rf {oc : Nat} {g : HP} : FOq oc g g := ⟨fun _ _ _ => rfl, fun _ _ => rfl, fun _ _ => rfl, rfl⟩
theorem FOq.trans {oc : Nat} {g g1 g2 : HP} (a : FOq oc g g1) (b : FOq oc g1 g2) : FOq oc g g2 := ⟨fun c x y => (b.1 c x y).trans (a.1 c x y), fun j x => (b.2.1 j x).trans (a.2.1 j x), fun j x => (b.2.2.1 j x).trans (a.2.2.1 j x), b.2.2.2.trans a.2.2.2⟩
theorem oc_79 {oc : Nat} (h : isOc oc = true) : oc + 4 < 79 := by have := isOc_n h; omega
theorem CPq.at {oc s a b : Nat} {X : Nat → Nat} {C : List Tq} {g : HP} (c : CPq oc s X a C g) (h1 : a ≤ b) (h2 : b ≤ s) : CPq oc s X b C (si g 79 2 (nI b)) ∧ FOq oc g (si g 79 2 (nI b)) := by
  obtain ⟨c1, c2, c3, c4, c5, c6, c7, c8, c9⟩ := c
  have o := oc_79 c2
  refine ⟨⟨c1, c2, by rw [si_w, up_n _ _ (by omega)]; exact c3, by rw [si_w, up_s], fun i hi => by rw [si_r (by omega)]; exact c5 i hi, by rw [si_r (by omega)]; exact c6, fun i hi => by rw [si_r (by omega), si_r (by omega), si_r (by omega)]; exact c7 i hi, h2, by omega⟩, fun c h1 _ => si_r h1, fun j hj => by rw [si_w, up_n _ _ hj], fun j _ => by rw [si_r (by omega)], rfl⟩
theorem X_ne {s : Nat} {X : Nat → Nat} (x : XOK s X) {a c : Nat} (ha : s ≤ a) (hc : c ≤ 127) : ¬ X a = c := by have := x.2.2 a ha; omega
theorem E5_takes {oc s a c : Nat} {X : Nat → Nat} {C : List Tq} {g : HP} (x : XOK s X) (k : CPq oc s X a C g) (hc : c ≤ 127) : f_X5_takes (nI c) g = if X a = c then some (1, si g 79 2 (nI (a + 1))) else some (0, g) := by
  obtain ⟨c1, c2, c3, c4, c5, c6, c7, c8, c9⟩ := k
  have x1 := x.1
  unfold f_X5_takes
  rw [c3, c4]
  by_cases z : s ≤ a
  · rw [if_pos ((le_n (by omega) (by omega)).mpr z), if_neg (X_ne x z hc)]
  · rw [if_neg (fun q => z ((le_n (by omega) (by omega)).mp q)), gd_b (inb_n (by omega) (by omega)), cl_n (by omega), c5 a (by omega)]
    have := x.2.1 a (by omega)
    by_cases y : X a = c
    · rw [if_pos y, if_pos (by rw [y]), one_n, lt_e]
    · rw [if_neg y, if_neg (fun q => y ((eq_n (by omega) (by omega)).mp q))]
theorem getD_apT {C : List Tq} {b : Tq} {j : Nat} : (C ++ [b]).getD j (0, 0, 0) = if j < C.length then C.getD j (0, 0, 0) else if j = C.length then b else (0, 0, 0) := by
  simp only [List.getD_eq_getElem?_getD]
  by_cases h : j < C.length
  · rw [if_pos h, List.getElem?_append_left h]
  · rw [if_neg h, List.getElem?_append_right (by omega)]
    by_cases e : j = C.length
    · subst e; simp
    · rw [if_neg e]
      obtain ⟨i, hi⟩ : ∃ i, j - C.length = i + 1 := ⟨j - C.length - 1, by omega⟩
      rw [hi]; rfl
theorem E5_add {oc s a c l : Nat} {n : Int32} {X : Nat → Nat} {C : List Tq} {g : HP} (k : CPq oc s X a C g) (h1 : C.length < 100) (h2 : C.length + 1 ≤ a) : ∃ g', f_X2_add oc (nI c) (nI l) n g = some g' ∧ CPq oc s X a (C ++ [(c, l, n)]) g' ∧ FOq oc g g' := by
  obtain ⟨c1, c2, c3, c4, c5, c6, c7, c8, c9⟩ := k
  have o := oc_79 c2
  have len : (C ++ [(c, l, n)]).length = C.length + 1 := List.length_append
  have ib := inb_n h1 (show (100 : Nat) < 2147483648 by omega)
  refine ⟨si (si (si (si g (oc + 1) C.length (nI c)) (oc + 2) C.length (nI l)) (oc + 3) C.length n) oc 4 (nI (C.length + 1)), ?_, ⟨c1, c2, ?_, ?_, fun i hi => ?_, ?_, fun i hi => ?_, c8, by rw [len]; exact h2⟩, fun c' h3 h4 => ?_, fun j _ => ?_, fun j hj => ?_, rfl⟩
  · unfold f_X2_add
    rw [c6, if_neg (by rw [show (100 : Int32) = nI 100 from rfl, le_n (by omega) (by omega)]; omega), gd_b ib, cl_n (by omega), lt_e, si_r (show oc ≠ oc + 1 by omega), c6, gd_b ib, cl_n (by omega), lt_e, si_r (show oc ≠ oc + 2 by omega), si_r (show oc ≠ oc + 1 by omega), c6, gd_b ib, cl_n (by omega), lt_e, si_r (show oc ≠ oc + 3 by omega), si_r (show oc ≠ oc + 2 by omega), si_r (show oc ≠ oc + 1 by omega), c6, one_n, lt_e]
  · rw [si_r (by omega), si_r (by omega), si_r (by omega), si_r (by omega)]; exact c3
  · rw [si_r (by omega), si_r (by omega), si_r (by omega), si_r (by omega)]; exact c4
  · rw [si_r (by omega), si_r (by omega), si_r (by omega), si_r (by omega)]; exact c5 i hi
  · rw [si_w, up_s, len]
  · rw [len] at hi
    rw [si_r (show oc + 1 ≠ oc by omega), si_r (show oc + 1 ≠ oc + 3 by omega), si_r (show oc + 1 ≠ oc + 2 by omega), si_w, si_r (show oc + 2 ≠ oc by omega), si_r (show oc + 2 ≠ oc + 3 by omega), si_w, si_r (show oc + 2 ≠ oc + 1 by omega), si_r (show oc + 3 ≠ oc by omega), si_w, si_r (show oc + 3 ≠ oc + 2 by omega), si_r (show oc + 3 ≠ oc + 1 by omega), getD_apT]
    by_cases e : i = C.length
    · subst e
      rw [up_s, up_s, up_s, if_neg (by omega), if_pos rfl]
      exact ⟨rfl, rfl, rfl⟩
    · rw [up_n _ _ e, up_n _ _ e, up_n _ _ e, if_pos (by omega)]
      exact c7 i (by omega)
  · rw [si_r (by omega), si_r (by omega), si_r (by omega), si_r (by omega)]
  · rw [si_r (by omega), si_r (by omega), si_r (by omega), si_r (by omega)]
  · rw [si_w, up_n _ _ hj, si_r (by omega), si_r (by omega), si_r (by omega)]
theorem E5_num {oc s a : Nat} {X : Nat → Nat} {C : List Tq} {g : HP} (x : XOK s X) (k : CPq oc s X a C g) : (∀ n b, numQ X a = (some n, b) → ∃ g', f_X5_takesNumber g = some (nI n, g') ∧ CPq oc s X b C g' ∧ FOq oc g g') ∧ (numQ X a = (none, a) → f_X5_takesNumber g = some (-1, g)) := by
  have k' := k
  obtain ⟨c1, c2, c3, c4, c5, c6, c7, c8, c9⟩ := k
  have x1 := x.1
  obtain ⟨f, hf⟩ : ∃ f, FZ = f + 3 := ⟨FZ - 3, by have := FZ_ge; omega⟩
  have step : ∀ (g : HP) (a : Nat) (f : Nat) (v : Int32) (i : Nat), i < 2 → CPq oc s X a C g → ¬ digQ (X a) → f_X5_takesNumber_L4 (f + 1) v (nI i) g = some (v, g) := fun g a f v i hi kk z => by
    obtain ⟨d1, d2, d3, d4, d5, d6, d7, d8, d9⟩ := kk
    rw [f_X5_takesNumber_L4, if_neg (by rw [show (2 : Int32) = nI 2 from rfl, le_n (by omega) (by omega)]; omega), d3, d4]
    by_cases y : s ≤ a
    · rw [if_pos ((le_n (by omega) (by omega)).mpr y)]
    · have := x.2.1 a (by omega)
      rw [if_neg (fun q => y ((le_n (by omega) (by omega)).mp q)), gd_b (inb_n (by omega) (by omega)), cl_n (by omega), d5 a (by omega)]
      by_cases y2 : X a < 48
      · rw [if_pos (by rw [show (48 : Int32) = nI 48 from rfl, lt_n (by omega) (by omega)]; exact y2)]
      · rw [if_neg (by rw [show (48 : Int32) = nI 48 from rfl, lt_n (by omega) (by omega)]; exact y2), gd_b (inb_n (by omega) (by omega)), if_pos (by rw [show (57 : Int32) = nI 57 from rfl, lt_n (by omega) (by omega)]; omega)]
  have go : ∀ (g : HP) (a : Nat) (f : Nat) (v : Int32) (m : Nat) (i : Nat), i < 2 → m ≤ 9 → (if v < 0 then 0 else v) = nI m → CPq oc s X a C g → digQ (X a) → f_X5_takesNumber_L4 (f + 1) v (nI i) g = f_X5_takesNumber_L4 f (nI (10 * m + (X a - 48))) (nI (i + 1)) (si g 79 2 (nI (a + 1))) := fun g a f v m i hi hm hv kk z => by
    obtain ⟨d1, d2, d3, d4, d5, d6, d7, d8, d9⟩ := kk
    have z1 := z.1
    have z2 := z.2
    have y := x.lt (show X a ≤ 127 by omega)
    rw [f_X5_takesNumber_L4, if_neg (by rw [show (2 : Int32) = nI 2 from rfl, le_n (by omega) (by omega)]; omega), d3, d4, if_neg (by rw [le_n (by omega) (by omega)]; omega), gd_b (inb_n (by omega) (by omega)), cl_n (by omega), d5 a (by omega), if_neg (by rw [show (48 : Int32) = nI 48 from rfl, lt_n (by omega) (by omega)]; omega), gd_b (inb_n (by omega) (by omega)), if_neg (by rw [show (57 : Int32) = nI 57 from rfl, lt_n (by omega) (by omega)]; omega), gd_b (inb_n (by omega) (by omega)), lt_e, hv, one_n, one_n, lt_e, lt_e, show (10 : Int32) = nI 10 from rfl, mul_n, add_n, show (48 : Int32) = nI 48 from rfl, sub_n (by omega), show m * 10 + X a - 48 = 10 * m + (X a - 48) by omega]
  refine ⟨fun n b e => ?_, fun e => ?_⟩
  · unfold numQ at e
    by_cases z : digQ (X a)
    · rw [if_pos z] at e
      have y := x.lt (show X a ≤ 127 by omega)
      have c1' := (k'.at (show a ≤ a + 1 by omega) (by omega)).1
      have f1' := (k'.at (show a ≤ a + 1 by omega) (by omega)).2
      have g1 := go g a (f + 2) (-1) 0 0 (by omega) (by omega) (by decide) k' z
      by_cases z2 : digQ (X (a + 1))
      · rw [if_pos z2] at e
        obtain ⟨e1, e2⟩ := Prod.mk.inj e
        have e1 := Option.some.inj e1
        subst e1; subst e2
        have y2 := x.lt (show X (a + 1) ≤ 127 by omega)
        have c2' := c1'.at (show a + 1 ≤ a + 2 by omega) (by omega)
        have g2 := go (si g 79 2 (nI (a + 1))) (a + 1) (f + 1) (nI (10 * 0 + (X a - 48))) (X a - 48) 1 (by omega) (by omega) (by rw [if_neg (nI_pos (by omega))]; congr 1; omega) c1' z2
        refine ⟨_, ?_, c2'.1, f1'.trans c2'.2⟩
        unfold f_X5_takesNumber
        rw [hf]
        refine Eq.trans g1 (Eq.trans g2 ?_)
        rw [f_X5_takesNumber_L4, if_pos (by decide)]
      · rw [if_neg z2] at e
        obtain ⟨e1, e2⟩ := Prod.mk.inj e
        have e1 := Option.some.inj e1
        subst e1; subst e2
        refine ⟨_, ?_, c1', f1'⟩
        unfold f_X5_takesNumber
        rw [hf]
        refine Eq.trans g1 (Eq.trans (step _ (a + 1) (f + 1) _ 1 (by omega) c1' z2) ?_)
        rw [show 10 * 0 + (X a - 48) = X a - 48 by omega]
    · rw [if_neg z] at e; cases e
  · have z : ¬ digQ (X a) := fun z => by
      unfold numQ at e
      rw [if_pos z] at e
      split at e <;> cases e
    unfold f_X5_takesNumber
    rw [hf]
    exact step g a (f + 2) (-1) 0 (by omega) k' z
theorem lix_t : ∀ b : Fin 128, lix (UInt32.toInt32 (Int32.toUInt32 (nI b.val) % 65536)) = (match letQ b.val with | some l => nI l | none => -1) := by decide
/-- a reading function of the class does as its row of signs asks -/
def CN5 (oc s : Nat) (X : Nat → Nat) (rc : HP → Option (Int32 × HP)) (p : Nat → Rq) : Prop := ∀ a C g, CPq oc s X a C g → (∀ t b, p a = (some t, b) → ∃ g', rc g = some (1, g') ∧ CPq oc s X b (C ++ t) g' ∧ FOq oc g g') ∧ ∀ b, p a = (none, b) → ∃ g', rc g = some (0, g') ∧ g'.1 79 2 = nI b ∧ FOq oc g g'
theorem E5_test {oc s : Nat} {X : Nat → Nat} (x : XOK s X) (rcM : Int32 → HP → Option (Int32 × HP)) : CN5 oc s X (fun g => f_X5_readsOne_J78 rcM g) (testQ X) := by
  intro a C g k
  have k' := k
  obtain ⟨c1, c2, c3, c4, c5, c6, c7, c8, c9⟩ := k
  have x1 := x.1
  dsimp only
  -- the letter
  have e78 : f_X5_readsOne_J78 rcM g = f_X5_readsOne_J108 rcM (match letQ (X a) with | some l => nI l | none => -1) g := by
    unfold f_X5_readsOne_J78
    rw [c3, c4]
    by_cases z : s ≤ a
    · rw [if_pos ((le_n (by omega) (by omega)).mpr z), show letQ (X a) = none by rw [x.2.2 a z]; rfl]
    · have := x.2.1 a (by omega)
      rw [if_neg (fun q => z ((le_n (by omega) (by omega)).mp q)), gd_b (inb_n (by omega) (by omega)), cl_n (by omega), c5 a (by omega), show lix (UInt32.toInt32 (Int32.toUInt32 (nI (X a)) % 65536)) = _ from lix_t ⟨X a, by omega⟩]
  rw [e78]
  unfold testQ
  cases h : letQ (X a) with
  | none =>
    dsimp only
    refine ⟨fun t b e => (by cases e), fun b e => ?_⟩
    obtain ⟨-, e2⟩ := Prod.mk.inj e
    subst e2
    exact ⟨g, by unfold f_X5_readsOne_J108; rw [if_neg (by decide)], c4, FOq.rf⟩
  | some l =>
    dsimp only
    have hl := letQ_l h
    have h1 := x.lt hl.2
    obtain ⟨k1, f1⟩ := k'.at (show a ≤ a + 1 by omega) (by omega)
    generalize hg1 : si g 79 2 (nI (a + 1)) = g1 at k1 f1
    have k1' := k1
    obtain ⟨d1, d2, d3, d4, d5, d6, d7, d8, d9⟩ := k1
    -- the sign
    have e108 : f_X5_readsOne_J108 rcM (nI l) g = f_X5_readsOne_J149 rcM (nI l) (if s ≤ a + 1 then 0 else nI (X (a + 1))) g1 := by
      unfold f_X5_readsOne_J108
      rw [if_pos (by rw [show (0 : Int32) = nI 0 from rfl, le_n (by omega) (by omega)]; omega), c4, one_n, lt_e, hg1, d3, d4]
      by_cases z : s ≤ a + 1
      · rw [if_pos ((le_n (by omega) (by omega)).mpr z), if_pos z]
      · rw [if_neg (fun q => z ((le_n (by omega) (by omega)).mp q)), gd_b (inb_n (by omega) (by omega)), cl_n (by omega), d5 _ (by omega), if_neg z]
    rw [e108]
    have t60 := E5_takes (c := 60) x k1' (by omega)
    have t61 := E5_takes (c := 61) x k1' (by omega)
    have t62 := E5_takes (c := 62) x k1' (by omega)
    have t60' : f_X5_takes 60 g1 = _ := t60
    have t61' : f_X5_takes 61 g1 = _ := t61
    have t62' : f_X5_takes 62 g1 = _ := t62
    by_cases h2 : X (a + 1) = 60 ∨ X (a + 1) = 61 ∨ X (a + 1) = 62
    · rw [if_pos h2]
      have h3 := x.lt (show X (a + 1) ≤ 127 by omega)
      obtain ⟨k2, f2⟩ := k1'.at (show a + 1 ≤ a + 2 by omega) (by omega)
      have e149 : f_X5_readsOne_J149 rcM (nI l) (if s ≤ a + 1 then 0 else nI (X (a + 1))) g1 = f_X5_readsOne_J179 rcM (nI l) (nI (X (a + 1))) (si g1 79 2 (nI (a + 2))) := by
        unfold f_X5_readsOne_J149
        rw [if_neg (show ¬ s ≤ a + 1 by omega), t60']
        rcases h2 with e | e | e
        · rw [if_pos e, bd_s, if_neg one_ne]
        · rw [if_neg (by omega), bd_s, if_pos rfl, t61', if_pos e, bd_s, if_neg one_ne]
        · rw [if_neg (by omega), bd_s, if_pos rfl, t61', if_neg (by omega), bd_s, if_pos rfl, t62', if_pos e, bd_s, if_neg one_ne]
      rw [e149]
      generalize hg2 : si g1 79 2 (nI (a + 2)) = g2 at k2 f2
      obtain ⟨n1, n2⟩ := E5_num x k2
      unfold f_X5_readsOne_J179
      rcases numQ_g x (show a + 2 ≤ s by omega) with ⟨n, b, e, hn, e2, e3⟩ | e
      · obtain ⟨g3, e4, k3, f3⟩ := n1 n b e
        obtain ⟨g4, e5, k4, f4⟩ := E5_add (c := X (a + 1)) (l := l) (n := nI n) k3 (by omega) (by omega)
        rw [e]
        dsimp only
        refine ⟨fun t b' q => ?_, fun b' q => by cases q⟩
        obtain ⟨q1, q2⟩ := Prod.mk.inj q
        have q1 := Option.some.inj q1
        subst q1; subst q2
        refine ⟨g4, ?_, k4, f1.trans (f2.trans (f3.trans f4))⟩
        rw [e4, bd_s, if_pos (by rw [show (0 : Int32) = nI 0 from rfl, le_n (by omega) (by omega)]; omega), k3.1, bo_s, gd_b k3.2.1, e5, bo_s]
      · rw [e]
        dsimp only
        refine ⟨fun t b' q => (by cases q), fun b' q => ?_⟩
        obtain ⟨-, q2⟩ := Prod.mk.inj q
        subst q2
        exact ⟨g2, by rw [n2 e, bd_s, if_neg (by decide)], k2.2.2.2.1, f1.trans f2⟩
    · rw [if_neg h2]
      refine ⟨fun t b q => (by cases q), fun b q => ?_⟩
      obtain ⟨-, q2⟩ := Prod.mk.inj q
      subst q2
      refine ⟨g1, ?_, d4, f1⟩
      unfold f_X5_readsOne_J149
      rw [t60', if_neg (by omega), bd_s, if_pos rfl, t61', if_neg (by omega), bd_s, if_pos rfl, t62', if_neg (by omega), bd_s, if_pos rfl]
