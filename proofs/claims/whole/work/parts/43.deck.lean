/-! the calls that change the deck -/
theorem mv6 {h : HP} {k j : Nat} {v : Int32} (h1 : k < 96) : mv (si h k j v) = mv h := mv_fr (fun j _ => by rw [si_r (by omega)]) (fun c a _ => si_r (by omega))
theorem dv96 {h : HP} {k j : Nat} {v : Int32} (h1 : 96 ≤ k) : dv 6 (si h k j v) = dv 6 h := dv_fr (fun c _ b => si_r (by omega))
theorem dv_put5 {o : Nat} {h : HP} {j : Nat} {v : Int32} (hj : j < 24) : dv o (si h (o + 6) j v) = sPut (dv o h) 5 j v := by
  have e0 : (si h (o + 6) j v).1 o = h.1 o := si_r (by omega)
  refine Prod.ext (funext fun x => ?_) (funext fun y => funext fun x => ?_)
  · show (if x < 6 then (si h (o + 6) j v).1 o (7 + x) else 0) = (if x < 6 then h.1 o (7 + x) else 0)
    rw [e0]
  · show (if x < wdt ((si h (o + 6) j v).1 o 8) y then (si h (o + 6) j v).1 (o + (y + 1)) x else 0) = va_up (dv o h).2 5 (va_up ((dv o h).2 5) j v) y x
    rw [e0]
    by_cases hy : y = 5
    · subst hy
      have w6 : wdt (h.1 o 8) 5 = 24 := rfl
      rw [w6, si_w, up_s]
      by_cases hx : x = j
      · subst hx; rw [up_s, up_s, if_pos hj]
      · rw [up_n _ _ hx, up_n _ _ hx]
        rfl
    · rw [si_r (by omega), up_n _ _ hy]
      rfl
theorem mv_put5 {h : HP} {j : Nat} {v : Int32} (hj : j < 24) : mv (si h 102 j v) = sPut (mv h) 5 j v := by
  have e0 : (si h 102 j v).1 96 = h.1 96 := si_r (by omega)
  refine Prod.ext (funext fun x => ?_) (funext fun y => funext fun x => ?_)
  · show (if x < 6 then (si h 102 j v).1 96 x else 0) = (if x < 6 then h.1 96 x else 0)
    rw [e0]
  · show (if x < wdt ((si h 102 j v).1 96 1) y then (si h 102 j v).1 (97 + y) x else 0) = va_up (mv h).2 5 (va_up ((mv h).2 5) j v) y x
    rw [e0]
    by_cases hy : y = 5
    · subst hy
      have w6 : wdt (h.1 96 1) 5 = 24 := rfl
      rw [w6, up_s]
      show (if x < 24 then (si h 102 j v).1 102 x else 0) = _
      rw [si_w]
      by_cases hx : x = j
      · subst hx; rw [up_s, up_s, if_pos hj]
      · rw [up_n _ _ hx, up_n _ _ hx]
        rfl
    · rw [si_r (by omega), up_n _ _ hy]
      rfl
/-- what a piece may be -/
def okP (i : Nat) (v : Int32) : Prop := (i = 0 ∧ ∃ l, l ≤ 6 ∧ v = nI l) ∨ (i = 1 ∧ ∃ l, l ≤ 9 ∧ v = nI l) ∨ ((i = 2 ∨ i = 3) ∧ ∃ l, l ≤ 99 ∧ v = nI l) ∨ i = 4 ∨ i = 5
theorem WFA_put {a : AS} {i p : Nat} {v : Int32} (w : WFA a) (hv : okP i v) : WFA (sPut a i p v) := by
  obtain ⟨n, k, h1, h2, h3, h4, h5, h6, h7, h8, h9, h12⟩ := w
  have hi6 : 6 ≠ i := by rcases hv with ⟨rfl, _⟩ | ⟨rfl, _⟩ | ⟨rfl | rfl, _⟩ | rfl | rfl <;> omega
  have row : ∀ y, (∃ b, (∀ q, q < 6 → ∃ l, l ≤ b ∧ a.2 y q = nI l) ∧ (i = y → ∃ l, l ≤ b ∧ v = nI l) ∧ (y = 0 ∧ b = 6 ∨ y = 1 ∧ b = 9 ∨ (y = 2 ∨ y = 3) ∧ b = 99)) → ∀ q, q < 6 → ∃ l, l ≤ (if y = 0 then 6 else if y = 1 then 9 else 99) ∧ (sPut a i p v).2 y q = nI l := by
    rintro y ⟨b, r1, r2, r3⟩ q hq
    have hb : (if y = 0 then 6 else if y = 1 then 9 else 99) = b := by
      rcases r3 with ⟨rfl, rfl⟩ | ⟨rfl, rfl⟩ | ⟨rfl | rfl, rfl⟩ <;> rfl
    rw [hb]
    by_cases e : y = i
    · subst e
      rw [sPut_w]
      by_cases e2 : q = p
      · subst e2; rw [up_s]; exact r2 rfl
      · rw [up_n _ _ e2]; exact r1 q hq
    · rw [sPut_n _ _ e]; exact r1 q hq
  refine ⟨n, k, h1, h2, h3, h4, fun j hj => by rw [sPut_n _ _ hi6]; exact h5 j hj, h6, h7, h8, h9, fun q hq => ⟨?_, ?_, ?_, ?_⟩⟩
  · exact row 2 ⟨99, fun q hq => (h12 q hq).1, fun e => by subst e; rcases hv with ⟨e, _⟩ | ⟨e, _⟩ | ⟨_, z⟩ | e | e <;> first | exact z | omega, by omega⟩ q hq
  · exact row 3 ⟨99, fun q hq => (h12 q hq).2.1, fun e => by subst e; rcases hv with ⟨e, _⟩ | ⟨e, _⟩ | ⟨_, z⟩ | e | e <;> first | exact z | omega, by omega⟩ q hq
  · exact row 1 ⟨9, fun q hq => (h12 q hq).2.2.1, fun e => by subst e; rcases hv with ⟨e, _⟩ | ⟨_, z⟩ | ⟨e, _⟩ | e | e <;> first | exact z | omega, by omega⟩ q hq
  · exact row 0 ⟨6, fun q hq => (h12 q hq).2.2.2, fun e => by subst e; rcases hv with ⟨_, z⟩ | ⟨e, _⟩ | ⟨e, _⟩ | e | e <;> first | exact z | omega, by omega⟩ q hq
theorem DM_cg {a b : AS} (h : DM a) (h1 : b.1 1 = a.1 1) (h6 : b.2 6 = a.2 6) : DM b := by
  intro i j hij hj
  rw [h6]
  exact h i j hij (by unfold sK at hj ⊢; rw [h1] at hj; exact hj)
theorem DM_put {a : AS} {i p : Nat} {v : Int32} (h : DM a) (hi : i ≠ 6) : DM (sPut a i p v) := DM_cg h rfl (sPut_n _ _ (Ne.symm hi))
theorem kqd {h : HP} {J : Nat → Prop} {k j j' k' : Nat} {v v' : Int32} (h1 : 6 ≤ k ∧ k ≤ 13) (h2 : 97 ≤ k' ∧ k' ≤ 103) : Kq SBq J N_q (OD 22) h (si (si h k j v) k' j' v') :=
  (Kq.rf.wr (by omega) (Or.inl h1)).wr (by omega) (by unfold SBq ZC; omega)
theorem D6q.mv0 {n : Nat} {h : HP} (d : D6q n h) : h.1 96 0 = nI n := by
  obtain ⟨d1, d2, d3, d4, d5, d6, d7⟩ := d
  have : (dv 6 h).1 0 = (mv h).1 0 := by rw [d1]
  rw [dv_s 6 h (by omega), mv_s h (by omega)] at this
  exact this.symm.trans d7
/-- one number of a piece is written on both sides -/
theorem IVq.put {O : OS} {n m : Nat} {T : Nat → OS} {h : HP} {i p : Nat} {v : Int32} (w : IVq O n m T h) (hi : i < 5) (hp : p < 6) (hv : okP i v) : IVq O n m T (si (si h (6 + (i + 1)) p v) (97 + i) p v) := by
  have a := w.1
  refine w.deck (Nat.le_refl _) (J := N_q) (kqd ⟨by omega, by omega⟩ ⟨by omega, by omega⟩) (fun j z => z.elim) ?_
  obtain ⟨d1, d2, d3, d4, d5, d6, d7⟩ := a
  have e1 : dv 6 (si (si h (6 + (i + 1)) p v) (97 + i) p v) = sPut (dv 6 h) i p v := by rw [dv96 (by omega), dv_put hi hp]
  have e2 : mv (si (si h (6 + (i + 1)) p v) (97 + i) p v) = sPut (mv h) i p v := by rw [mv_put hi hp, mv6 (by omega)]
  refine ⟨by rw [e1, e2, d1], ?_, ?_, by rw [e1]; exact WFA_put d4 hv, by rw [e1]; exact DM_put d5 (by omega), d6, ?_⟩
  · rw [si_r (by omega), si_r (by omega)]; exact d2
  · rw [si_r (by omega), si_r (by omega)]; exact d3
  · rw [si_r (by omega), si_r (by omega)]; exact d7
theorem IVq.put5 {O : OS} {n m : Nat} {T : Nat → OS} {h : HP} {p : Nat} {v : Int32} (w : IVq O n m T h) (hp : p < 24) : IVq O n m T (si (si h 12 p v) 102 p v) := by
  have a := w.1
  refine w.deck (Nat.le_refl _) (J := N_q) (kqd ⟨by omega, by omega⟩ ⟨by omega, by omega⟩) (fun j z => z.elim) ?_
  obtain ⟨d1, d2, d3, d4, d5, d6, d7⟩ := a
  have e1 : dv 6 (si (si h 12 p v) 102 p v) = sPut (dv 6 h) 5 p v := by rw [dv96 (by omega), show (12 : Nat) = 6 + 6 from rfl, dv_put5 hp]
  have e2 : mv (si (si h 12 p v) 102 p v) = sPut (mv h) 5 p v := by rw [mv_put5 hp, mv6 (by omega)]
  refine ⟨by rw [e1, e2, d1], ?_, ?_, by rw [e1]; exact WFA_put d4 (by unfold okP; omega), by rw [e1]; exact DM_put d5 (by omega), d6, ?_⟩
  · rw [si_r (by omega), si_r (by omega)]; exact d2
  · rw [si_r (by omega), si_r (by omega)]; exact d3
  · rw [si_r (by omega), si_r (by omega)]; exact d7
theorem D6q.al {n : Nat} {h : HP} (d : D6q n h) {i p : Nat} (hi : i < 5) (hp : p < 6) : h.1 (97 + i) p = h.1 (6 + (i + 1)) p := by
  have := d.1
  have e : (dv 6 h).2 i p = (mv h).2 i p := by rw [this]
  rw [dv_a 6 h hi hp, mv_a h hi hp] at e
  exact e.symm
theorem D6q.ar {n : Nat} {h : HP} (d : D6q n h) {p : Nat} (hp : p < 24) : h.1 102 p = h.1 12 p := by
  have := d.1
  have e : (dv 6 h).2 5 p = (mv h).2 5 p := by rw [this]
  rw [dv_r 6 h hp, mv_r h hp] at e
  exact e.symm
theorem D6q.as {n : Nat} {h : HP} (d : D6q n h) {j : Nat} (hj : j < 6) : h.1 96 j = h.1 6 (7 + j) := by
  have := d.1
  have e : (dv 6 h).1 j = (mv h).1 j := by rw [this]
  rw [dv_s 6 h hj, mv_s h hj] at e
  exact e.symm
theorem E_hasq (n : Nat) (h : HP) (e : h.1 6 7 = nI n) (x : Int32) : f_X1_has 6 x h = some (if x < 0 then 0 else if nI n ≤ x then 0 else 1) := by rw [E_has, e]
theorem E_isPq (n : Nat) (h : HP) (e : h.1 96 0 = nI n) (x : Int32) : f_X7_isPiece x h = some (rng x 0 (nI n - 1)) := by rw [E_isPiece, e]
theorem C_set {O : OS} {n m : Nat} {T : Nat → OS} {h : HP} (w : IVq O n m T h) (x1 x2 x3 : Int32) : ∃ r h1 h2, f_X6_set x1 x2 x3 h = some (r, h1) ∧ f_X7_set x1 x2 x3 h1 = some (r, h2) ∧ IVxq h2 := by
  have d := w.1
  have n6 := d.2.2.2.2.2.1
  have e0 := d.2.2.2.2.2.2
  have e9 := d.mv0
  have stay : ∀ r, f_X6_set x1 x2 x3 h = some (r, h) → f_X7_set x1 x2 x3 h = some (r, h) → ∃ r h1 h2, f_X6_set x1 x2 x3 h = some (r, h1) ∧ f_X7_set x1 x2 x3 h1 = some (r, h2) ∧ IVxq h2 := fun r a b => ⟨r, h, h, a, b, O, n, m, T, w⟩
  rcases piecec x1 n6 with ⟨p1, p2, -⟩ | ⟨p, hp, rfl, p1, p2⟩
  · refine stay (-1) ?_ ?_
    · unfold f_X6_set; rw [E_hasq n h e0, p1, bo_s, if_pos rfl]
    · unfold f_X7_set; rw [E_isPq n h e9, p2, bo_s, if_pos rfl]
  · rcases rngc x2 (lo := 0) (hi := 1) 0 1 rfl rfl (by omega) (by omega) with ⟨q1, -⟩ | ⟨wh, -, hw, rfl, q1⟩
    · refine stay (-1) ?_ ?_
      · unfold f_X6_set; rw [E_hasq n h e0, p1, bo_s, if_neg one_ne, E_within, q1, bo_s, if_pos rfl]
      · unfold f_X7_set; rw [E_isPq n h e9, p2, bo_s, if_neg one_ne, E_in, q1, bo_s, if_pos rfl]
    · rcases rngc x3 (lo := 0) (hi := 99) 0 99 rfl rfl (by omega) (by omega) with ⟨r1, -⟩ | ⟨l, -, hl, rfl, r1⟩
      · refine stay (-2) ?_ ?_
        · unfold f_X6_set; rw [E_hasq n h e0, p1, bo_s, if_neg one_ne, E_within, q1, bo_s, if_neg one_ne, E_within, r1, bo_s, if_pos rfl]
        · unfold f_X7_set; rw [E_isPq n h e9, p2, bo_s, if_neg one_ne, E_in, q1, bo_s, if_neg one_ne, E_isFeet, r1, bo_s, if_pos rfl]
      · have i6 := inb_n (show p < 6 by omega) (show (6 : Nat) < 2147483648 by omega)
        have cp : (nI p).toNatClampNeg = p := cl_n (by omega)
        by_cases z : wh = 0
        · subst z
          refine ⟨h.1 9 p, si h 9 p (nI l), si (si h 9 p (nI l)) 99 p (nI l), ?_, ?_, O, n, m, T, w.put (i := 2) (by omega) (by omega) (Or.inr (Or.inr (Or.inl ⟨Or.inl rfl, l, hl, rfl⟩)))⟩
          · unfold f_X6_set; rw [E_hasq n h e0, p1, bo_s, if_neg one_ne, E_within, q1, bo_s, if_neg one_ne, E_within, r1, bo_s, if_neg one_ne, if_pos (show nI 0 = 0 from rfl), gd_b i6, lt_e, gd_b i6, lt_e, cp]
          · unfold f_X7_set f_X7_set_J50; rw [E_isPq n _ ((congrFun (si_r (by omega)) 0).trans e9), p2, bo_s, if_neg one_ne, E_in, q1, bo_s, if_neg one_ne, E_isFeet, r1, bo_s, if_neg one_ne, if_pos (show nI 0 = 0 from rfl), gd_b i6, if_pos (show nI 0 = 0 from rfl), gd_b i6, lt_e, cp, si_r (by omega)]
            rw [show h.1 99 p = h.1 9 p from d.al (i := 2) (by omega) (by omega)]
        · have z1 : wh = 1 := by omega
          subst z1
          refine ⟨h.1 10 p, si h 10 p (nI l), si (si h 10 p (nI l)) 100 p (nI l), ?_, ?_, O, n, m, T, w.put (i := 3) (by omega) (by omega) (Or.inr (Or.inr (Or.inl ⟨Or.inr rfl, l, hl, rfl⟩)))⟩
          · unfold f_X6_set; rw [E_hasq n h e0, p1, bo_s, if_neg one_ne, E_within, q1, bo_s, if_neg one_ne, E_within, r1, bo_s, if_neg one_ne, if_neg (show ¬ nI 1 = 0 by decide), gd_b i6, lt_e, gd_b i6, lt_e, cp]
          · unfold f_X7_set f_X7_set_J50; rw [E_isPq n _ ((congrFun (si_r (by omega)) 0).trans e9), p2, bo_s, if_neg one_ne, E_in, q1, bo_s, if_neg one_ne, E_isFeet, r1, bo_s, if_neg one_ne, if_neg (show ¬ nI 1 = 0 by decide), gd_b i6, if_neg (show ¬ nI 1 = 0 by decide), gd_b i6, lt_e, cp, si_r (by omega)]
            rw [show h.1 100 p = h.1 10 p from d.al (i := 3) (by omega) (by omega)]
theorem C_row {O : OS} {n m : Nat} {T : Nat → OS} {h : HP} (w : IVq O n m T h) (x1 x2 x3 : Int32) : ∃ r h1 h2, f_X6_row x1 x2 x3 h = some (r, h1) ∧ f_X7_row x1 x2 x3 h1 = some (r, h2) ∧ IVxq h2 := by
  have d := w.1
  have n6 := d.2.2.2.2.2.1
  have e0 := d.2.2.2.2.2.2
  have e9 := d.mv0
  have stay : ∀ r, f_X6_row x1 x2 x3 h = some (r, h) → f_X7_row x1 x2 x3 h = some (r, h) → ∃ r h1 h2, f_X6_row x1 x2 x3 h = some (r, h1) ∧ f_X7_row x1 x2 x3 h1 = some (r, h2) ∧ IVxq h2 := fun r a b => ⟨r, h, h, a, b, O, n, m, T, w⟩
  rcases piecec x1 n6 with ⟨p1, p2, -⟩ | ⟨p, hp, rfl, p1, p2⟩
  · refine stay (-1) ?_ ?_
    · unfold f_X6_row; rw [E_hasq n h e0, p1, bo_s, if_pos rfl]
    · unfold f_X7_row; rw [E_isPq n h e9, p2, bo_s, if_pos rfl]
  · rcases rngc x2 (lo := 0) (hi := 3) 0 3 rfl rfl (by omega) (by omega) with ⟨q1, -⟩ | ⟨wh, -, hw, rfl, q1⟩
    · refine stay (-1) ?_ ?_
      · unfold f_X6_row; rw [E_hasq n h e0, p1, bo_s, if_neg one_ne, E_within, q1, bo_s, if_pos rfl]
      · unfold f_X7_row; rw [E_isPq n h e9, p2, bo_s, if_neg one_ne, E_in, q1, bo_s, if_pos rfl]
    · rcases rngc x3 (lo := 0) (hi := 9) 0 9 rfl rfl (by omega) (by omega) with ⟨r1, -⟩ | ⟨l, -, hl, rfl, r1⟩
      · refine stay (-2) ?_ ?_
        · unfold f_X6_row; rw [E_hasq n h e0, p1, bo_s, if_neg one_ne, E_within, q1, bo_s, if_neg one_ne, E_within, r1, bo_s, if_pos rfl]
        · unfold f_X7_row; rw [E_isPq n h e9, p2, bo_s, if_neg one_ne, E_in, q1, bo_s, if_neg one_ne, E_in, r1, bo_s, if_pos rfl]
      · have i6 := inb_n (show p < 6 by omega) (show (6 : Nat) < 2147483648 by omega)
        have cp : (nI p).toNatClampNeg = p := cl_n (by omega)
        have hix : (4 : Int32) * nI p + nI wh = nI (4 * p + wh) := by rw [show (4 : Int32) = nI 4 from rfl, mul_n, add_n]
        have i24 := inb_n (show 4 * p + wh < 24 by omega) (show (24 : Nat) < 2147483648 by omega)
        have cx : (nI (4 * p + wh)).toNatClampNeg = 4 * p + wh := cl_n (by omega)
        have ek : h.1 97 p = h.1 7 p := d.al (i := 0) (by omega) (by omega)
        by_cases z : h.1 7 p = 6
        · refine ⟨h.1 12 (4 * p + wh), si h 12 (4 * p + wh) (nI l), si (si h 12 (4 * p + wh) (nI l)) 102 (4 * p + wh) (nI l), ?_, ?_, O, n, m, T, w.put5 (by omega)⟩
          · unfold f_X6_row; rw [E_hasq n h e0, p1, bo_s, if_neg one_ne, E_within, q1, bo_s, if_neg one_ne, E_within, r1, bo_s, if_neg one_ne, gd_b i6, cp, if_pos z, hix, gd_b i24, lt_e, gd_b i24, lt_e, cx]
          · unfold f_X7_row; rw [E_isPq n _ ((congrFun (si_r (by omega)) 0).trans e9), p2, bo_s, if_neg one_ne, E_in, q1, bo_s, if_neg one_ne, E_in, r1, bo_s, if_neg one_ne, gd_b i6, cp, si_r (show (97 : Nat) ≠ 12 by omega), ek, if_pos z, hix, gd_b i24, lt_e, gd_b i24, lt_e, cx, si_r (show (102 : Nat) ≠ 12 by omega), d.ar (by omega)]
        · refine stay (-3) ?_ ?_
          · unfold f_X6_row; rw [E_hasq n h e0, p1, bo_s, if_neg one_ne, E_within, q1, bo_s, if_neg one_ne, E_within, r1, bo_s, if_neg one_ne, gd_b i6, cp, if_neg z]
          · unfold f_X7_row; rw [E_isPq n h e9, p2, bo_s, if_neg one_ne, E_in, q1, bo_s, if_neg one_ne, E_in, r1, bo_s, if_neg one_ne, gd_b i6, cp, ek, if_neg z]
