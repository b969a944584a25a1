/-! hoist, lower, trim, piece -/
theorem WFA_ho {a : AS} {n k p : Nat} (w : WFA a) (h0 : a.1 0 = nI n) (hn : n ≤ 6) (h1 : a.1 1 = nI k) (hk : k < 3) (hp : p < n) : WFA (sHo a (nI p)) := by
  obtain ⟨n', k', w1, w2, w3, w4, w5, w6, w7, w8, w9, w12⟩ := w
  have en : n' = n := (eq_n (by omega) (by omega)).mp (w3.symm.trans h0)
  have ek : k' = k := (eq_n (by omega) (by omega)).mp (w4.symm.trans h1)
  subst en; subst ek
  have hK : sK a = k' := by unfold sK; rw [h1, cl_n (by omega)]
  have e6 : (sHo a (nI p)).2 6 = va_up (a.2 6) k' (nI p) := by rw [← hK]; exact up_s a.2 6 _
  refine ⟨n', k' + 1, w1, by omega, by rw [sHo_n a _ (by omega)]; exact w3, by rw [← hK]; exact up_s a.1 1 _, fun j hj => ?_, by rw [sHo_n a _ (by omega)]; exact w6, by rw [sHo_n a _ (by omega)]; exact w7, by rw [sHo_n a _ (by omega)]; exact w8, by rw [sHo_n a _ (by omega)]; exact w9, fun q hq => ?_⟩
  · rw [e6]
    by_cases e : j = k'
    · subst e; rw [up_s]; exact ⟨p, hp, rfl⟩
    · rw [up_n _ _ e]; exact w5 j (by omega)
  · rw [sHo_r a _ (show 2 ≠ 6 by omega), sHo_r a _ (show 3 ≠ 6 by omega), sHo_r a _ (show 1 ≠ 6 by omega), sHo_r a _ (show 0 ≠ 6 by omega)]
    exact w12 q hq
theorem DM_ho {a : AS} {k : Nat} {p : Int32} (d : DM a) (hk : k < 3) (h1 : a.1 1 = nI k) (z : sPl a p = none) : DM (sHo a p) := by
  have hK : sK a = k := by unfold sK; rw [h1, cl_n (by omega)]
  have e6 : (sHo a p).2 6 = va_up (a.2 6) k p := by rw [← hK]; exact up_s a.2 6 _
  have e1 : (sHo a p).1 1 = nI (k + 1) := by rw [← hK]; exact up_s a.1 1 _
  have hK' : sK (sHo a p) = k + 1 := by unfold sK; rw [e1, cl_n (by omega)]
  intro i j hij hj
  rw [hK'] at hj
  rw [e6, up_n _ _ (show i ≠ k by omega)]
  by_cases e : j = k
  · subst e
    rw [up_s]
    exact sPlF_none z i (Nat.zero_le _) (by omega)
  · rw [up_n _ _ e]; exact d i j hij (by omega)
theorem WFA_cutq {a : AS} {k j : Nat} (w : WFA a) (h1 : a.1 1 = nI k) (hk : k ≤ 3) (hj : j ≤ k) : WFA (sCut a j) := by
  obtain ⟨n', k', w1, w2, w3, w4, w5, w6, w7, w8, w9, w12⟩ := w
  have ek : k' = k := (eq_n (by omega) (by omega)).mp (w4.symm.trans h1)
  subst ek
  refine ⟨n', j, w1, by omega, by rw [sCut_n a (by omega)]; exact w3, sCut_s a j, fun i hi => by rw [sCut_m]; dsimp only; rw [if_pos hi]; exact w5 i (by omega), by rw [sCut_n a (by omega)]; exact w6, by rw [sCut_n a (by omega)]; exact w7, by rw [sCut_n a (by omega)]; exact w8, by rw [sCut_n a (by omega)]; exact w9, fun q hq => ?_⟩
  rw [sCut_r a (show 2 ≠ 6 by omega), sCut_r a (show 3 ≠ 6 by omega), sCut_r a (show 1 ≠ 6 by omega), sCut_r a (show 0 ≠ 6 by omega)]
  exact w12 q hq
theorem DM_cutq {a : AS} {k j : Nat} (d : DM a) (h1 : a.1 1 = nI k) (hk : k ≤ 3) (hj : j ≤ k) : DM (sCut a j) := by
  have hK : sK a = k := by unfold sK; rw [h1, cl_n (by omega)]
  have hK' : sK (sCut a j) = j := by unfold sK; rw [sCut_s, cl_n (by omega)]
  intro i i' hi hi'
  rw [hK'] at hi'
  rw [sCut_m]
  dsimp only
  rw [if_pos (by omega), if_pos hi']
  exact d i i' hi (by omega)
theorem D6q.k {n : Nat} {h : HP} (d : D6q n h) : ∃ k, k ≤ 3 ∧ h.1 6 8 = nI k ∧ h.1 96 1 = nI k ∧ (dv 6 h).1 1 = nI k := by
  obtain ⟨n', k, w1, w2, w3, w4, -⟩ := d.2.2.2.1
  have e : h.1 6 8 = nI k := (dv_s 6 h (show 1 < 6 by omega)).symm.trans w4
  exact ⟨k, w2, e, (d.as (show 1 < 6 by omega)).trans e, w4⟩
theorem rD_neg {j : Nat} (hj : j < 100) : ¬ rD (some j) (-1) < 0 := nI_pos (by omega)
theorem rD_neg5 {j : Nat} (hj : j < 100) : ¬ rD (some j) (-5) < 0 := nI_pos (by omega)
theorem C_hoist {O : OS} {n m : Nat} {T : Nat → OS} {h : HP} (w : IVq O n m T h) (x1 : Int32) : ∃ r h1 h2, f_X6_hoist x1 h = some (r, h1) ∧ f_X7_hoist x1 h1 = some (r, h2) ∧ IVxq h2 := by
  have d := w.1
  have n6 := d.2.2.2.2.2.1
  have e0 := d.2.2.2.2.2.2
  have e9 := d.mv0
  obtain ⟨k, hk3, ek6, ek7, ek⟩ := d.k
  have stay : ∀ r, f_X6_hoist x1 h = some (r, h) → f_X7_hoist x1 h = some (r, h) → ∃ r h1 h2, f_X6_hoist x1 h = some (r, h1) ∧ f_X7_hoist x1 h1 = some (r, h2) ∧ IVxq h2 := fun r a b => ⟨r, h, h, a, b, O, n, m, T, w⟩
  rcases piecec x1 n6 with ⟨p1, p2, -⟩ | ⟨p, hp, rfl, p1, p2⟩
  · refine stay (-1) ?_ ?_
    · unfold f_X6_hoist; rw [E_hasq n h e0, p1, bo_s, if_pos rfl]
    · unfold f_X7_hoist; rw [E_isPq n h e9, p2, bo_s, if_pos rfl]
  · cases z : sPl (dv 6 h) (nI p) with
    | some j =>
      have z' : sPl (mv h) (nI p) = some j := by rw [← d.1]; exact z
      have hj : j < 100 := by
        have := (sPl_lt z).1
        unfold sK at this; rw [ek, cl_n (by omega)] at this; omega
      refine stay (-3) ?_ ?_
      · unfold f_X6_hoist; rw [E_hasq n h e0, p1, bo_s, if_neg one_ne, B1_placeOf hk3 ek6, z, bo_s, if_neg (rD_neg hj)]
      · unfold f_X7_hoist; rw [E_isPq n h e9, p2, bo_s, if_neg one_ne, B7_placeOf hk3 ek7, z', bo_s, if_neg (rD_neg5 hj)]
    | none =>
      have m1 : rD none (-1) < 0 := by decide
      have m5 : rD none (-5) < 0 := by decide
      by_cases k3 : k < 3
      · have e13 := B1_putUpon (o := 6) (p := nI p) hk3 ek6
        rw [if_pos k3] at e13
        generalize hg : si (si h (6 + 7) k (nI p)) 6 8 (nI (k + 1)) = g at e13
        have eg8 : g.1 6 8 = nI (k + 1) := by rw [← hg, si_w, up_s]
        have eg96 : g.1 96 = h.1 96 := by rw [← hg, si_r (by omega), si_r (by omega)]
        have emv : mv g = mv h := by rw [← hg, mv6 (by omega), mv6 (by omega)]
        have edv : dv 6 g = sHo (dv 6 h) (nI p) := by rw [← hg]; exact dv_ho k3 ek6
        have z' : sPl (mv g) (nI p) = none := by rw [emv, ← d.1]; exact z
        have eh := B7_hoists (h := g) (p := nI p) k3 ((congrFun eg96 1).trans ek7)
        have eh1 : (si (si g 103 k (nI p)) 96 1 (nI (k + 1))).1 96 1 = nI (k + 1) := by rw [si_w, up_s]
        refine ⟨nI (k + 1), g, si (si g 103 k (nI p)) 96 1 (nI (k + 1)), ?_, ?_, O, n, m, T, ?_⟩
        · unfold f_X6_hoist; rw [E_hasq n h e0, p1, bo_s, if_neg one_ne, B1_placeOf hk3 ek6, z, bo_s, if_pos m1, ek6, if_pos (by rw [show (3 : Int32) = nI 3 from rfl, lt_n (by omega) (by omega)]; exact k3), e13, bo_s, eg8]
        · unfold f_X7_hoist; rw [E_isPq n g ((congrFun eg96 0).trans e9), p2, bo_s, if_neg one_ne, B7_placeOf hk3 ((congrFun eg96 1).trans ek7), z', bo_s, if_pos m5, congrFun eg96 1, ek7, if_neg (by rw [show (3 : Int32) = nI 3 from rfl, eq_n (by omega) (by omega)]; omega), eh, bo_s, eh1]
        · have f : Kq SBq (fun j => j = 1) N_q (OD 22) h (si (si g 103 k (nI p)) 96 1 (nI (k + 1))) := by
            rw [← hg]
            exact (((Kq.rf.wr (by omega) (Or.inl ⟨by omega, by omega⟩)).wr (by omega) (Or.inl ⟨by omega, by omega⟩)).wr (by omega) (by unfold SBq ZC; omega)).pl rfl
          refine w.deck (Nat.le_refl _) f (fun j z => by omega) ?_
          obtain ⟨d1, d2, d3, d4, d5, d6, d7⟩ := d
          have e1 : dv 6 (si (si g 103 k (nI p)) 96 1 (nI (k + 1))) = sHo (dv 6 h) (nI p) := by rw [dv96 (by omega), dv96 (by omega), edv]
          have e2 : mv (si (si g 103 k (nI p)) 96 1 (nI (k + 1))) = sHo (mv h) (nI p) := by rw [mv_ho k3 ((congrFun eg96 1).trans ek7), emv]
          refine ⟨by rw [e1, e2, d1], ?_, ?_, ?_, by rw [e1]; exact DM_ho d5 k3 ek z, d6, ?_⟩
          · rw [f.2.1 31 (by omega)]; exact d2
          · rw [f.2.1 32 (by omega)]; exact d3
          · rw [e1]; exact WFA_ho d4 ((dv_s 6 h (show 0 < 6 by omega)).trans d7) d6 ek k3 hp
          · rw [si_r (by omega), si_r (by omega), ← hg, si_w, up_n _ _ (by omega), si_r (by omega)]; exact d7
      · have z' : sPl (mv h) (nI p) = none := by rw [← d.1]; exact z
        have e3 : k = 3 := by omega
        subst e3
        refine stay (-4) ?_ ?_
        · unfold f_X6_hoist; rw [E_hasq n h e0, p1, bo_s, if_neg one_ne, B1_placeOf hk3 ek6, z, bo_s, if_pos m1, ek6, if_neg (show ¬ nI 3 < 3 by decide)]
        · unfold f_X7_hoist; rw [E_isPq n h e9, p2, bo_s, if_neg one_ne, B7_placeOf hk3 ek7, z', bo_s, if_pos m5, ek7, if_pos (show nI 3 = 3 from rfl)]
theorem C_lower {O : OS} {n m : Nat} {T : Nat → OS} {h : HP} (w : IVq O n m T h) (x1 : Int32) : ∃ r h1 h2, f_X6_lower x1 h = some (r, h1) ∧ f_X7_lower x1 h1 = some (r, h2) ∧ IVxq h2 := by
  have d := w.1
  have n6 := d.2.2.2.2.2.1
  have e0 := d.2.2.2.2.2.2
  have e9 := d.mv0
  obtain ⟨k, hk3, ek6, ek7, ek⟩ := d.k
  have stay : ∀ r, f_X6_lower x1 h = some (r, h) → f_X7_lower x1 h = some (r, h) → ∃ r h1 h2, f_X6_lower x1 h = some (r, h1) ∧ f_X7_lower x1 h1 = some (r, h2) ∧ IVxq h2 := fun r a b => ⟨r, h, h, a, b, O, n, m, T, w⟩
  rcases piecec x1 n6 with ⟨p1, p2, -⟩ | ⟨p, hp, rfl, p1, p2⟩
  · refine stay (-1) ?_ ?_
    · unfold f_X6_lower; rw [E_hasq n h e0, p1, bo_s, if_pos rfl]
    · unfold f_X7_lower; rw [E_isPq n h e9, p2, bo_s, if_pos rfl]
  · cases z : sPl (dv 6 h) (nI p) with
    | none =>
      have z' : sPl (mv h) (nI p) = none := by rw [← d.1]; exact z
      refine stay (-3) ?_ ?_
      · unfold f_X6_lower; rw [E_hasq n h e0, p1, bo_s, if_neg one_ne, B1_placeOf hk3 ek6, z, bo_s, if_neg (show ¬ (0 : Int32) ≤ rD none (-1) by decide)]
      · unfold f_X7_lower; rw [E_isPq n h e9, p2, bo_s, if_neg one_ne, B7_placeOf hk3 ek7, z', bo_s, if_neg (show ¬ (0 : Int32) ≤ rD none (-5) by decide)]
    | some j =>
      have hj : j < k := by
        have := (sPl_lt z).1
        unfold sK at this; rw [ek, cl_n (by omega)] at this; omega
      have z' : sPl (mv (si h 6 8 (nI j))) (nI p) = some j := by rw [mv6 (by omega), ← d.1]; exact z
      have pos : (0 : Int32) ≤ nI j := by rw [show (0 : Int32) = nI 0 from rfl, le_n (by omega) (by omega)]; omega
      have eg96 : (si h 6 8 (nI j)).1 96 = h.1 96 := si_r (by omega)
      refine ⟨nI j, si h 6 8 (nI j), si (si h 6 8 (nI j)) 96 1 (nI j), ?_, ?_, O, n, m, T, ?_⟩
      · unfold f_X6_lower; rw [E_hasq n h e0, p1, bo_s, if_neg one_ne, B1_placeOf hk3 ek6, z, bo_s, if_pos (show (0 : Int32) ≤ rD (some j) (-1) from pos), lt_e]; rfl
      · unfold f_X7_lower; rw [E_isPq n _ ((congrFun eg96 0).trans e9), p2, bo_s, if_neg one_ne, B7_placeOf hk3 ((congrFun eg96 1).trans ek7), z', bo_s, if_pos (show (0 : Int32) ≤ rD (some j) (-5) from pos), bo_s, lt_e, si_w, up_s]; rfl
      · have f : Kq SBq (fun j => j = 1) N_q (OD 22) h (si (si h 6 8 (nI j)) 96 1 (nI j)) := (Kq.rf.wr (by omega) (Or.inl ⟨by omega, by omega⟩)).pl rfl
        refine w.deck (Nat.le_refl _) f (fun j z => by omega) ?_
        obtain ⟨d1, d2, d3, d4, d5, d6, d7⟩ := d
        have e1 : dv 6 (si (si h 6 8 (nI j)) 96 1 (nI j)) = sCut (dv 6 h) j := by rw [dv96 (by omega), dv_cut hk3 ek6 (by omega)]
        have e2 : mv (si (si h 6 8 (nI j)) 96 1 (nI j)) = sCut (mv h) j := by rw [mv_cut hk3 ((congrFun eg96 1).trans ek7) (by omega), mv6 (by omega)]
        refine ⟨by rw [e1, e2, d1], ?_, ?_, by rw [e1]; exact WFA_cutq d4 ek hk3 (by omega), by rw [e1]; exact DM_cutq d5 ek hk3 (by omega), d6, ?_⟩
        · rw [f.2.1 31 (by omega)]; exact d2
        · rw [f.2.1 32 (by omega)]; exact d3
        · rw [si_r (by omega), si_w, up_n _ _ (by omega)]; exact d7
theorem WFA_trim {a : AS} {j s : Nat} (w : WFA a) (hj : j = 2 ∨ j = 3) (hs : s ≤ 9) : WFA (sSet a j (nI s)) := by
  obtain ⟨n', k', w1, w2, w3, w4, w5, w6, w7, w8, w9, w12⟩ := w
  refine ⟨n', k', w1, w2, by rw [sSet_n a _ (by omega)]; exact w3, by rw [sSet_n a _ (by omega)]; exact w4, w5, ?_, ?_, by rw [sSet_n a _ (by omega)]; exact w8, by rw [sSet_n a _ (by omega)]; exact w9, w12⟩
  · by_cases e : j = 2
    · subst e; exact ⟨s, hs, sSet_s _ _ _⟩
    · rw [sSet_n a _ (by omega)]; exact w6
  · by_cases e : j = 3
    · subst e; exact ⟨s, hs, sSet_s _ _ _⟩
    · rw [sSet_n a _ (by omega)]; exact w7
theorem IVq.trim {O : OS} {n m : Nat} {T : Nat → OS} {h : HP} {j s : Nat} (w : IVq O n m T h) (hj : j = 2 ∨ j = 3) (hs : s ≤ 9) : IVq O n m T (si (si h 6 (7 + j) (nI s)) 96 j (nI s)) := by
  have f : Kq SBq (fun i => i = j) N_q (OD 22) h (si (si h 6 (7 + j) (nI s)) 96 j (nI s)) := (Kq.rf.wr (by omega) (Or.inl ⟨by omega, by omega⟩)).pl rfl
  have d := w.1
  refine w.deck (Nat.le_refl _) f (fun j z => by omega) ?_
  obtain ⟨d1, d2, d3, d4, d5, d6, d7⟩ := d
  have e1 : dv 6 (si (si h 6 (7 + j) (nI s)) 96 j (nI s)) = sSet (dv 6 h) j (nI s) := by rw [dv96 (by omega), dv_set (by omega) (by omega)]
  have e2 : mv (si (si h 6 (7 + j) (nI s)) 96 j (nI s)) = sSet (mv h) j (nI s) := by rw [mv_set (by omega) (by omega), mv6 (by omega)]
  refine ⟨by rw [e1, e2, d1], ?_, ?_, by rw [e1]; exact WFA_trim d4 hj hs, by rw [e1]; exact DM_cg d5 (sSet_n _ _ (by omega)) rfl, d6, ?_⟩
  · rw [f.2.1 31 (by omega)]; exact d2
  · rw [f.2.1 32 (by omega)]; exact d3
  · rw [si_r (by omega), si_w, up_n _ _ (by omega)]; exact d7
theorem C_trim {O : OS} {n m : Nat} {T : Nat → OS} {h : HP} (w : IVq O n m T h) (x1 x2 : Int32) : ∃ r h1 h2, f_X6_trim x1 x2 h = some (r, h1) ∧ f_X7_trim x1 x2 h1 = some (r, h2) ∧ IVxq h2 := by
  have d := w.1
  have stay : ∀ r, f_X6_trim x1 x2 h = some (r, h) → f_X7_trim x1 x2 h = some (r, h) → ∃ r h1 h2, f_X6_trim x1 x2 h = some (r, h1) ∧ f_X7_trim x1 x2 h1 = some (r, h2) ∧ IVxq h2 := fun r a b => ⟨r, h, h, a, b, O, n, m, T, w⟩
  rcases rngc x1 (lo := 0) (hi := 1) 0 1 rfl rfl (by omega) (by omega) with ⟨q1, -⟩ | ⟨wh, -, hw, rfl, q1⟩
  · refine stay (-1) ?_ ?_
    · unfold f_X6_trim; rw [E_within, q1, bo_s, if_pos rfl]
    · unfold f_X7_trim; rw [E_in, q1, bo_s, if_pos rfl]
  · rcases rngc x2 (lo := 0) (hi := 9) 0 9 rfl rfl (by omega) (by omega) with ⟨r1, -⟩ | ⟨l, -, hl, rfl, r1⟩
    · refine stay (-2) ?_ ?_
      · unfold f_X6_trim; rw [E_within, q1, bo_s, if_neg one_ne, E_within, r1, bo_s, if_pos rfl]
      · unfold f_X7_trim; rw [E_in, q1, bo_s, if_neg one_ne, E_isTrim, r1, bo_s, if_pos rfl]
    · by_cases z : wh = 0
      · subst z
        have y : nI 0 = (0 : Int32) := rfl
        refine ⟨h.1 6 9, si h 6 9 (nI l), si (si h 6 9 (nI l)) 96 2 (nI l), ?_, ?_, O, n, m, T, w.trim (j := 2) (Or.inl rfl) hl⟩
        · unfold f_X6_trim f_X6_trim_J45; rw [E_within, q1, bo_s, if_neg one_ne, E_within, r1, bo_s, if_neg one_ne, if_pos y, if_pos y, lt_e]
        · unfold f_X7_trim; rw [E_in, q1, bo_s, if_neg one_ne, E_isTrim, r1, bo_s, if_neg one_ne, if_pos y, lt_e, if_pos y, lt_e, si_r (show (96 : Nat) ≠ 6 by omega), show h.1 96 2 = h.1 6 9 from d.as (j := 2) (by omega)]
      · have z1 : wh = 1 := by omega
        subst z1
        have y : ¬ nI 1 = (0 : Int32) := by decide
        refine ⟨h.1 6 10, si h 6 10 (nI l), si (si h 6 10 (nI l)) 96 3 (nI l), ?_, ?_, O, n, m, T, w.trim (j := 3) (Or.inr rfl) hl⟩
        · unfold f_X6_trim f_X6_trim_J45; rw [E_within, q1, bo_s, if_neg one_ne, E_within, r1, bo_s, if_neg one_ne, if_neg y, if_neg y, lt_e]
        · unfold f_X7_trim; rw [E_in, q1, bo_s, if_neg one_ne, E_isTrim, r1, bo_s, if_neg one_ne, if_neg y, lt_e, if_neg y, lt_e, si_r (show (96 : Nat) ≠ 6 by omega), show h.1 96 3 = h.1 6 10 from d.as (j := 3) (by omega)]
