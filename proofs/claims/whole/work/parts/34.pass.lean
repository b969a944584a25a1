/-! pass, told, of -/
theorem mn99_n {a c : Nat} (ha : a < 2147483648) (hc : c < 2147483648) : ∃ t, t ≤ c ∧ mn (nI a) (nI c) = nI t := by
  unfold mn
  by_cases z : a < c
  · rw [if_pos ((lt_n ha hc).mpr z)]; exact ⟨a, by omega, rfl⟩
  · rw [if_neg (fun y => z ((lt_n ha hc).mp y))]; exact ⟨c, Nat.le_refl _, rfl⟩
def W3 (a : AS) : Prop := ∀ p, p < 6 → ∃ l, l ≤ 99 ∧ a.2 3 p = nI l
theorem W3_wearF {O : OS} (hl : ∃ la, la ≤ 99 ∧ O.2.1 = nI la) (hw : OW O) {k : Nat} : ∀ (c i : Nat) (a : AS), WFG a → (∃ s, s ≤ 9 ∧ a.1 3 = nI s) → sK a = k → i + c ≤ k → W3 a → W3 (sWearF O c i a) := by
  intro c
  induction c with
  | zero => intro i a _ _ _ _ h; exact h
  | succ c ih =>
    intro i a w hst hk hi h
    obtain ⟨k2, hk3, hk2, hK, hm⟩ := w.1.k
    obtain ⟨m, hm6, hmi⟩ := hm i (by omega)
    obtain ⟨l, hl99, el⟩ := h m hm6
    obtain ⟨t, ht, et⟩ := sLoad_n w hl hw hst (i := i) (by omega)
    obtain ⟨s, hs, es⟩ := w.2
    simp only [sWearF]
    refine ih (i + 1) _ ⟨WFE_put w.1 (by omega) (by omega), s, hs, es⟩ hst hk (by omega) (fun p hp => ?_)
    rw [hmi, cl_n (by omega), sPut_w]
    by_cases z : p = m
    · subst z
      rw [up_s, el, et, show (10 : Int32) = nI 10 from rfl, div_n (by omega) (by omega) (by omega), add_n]
      obtain ⟨u, hu, eu⟩ := mn99_n (a := l + t / 10) (c := 99) (by omega) (by omega)
      exact ⟨u, hu, eu⟩
    · rw [up_n _ _ z]; exact h p hp
theorem WFA_day {O : OS} {a : AS} {d : Nat} (w : WFA a) (hl : ∃ la, la ≤ 99 ∧ O.2.1 = nI la) (hw : OW O) (hd : a.1 5 = nI d) (h1 : d + 1 ≤ 9999) : WFA (sDay 99999 9999 O a).2 ∧ (sDay 99999 9999 O a).2.1 5 = nI (d + 1) ∧ (sDay 99999 9999 O a).2.1 0 = a.1 0 := by
  have wg := w.g.1
  have w' := w
  obtain ⟨n, k, c1, c2, c3, c4, c5, c6, c7, ⟨w0, c8, c9⟩, c10, c12⟩ := w
  obtain ⟨q1, q2⟩ := WFE_day (cm := 99999) (cb := 9999) (O := O) wg.1 hd (by omega)
  have s0 := day_sc 99999 9999 O a (j := 0) (by omega) (by omega) (by omega)
  have s2 := day_sc 99999 9999 O a (j := 2) (by omega) (by omega) (by omega)
  have s3 := day_sc 99999 9999 O a (j := 3) (by omega) (by omega) (by omega)
  have hK : sK a = k := by unfold sK; rw [c4, cl_n (by omega)]
  have s4 : ∃ u, u ≤ 99999 ∧ (sDay 99999 9999 O a).2.1 4 = nI u := by
    rw [day_went, c9]
    by_cases z : sBrk O a = none
    · obtain ⟨t, ht, e⟩ := sMiles_n wg hl
      rw [if_pos z, e, add_n]
      exact mn99_n (c := 99999) (by omega) (by omega)
    · rw [if_neg z]; exact ⟨w0, c8, rfl⟩
  refine ⟨?_, q2, s0⟩
  have rest : (∃ k', k' ≤ 3 ∧ (sDay 99999 9999 O a).2.1 1 = nI k' ∧ ∀ j, j < k' → ∃ m, m < n ∧ (sDay 99999 9999 O a).2.2 6 j = nI m) ∧ (∀ p, p < 6 → ∃ l, l ≤ 99 ∧ (sDay 99999 9999 O a).2.2 3 p = nI l) ∧ (sDay 99999 9999 O a).2.2 1 = a.2 1 ∧ (sDay 99999 9999 O a).2.2 0 = a.2 0 := by
    unfold sDay
    cases hb : sBrk O a with
    | none =>
      dsimp only
      obtain ⟨e1, e2⟩ := wearF_sc (O := O) (sK a) 0 (sSet (sSet a 5 (a.1 5 + 1)) 4 (mn (a.1 4 + sMiles O a) 99999))
      refine ⟨⟨k, c2, ?_, fun j hj => ?_⟩, ?_, e2 1 (by omega), e2 0 (by omega)⟩
      · rw [e1, sSet_n _ _ (by omega), sSet_n _ _ (by omega)]; exact c4
      · rw [e2 6 (by omega)]; exact c5 j hj
      · refine W3_wearF hl hw (k := k) (sK a) 0 _ ?_ ?_ ?_ (by omega) (fun p hp => (c12 p hp).2.1)
        · rw [hd, one_n]
          obtain ⟨s, hs, es⟩ := wg.2
          exact ⟨WFE_set (WFE_set5 wg.1 (by omega)) (by omega) (by omega), s, hs, (sSet_n _ _ (by omega)).trans ((sSet_n _ _ (by omega)).trans es)⟩
        · obtain ⟨s, hs, es⟩ := c7
          exact ⟨s, hs, (sSet_n _ _ (by omega)).trans ((sSet_n _ _ (by omega)).trans es)⟩
        · show ((sSet (sSet a 5 (a.1 5 + 1)) 4 _).1 1).toNatClampNeg = k
          rw [sSet_n _ _ (by omega), sSet_n _ _ (by omega)]; exact hK
    | some i =>
      have hi := sBrk_lt hb
      dsimp only
      obtain ⟨m, hm, em⟩ := c5 i (by omega)
      rw [em, cl_n (by omega)]
      refine ⟨⟨i, by omega, sCut_s _ _, fun j hj => ?_⟩, fun p hp => ?_, ?_, ?_⟩
      · rw [sCut_m]
        show ∃ m, m < n ∧ (if j < i then a.2 6 j else 0) = nI m
        rw [if_pos hj]; exact c5 j (by omega)
      · rw [sCut_r _ (by omega), sPut_n _ _ (by omega), sPut_w]
        by_cases z : p = m
        · subst z; exact ⟨0, by omega, up_s _ _ _⟩
        · rw [up_n _ _ z]; exact (c12 p hp).2.1
      · rw [sCut_r _ (by omega), sPut_n _ _ (by omega), sPut_n _ _ (by omega), sPut_n _ _ (by omega)]; rfl
      · rw [sCut_r _ (by omega), sPut_n _ _ (by omega), sPut_n _ _ (by omega), sPut_n _ _ (by omega)]; rfl
  obtain ⟨⟨k', r1, r2, r3⟩, r4, r5, r6⟩ := rest
  refine ⟨n, k', c1, r1, by rw [s0]; exact c3, r2, r3, by rw [s2]; exact c6, by rw [s3]; exact c7, s4, ⟨d + 1, h1, q2⟩, fun p hp => ⟨q1.2.1 p hp, r4 p hp, by rw [r5]; exact (c12 p hp).2.2.1, by rw [r6]; exact (c12 p hp).2.2.2⟩⟩
def dN (O : OS) : Nat → AS → AS
  | 0, a => a
  | c + 1, a => dN O c (sDay 99999 9999 O a).2
theorem dN_w {O : OS} (hl : ∃ la, la ≤ 99 ∧ O.2.1 = nI la) (hw : OW O) : ∀ (c d : Nat) (a : AS), WFA a → a.1 5 = nI d → d + c ≤ 9999 → WFA (dN O c a) ∧ (dN O c a).1 0 = a.1 0 := by
  intro c
  induction c with
  | zero => intro d a w _ _; exact ⟨w, rfl⟩
  | succ c ih =>
    intro d a w hd h1
    obtain ⟨p1, p2, p3⟩ := WFA_day w hl hw hd (by omega)
    obtain ⟨r1, r2⟩ := ih (d + 1) _ p1 p2 (by omega)
    exact ⟨r1, r2.trans p3⟩
theorem B1_pass_L33 {O : OS} (hl : ∃ la, la ≤ 99 ∧ O.2.1 = nI la) (hw : OW O) {N : Nat} (hN : N ≤ 60) : ∀ (c j d : Nat) (h : HP) (fuel : Nat), j + c = N → c < fuel → CD O 6 h → WFA (dv 6 h) → (dv 6 h).1 5 = nI d → d + c ≤ 9999 → ∃ h', f_X6_pass_L33 fuel (nI N) (nI j) h = some ((dN O c (dv 6 h)).1 4, h') ∧ dv 6 h' = dN O c (dv 6 h) ∧ Fc (SD 6) h h' := by
  intro c
  induction c with
  | zero =>
    intro j d h fuel hj hf hC w hd h1
    obtain ⟨f, rfl⟩ : ∃ f, fuel = f + 1 := ⟨fuel - 1, by omega⟩
    refine ⟨h, ?_, rfl, Fc.rf⟩
    rw [f_X6_pass_L33, if_pos (by rw [le_n (by omega) (by omega)]; omega)]
    simp only [dN, dv_s 6 h (show 4 < 6 by omega)]
  | succ c ih =>
    intro j d h fuel hj hf hC w hd h1
    obtain ⟨f, rfl⟩ : ∃ f, fuel = f + 1 := ⟨fuel - 1, by omega⟩
    obtain ⟨g, e, ev, fr⟩ := B1_day hC w.g.1.1 hd (by omega)
    obtain ⟨p1, p2, p3⟩ := WFA_day w hl hw hd (by omega)
    obtain ⟨g2, e2, ev2, fr2⟩ := ih (j + 1) (d + 1) g f (by omega) (by omega) (hC.fr fr) (by rw [ev]; exact p1) (by rw [ev]; exact p2) (by omega)
    rw [f_X6_pass_L33, if_neg (by rw [le_n (by omega) (by omega)]; omega), e, bd_s, lt_e, one_n]
    rw [ev] at e2 ev2
    exact ⟨g2, e2, ev2, fr.trans fr2 (fun _ q => q) (fun _ q => q)⟩
theorem B7_pass {O : OS} (hw : OW O) {N : Nat} (hN : N ≤ 60) : ∀ (c j d : Nat) (h : HP) (fuel : Nat), j + c = N → c < fuel → QM O h → (mv h).1 5 = nI d → d + c ≤ 9999 → ∃ h', f_X7_goDays_L2 fuel (nI N) (nI j) h = some h' ∧ mv h' = dN O c (mv h) ∧ FM DS DJ h h' := by
  intro c
  induction c with
  | zero =>
    intro j d h fuel hj hf q hd h1
    obtain ⟨f, rfl⟩ : ∃ f, fuel = f + 1 := ⟨fuel - 1, by omega⟩
    refine ⟨h, ?_, rfl, FM.rf⟩
    rw [f_X7_goDays_L2, if_pos (by rw [le_n (by omega) (by omega)]; omega)]
  | succ c ih =>
    intro j d h fuel hj hf q hd h1
    obtain ⟨f, rfl⟩ : ∃ f, fuel = f + 1 := ⟨fuel - 1, by omega⟩
    obtain ⟨g, e, ev, fr⟩ := B7_goDay q.1 q.2.1.g.1.1 hd (by omega)
    rw [q.2.2.1, q.2.2.2] at e ev
    obtain ⟨p1, p2, p3⟩ := WFA_day q.2.1 q.1.2.2 hw hd (by omega)
    have q1 : QM O g := ⟨q.1.fm fr (fun c a b z => by unfold DS at z; omega) (by unfold DJ; omega), by rw [ev]; exact p1, (fr.2.1 31 (by unfold DJ; omega)).trans q.2.2.1, (fr.2.1 32 (by unfold DJ; omega)).trans q.2.2.2⟩
    obtain ⟨g2, e2, ev2, fr2⟩ := ih (j + 1) (d + 1) g f (by omega) (by omega) q1 (by rw [ev]; exact p2) (by omega)
    rw [f_X7_goDays_L2, if_neg (by rw [le_n (by omega) (by omega)]; omega), e, bd_s, lt_e, one_n]
    rw [ev] at ev2
    exact ⟨g2, e2, ev2, fr.trans fr2 (fun _ q => q) (fun _ q => q) (fun _ q => q) (fun _ q => q)⟩
/-- none stands twice -/
def DM (a : AS) : Prop := ∀ i j, i < j → j < sK a → a.2 6 i ≠ a.2 6 j
/-- what a day leaves of who stands -/
theorem DM_day {O : OS} {cm cb : Int32} {a : AS} (h : DM a) : DM (sDay cm cb O a).2 := by
  unfold sDay
  cases hb : sBrk O a with
  | none =>
    dsimp only
    obtain ⟨e1, e2⟩ := wearF_sc (O := O) (sK a) 0 (sSet (sSet a 5 (a.1 5 + 1)) 4 (mn (a.1 4 + sMiles O a) cm))
    intro i j hij hj
    change j < ((sWearF O (sK a) 0 (sSet (sSet a 5 (a.1 5 + 1)) 4 (mn (a.1 4 + sMiles O a) cm))).1 1).toNatClampNeg at hj
    rw [e1, sSet_n _ _ (by omega), sSet_n _ _ (by omega)] at hj
    rw [e2 6 (by omega)]
    exact h i j hij hj
  | some p =>
    have hp := sBrk_lt hb
    dsimp only
    intro i j hij hj
    have hj2 : j < p ∨ p ≥ 2147483648 := by
      by_cases q : p < 2147483648
      · left; unfold sK at hj; rw [sCut_s, cl_n q] at hj; exact hj
      · right; omega
    rcases hj2 with hj2 | hj2
    · rw [sCut_m]
      show (if i < p then _ else _) ≠ (if j < p then _ else _)
      rw [if_pos (by omega), if_pos hj2]
      exact h i j hij (by omega)
    · have : sK a < 2147483648 := by unfold sK; exact Int32.toNatClampNeg_lt _
      omega
theorem DM_dN {O : OS} : ∀ (c : Nat) (a : AS), DM a → DM (dN O c a) := by
  intro c
  induction c with
  | zero => intro a h; exact h
  | succ c ih => intro a h; exact ih _ (DM_day h)
/-- what pass leaves: the decks anew, alike -/
def AP (O : OS) (h h' : HP) : Prop := (∀ c, ¬ SD 6 c → c ≠ 96 → ¬ ZC c → h'.1 c = h.1 c) ∧ (∀ j, ¬ ZJ j → h'.1 96 j = h.1 96 j) ∧ h'.2 = h.2 ∧ AQ O h' ∧ (dv 6 h').1 0 = (dv 6 h).1 0 ∧ (DM (dv 6 h) → DM (dv 6 h'))
theorem SD6_big {c : Nat} (hc : 96 ≤ c) : ¬ SD 6 c := by unfold SD isF; omega
theorem AP.rf {O : OS} {h : HP} (q : AQ O h) : AP O h h := ⟨fun _ _ _ _ => rfl, fun _ _ => rfl, rfl, q, rfl, fun z => z⟩
theorem C_pass {O : OS} {h : HP} (q : AQ O h) (hw : OW O) (x1 : Int32) : ∃ r h1 h2, f_X6_pass x1 h = some (r, h1) ∧ f_X7_pass x1 h1 = some (r, h2) ∧ AP O h h2 := by
  rcases rngc x1 (lo := 0) (hi := 60) 0 60 rfl rfl (by omega) (by omega) with ⟨hz, -⟩ | ⟨N, -, hN, rfl, ho⟩
  · refine ⟨-2, h, h, ?_, ?_, AP.rf q⟩
    · unfold f_X6_pass; rw [E_within, bo_s, hz, if_pos rfl]
    · unfold f_X7_pass; rw [E_isDays, bo_s, hz, if_pos rfl]
  · obtain ⟨wg, w0, d0, hw0, hd0, ew, ed⟩ := q.2.2.2.2.2.g
    obtain ⟨qm, em⟩ := q.qm FC.rf
    have e6 : h.1 6 12 = nI d0 := (dv_s 6 h (show 5 < 6 by omega)).symm.trans ed
    have e96 : h.1 96 5 = nI d0 := by rw [← mv_s h (show 5 < 6 by omega), em]; exact ed
    by_cases z : d0 + N ≤ 9999
    · have hl := qm.1.2.2
      obtain ⟨g, e, ev, fr⟩ := B1_pass_L33 hl hw hN N 0 d0 h FZ (by omega) (by have := FZ_ge; omega) q.1 q.2.2.2.2.2 ed (by omega)
      have c9 : ∀ c, 96 ≤ c → g.1 c = h.1 c := fun c a => fr.1 c (SD6_big a)
      have hm : mv g = mv h := mv_fr (fun j _ => by rw [c9 96 (by omega)]) (fun c a _ => c9 c (by omega))
      have qg : QM O g := ⟨qm.1.ag ⟨fun c a b => c9 c (by omega), by rw [c9 96 (by omega)]⟩, by rw [hm]; exact qm.2.1, by rw [c9 96 (by omega)]; exact qm.2.2.1, by rw [c9 96 (by omega)]; exact qm.2.2.2⟩
      obtain ⟨g2, e2, ev2, fr2⟩ := B7_pass hw hN N 0 d0 g FZ (by omega) (by have := FZ_ge; omega) qg (by rw [hm, em]; exact ed) (by omega)
      rw [hm, em] at ev2
      obtain ⟨p1, p2⟩ := dN_w hl hw N d0 (dv 6 h) q.2.2.2.2.2 ed (by omega)
      have dd : dv 6 g2 = dv 6 g := dv_fr (fun c a b => fr2.1 c (by omega) (by unfold DS; omega))
      have gtop : (9999 : Int32) = nI 9999 := rfl
      refine ⟨(dN O N (dv 6 h)).1 4, g, g2, ?_, ?_, ?_⟩
      · unfold f_X6_pass; rw [E_within, bo_s, ho, if_neg one_ne, e6, add_n, if_pos (by rw [gtop, le_n (by omega) (by omega)]; omega)]
        exact e
      · unfold f_X7_pass
        rw [E_isDays, bo_s, ho, if_neg one_ne, c9 96 (by omega), e96, add_n, if_pos (by rw [gtop, le_n (by omega) (by omega)]; omega)]
        unfold f_X7_goDays
        have e2' : f_X7_goDays_L2 FZ (nI N) 0 g = some g2 := e2
        rw [e2', bo_s, ← ev2, mv_s g2 (by omega)]
      · refine ⟨fun c a b z => (fr2.1 c b (fun y => z (by unfold DS at y; unfold ZC; omega))).trans (fr.1 c a), fun j z => (fr2.2.1 j (fun y => z (by unfold DJ at y; unfold ZJ; omega))).trans (by rw [c9 96 (by omega)]), fr2.2.2.trans fr.2, ⟨?_, qg.1.fm fr2 (fun c a b z => by unfold DS at z; omega) (by unfold DJ; omega), by rw [dd, ev, ev2], (fr2.2.1 31 (by unfold DJ; omega)).trans qg.2.2.1, (fr2.2.1 32 (by unfold DJ; omega)).trans qg.2.2.2, by rw [dd, ev]; exact p1⟩, by rw [dd, ev]; exact p2, fun z => by rw [dd, ev]; exact DM_dN _ _ z⟩
        obtain ⟨ho, oc, h1, h2⟩ := q.1.fr fr
        have := isOc_n h2.1
        exact ⟨ho, oc, by rw [fr2.2.2]; exact h1, h2.fr (fun c a b => fr2.1 c (by omega) (by unfold DS; omega))⟩
    · have gtop : (9999 : Int32) = nI 9999 := rfl
      refine ⟨-3, h, h, ?_, ?_, AP.rf q⟩
      · unfold f_X6_pass; rw [E_within, bo_s, ho, if_neg one_ne, e6, add_n, if_neg (by rw [gtop, le_n (by omega) (by omega)]; omega)]
      · unfold f_X7_pass; rw [E_isDays, bo_s, ho, if_neg one_ne, e96, add_n, if_neg (by rw [gtop, le_n (by omega) (by omega)]; omega)]

theorem C_told {O : OS} {h : HP} (q : AQ O h) (x1 : Int32) : ∃ r, f_X6_told x1 h = some r ∧ f_X7_told x1 h = some r := by
  obtain ⟨qm, em⟩ := q.qm FC.rf
  obtain ⟨k, hk3, hk, hK, hm⟩ := q.qc.2.g.1.1.k
  have w := q.qc.2.g.1.1
  have w7 : WFE (mv h) := by rw [em]; exact w
  have e8 : h.1 6 8 = nI k := by rw [← dv_s 6 h (show 1 < 6 by omega), hk]
  have e8' : h.1 96 1 = nI k := by rw [← mv_s h (show 1 < 6 by omega), em, hk]
  have sc : ∀ j, j < 6 → h.1 6 (7 + j) = h.1 96 j := fun j hj => by rw [← dv_s 6 h hj, ← em, mv_s h hj]
  have a9 : (9 : Int32) + nI k = nI (9 + k) := add_n 9 k
  unfold f_X6_told f_X7_told
  rw [e8, e8', a9, E_within, E_in, bo_s, bo_s]
  obtain ⟨ho, oc, h1, h2⟩ := q.1
  rcases rngd x1 (lo := 10) (hi := nI (9 + k)) 10 (9 + k) rfl rfl (by omega) (by omega) with ⟨z1, n1⟩ | ⟨j, hj1, hj2, rfl, o1⟩
  · rw [if_pos z1, if_pos z1, h1, bo_s, bo_s, gd_b h2.1, gd_b h2.1, (qm.1.2.1 h AG.rf).1, (qm.1.2.1 h AG.rf).2, bo_s, bo_s, h2.2.1, h2.2.2.1, B1_height q.1 w, B1_miles q.1 w, B7_height qm.1 w7, B7_miles qm.1 w7, bo_s, bo_s, bo_s, bo_s, em]
    have s5 := sc 5 (by omega)
    have s2 := sc 2 (by omega)
    have s3 := sc 3 (by omega)
    have s4 := sc 4 (by omega)
    rw [show h.1 6 12 = h.1 96 5 from s5, show h.1 6 9 = h.1 96 2 from s2, show h.1 6 10 = h.1 96 3 from s3, show h.1 6 11 = h.1 96 4 from s4]
    by_cases t0 : x1 = 0
    · rw [if_pos t0]; exact ⟨_, rfl, rfl⟩
    rw [if_neg t0]
    by_cases t1 : x1 = 1
    · rw [if_pos t1]; exact ⟨_, rfl, rfl⟩
    rw [if_neg t1]
    by_cases t2 : x1 = 2
    · rw [if_pos t2]; exact ⟨_, rfl, rfl⟩
    rw [if_neg t2]
    by_cases t3 : x1 = 3
    · rw [if_pos t3]; exact ⟨_, rfl, rfl⟩
    rw [if_neg t3]
    by_cases t4 : x1 = 4
    · rw [if_pos t4]; exact ⟨_, rfl, rfl⟩
    rw [if_neg t4]
    by_cases t5 : x1 = 5
    · rw [if_pos t5]; exact ⟨_, rfl, rfl⟩
    rw [if_neg t5]
    by_cases t6 : x1 = 6
    · rw [if_pos t6]; exact ⟨_, rfl, rfl⟩
    rw [if_neg t6]
    by_cases t7 : x1 = 7
    · rw [if_pos t7]; exact ⟨_, rfl, rfl⟩
    rw [if_neg t7]
    exact ⟨_, rfl, rfl⟩
  · have nx : ∀ m : Nat, m < 10 → ¬ nI j = nI m := fun m hm z => by have := (eq_n (by omega) (by omega)).mp z; omega
    have ex : nI j - 10 = nI (j - 10) := by rw [show (10 : Int32) = nI 10 from rfl, sub_n (by omega)]
    rw [o1, if_neg (show ¬ nI j = 0 from nx 0 (by omega)), if_neg (show ¬ nI j = 1 from nx 1 (by omega)), if_neg (show ¬ nI j = 2 from nx 2 (by omega)), if_neg (show ¬ nI j = 3 from nx 3 (by omega)), if_neg (show ¬ nI j = 4 from nx 4 (by omega)), if_neg (show ¬ nI j = 5 from nx 5 (by omega)), if_neg (show ¬ nI j = 6 from nx 6 (by omega)), if_neg (show ¬ nI j = 7 from nx 7 (by omega)), if_neg one_ne, if_neg one_ne, ex, gd_b (inb_n (by omega) (by omega)), gd_b (inb_n (by omega) (by omega)), cl_n (by omega)]
    refine ⟨h.1 103 (j - 10), ?_, rfl⟩
    rw [← mv_m h hk3 e8' (show j - 10 < k by omega), em, dv_m 6 h hk3 e8 (by omega)]
theorem gdx {β : Type} {b : Bool} {k : Option β} {r : β} (hb : b = true) (h : k = some r) : gd b k = some r := by subst hb; exact h
theorem C_of {O : OS} {h : HP} (q : AQ O h) (x1 x2 : Int32) : ∃ r h1 h2, f_X6_of x1 x2 h = some (r, h1) ∧ f_X7_of x1 x2 h1 = some (r, h2) ∧ AZ h h2 := by
  obtain ⟨qm, em⟩ := q.qm FC.rf
  obtain ⟨n, hn, e6, e96⟩ := q.pieces
  have az0 : AZ h h := ⟨h, FC.rf, qm.rf⟩
  have fcF : ∀ {h'}, Fc isF h h' → FC h h' := fun f => FC.fc (f.mono (fun _ z => Or.inr z))
  have bzF : ∀ {g g'}, QM O g → FM P113 NO_ g g' → BZ g g' := fun {g g'} qg f => ⟨f.mv (fun c a b z => by unfold P113 at z; omega) (fun _ _ z => z), (f.2.1 31 (fun z => z)).trans qg.2.2.1, (f.2.1 32 (fun z => z)).trans qg.2.2.2, f.mono (fun c z => by unfold P113 at z; unfold ZC; omega) (fun _ z => z.elim)⟩
  unfold f_X6_of
  rw [E_has, e6, bo_s]
  rcases piecec x1 hn with ⟨z, z7, -⟩ | ⟨p, hp, rfl, z, z7⟩
  · refine ⟨-1001, h, h, by rw [if_pos z], ?_, az0⟩
    unfold f_X7_of; rw [E_isPiece, e96, bo_s, if_pos z7]
  have hp6 : p < 6 := by omega
  have ib : inb (nI p) 6 = true := inb_n hp6 (by omega)
  have cp : (nI p).toNatClampNeg = p := cl_n (by omega)
  obtain ⟨k, hk3, hk, hK, hm⟩ := q.qc.2.g.1.1.k
  have w := q.qc.2.g.1.1
  have e8 : h.1 6 8 = nI k := by rw [← dv_s 6 h (show 1 < 6 by omega), hk]
  have start : ∀ g : HP, QM O g → mv g = dv 6 h → f_X7_of (nI p) x2 g = (if x2 = 0 then (gd (inb (nI p) 6) (some ((g.1 97 p), g))) else (if x2 = 1 then (gd (inb (nI p) 6) (some ((g.1 98 p), g))) else (if x2 = 2 then (gd (inb (nI p) 6) (some ((g.1 99 p), g))) else (if x2 = 3 then (gd (inb (nI p) 6) (some ((g.1 100 p), g))) else (if x2 = 4 then (gd (inb (nI p) 6) (some ((g.1 101 p), g))) else (if x2 = 5 then (bd (f_X7_heart (nI p) g) fun v19 g17 => some (v19, g17)) else (if x2 = 6 then (bd (f_X7_strength (nI p) g) fun v23 g21 => some (v23, g21)) else (if x2 = 7 then (some (rD (sPl (dv 6 h) (nI p)) (-5), g)) else (if x2 = 8 then (if (0 : Int32) ≤ rD (sPl (dv 6 h) (nI p)) (-5) then (bo (f_X7_above (rD (sPl (dv 6 h) (nI p)) (-5)) g) fun v27 => some (v27, g)) else (some ((-5), g))) else (if x2 = 9 then (if (0 : Int32) ≤ rD (sPl (dv 6 h) (nI p)) (-5) then (bo (f_X7_load (rD (sPl (dv 6 h) (nI p)) (-5)) g) fun v31 => some (v31, g)) else (some ((-5), g))) else ((some ((-1001), g))))))))))))) := by
    intro g qg eg
    have e9 : g.1 96 0 = nI n := by rw [← mv_s g (show 0 < 6 by omega), eg, dv_s 6 h (by omega)]; exact e6
    have e91 : g.1 96 1 = nI k := by rw [← mv_s g (show 1 < 6 by omega), eg, hk]
    unfold f_X7_of
    rw [E_isPiece, e9, bo_s, z7, if_neg one_ne, B7_placeOf hk3 e91, bo_s, cp, eg]
  rw [z, if_neg one_ne, E_within, bo_s]
  rcases rngc x2 (lo := 0) (hi := 9) 0 9 rfl rfl (by omega) (by omega) with ⟨y, ny⟩ | ⟨j, -, hj, rfl, y⟩
  · refine ⟨-1001, h, h, by rw [if_pos y], ?_, az0⟩
    rw [start h qm em]
    rw [if_neg (show ¬ x2 = 0 from ny 0 (by omega) (by omega)), if_neg (show ¬ x2 = 1 from ny 1 (by omega) (by omega)), if_neg (show ¬ x2 = 2 from ny 2 (by omega) (by omega)), if_neg (show ¬ x2 = 3 from ny 3 (by omega) (by omega)), if_neg (show ¬ x2 = 4 from ny 4 (by omega) (by omega)), if_neg (show ¬ x2 = 5 from ny 5 (by omega) (by omega)), if_neg (show ¬ x2 = 6 from ny 6 (by omega) (by omega)), if_neg (show ¬ x2 = 7 from ny 7 (by omega) (by omega)), if_neg (show ¬ x2 = 8 from ny 8 (by omega) (by omega)), if_neg (show ¬ x2 = 9 from ny 9 (by omega) (by omega))]
  rw [y, if_neg one_ne, cp]
  have aa : ∀ i, i < 5 → h.1 (6 + (i + 1)) p = h.1 (97 + i) p := fun i hi => by rw [← dv_a 6 h hi hp6, ← em, mv_a h hi hp6]
  have pls : f_X1_placeOf 6 (nI p) h = some (rD (sPl (dv 6 h) (nI p)) (-1)) := B1_placeOf hk3 e8 (nI p)
  have hj : j = 0 ∨ j = 1 ∨ j = 2 ∨ j = 3 ∨ j = 4 ∨ j = 5 ∨ j = 6 ∨ j = 7 ∨ j = 8 ∨ j = 9 := by omega
  have x6 : ∀ v : Int32, v = 0 ∨ v = 1 ∨ v = 2 ∨ v = 3 ∨ v = 4 ∨ v = 5 ∨ v = 6 ∨ v = 7 ∨ v = 8 ∨ v = 9 → True := fun _ _ => trivial
  rcases hj with rfl | rfl | rfl | rfl | rfl | rfl | rfl | rfl | rfl | rfl
  · refine ⟨h.1 (97 + 0) p, h, h, ?_, ?_, az0⟩
    · rw [if_pos (show nI 0 = 0 from rfl), gd_b ib]; exact congrArg (fun v => some (v, h)) (aa 0 (by omega))
    · rw [start h qm em, if_pos (show nI 0 = 0 from rfl), gd_b ib]
  · refine ⟨h.1 (97 + 1) p, h, h, ?_, ?_, az0⟩
    · rw [if_neg (show ¬ nI 1 = 0 by decide), if_pos (show nI 1 = 1 from rfl), gd_b ib]; exact congrArg (fun v => some (v, h)) (aa 1 (by omega))
    · rw [start h qm em, if_neg (show ¬ nI 1 = 0 by decide), if_pos (show nI 1 = 1 from rfl), gd_b ib]
  · refine ⟨h.1 (97 + 2) p, h, h, ?_, ?_, az0⟩
    · rw [if_neg (show ¬ nI 2 = 0 by decide), if_neg (show ¬ nI 2 = 1 by decide), if_pos (show nI 2 = 2 from rfl), gd_b ib]; exact congrArg (fun v => some (v, h)) (aa 2 (by omega))
    · rw [start h qm em, if_neg (show ¬ nI 2 = 0 by decide), if_neg (show ¬ nI 2 = 1 by decide), if_pos (show nI 2 = 2 from rfl), gd_b ib]
  · refine ⟨h.1 (97 + 3) p, h, h, ?_, ?_, az0⟩
    · rw [if_neg (show ¬ nI 3 = 0 by decide), if_neg (show ¬ nI 3 = 1 by decide), if_neg (show ¬ nI 3 = 2 by decide), if_pos (show nI 3 = 3 from rfl), gd_b ib]; exact congrArg (fun v => some (v, h)) (aa 3 (by omega))
    · rw [start h qm em, if_neg (show ¬ nI 3 = 0 by decide), if_neg (show ¬ nI 3 = 1 by decide), if_neg (show ¬ nI 3 = 2 by decide), if_pos (show nI 3 = 3 from rfl), gd_b ib]
  · refine ⟨h.1 (97 + 4) p, h, h, ?_, ?_, az0⟩
    · rw [if_neg (show ¬ nI 4 = 0 by decide), if_neg (show ¬ nI 4 = 1 by decide), if_neg (show ¬ nI 4 = 2 by decide), if_neg (show ¬ nI 4 = 3 by decide), if_pos (show nI 4 = 4 from rfl), gd_b ib]; exact congrArg (fun v => some (v, h)) (aa 4 (by omega))
    · rw [start h qm em, if_neg (show ¬ nI 4 = 0 by decide), if_neg (show ¬ nI 4 = 1 by decide), if_neg (show ¬ nI 4 = 2 by decide), if_neg (show ¬ nI 4 = 3 by decide), if_pos (show nI 4 = 4 from rfl), gd_b ib]
  · obtain ⟨ho, oc, h1, h2⟩ := q.1
    obtain ⟨g, e, fr⟩ := B1_heart ho h1 h2 hp6
    have fc := fcF fr
    obtain ⟨qg, eg⟩ := q.qm fc
    obtain ⟨g2, e2, fr2⟩ := qg.1.1 g p AG.rf hp6
    refine ⟨O.2.2 (sFacts (dv 6 h) p), g, g2, ?_, ?_, g, fc, bzF qg fr2⟩
    · rw [if_neg (show ¬ nI 5 = 0 by decide), if_neg (show ¬ nI 5 = 1 by decide), if_neg (show ¬ nI 5 = 2 by decide), if_neg (show ¬ nI 5 = 3 by decide), if_neg (show ¬ nI 5 = 4 by decide), if_pos (show nI 5 = 5 from rfl), h1, bo_s, gd_b h2.1, e, bd_s]
    · rw [start g qg eg, if_neg (show ¬ nI 5 = 0 by decide), if_neg (show ¬ nI 5 = 1 by decide), if_neg (show ¬ nI 5 = 2 by decide), if_neg (show ¬ nI 5 = 3 by decide), if_neg (show ¬ nI 5 = 4 by decide), if_pos (show nI 5 = 5 from rfl), e2, bd_s, ← eg]
      simp only [sFacts, mv_a g (show 0 < 5 by omega) hp6, mv_a g (show 1 < 5 by omega) hp6, mv_a g (show 2 < 5 by omega) hp6, mv_a g (show 3 < 5 by omega) hp6, mv_s g (show 5 < 6 by omega)]
  · obtain ⟨g, e, fr⟩ := B1_strength q.1 w hp6
    have fc := fcF fr
    obtain ⟨qg, eg⟩ := q.qm fc
    obtain ⟨g2, e2, fr2⟩ := B7_strength qg.1 qg.2.1.g.1.1 hp6
    refine ⟨sStr O (dv 6 h) p, g, g2, ?_, ?_, g, fc, bzF qg fr2⟩
    · rw [if_neg (show ¬ nI 6 = 0 by decide), if_neg (show ¬ nI 6 = 1 by decide), if_neg (show ¬ nI 6 = 2 by decide), if_neg (show ¬ nI 6 = 3 by decide), if_neg (show ¬ nI 6 = 4 by decide), if_neg (show ¬ nI 6 = 5 by decide), if_pos (show nI 6 = 6 from rfl), e, bd_s]
    · rw [start g qg eg, if_neg (show ¬ nI 6 = 0 by decide), if_neg (show ¬ nI 6 = 1 by decide), if_neg (show ¬ nI 6 = 2 by decide), if_neg (show ¬ nI 6 = 3 by decide), if_neg (show ¬ nI 6 = 4 by decide), if_neg (show ¬ nI 6 = 5 by decide), if_pos (show nI 6 = 6 from rfl), e2, bd_s, eg]
  · cases hpl : sPl (dv 6 h) (nI p) with
    | none =>
      refine ⟨-5, h, h, ?_, ?_, az0⟩
      · rw [if_neg (show ¬ nI 7 = 0 by decide), if_neg (show ¬ nI 7 = 1 by decide), if_neg (show ¬ nI 7 = 2 by decide), if_neg (show ¬ nI 7 = 3 by decide), if_neg (show ¬ nI 7 = 4 by decide), if_neg (show ¬ nI 7 = 5 by decide), if_neg (show ¬ nI 7 = 6 by decide), pls, bo_s, hpl, if_neg (show ¬ (0 : Int32) ≤ rD none (-1) by decide)]
      · rw [start h qm em, if_neg (show ¬ nI 7 = 0 by decide), if_neg (show ¬ nI 7 = 1 by decide), if_neg (show ¬ nI 7 = 2 by decide), if_neg (show ¬ nI 7 = 3 by decide), if_neg (show ¬ nI 7 = 4 by decide), if_neg (show ¬ nI 7 = 5 by decide), if_neg (show ¬ nI 7 = 6 by decide), if_pos (show nI 7 = 7 from rfl), hpl]; rfl
    | some i =>
      have hi := (sPl_lt hpl).1
      refine ⟨nI i, h, h, ?_, ?_, az0⟩
      · rw [if_neg (show ¬ nI 7 = 0 by decide), if_neg (show ¬ nI 7 = 1 by decide), if_neg (show ¬ nI 7 = 2 by decide), if_neg (show ¬ nI 7 = 3 by decide), if_neg (show ¬ nI 7 = 4 by decide), if_neg (show ¬ nI 7 = 5 by decide), if_neg (show ¬ nI 7 = 6 by decide), pls, bo_s, hpl, if_pos (show (0 : Int32) ≤ rD (some i) (-1) by show nI 0 ≤ nI i; rw [le_n (by omega) (by omega)]; omega), if_pos (show nI 7 = 7 from rfl)]; rfl
      · rw [start h qm em, if_neg (show ¬ nI 7 = 0 by decide), if_neg (show ¬ nI 7 = 1 by decide), if_neg (show ¬ nI 7 = 2 by decide), if_neg (show ¬ nI 7 = 3 by decide), if_neg (show ¬ nI 7 = 4 by decide), if_neg (show ¬ nI 7 = 5 by decide), if_neg (show ¬ nI 7 = 6 by decide), if_pos (show nI 7 = 7 from rfl), hpl]; rfl
  · cases hpl : sPl (dv 6 h) (nI p) with
    | none =>
      refine ⟨-5, h, h, ?_, ?_, az0⟩
      · rw [if_neg (show ¬ nI 8 = 0 by decide), if_neg (show ¬ nI 8 = 1 by decide), if_neg (show ¬ nI 8 = 2 by decide), if_neg (show ¬ nI 8 = 3 by decide), if_neg (show ¬ nI 8 = 4 by decide), if_neg (show ¬ nI 8 = 5 by decide), if_neg (show ¬ nI 8 = 6 by decide), pls, bo_s, hpl, if_neg (show ¬ (0 : Int32) ≤ rD none (-1) by decide)]
      · rw [start h qm em, if_neg (show ¬ nI 8 = 0 by decide), if_neg (show ¬ nI 8 = 1 by decide), if_neg (show ¬ nI 8 = 2 by decide), if_neg (show ¬ nI 8 = 3 by decide), if_neg (show ¬ nI 8 = 4 by decide), if_neg (show ¬ nI 8 = 5 by decide), if_neg (show ¬ nI 8 = 6 by decide), if_neg (show ¬ nI 8 = 7 by decide), if_pos (show nI 8 = 8 from rfl), hpl, if_neg (show ¬ (0 : Int32) ≤ rD none (-5) by decide)]
    | some i =>
      have hi := (sPl_lt hpl).1
      refine ⟨sAbove O (dv 6 h) i, h, h, ?_, ?_, az0⟩
      · rw [if_neg (show ¬ nI 8 = 0 by decide), if_neg (show ¬ nI 8 = 1 by decide), if_neg (show ¬ nI 8 = 2 by decide), if_neg (show ¬ nI 8 = 3 by decide), if_neg (show ¬ nI 8 = 4 by decide), if_neg (show ¬ nI 8 = 5 by decide), if_neg (show ¬ nI 8 = 6 by decide), pls, bo_s, hpl, if_pos (show (0 : Int32) ≤ rD (some i) (-1) by show nI 0 ≤ nI i; rw [le_n (by omega) (by omega)]; omega), if_neg (show ¬ nI 8 = 7 by decide), if_pos (show nI 8 = 8 from rfl), show rD (some i) (-1) = nI i from rfl, B1_above q.1 w (by omega), bo_s]
      · rw [start h qm em, if_neg (show ¬ nI 8 = 0 by decide), if_neg (show ¬ nI 8 = 1 by decide), if_neg (show ¬ nI 8 = 2 by decide), if_neg (show ¬ nI 8 = 3 by decide), if_neg (show ¬ nI 8 = 4 by decide), if_neg (show ¬ nI 8 = 5 by decide), if_neg (show ¬ nI 8 = 6 by decide), if_neg (show ¬ nI 8 = 7 by decide), if_pos (show nI 8 = 8 from rfl), hpl, if_pos (show (0 : Int32) ≤ rD (some i) (-5) by show nI 0 ≤ nI i; rw [le_n (by omega) (by omega)]; omega), show rD (some i) (-5) = nI i from rfl, B7_above qm.1 (by rw [em]; exact w) (by rw [em]; exact hi), bo_s, em]
  · cases hpl : sPl (dv 6 h) (nI p) with
    | none =>
      refine ⟨-5, h, h, ?_, ?_, az0⟩
      · rw [if_neg (show ¬ nI 9 = 0 by decide), if_neg (show ¬ nI 9 = 1 by decide), if_neg (show ¬ nI 9 = 2 by decide), if_neg (show ¬ nI 9 = 3 by decide), if_neg (show ¬ nI 9 = 4 by decide), if_neg (show ¬ nI 9 = 5 by decide), if_neg (show ¬ nI 9 = 6 by decide), pls, bo_s, hpl, if_neg (show ¬ (0 : Int32) ≤ rD none (-1) by decide)]
      · rw [start h qm em, if_neg (show ¬ nI 9 = 0 by decide), if_neg (show ¬ nI 9 = 1 by decide), if_neg (show ¬ nI 9 = 2 by decide), if_neg (show ¬ nI 9 = 3 by decide), if_neg (show ¬ nI 9 = 4 by decide), if_neg (show ¬ nI 9 = 5 by decide), if_neg (show ¬ nI 9 = 6 by decide), if_neg (show ¬ nI 9 = 7 by decide), if_neg (show ¬ nI 9 = 8 by decide), if_pos (show nI 9 = 9 from rfl), hpl, if_neg (show ¬ (0 : Int32) ≤ rD none (-5) by decide)]
    | some i =>
      have hi := (sPl_lt hpl).1
      refine ⟨sLoad O (dv 6 h) i, h, h, ?_, ?_, az0⟩
      · rw [if_neg (show ¬ nI 9 = 0 by decide), if_neg (show ¬ nI 9 = 1 by decide), if_neg (show ¬ nI 9 = 2 by decide), if_neg (show ¬ nI 9 = 3 by decide), if_neg (show ¬ nI 9 = 4 by decide), if_neg (show ¬ nI 9 = 5 by decide), if_neg (show ¬ nI 9 = 6 by decide), pls, bo_s, hpl, if_pos (show (0 : Int32) ≤ rD (some i) (-1) by show nI 0 ≤ nI i; rw [le_n (by omega) (by omega)]; omega), if_neg (show ¬ nI 9 = 7 by decide), if_neg (show ¬ nI 9 = 8 by decide), show rD (some i) (-1) = nI i from rfl, B1_load q.1 w (by omega), bo_s]
      · rw [start h qm em, if_neg (show ¬ nI 9 = 0 by decide), if_neg (show ¬ nI 9 = 1 by decide), if_neg (show ¬ nI 9 = 2 by decide), if_neg (show ¬ nI 9 = 3 by decide), if_neg (show ¬ nI 9 = 4 by decide), if_neg (show ¬ nI 9 = 5 by decide), if_neg (show ¬ nI 9 = 6 by decide), if_neg (show ¬ nI 9 = 7 by decide), if_neg (show ¬ nI 9 = 8 by decide), if_pos (show nI 9 = 9 from rfl), hpl, if_pos (show (0 : Int32) ≤ rD (some i) (-5) by show nI 0 ≤ nI i; rw [le_n (by omega) (by omega)]; omega), show rD (some i) (-5) = nI i from rfl, B7_load qm.1 (by rw [em]; exact w) (by rw [em]; exact hi), bo_s, em]
