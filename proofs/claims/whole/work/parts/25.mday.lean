theorem B7_breaksAt_L2 {O : OS} {k : Nat} (hk3 : k ≤ 3) : ∀ (c i : Nat) (h : HP) (fuel : Nat), i + c = k → c < fuel → MD_ O h → WFE (mv h) → (mv h).1 1 = nI k → ∃ h', f_X7_breaksAt_L2 fuel (nI i) h = some ((match sBrkF O (mv h) c i with | none => (-5) | some j => nI j), h') ∧ FM P113 NO_ h h' := by
  intro c
  induction c with
  | zero =>
    intro i h fuel hi hf hC w hk
    obtain ⟨f, rfl⟩ : ∃ f, fuel = f + 1 := ⟨fuel - 1, by omega⟩
    rw [mv_s h (by omega)] at hk
    refine ⟨h, ?_, FM.rf⟩
    rw [f_X7_breaksAt_L2, if_pos (by rw [show h.1 96 1 = nI k from hk, le_n (by omega) (by omega)]; omega)]
    rfl
  | succ c ih =>
    intro i h fuel hi hf hC w hk
    obtain ⟨f, rfl⟩ : ∃ f, fuel = f + 1 := ⟨fuel - 1, by omega⟩
    have hk' := hk
    rw [mv_s h (by omega)] at hk'
    obtain ⟨k2, hk2, e2, hK, hm⟩ := w.k
    have : k2 = k := by rw [hk] at e2; exact (eq_n (by omega) (by omega)).mp e2.symm
    subst this
    obtain ⟨m, hm6, hmi⟩ := hm i (by omega)
    have hmi' := hmi
    rw [mv_m h hk3 hk' (by omega)] at hmi'
    obtain ⟨g, e, fr⟩ := B7_strength hC w hm6
    rw [f_X7_breaksAt_L2, if_neg (by rw [show h.1 96 1 = nI k2 from hk', le_n (by omega) (by omega)]; omega), B7_load hC w (by omega), bo_s, gd_b (inb_n (by omega) (by omega)), cl_n (by omega), hmi', e, bd_s]
    have hD : mv g = mv h := fr.mv (fun c a b q => by unfold P113 at q; omega) (fun _ _ q => q)
    simp only [sBrkF, hmi, cl_n (show m < 2147483648 by omega)]
    by_cases q : sLoad O (mv h) i ≤ sStr O (mv h) m
    · rw [if_pos q, if_pos q, lt_e, show nI i + 1 = nI (i + 1) from nI_1 i]
      obtain ⟨g2, e2, fr2⟩ := ih (i + 1) g f (by omega) (by omega) (hC.fm fr (fun c a b q => by unfold P113 at q; omega) (fun q => q)) (by rw [hD]; exact w) (by rw [hD]; exact hk)
      refine ⟨g2, ?_, fr.trans fr2 (fun _ q => q) (fun _ q => q) (fun _ q => q) (fun _ q => q)⟩
      rw [e2, hD]
    · rw [if_neg q, if_neg q]
      exact ⟨g, rfl, fr⟩
theorem B7_breaksAt {O : OS} {h : HP} (hC : MD_ O h) (w : WFE (mv h)) : ∃ h', f_X7_breaksAt h = some ((match sBrk O (mv h) with | none => (-5) | some j => nI j), h') ∧ FM P113 NO_ h h' := by
  obtain ⟨k, hk3, hk, hK, hm⟩ := w.k
  unfold f_X7_breaksAt sBrk
  rw [hK]
  exact B7_breaksAt_L2 hk3 k 0 h FZ (by omega) (by have := FZ_ge; omega) hC w hk
/-- loads are written down first -/
def P114 (c : Nat) : Prop := c = 114
theorem B7_goWear_L23 {O : OS} {k : Nat} (hk3 : k ≤ 3) : ∀ (c i : Nat) (h : HP) (fuel : Nat), i + c = k → c < fuel → MD_ O h → WFE (mv h) → (mv h).1 1 = nI k → (∀ j, j < i → h.1 114 j = sLoad O (mv h) j) → ∃ h', f_X7_goWear_L23 fuel (nI i) h = f_X7_goWear_L50 FZ 0 h' ∧ (∀ j, j < k → h'.1 114 j = sLoad O (mv h) j) ∧ FM P114 NO_ h h' := by
  intro c
  induction c with
  | zero =>
    intro i h fuel hi hf hC w hk hl
    obtain ⟨f, rfl⟩ : ∃ f, fuel = f + 1 := ⟨fuel - 1, by omega⟩
    rw [mv_s h (by omega)] at hk
    refine ⟨h, ?_, fun j hj => hl j (by omega), FM.rf⟩
    rw [f_X7_goWear_L23, if_pos (by rw [show h.1 96 1 = nI k from hk, le_n (by omega) (by omega)]; omega)]
  | succ c ih =>
    intro i h fuel hi hf hC w hk hl
    obtain ⟨f, rfl⟩ : ∃ f, fuel = f + 1 := ⟨fuel - 1, by omega⟩
    have hk' := hk
    rw [mv_s h (by omega)] at hk'
    obtain ⟨k2, hk2, e2, hK, hm⟩ := w.k
    have : k2 = k := by rw [hk] at e2; exact (eq_n (by omega) (by omega)).mp e2.symm
    subst this
    have fr : FM P114 NO_ h (si h 114 i (sLoad O (mv h) i)) := FM.cell (by omega) rfl
    have hD : mv (si h 114 i (sLoad O (mv h) i)) = mv h := fr.mv (fun c a b q => by unfold P114 at q; omega) (fun _ _ q => q)
    rw [f_X7_goWear_L23, if_neg (by rw [show h.1 96 1 = nI k2 from hk', le_n (by omega) (by omega)]; omega), B7_load hC w (by omega), bo_s, gd_b (inb_n (by omega) (by omega)), cl_n (by omega), lt_e, lt_e, one_n]
    obtain ⟨g2, e2, l2, fr2⟩ := ih (i + 1) (si h 114 i (sLoad O (mv h) i)) f (by omega) (by omega) (hC.fm fr (fun c a b q => by unfold P114 at q; omega) (fun q => q)) (by rw [hD]; exact w) (by rw [hD]; exact hk) (fun j hj => by
      rw [hD, si_w]
      by_cases q : j = i
      · subst q; exact up_s _ _ _
      · rw [up_n _ _ q]; exact hl j (by omega))
    refine ⟨g2, e2, fun j hj => ?_, fr.trans fr2 (fun _ q => q) (fun _ q => q) (fun _ q => q) (fun _ q => q)⟩
    rw [l2 j hj, hD]
def P100 (c : Nat) : Prop := c = 100
theorem B7_goWear_L50 {O : OS} {k : Nat} (hk3 : k ≤ 3) (b : AS) : ∀ (c i : Nat) (h : HP) (fuel : Nat), i + c = k → c < fuel → WFE (mv h) → (mv h).1 1 = nI k → (∀ j, j < k → h.1 114 j = sLoad O b j) → (mv h).1 = b.1 → (mv h).2 2 = b.2 2 → (mv h).2 6 = b.2 6 → ∃ h', f_X7_goWear_L50 fuel (nI i) h = some h' ∧ mv h' = sWearF O c i (mv h) ∧ FM P100 NO_ h h' := by
  intro c
  induction c with
  | zero =>
    intro i h fuel hi hf w hk hl _ _ _
    obtain ⟨f, rfl⟩ : ∃ f, fuel = f + 1 := ⟨fuel - 1, by omega⟩
    rw [mv_s h (by omega)] at hk
    refine ⟨h, ?_, rfl, FM.rf⟩
    rw [f_X7_goWear_L50, if_pos (by rw [show h.1 96 1 = nI k from hk, le_n (by omega) (by omega)]; omega)]
  | succ c ih =>
    intro i h fuel hi hf w hk hl b1 b2 b6
    obtain ⟨f, rfl⟩ : ∃ f, fuel = f + 1 := ⟨fuel - 1, by omega⟩
    have hk' := hk
    rw [mv_s h (by omega)] at hk'
    obtain ⟨k2, hk2, e2, hK, hm⟩ := w.k
    have : k2 = k := by rw [hk] at e2; exact (eq_n (by omega) (by omega)).mp e2.symm
    subst this
    obtain ⟨m, hm6, hmi⟩ := hm i (by omega)
    have hmi' := hmi
    rw [mv_m h hk3 hk' (by omega)] at hmi'
    have hload : sLoad O b i = sLoad O (mv h) i := (sLoad_cong (by rw [b1]) (by rw [b1]) (by rw [b1]) b2 b6 i).symm
    have hput := mv_put (h := h) (i := 3) (j := m) (v := mn (h.1 100 m + sLoad O (mv h) i / 10) 99) (by omega) hm6
    have fr : FM P100 NO_ h (si h 100 m (mn (h.1 100 m + sLoad O (mv h) i / 10) 99)) := FM.cell (by omega) rfl
    rw [f_X7_goWear_L50, if_neg (by rw [show h.1 96 1 = nI k2 from hk', le_n (by omega) (by omega)]; omega)]
    simp only [gd_b (inb_n (show i < 3 by omega) (show (3 : Nat) < 2147483648 by omega)), cl_n (show i < 2147483648 by omega), hmi', gd_b (inb_n hm6 (show (6 : Nat) < 2147483648 by omega)), cl_n (show m < 2147483648 by omega), E_least, bo_s, lt_e, one_n, hl i (by omega), hload]
    obtain ⟨g2, e2, v2, fr2⟩ := ih (i + 1) (si h 100 m (mn (h.1 100 m + sLoad O (mv h) i / 10) 99)) f (by omega) (by omega) (by rw [hput]; exact WFE_put w (by omega) (by omega)) (by rw [hput]; exact hk) (fun j hj => by rw [si_r (by omega)]; exact hl j hj) (by rw [hput]; exact b1) (by rw [hput, sPut_n _ _ (by omega)]; exact b2) (by rw [hput, sPut_n _ _ (by omega)]; exact b6)
    refine ⟨g2, e2, ?_, fr.trans fr2 (fun _ q => q) (fun _ q => q) (fun _ q => q) (fun _ q => q)⟩
    rw [v2, hput]
    simp only [sWearF, hmi, cl_n (show m < 2147483648 by omega), mv_a h (show 3 < 5 by omega) hm6]
def PJ4 (j : Nat) : Prop := j = 4
def WS (c : Nat) : Prop := c = 100 ∨ c = 114
theorem B7_goWear {O : OS} {h : HP} (hC : MD_ O h) (w : WFE (mv h)) : ∃ h', f_X7_goWear h = some h' ∧ mv h' = sWearF O (sK (mv h)) 0 (sSet (mv h) 4 (mn ((mv h).1 4 + sMiles O (mv h)) (h.1 96 31))) ∧ FM WS PJ4 h h' := by
  obtain ⟨k, hk3, hk, hK, hm⟩ := w.k
  unfold f_X7_goWear
  rw [B7_miles hC w, bo_s, E_least, bo_s, lt_e, show h.1 96 4 = (mv h).1 4 from (mv_s h (by omega)).symm]
  generalize hV : mn ((mv h).1 4 + sMiles O (mv h)) (h.1 96 31) = V
  have hv : mv (si h 96 4 V) = sSet (mv h) 4 V := mv_set (by omega) (by omega)
  have fr : FM WS PJ4 h (si h 96 4 V) := FM.place rfl
  have wv : WFE (mv (si h 96 4 V)) := by rw [hv]; exact WFE_set w (by omega) (by omega)
  have hCv := hC.fm fr (fun c a b q => by unfold WS at q; omega) (by unfold PJ4; omega)
  have hkv : (mv (si h 96 4 V)).1 1 = nI k := by rw [hv, sSet_n _ _ (by omega)]; exact hk
  obtain ⟨g, e, hl, fr2⟩ := B7_goWear_L23 (O := O) hk3 k 0 (si h 96 4 V) FZ (by omega) (by have := FZ_ge; omega) hCv wv hkv (fun j hj => by omega)
  have hg : mv g = mv (si h 96 4 V) := fr2.mv (fun c a b q => by unfold P114 at q; omega) (fun _ _ q => q)
  obtain ⟨g3, e3, v3, fr3⟩ := B7_goWear_L50 (O := O) hk3 (mv (si h 96 4 V)) k 0 g FZ (by omega) (by have := FZ_ge; omega) (by rw [hg]; exact wv) (by rw [hg]; exact hkv) hl (by rw [hg]) (by rw [hg]) (by rw [hg])
  refine ⟨g3, e.trans e3, ?_, (fr.trans fr2 (fun _ q => q) (fun _ q => Or.inr q) (fun _ q => q) (fun _ q => q.elim)).trans fr3 (fun _ q => q) (fun _ q => Or.inl q) (fun _ q => q) (fun _ q => q.elim)⟩
  rw [v3, hg, hv, hK]
theorem sSet_comm (a : AS) {i j : Nat} (v u : Int32) (h : i ≠ j) : sSet (sSet a i v) j u = sSet (sSet a j u) i v := by
  refine Prod.ext (funext fun x => ?_) rfl
  show va_up (va_up a.1 i v) j u x = va_up (va_up a.1 j u) i v x
  simp only [va_up]
  by_cases h1 : x = i
  · by_cases h2 : x = j
    · omega
    · simp [h1, h2, show ¬ i = j from h]
  · simp [h1]
theorem sSet_put (a : AS) (i j : Nat) (v u : Int32) (y : Nat) : sSet (sPut a i j v) y u = sPut (sSet a y u) i j v := rfl
theorem sCut_set (a : AS) {k y : Nat} (u : Int32) (hy : y ≠ 1) : sSet (sCut a k) y u = sCut (sSet a y u) k := by
  refine Prod.ext (funext fun x => ?_) rfl
  show va_up (va_up a.1 1 (nI k)) y u x = va_up (va_up a.1 y u) 1 (nI k) x
  simp only [va_up]
  by_cases h1 : x = y
  · simp [h1, hy]
  · simp [h1]
theorem wearF_set {O : OS} : ∀ (c i : Nat) (a : AS) (v : Int32), sWearF O c i (sSet a 5 v) = sSet (sWearF O c i a) 5 v := by
  intro c
  induction c with
  | zero => intro i a v; rfl
  | succ c ih =>
    intro i a v
    simp only [sWearF]
    rw [sLoad_cong (a := sSet a 5 v) (b := a) (sSet_n _ _ (by omega)) (sSet_n _ _ (by omega)) (sSet_n _ _ (by omega)) rfl rfl i]
    exact ih (i + 1) (sPut a 3 (a.2 6 i).toNatClampNeg (mn (a.2 3 (a.2 6 i).toNatClampNeg + sLoad O a i / 10) 99)) v
theorem B7_goDay {O : OS} {d : Nat} {h : HP} (hC : MD_ O h) (w : WFE (mv h)) (hd : (mv h).1 5 = nI d) (hd1 : d + 1 < 1000000) : ∃ h', f_X7_goDay h = some (rD (sDay (h.1 96 31) (h.1 96 32) O (mv h)).1 (-5), h') ∧ mv h' = (sDay (h.1 96 31) (h.1 96 32) O (mv h)).2 ∧ FM DS DJ h h' := by
  obtain ⟨g1, e1, fr1⟩ := B7_breaksAt hC w
  have hv1 : mv g1 = mv h := fr1.mv (fun c a b q => by unfold P113 at q; omega) (fun _ _ q => q)
  have fr1' : FM DS DJ h g1 := fr1.mono (fun c q => by unfold P113 at q; unfold DS; omega) (fun _ q => q.elim)
  have hC1 := hC.fm fr1 (fun c a b q => by unfold P113 at q; omega) (fun q => q)
  have h31 : g1.1 96 31 = h.1 96 31 := fr1.2.1 31 (fun q => q)
  have h32 : g1.1 96 32 = h.1 96 32 := fr1.2.1 32 (fun q => q)
  have hday2 : (mv h).1 5 + 1 = nI (d + 1) := by rw [hd, one_n]
  obtain ⟨k, hk3, hk, hK, hm⟩ := w.k
  unfold f_X7_goDay
  rw [e1, bd_s]
  unfold sDay
  rw [hday2]
  cases hb : sBrk O (mv h) with
  | none =>
    dsimp only
    rw [if_neg (by decide)]
    unfold f_X7_goDay_J20
    obtain ⟨g, e, ev, fr⟩ := B7_goWear hC1 (by rw [hv1]; exact w)
    rw [if_neg (by decide), e, bo_s, lt_e]
    rw [hv1, h31] at ev
    have hday : g.1 96 5 + 1 = nI (d + 1) := by
      have h5 : g.1 96 5 = g1.1 96 5 := fr.2.1 5 (by unfold PJ4; omega)
      rw [h5, show g1.1 96 5 = (mv g1).1 5 from (mv_s g1 (by omega)).symm, hv1, hd, one_n]
    rw [hday]
    have h2 := mv_set (h := g) (j := 5) (v := nI (d + 1)) (by omega) (by omega)
    refine ⟨_, rfl, ?_, (fr1'.trans (fr.mono (S2 := DS) (J2 := DJ) (fun c q => by unfold WS at q; unfold DS; omega) (fun j q => show DJ j by unfold PJ4 at q; unfold DJ; omega)) (fun _ q => q) (fun _ q => q) (fun _ q => q) (fun _ q => q)).trans (FM.place (S := DS) (J := DJ) (by unfold DJ; omega)) (fun _ q => q) (fun _ q => q) (fun _ q => q) (fun _ q => q)⟩
    rw [h2, ev, ← wearF_set, sSet_comm _ _ _ (by omega)]
  | some i =>
    have hi := sBrk_lt hb
    rw [hK] at hi
    obtain ⟨m, hm6, hmi⟩ := hm i hi
    dsimp only
    have hk1 : g1.1 96 1 = nI k := by rw [show g1.1 96 1 = (mv g1).1 1 from (mv_s g1 (by omega)).symm, hv1]; exact hk
    have hm1 : g1.1 103 i = nI m := by rw [← mv_m g1 hk3 hk1 hi, hv1]; exact hmi
    have hl1 : g1.1 99 m = (mv h).2 2 m := by rw [← hv1]; exact (mv_a g1 (show 2 < 5 by omega) hm6).symm
    have hb1 : g1.1 101 m = (mv h).2 4 m := by rw [← hv1]; exact (mv_a g1 (show 4 < 5 by omega) hm6).symm
    have h51 : g1.1 96 5 + 1 = nI (d + 1) := by rw [show g1.1 96 5 = (mv g1).1 5 from (mv_s g1 (by omega)).symm, hv1, hd, one_n]
    rw [if_pos (by rw [show (0 : Int32) = nI 0 from rfl, le_n (by omega) (by omega)]; omega), gd_b (inb_n (by omega) (by omega)), cl_n (show i < 2147483648 by omega), hm1]
    unfold f_X7_goDay_J20
    rw [if_pos (by rw [show (0 : Int32) = nI 0 from rfl, le_n (by omega) (by omega)]; omega)]
    simp only [gd_b (inb_n hm6 (show (6 : Nat) < 2147483648 by omega)), cl_n (show m < 2147483648 by omega), lt_e, E_least, bo_s, hl1, si_r (show (101 : Nat) ≠ 100 by omega), si_r (show (101 : Nat) ≠ 99 by omega), si_r (show (96 : Nat) ≠ 100 by omega), si_r (show (96 : Nat) ≠ 99 by omega), si_r (show (96 : Nat) ≠ 101 by omega), si_w _ 96 1, up_n _ _ (show (5 : Nat) ≠ 1 by omega), hb1, hmi, h32, h51]
    refine ⟨_, rfl, ?_, ?_⟩
    · have p1 := mv_put (h := g1) (i := 2) (j := m) (v := (mv h).2 2 m / 2) (by omega) hm6
      have p2 := mv_put (h := si g1 99 m ((mv h).2 2 m / 2)) (i := 3) (j := m) (v := 0) (by omega) hm6
      have p3 := mv_put (h := si (si g1 99 m ((mv h).2 2 m / 2)) 100 m 0) (i := 4) (j := m) (v := mn ((mv h).2 4 m + 1) (h.1 96 32)) (by omega) hm6
      have p4 := mv_cut (h := si (si (si g1 99 m ((mv h).2 2 m / 2)) 100 m 0) 101 m (mn ((mv h).2 4 m + 1) (h.1 96 32))) (k := k) (i := i) hk3 (by rw [si_r (by omega), si_r (by omega), si_r (by omega)]; exact hk1) (by omega)
      have p5 := mv_set (h := si (si (si (si g1 99 m ((mv h).2 2 m / 2)) 100 m 0) 101 m (mn ((mv h).2 4 m + 1) (h.1 96 32))) 96 1 (nI i)) (j := 5) (v := nI (d + 1)) (by omega) (by omega)
      rw [p4, p3, p2, p1, hv1, sCut_set _ _ (by omega)] at p5
      exact p5
    · have s99 : DS 99 := by unfold DS; omega
      have s100 : DS 100 := by unfold DS; omega
      have s101 : DS 101 := by unfold DS; omega
      exact ((((fr1'.trans (FM.cell (by omega) s99) (fun _ q => q) (fun _ q => q) (fun _ q => q) (fun _ q => q)).trans (FM.cell (by omega) s100) (fun _ q => q) (fun _ q => q) (fun _ q => q) (fun _ q => q)).trans (FM.cell (by omega) s101) (fun _ q => q) (fun _ q => q) (fun _ q => q) (fun _ q => q)).trans (FM.place (S := DS) (J := DJ) (by unfold DJ; omega)) (fun _ q => q) (fun _ q => q) (fun _ q => q) (fun _ q => q)).trans (FM.place (S := DS) (J := DJ) (by unfold DJ; omega)) (fun _ q => q) (fun _ q => q) (fun _ q => q) (fun _ q => q)
