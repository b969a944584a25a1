/-! days asked: what does not depend on miles gone and times broken -/
def core (a : AS) : AS := (va_up a.1 4 0, va_up a.2 4 (fun _ => 0))
theorem core_s (a : AS) {j : Nat} (h : j ≠ 4) : (core a).1 j = a.1 j := if_neg h
theorem core_r (a : AS) {j : Nat} (h : j ≠ 4) : (core a).2 j = a.2 j := if_neg h
theorem core_core (a : AS) : core (core a) = core a := by
  refine Prod.ext (funext fun x => ?_) (funext fun x => ?_)
  · show va_up (va_up a.1 4 0) 4 0 x = va_up a.1 4 0 x
    simp only [va_up]; split <;> rfl
  · show va_up (va_up a.2 4 _) 4 _ x = va_up a.2 4 _ x
    simp only [va_up]; split <;> rfl
theorem sAbove_core (O : OS) (a : AS) (i : Nat) : sAbove O (core a) i = sAbove O a i := sAbove_cong (core_s a (by omega)) (core_r a (by omega)) (core_r a (by omega)) i
theorem sHeight_core (O : OS) (a : AS) : sHeight O (core a) = sHeight O a := sHeight_cong (core_s a (by omega)) (core_r a (by omega)) (core_r a (by omega))
theorem sLoad_core (O : OS) (a : AS) (i : Nat) : sLoad O (core a) i = sLoad O a i := sLoad_cong (core_s a (by omega)) (core_s a (by omega)) (core_s a (by omega)) (core_r a (by omega)) (core_r a (by omega)) i
theorem sMiles_core (O : OS) (a : AS) : sMiles O (core a) = sMiles O a := sMiles_cong (core_s a (by omega)) (core_s a (by omega)) (core_r a (by omega)) (core_r a (by omega))
theorem sStr_core (O : OS) (a : AS) (p : Nat) : sStr O (core a) p = sStr O a p := by
  simp only [sStr, sFacts, core_s a (show 5 ≠ 4 by omega), core_s a (show 3 ≠ 4 by omega), core_r a (show 0 ≠ 4 by omega), core_r a (show 1 ≠ 4 by omega), core_r a (show 2 ≠ 4 by omega), core_r a (show 3 ≠ 4 by omega), core_r a (show 5 ≠ 4 by omega)]
theorem sK_core (a : AS) : sK (core a) = sK a := by unfold sK; rw [core_s a (by omega)]
theorem sBrkF_core (O : OS) (a : AS) : ∀ c i, sBrkF O (core a) c i = sBrkF O a c i := by
  intro c
  induction c with
  | zero => intro i; rfl
  | succ c ih => intro i; simp only [sBrkF, sLoad_core, sStr_core, core_r a (show 6 ≠ 4 by omega), ih]
theorem sBrk_core (O : OS) (a : AS) : sBrk O (core a) = sBrk O a := by unfold sBrk; rw [sK_core, sBrkF_core]
theorem core_put (a : AS) {i j : Nat} {v : Int32} (h : i ≠ 4) : core (sPut a i j v) = sPut (core a) i j v := by
  refine Prod.ext rfl (funext fun x => ?_)
  show va_up (va_up a.2 i (va_up (a.2 i) j v)) 4 _ x = va_up (va_up a.2 4 _) i (va_up ((core a).2 i) j v) x
  rw [core_r a h]
  simp only [va_up]
  by_cases h1 : x = 4
  · simp [h1, Ne.symm h]
  · simp [h1]
theorem core_put4 (a : AS) {j : Nat} {v : Int32} : core (sPut a 4 j v) = core a := by
  refine Prod.ext rfl (funext fun x => ?_)
  show va_up (va_up a.2 4 _) 4 _ x = va_up a.2 4 _ x
  simp only [va_up]
  by_cases h1 : x = 4 <;> simp [h1]
theorem core_set (a : AS) {j : Nat} {v : Int32} (h : j ≠ 4) : core (sSet a j v) = sSet (core a) j v := by
  refine Prod.ext (funext fun x => ?_) rfl
  show va_up (va_up a.1 j v) 4 0 x = va_up (va_up a.1 4 0) j v x
  simp only [va_up]
  by_cases h1 : x = 4
  · simp [h1, Ne.symm h]
  · simp [h1]
theorem core_set4 (a : AS) {v : Int32} : core (sSet a 4 v) = core a := by
  refine Prod.ext (funext fun x => ?_) rfl
  show va_up (va_up a.1 4 v) 4 0 x = va_up a.1 4 0 x
  simp only [va_up]
  by_cases h1 : x = 4 <;> simp [h1]
theorem core_cut (a : AS) {k : Nat} : core (sCut a k) = sCut (core a) k := by
  refine Prod.ext (funext fun x => ?_) (funext fun x => ?_)
  · show va_up (va_up a.1 1 _) 4 0 x = va_up (va_up a.1 4 0) 1 _ x
    simp only [va_up]
    by_cases h1 : x = 4
    · simp [h1]
    · simp [h1]
  · show va_up (va_up a.2 6 _) 4 _ x = va_up (va_up a.2 4 _) 6 _ x
    rw [core_r a (show 6 ≠ 4 by omega)]
    simp only [va_up]
    by_cases h1 : x = 4
    · simp [h1]
    · simp [h1]
theorem core_wearF (O : OS) : ∀ (c i : Nat) (a : AS), core (sWearF O c i a) = sWearF O c i (core a) := by
  intro c
  induction c with
  | zero => intro i a; rfl
  | succ c ih =>
    intro i a
    simp only [sWearF, sLoad_core, core_r a (show 6 ≠ 4 by omega), core_r a (show 3 ≠ 4 by omega)]
    rw [ih, core_put _ (by omega)]
/-- a day of what matters; which piece breaks; how far one comes -/
def cStep (O : OS) (c : AS) : AS := core (sDay 0 0 O c).2
def cBrk (O : OS) (c : AS) : Option Nat := (sBrk O c).map (fun i => (c.2 6 i).toNatClampNeg)
def cGain (O : OS) (c : AS) : Nat := if sBrk O c = none then (sMiles O c).toNatClampNeg else 0
theorem day_fst (cm cb : Int32) (O : OS) (a : AS) : (sDay cm cb O a).1 = cBrk O (core a) := by
  unfold sDay cBrk
  rw [sBrk_core]
  cases sBrk O a with
  | none => rfl
  | some i => simp only [Option.map, core_r a (show 6 ≠ 4 by omega)]
theorem day_core (cm cb : Int32) (O : OS) (a : AS) : core (sDay cm cb O a).2 = cStep O (core a) := by
  unfold cStep sDay
  rw [sBrk_core]
  cases sBrk O a with
  | none =>
    dsimp only
    rw [core_wearF, core_wearF, core_set4, core_set4, core_set _ (by omega), core_set _ (by omega), core_core, sK_core, core_s a (by omega)]
  | some i =>
    dsimp only
    simp only [core_cut, core_put4, core_put _ (show 3 ≠ 4 by omega), core_put _ (show 2 ≠ 4 by omega), core_set _ (show 5 ≠ 4 by omega), core_core, core_r a (show 6 ≠ 4 by omega), core_r a (show 2 ≠ 4 by omega), core_s a (show 5 ≠ 4 by omega)]
theorem day_went (cm cb : Int32) (O : OS) (a : AS) : (sDay cm cb O a).2.1 4 = if sBrk O a = none then mn (a.1 4 + sMiles O a) cm else a.1 4 := by
  unfold sDay
  cases sBrk O a with
  | none =>
    dsimp only
    rw [(wearF_sc _ _ _).1, sSet_s, if_pos rfl]
  | some i =>
    dsimp only
    rw [if_neg (by simp), sCut_n _ (by omega)]
    exact sSet_n a (i := 4) (j := 5) (a.1 5 + 1) (by omega)
theorem day_sc (cm cb : Int32) (O : OS) (a : AS) {j : Nat} (h1 : j ≠ 1) (h4 : j ≠ 4) (h5 : j ≠ 5) : (sDay cm cb O a).2.1 j = a.1 j := by
  unfold sDay
  cases sBrk O a with
  | none =>
    dsimp only
    rw [(wearF_sc _ _ _).1, sSet_n _ _ h4, sSet_n _ _ h5]
  | some i =>
    dsimp only
    rw [sCut_n _ h1]
    exact sSet_n a _ h5
/-- well made, with a sail of at most 9 -/
def WFG (a : AS) : Prop := WFE a ∧ ∃ s, s ≤ 9 ∧ a.1 2 = nI s
theorem WFG_day {cm cb : Int32} {O : OS} {a : AS} {d : Nat} (w : WFG a) (hd : a.1 5 = nI d) (h1 : d + 1 < 1000000) : WFG (sDay cm cb O a).2 ∧ (sDay cm cb O a).2.1 5 = nI (d + 1) := by
  obtain ⟨w1, s, hs, es⟩ := w
  obtain ⟨q1, q2⟩ := WFE_day (cm := cm) (cb := cb) (O := O) w1 hd h1
  exact ⟨⟨q1, s, hs, by rw [day_sc _ _ _ _ (by omega) (by omega) (by omega)]; exact es⟩, q2⟩
theorem sAbove_n {O : OS} {a : AS} (w : WFE a) (hl : ∃ la, la ≤ 99 ∧ O.2.1 = nI la) {i : Nat} (hi : i < sK a) : ∃ t, t ≤ 297 ∧ sAbove O a i = nI t := by
  obtain ⟨k, hk3, hk, hK, hm⟩ := w.k
  obtain ⟨la, hla, ela⟩ := hl
  obtain ⟨t, ht, et⟩ := sSum_n w hk hk3 (k - i) i 0 (by omega)
  have et' : sSum a (k - i) i 0 = nI t := et
  have e2 : nI k - 1 - nI i = nI (k - i - 1) := by rw [show (1 : Int32) = nI 1 from rfl, sub_n (by omega), sub_n (by omega)]; congr 1; omega
  have hb : la * (k - i - 1) ≤ 99 * 3 := Nat.mul_le_mul hla (by omega)
  have h99 : 99 * (k - i) ≤ 297 := by omega
  unfold sAbove
  rw [hK, hk, et', ela, e2, mul_n]
  by_cases q : t ≤ la * (k - i - 1)
  · rw [if_pos ((le_n (by omega) (by omega)).mpr q)]; exact ⟨0, by omega, rfl⟩
  · rw [if_neg (fun z => q ((le_n (by omega) (by omega)).mp z)), sub_n (by omega)]
    exact ⟨_, by omega, rfl⟩
theorem sHeight_n {O : OS} {a : AS} (w : WFE a) (hl : ∃ la, la ≤ 99 ∧ O.2.1 = nI la) : ∃ t, t ≤ 297 ∧ sHeight O a = nI t := by
  obtain ⟨k, hk3, hk, hK, hm⟩ := w.k
  unfold sHeight
  rw [hk]
  by_cases q : nI k = 0
  · rw [if_pos q]; exact ⟨0, by omega, rfl⟩
  · rw [if_neg q]
    refine sAbove_n w hl ?_
    rw [hK]
    by_cases h0 : k = 0
    · exact absurd (by rw [h0]; rfl) q
    · omega
theorem sMiles_n {O : OS} {a : AS} (w : WFG a) (hl : ∃ la, la ≤ 99 ∧ O.2.1 = nI la) : ∃ t, t ≤ 267 ∧ sMiles O a = nI t := by
  obtain ⟨w1, s, hs, es⟩ := w
  obtain ⟨t, ht, e⟩ := sHeight_n w1 hl
  have hb : t * s ≤ 297 * 9 := Nat.mul_le_mul ht hs
  unfold sMiles
  rw [e, es, mul_n, show (10 : Int32) = nI 10 from rfl, div_n (by omega) (by omega) (by omega)]
  exact ⟨_, by omega, rfl⟩
/-- so many days -/
def cN (O : OS) : Nat → AS → AS
  | 0, c => c
  | n + 1, c => cStep O (cN O n c)
def gN (O : OS) : Nat → AS → Nat
  | 0, _ => 0
  | n + 1, c => gN O n c + cGain O (cN O n c)
theorem mn_n {a b : Nat} (ha : a ≤ b) (hb : b < 2147483648) : mn (nI a) (nI b) = nI a := by
  unfold mn
  by_cases q : a < b
  · rw [if_pos ((lt_n (by omega) (by omega)).mpr q)]
  · rw [if_neg (fun z => q ((lt_n (by omega) (by omega)).mp z)), show b = a by omega]
/-- one day more, as numbers -/
theorem day_more {cm cb : Int32} {cmn : Nat} (hcm : cm = nI cmn) (hc : cmn < 2147483648) {O : OS} {a c0 : AS} {w0 d0 j : Nat} (hl : ∃ la, la ≤ 99 ∧ O.2.1 = nI la) (w : WFG a) (hco : core a = cN O j c0) (hw : a.1 4 = nI (w0 + gN O j c0)) (hd : a.1 5 = nI (d0 + j)) (h1 : d0 + j + 1 < 1000000) (hg : w0 + gN O j c0 + 267 ≤ cmn) : WFG (sDay cm cb O a).2 ∧ core (sDay cm cb O a).2 = cN O (j + 1) c0 ∧ (sDay cm cb O a).2.1 4 = nI (w0 + gN O (j + 1) c0) ∧ (sDay cm cb O a).2.1 5 = nI (d0 + (j + 1)) := by
  obtain ⟨q1, q2⟩ := WFG_day (cm := cm) (cb := cb) (O := O) w hd h1
  refine ⟨q1, ?_, ?_, q2⟩
  · rw [day_core, hco]; rfl
  · rw [day_went, hw]
    simp only [gN]
    have hb : cGain O (cN O j c0) = if sBrk O a = none then (sMiles O a).toNatClampNeg else 0 := by
      unfold cGain
      rw [← hco, sBrk_core, sMiles_core]
    rw [hb]
    by_cases q : sBrk O a = none
    · obtain ⟨t, ht, e⟩ := sMiles_n w hl
      rw [if_pos q, if_pos q, e, cl_n (by omega), add_n, hcm, mn_n (by omega) hc]
      congr 1; omega
    · rw [if_neg q, if_neg q]; rfl
theorem cGain_le {O : OS} {a : AS} (hl : ∃ la, la ≤ 99 ∧ O.2.1 = nI la) (w : WFG a) {c : AS} (hc : core a = c) : cGain O c ≤ 267 := by
  subst hc
  unfold cGain
  rw [sBrk_core, sMiles_core]
  obtain ⟨t, ht, e⟩ := sMiles_n w hl
  split
  · rw [e, cl_n (by omega)]; exact ht
  · omega
/-- the class's deck o after j days of asking, the reference after j days of asking -/
def CS (O : OS) (o : Nat) (c0 : AS) (d0 j : Nat) (h : HP) : Prop := CD O o h ∧ WFG (dv o h) ∧ core (dv o h) = cN O j c0 ∧ (dv o h).1 4 = nI (gN O j c0) ∧ (dv o h).1 5 = nI (d0 + j) ∧ gN O j c0 ≤ 267 * j
theorem CS_step {O : OS} {o d0 j : Nat} {c0 : AS} {h : HP} (s : CS O o c0 d0 j h) (h1 : d0 + j + 1 < 1000000) (h2 : j < 350) : ∃ h', f_X1_dayGoes o h = some (rD (cBrk O (cN O j c0)) (-1), h') ∧ CS O o c0 d0 (j + 1) h' ∧ Fc (SD o) h h' := by
  obtain ⟨hC, w, hco, hw, hd, hg⟩ := s
  obtain ⟨g, e, ev, fr⟩ := B1_day hC w.1 hd h1
  have hl : ∃ la, la ≤ 99 ∧ O.2.1 = nI la := by obtain ⟨_, oc, _, hO⟩ := hC; exact hO.2.2.2.1
  obtain ⟨q1, q2, q3, q4⟩ := day_more (cm := 99999) (cb := 9999) (cmn := 99999) rfl (by omega) (w0 := 0) hl w hco (by rw [Nat.zero_add]; exact hw) hd h1 (by omega)
  refine ⟨g, ?_, ⟨hC.fr fr, by rw [ev]; exact q1, by rw [ev]; exact q2, by rw [ev, q3, Nat.zero_add], by rw [ev]; exact q4, ?_⟩, fr⟩
  · rw [e, day_fst, hco]
  · have := cGain_le hl w hco
    simp only [gN]
    omega
def MS (O : OS) (c0 : AS) (w0 d0 j : Nat) (h : HP) : Prop := MD_ O h ∧ h.1 96 31 = 2000000000 ∧ WFG (mv h) ∧ core (mv h) = cN O j c0 ∧ (mv h).1 4 = nI (w0 + gN O j c0) ∧ (mv h).1 5 = nI (d0 + j) ∧ gN O j c0 ≤ 267 * j
theorem MS_step {O : OS} {w0 d0 j : Nat} {c0 : AS} {h : HP} (s : MS O c0 w0 d0 j h) (h1 : d0 + j + 1 < 1000000) (h2 : j < 350) (h3 : w0 < 1000000000) : ∃ h', f_X7_goDay h = some (rD (cBrk O (cN O j c0)) (-5), h') ∧ MS O c0 w0 d0 (j + 1) h' ∧ FM DS DJ h h' := by
  obtain ⟨hC, h31, w, hco, hw, hd, hg⟩ := s
  obtain ⟨g, e, ev, fr⟩ := B7_goDay hC w.1 hd h1
  obtain ⟨q1, q2, q3, q4⟩ := day_more (cm := h.1 96 31) (cb := h.1 96 32) (cmn := 2000000000) h31 (by omega) (w0 := w0) hC.2.2 w hco hw hd h1 (by omega)
  refine ⟨g, ?_, ⟨hC.fm fr (fun c a b q => by unfold DS at q; omega) (by unfold DJ; omega), (fr.2.1 31 (by unfold DJ; omega)).trans h31, by rw [ev]; exact q1, by rw [ev]; exact q2, by rw [ev, q3], by rw [ev]; exact q4, ?_⟩, fr⟩
  · rw [e, day_fst, hco]
  · have := cGain_le hC.2.2 w hco
    simp only [gN]
    omega
