/-! the class's engine -/
def HC (oc : Nat) (h : HP) (hf : List Int32 → Int32) : Prop := ∀ (g : HP) (q : Nat), (∀ c, oc ≤ c → c ≤ oc + 3 → g.1 c = h.1 c) → f_X2_heart_L83 oc q FZ 20 0 0 g = some (hf [g.1 (oc + 4) 0, g.1 (oc + 4) 1, g.1 (oc + 4) 2, g.1 (oc + 4) 3, g.1 (oc + 4) 4, g.1 (oc + 4) 5], g)
def OceC (O : OS) (h : HP) (oc : Nat) : Prop := isOc oc = true ∧ h.1 oc 5 = O.1 ∧ h.1 oc 6 = O.2.1 ∧ (∃ la, la ≤ 99 ∧ O.2.1 = nI la) ∧ HC oc h O.2.2
def CD (O : OS) (o : Nat) (h : HP) : Prop := isD o ∧ ∃ oc, h.2.2 o = some oc ∧ OceC O h oc
theorem isOc_n {oc : Nat} (h : isOc oc = true) : oc = 1 ∨ 49 ≤ oc ∧ oc ≤ 74 ∧ (oc - 49) % 5 = 0 := by
  simp only [isOc, Bool.or_eq_true, Bool.and_eq_true, decide_eq_true_eq] at h
  rcases h with h | ⟨⟨h1, h2⟩, h3⟩
  · exact Or.inl h
  · exact Or.inr ⟨h1, h2, h3⟩
/-- the rows of facts, that every asking writes anew -/
def isF (c : Nat) : Prop := c = 5 ∨ 53 ≤ c ∧ c ≤ 78 ∧ (c - 53) % 5 = 0
theorem isF_oc {oc : Nat} (h : isOc oc = true) : isF (oc + 4) := by
  rcases isOc_n h with rfl | ⟨h1, h2, h3⟩
  · exact Or.inl rfl
  · refine Or.inr ⟨by omega, by omega, ?_⟩
    rw [show oc + 4 - 53 = oc - 49 by omega]; exact h3
theorem notF_D {o c : Nat} (ho : isD o) (h1 : o ≤ c) (h2 : c ≤ o + 7) : ¬ isF c := by
  unfold isD at ho; unfold isF; omega
theorem notF_oc {oc c : Nat} (h : isOc oc = true) (h1 : oc ≤ c) (h2 : c ≤ oc + 3) : ¬ isF c := by
  have := isOc_n h; unfold isF; omega
theorem OceC.fr {O : OS} {h h' : HP} {oc : Nat} (hO : OceC O h oc) (hc : ∀ c, oc ≤ c → c ≤ oc + 3 → h'.1 c = h.1 c) : OceC O h' oc := by
  obtain ⟨h1, h2, h3, h4, h5⟩ := hO
  exact ⟨h1, by rw [hc oc (by omega) (by omega)]; exact h2, by rw [hc oc (by omega) (by omega)]; exact h3, h4, fun g q hg => h5 g q (fun c a b => (hg c a b).trans (hc c a b))⟩
/-- deck and facts of a deck o may change -/
def SD (o c : Nat) : Prop := (o ≤ c ∧ c ≤ o + 7) ∨ isF c
theorem oc_SD {o oc c : Nat} (ho : isD o) (h : isOc oc = true) (h1 : oc ≤ c) (h2 : c ≤ oc + 3) : ¬ SD o c := by
  have h3 := notF_oc h h1 h2
  have h4 := isOc_n h
  unfold isD at ho
  intro q
  rcases q with ⟨a, b⟩ | a
  · omega
  · exact h3 a
theorem CD.fr {O : OS} {o : Nat} {h h' : HP} (hC : CD O o h) (hf : Fc (SD o) h h') : CD O o h' := by
  obtain ⟨ho, oc, h1, h2⟩ := hC
  exact ⟨ho, oc, by rw [hf.2]; exact h1, h2.fr (fun c a b => hf.1 c (oc_SD ho h2.1 a b))⟩
theorem WFE.k {a : AS} (w : WFE a) : ∃ k, k ≤ 3 ∧ a.1 1 = nI k ∧ sK a = k ∧ ∀ j, j < k → ∃ m, m < 6 ∧ a.2 6 j = nI m := by
  obtain ⟨⟨k, h1, h2, h3⟩, -⟩ := w
  exact ⟨k, h1, h2, by unfold sK; rw [h2, cl_n (by omega)], h3⟩
theorem B1_above_L4 {O : OS} {o oc : Nat} {h : HP} {k : Nat} (hk3 : k ≤ 3) (hk : h.1 o 8 = nI k) (hm : ∀ j, j < k → ∃ m, m < 6 ∧ (dv o h).2 6 j = nI m) (ho : h.2.2 o = some oc) (hO : OceC O h oc) (x1 : Int32) :
    ∀ (c i : Nat) (s : Int32) (fuel : Nat), i + c = k → c < fuel → f_X1_above_L4 o h fuel x1 s (nI i) = some (if sSum (dv o h) c i s ≤ O.2.1 * (nI k - 1 - x1) then 0 else sSum (dv o h) c i s - O.2.1 * (nI k - 1 - x1)) := by
  intro c
  induction c with
  | zero =>
    intro i s fuel hi hf
    obtain ⟨f, rfl⟩ : ∃ f, fuel = f + 1 := ⟨fuel - 1, by omega⟩
    have e : i = k := by omega
    subst e
    rw [f_X1_above_L4]
    rw [hk, if_pos (by rw [le_n (by omega) (by omega)]; omega), ho, bo_s, gd_b hO.1, lt_e, hO.2.2.1]
    simp only [sSum]
    split <;> rename_i q <;> simp [q]
  | succ c ih =>
    intro i s fuel hi hf
    obtain ⟨f, rfl⟩ : ∃ f, fuel = f + 1 := ⟨fuel - 1, by omega⟩
    obtain ⟨m, hm6, hmi⟩ := hm i (by omega)
    have hmi' := hmi
    rw [dv_m o h hk3 hk (by omega)] at hmi'
    rw [f_X1_above_L4]
    rw [hk, if_neg (by rw [le_n (by omega) (by omega)]; omega), gd_b (inb_n (by omega) (by omega)), cl_n (by omega), hmi', gd_b (inb_n (by omega) (by omega)), cl_n (by omega), lt_e, lt_e]
    rw [show nI i + 1 = nI (i + 1) from nI_1 i, ih (i + 1) _ f (by omega) (by omega)]
    simp only [sSum, hmi, cl_n (show m < 2147483648 by omega), dv_a o h (show 2 < 5 by omega) hm6]
theorem B1_above {O : OS} {o : Nat} {h : HP} (hC : CD O o h) (w : WFE (dv o h)) {i : Nat} (hi : i ≤ sK (dv o h)) : f_X1_above o (nI i) h = some (sAbove O (dv o h) i) := by
  obtain ⟨ho, oc, h1, h2⟩ := hC
  obtain ⟨k, hk3, hk, hK, hm⟩ := w.k
  have hk' := hk
  rw [dv_s o h (by omega)] at hk'
  unfold f_X1_above
  rw [B1_above_L4 hk3 hk' hm h1 h2 (nI i) (k - i) i 0 FZ (by omega) (by have := FZ_ge; omega)]
  unfold sAbove
  rw [hK, hk]
theorem B1_height {O : OS} {o : Nat} {h : HP} (hC : CD O o h) (w : WFE (dv o h)) : f_X1_height o h = some (sHeight O (dv o h)) := by
  unfold f_X1_height sHeight
  rw [dv_s o h (show 1 < 6 by omega)]
  by_cases q : h.1 o 8 = 0
  · rw [if_pos q, if_pos q]
  · rw [if_neg q, if_neg q, show (0 : Int32) = nI 0 from rfl, B1_above hC w (Nat.zero_le _), bo_s]
theorem B1_load {O : OS} {o : Nat} {h : HP} (hC : CD O o h) (w : WFE (dv o h)) {i : Nat} (hi : i ≤ sK (dv o h)) : f_X1_load o (nI i) h = some (sLoad O (dv o h) i) := by
  unfold f_X1_load
  rw [B1_above hC w hi, bo_s]
  obtain ⟨ho, oc, h1, h2⟩ := hC
  rw [h1, bo_s, gd_b h2.1, h2.2.1]
  unfold sLoad mx0
  rw [dv_s o h (show 2 < 6 by omega), dv_s o h (show 3 < 6 by omega)]
theorem B1_miles {O : OS} {o : Nat} {h : HP} (hC : CD O o h) (w : WFE (dv o h)) : f_X1_miles o h = some (sMiles O (dv o h)) := by
  unfold f_X1_miles sMiles
  rw [B1_height hC w, bo_s, dv_s o h (show 2 < 6 by omega)]
theorem B1_heart {O : OS} {o oc p : Nat} {h : HP} (ho : isD o) (h1 : h.2.2 o = some oc) (hO : OceC O h oc) (hp : p < 6) : ∃ h', f_X2_heart oc o (nI p) h = some (O.2.2 (sFacts (dv o h) p), h') ∧ Fc isF h h' := by
  have hoc := isOc_n hO.1
  have hD : ∀ i, i ≤ 7 → o + i ≠ oc + 4 := fun i hi => by unfold isD at ho; omega
  have hD0 : o ≠ oc + 4 := hD 0 (by omega)
  unfold f_X2_heart
  simp only [gd_b (inb_n hp (show (6 : Nat) < 2147483648 by omega)), gd_b (show inb 0 6 = true by decide), gd_b (show inb 1 6 = true by decide), gd_b (show inb 2 6 = true by decide), gd_b (show inb 3 6 = true by decide), gd_b (show inb 4 6 = true by decide), gd_b (show inb 5 6 = true by decide), lt_e, si_r (hD 1 (by omega)), si_r (hD 2 (by omega)), si_r (hD 3 (by omega)), si_r (hD 4 (by omega)), si_r hD0, cl_n (show p < 2147483648 by omega)]
  have e0 : Int32.toNatClampNeg 0 = 0 := by decide
  have e1 : Int32.toNatClampNeg 1 = 1 := by decide
  have e2 : Int32.toNatClampNeg 2 = 2 := by decide
  have e3 : Int32.toNatClampNeg 3 = 3 := by decide
  have e4 : Int32.toNatClampNeg 4 = 4 := by decide
  have e5 : Int32.toNatClampNeg 5 = 5 := by decide
  rw [e0, e1, e2, e3, e4, e5]
  have hF : isF (oc + 4) := isF_oc hO.1
  refine ⟨_, Eq.trans (hO.2.2.2.2 _ o (fun c a b => by simp only [si_r (show c ≠ oc + 4 by omega)])) (congrArg (fun z => some (O.2.2 z, _)) ?_), ((((((Fc.si hF).trans (Fc.si hF) (fun _ q => q) (fun _ q => q)).trans (Fc.si hF) (fun _ q => q) (fun _ q => q)).trans (Fc.si hF) (fun _ q => q) (fun _ q => q)).trans (Fc.si hF) (fun _ q => q) (fun _ q => q)).trans (Fc.si hF) (fun _ q => q) (fun _ q => q))⟩
  simp only [sFacts, si_1, dv_a o h (show 0 < 5 by omega) hp, dv_a o h (show 1 < 5 by omega) hp, dv_a o h (show 2 < 5 by omega) hp, dv_a o h (show 3 < 5 by omega) hp, dv_s o h (show 5 < 6 by omega)]
  simp
theorem Fc.dv {S : Nat → Prop} {o : Nat} {h h' : HP} (hf : Fc S h h') (hS : ∀ c, o ≤ c → c ≤ o + 7 → ¬ S c) : dv o h' = dv o h := dv_fr (fun c a b => hf.1 c (hS c a b))
theorem B1_strength {O : OS} {o p : Nat} {h : HP} (hC : CD O o h) (w : WFE (dv o h)) (hp : p < 6) : ∃ h', f_X1_strength o (nI p) h = some (sStr O (dv o h) p, h') ∧ Fc isF h h' := by
  obtain ⟨ho, oc, h1, hO⟩ := hC
  obtain ⟨g, e, fr⟩ := B1_heart ho h1 hO hp
  obtain ⟨-, -, d, hd, hday⟩ := w
  have hrow : ∀ c, o ≤ c → c ≤ o + 7 → g.1 c = h.1 c := fun c a b => fr.1 c (notF_D ho a b)
  refine ⟨g, ?_, fr⟩
  rw [dv_s o h (by omega)] at hday
  have hrem : nI d - nI d / 4 * 4 = nI (d % 4) := rem_n (a := d) (b := 4) (by omega) (by omega) (by omega)
  have hix : (4 : Int32) * nI p + nI (d % 4) = nI (4 * p + d % 4) := by rw [show (4 : Int32) = nI 4 from rfl, mul_n, add_n]
  unfold f_X1_strength sStr
  rw [h1, bo_s, gd_b hO.1, e, bd_s]
  simp only [gd_b (inb_n hp (show (6 : Nat) < 2147483648 by omega)), lt_e, hrow (o + 4) (by omega) (by omega), hrow (o + 1) (by omega) (by omega), hrow (o + 2) (by omega) (by omega), hrow (o + 6) (by omega) (by omega), hrow o (by omega) (by omega), cl_n (show p < 2147483648 by omega), show h.1 o 12 = nI d from hday, hrem, hix, gd_b (inb_n (show 4 * p + d % 4 < 24 by omega) (show (24 : Nat) < 2147483648 by omega)), cl_n (show 4 * p + d % 4 < 2147483648 by omega), dv_a o h (show 0 < 5 by omega) hp, dv_a o h (show 1 < 5 by omega) hp, dv_a o h (show 3 < 5 by omega) hp, dv_s o h (show 3 < 6 by omega), dv_s o h (show 5 < 6 by omega), cl_n (show d < 2147483648 by omega), dv_r o h (show 4 * p + d % 4 < 24 by omega)]
  simp only [mx0]
  by_cases k1 : h.1 (o + (0 + 1)) p = 1
  · simp [k1]
  · by_cases k2 : h.1 (o + (0 + 1)) p = 2
    · simp [k2]
    · by_cases k3 : h.1 (o + (0 + 1)) p = 3
      · simp [k3]
      · by_cases k4 : h.1 (o + (0 + 1)) p = 4
        · simp [k4]
        · by_cases k5 : h.1 (o + (0 + 1)) p = 5
          · simp [k5]
          · by_cases k6 : h.1 (o + (0 + 1)) p = 6
            · simp [k6]
            · simp at k1 k2 k3 k4 k5 k6
              simp [k1, k2, k3, k4, k5, k6]
theorem B1_breaking_L2 {O : OS} {o k : Nat} (hk3 : k ≤ 3) : ∀ (c i : Nat) (h : HP) (fuel : Nat), i + c = k → c < fuel → CD O o h → WFE (dv o h) → (dv o h).1 1 = nI k → ∃ h', f_X1_breaking_L2 o fuel (nI i) h = some ((match sBrkF O (dv o h) c i with | none => (-1) | some j => nI j), h') ∧ Fc isF h h' := by
  intro c
  induction c with
  | zero =>
    intro i h fuel hi hf hC w hk
    obtain ⟨f, rfl⟩ : ∃ f, fuel = f + 1 := ⟨fuel - 1, by omega⟩
    rw [dv_s o h (by omega)] at hk
    refine ⟨h, ?_, Fc.rf⟩
    rw [f_X1_breaking_L2, if_pos (by rw [show h.1 o 8 = nI k from hk, le_n (by omega) (by omega)]; omega)]
    rfl
  | succ c ih =>
    intro i h fuel hi hf hC w hk
    obtain ⟨f, rfl⟩ : ∃ f, fuel = f + 1 := ⟨fuel - 1, by omega⟩
    have hk' := hk
    rw [dv_s o h (by omega)] at hk'
    obtain ⟨k2, hk2, e2, hK, hm⟩ := w.k
    have : k2 = k := by rw [hk] at e2; exact (eq_n (by omega) (by omega)).mp e2.symm
    subst this
    obtain ⟨m, hm6, hmi⟩ := hm i (by omega)
    have hmi' := hmi
    rw [dv_m o h hk3 hk' (by omega)] at hmi'
    obtain ⟨g, e, fr⟩ := B1_strength hC w hm6
    rw [f_X1_breaking_L2, if_neg (by rw [show h.1 o 8 = nI k2 from hk', le_n (by omega) (by omega)]; omega), B1_load hC w (by omega), bo_s, gd_b (inb_n (by omega) (by omega)), cl_n (by omega), hmi', e, bd_s]
    have hD := fr.dv (fun c a b => notF_D hC.1 a b)
    simp only [sBrkF, hmi, cl_n (show m < 2147483648 by omega)]
    by_cases q : sLoad O (dv o h) i ≤ sStr O (dv o h) m
    · rw [if_pos q, if_pos q, lt_e, show nI i + 1 = nI (i + 1) from nI_1 i]
      obtain ⟨g2, e2, fr2⟩ := ih (i + 1) g f (by omega) (by omega) (hC.fr (fr.mono (fun _ q => Or.inr q))) (by rw [hD]; exact w) (by rw [hD]; exact hk)
      refine ⟨g2, ?_, fr.trans fr2 (fun _ q => q) (fun _ q => q)⟩
      rw [e2, hD]
    · rw [if_neg q, if_neg q]
      exact ⟨g, rfl, fr⟩
theorem B1_breaking {O : OS} {o : Nat} {h : HP} (hC : CD O o h) (w : WFE (dv o h)) : ∃ h', f_X1_breaking o h = some ((match sBrk O (dv o h) with | none => (-1) | some j => nI j), h') ∧ Fc isF h h' := by
  obtain ⟨k, hk3, hk, hK, hm⟩ := w.k
  unfold f_X1_breaking sBrk
  rw [hK]
  exact B1_breaking_L2 hk3 k 0 h FZ (by omega) (by have := FZ_ge; omega) hC w hk
