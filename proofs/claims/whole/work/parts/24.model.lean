/-! the reference's engine -/
def F2 (S : Nat → Prop) (h h' : HP) : Prop := (∀ c, ¬ S c → h'.1 c = h.1 c) ∧ h'.2.1 = h.2.1 ∧ ∀ c, ¬ S c → h'.2.2 c = h.2.2 c
theorem Fc.F2 {S : Nat → Prop} {h h' : HP} (f : Fc S h h') : F2 S h h' := ⟨f.1, by rw [f.2], fun c _ => by rw [f.2]⟩
theorem F2.trans {S T U : Nat → Prop} {h h1 h2 : HP} (a : F2 S h h1) (b : F2 T h1 h2) (hS : ∀ c, S c → U c) (hT : ∀ c, T c → U c) : F2 U h h2 :=
  ⟨fun c hc => (b.1 c (fun q => hc (hT c q))).trans (a.1 c (fun q => hc (hS c q))), b.2.1.trans a.2.1, fun c hc => (b.2.2 c (fun q => hc (hT c q))).trans (a.2.2 c (fun q => hc (hS c q)))⟩
/-- what stays in the reference: cells but S (96 apart), places of 96 but J -/
def FM (S J : Nat → Prop) (h h' : HP) : Prop := (∀ c, c ≠ 96 → ¬ S c → h'.1 c = h.1 c) ∧ (∀ j, ¬ J j → h'.1 96 j = h.1 96 j) ∧ h'.2 = h.2
theorem FM.rf {S J : Nat → Prop} {h : HP} : FM S J h h := ⟨fun _ _ _ => rfl, fun _ _ => rfl, rfl⟩
theorem FM.trans {S J S' J' S2 J2 : Nat → Prop} {h h1 h2 : HP} (a : FM S J h h1) (b : FM S' J' h1 h2) (hS : ∀ c, S c → S2 c) (hS' : ∀ c, S' c → S2 c) (hJ : ∀ c, J c → J2 c) (hJ' : ∀ c, J' c → J2 c) : FM S2 J2 h h2 :=
  ⟨fun c hc q => (b.1 c hc (fun z => q (hS' c z))).trans (a.1 c hc (fun z => q (hS c z))), fun j q => (b.2.1 j (fun z => q (hJ' j z))).trans (a.2.1 j (fun z => q (hJ j z))), b.2.2.trans a.2.2⟩
theorem FM.mono {S J S2 J2 : Nat → Prop} {h h1 : HP} (a : FM S J h h1) (hS : ∀ c, S c → S2 c) (hJ : ∀ c, J c → J2 c) : FM S2 J2 h h1 :=
  ⟨fun c hc q => a.1 c hc (fun z => q (hS c z)), fun j q => a.2.1 j (fun z => q (hJ j z)), a.2.2⟩
theorem FM.cell {S J : Nat → Prop} {h : HP} {k j : Nat} {v : Int32} (hk : k ≠ 96) (hS : S k) : FM S J h (si h k j v) :=
  ⟨fun c _ q => si_r (fun e => q (e ▸ hS)), fun j' _ => by rw [si_r (Ne.symm hk)], rfl⟩
theorem FM.place {S J : Nat → Prop} {h : HP} {j : Nat} {v : Int32} (hJ : J j) : FM S J h (si h 96 j v) :=
  ⟨fun c hc _ => si_r hc, fun j' q => by rw [si_w, up_n _ _ (show j' ≠ j from fun e => q (by rw [e]; exact hJ))], rfl⟩
/-- cells and places that a day may change -/
def DS (c : Nat) : Prop := 99 ≤ c ∧ c ≤ 101 ∨ c = 113 ∨ c = 114
def DJ (j : Nat) : Prop := j = 1 ∨ j = 4 ∨ j = 5
def NO_ (_ : Nat) : Prop := False
def P113 (c : Nat) : Prop := c = 113
theorem FM.mv {S J : Nat → Prop} {h h' : HP} (f : FM S J h h') (hS : ∀ c, 97 ≤ c → c ≤ 103 → ¬ S c) (hJ : ∀ j, j < 6 → ¬ J j) : mv h' = mv h := mv_fr (fun j hj => f.2.1 j (hJ j hj)) (fun c a b => f.1 c (by omega) (hS c a b))
def AG (h g : HP) : Prop := (∀ c, 105 ≤ c → c ≤ 110 → g.1 c = h.1 c) ∧ g.1 96 14 = h.1 96 14
theorem AG.rf {h : HP} : AG h h := ⟨fun _ _ _ => rfl, rfl⟩
theorem AG.fm {S J : Nat → Prop} {h g g' : HP} (a : AG h g) (f : FM S J g g') (hS : ∀ c, 105 ≤ c → c ≤ 110 → ¬ S c) (hJ : ¬ J 14) : AG h g' := ⟨fun c p q => (f.1 c (by omega) (hS c p q)).trans (a.1 c p q), (f.2.1 14 hJ).trans a.2⟩
def MD_ (O : OS) (h : HP) : Prop := (∀ (g : HP) (p : Nat), AG h g → p < 6 → ∃ g', f_X7_heart (nI p) g = some (O.2.2 [nI p, g.1 97 p, g.1 98 p, g.1 99 p / 10, g.1 100 p / 10, g.1 96 5 - g.1 96 5 / 10 * 10], g') ∧ FM P113 NO_ g g') ∧ (∀ g, AG h g → f_X7_lastOf 3 2 g = some O.2.1 ∧ f_X7_lastOf 2 5 g = some O.1) ∧ ∃ la, la ≤ 99 ∧ O.2.1 = nI la
theorem MD_.ag {O : OS} {h h' : HP} (m : MD_ O h) (a : AG h h') : MD_ O h' :=
  ⟨fun g p q => m.1 g p ⟨fun c x y => (q.1 c x y).trans (a.1 c x y), q.2.trans a.2⟩, fun g q => m.2.1 g ⟨fun c x y => (q.1 c x y).trans (a.1 c x y), q.2.trans a.2⟩, m.2.2⟩
theorem MD_.fm {O : OS} {S J : Nat → Prop} {h h' : HP} (m : MD_ O h) (f : FM S J h h') (hS : ∀ c, 105 ≤ c → c ≤ 110 → ¬ S c) (hJ : ¬ J 14) : MD_ O h' := m.ag (AG.rf.fm f hS hJ)
theorem E_least0 (x : Int32) : f_X7_least0 x = some (if 0 ≤ x then x else 0) := by
  unfold f_X7_least0
  by_cases q : (0 : Int32) ≤ x <;> simp [q]
theorem E_least (x y : Int32) : f_X7_least x y = some (mn x y) := by
  unfold f_X7_least mn
  by_cases q : x < y
  · rw [if_pos q]
    first | rw [if_pos q] | rw [if_neg (by rw [Int32.not_le]; exact q)]
  · rw [if_neg q]
    first | rw [if_neg q] | rw [if_pos (Int32.not_lt.mp q)]
theorem mx0_e (x : Int32) : (if 0 ≤ x then x else 0) = mx0 x := by
  unfold mx0
  by_cases q : (0 : Int32) < x
  · rw [if_pos q, if_pos (Int32.le_of_lt q)]
  · rw [if_neg q]
    by_cases q2 : (0 : Int32) ≤ x
    · rw [if_pos q2]; exact Int32.le_antisymm (Int32.not_lt.mp q) q2
    · rw [if_neg q2]
/-- a sum of lengths is a small number -/
theorem sSum_n {a : AS} {k : Nat} (w : WFE a) (hk : a.1 1 = nI k) (hk3 : k ≤ 3) : ∀ (c i s : Nat), i + c ≤ k → ∃ t, t ≤ s + 99 * c ∧ sSum a c i (nI s) = nI t := by
  intro c
  induction c with
  | zero => intro i s _; exact ⟨s, by omega, rfl⟩
  | succ c ih =>
    intro i s hi
    obtain ⟨k2, hk2, e2, hK, hm⟩ := w.k
    have : k2 = k := by rw [hk] at e2; exact (eq_n (by omega) (by omega)).mp e2.symm
    subst this
    obtain ⟨m, hm6, hmi⟩ := hm i (by omega)
    obtain ⟨l, hl, hlen⟩ := w.2.1 m hm6
    obtain ⟨t, ht, e⟩ := ih (i + 1) (s + l) (by omega)
    refine ⟨t, by omega, ?_⟩
    simp only [sSum, hmi, cl_n (show m < 2147483648 by omega), hlen, add_n]
    exact e
theorem B7_above_L4 {O : OS} {h : HP} {k : Nat} (hk3 : k ≤ 3) (hk : h.1 96 1 = nI k) (hm : ∀ j, j < k → ∃ m, m < 6 ∧ (mv h).2 6 j = nI m) (hO : MD_ O h) (x1 : Int32) :
    ∀ (c i : Nat) (s : Int32) (fuel : Nat), i + c = k → c < fuel → f_X7_above_L4 h fuel x1 s (nI i) = some (if 0 ≤ sSum (mv h) c i s - O.2.1 * (nI k - x1 - 1) then sSum (mv h) c i s - O.2.1 * (nI k - x1 - 1) else 0) := by
  intro c
  induction c with
  | zero =>
    intro i s fuel hi hf
    obtain ⟨f, rfl⟩ : ∃ f, fuel = f + 1 := ⟨fuel - 1, by omega⟩
    have e : i = k := by omega
    subst e
    rw [f_X7_above_L4]
    rw [hk, if_pos (by rw [le_n (by omega) (by omega)]; omega), (hO.2.1 h AG.rf).1, bo_s, E_least0, bo_s]
    rfl
  | succ c ih =>
    intro i s fuel hi hf
    obtain ⟨f, rfl⟩ : ∃ f, fuel = f + 1 := ⟨fuel - 1, by omega⟩
    obtain ⟨m, hm6, hmi⟩ := hm i (by omega)
    have hmi' := hmi
    rw [mv_m h hk3 hk (by omega)] at hmi'
    rw [f_X7_above_L4]
    rw [hk, if_neg (by rw [le_n (by omega) (by omega)]; omega), gd_b (inb_n (by omega) (by omega)), cl_n (by omega), hmi', gd_b (inb_n (by omega) (by omega)), cl_n (by omega), lt_e, lt_e]
    rw [show nI i + 1 = nI (i + 1) from nI_1 i, ih (i + 1) _ f (by omega) (by omega)]
    simp only [sSum, hmi, cl_n (show m < 2147483648 by omega), mv_a h (show 2 < 5 by omega) hm6]
theorem B7_above {O : OS} {h : HP} (hO : MD_ O h) (w : WFE (mv h)) {i : Nat} (hi : i < sK (mv h)) : f_X7_above (nI i) h = some (sAbove O (mv h) i) := by
  obtain ⟨k, hk3, hk, hK, hm⟩ := w.k
  have hk' := hk
  rw [mv_s h (by omega)] at hk'
  unfold f_X7_above
  rw [B7_above_L4 hk3 hk' hm hO (nI i) (k - i) i 0 FZ (by omega) (by have := FZ_ge; omega)]
  unfold sAbove
  obtain ⟨la, hla, ela⟩ := hO.2.2
  obtain ⟨t, ht, et⟩ := sSum_n w hk hk3 (k - i) i 0 (by omega)
  have et' : sSum (mv h) (k - i) i 0 = nI t := et
  have e1 : nI k - nI i - 1 = nI (k - i - 1) := by rw [sub_n (by omega), show (1 : Int32) = nI 1 from rfl, sub_n (by omega)]
  have e2 : nI k - 1 - nI i = nI (k - i - 1) := by rw [show (1 : Int32) = nI 1 from rfl, sub_n (by omega), sub_n (by omega)]; congr 1; omega
  have hb : la * (k - i - 1) ≤ 99 * 3 := Nat.mul_le_mul hla (by omega)
  rw [hK, hk, et', ela, e1, e2, mul_n]
  by_cases q : t ≤ la * (k - i - 1)
  · rw [if_pos ((le_n (by omega) (by omega)).mpr q)]
    by_cases q2 : la * (k - i - 1) ≤ t
    · rw [if_pos ((zle_ms (by omega) (by omega)).mpr q2), show t = la * (k - i - 1) by omega, Int32.sub_self]
    · rw [if_neg (fun z => q2 ((zle_ms (by omega) (by omega)).mp z))]
  · rw [if_neg (fun z => q ((le_n (by omega) (by omega)).mp z)), if_pos ((zle_ms (by omega) (by omega)).mpr (by omega))]
theorem B7_height {O : OS} {h : HP} (hO : MD_ O h) (w : WFE (mv h)) : f_X7_height h = some (sHeight O (mv h)) := by
  unfold f_X7_height sHeight
  rw [mv_s h (show 1 < 6 by omega)]
  obtain ⟨k, hk3, hk, hK, hm⟩ := w.k
  have hk' := hk
  rw [mv_s h (by omega)] at hk'
  by_cases q : h.1 96 1 = 0
  · rw [if_pos q, if_pos q]
  · have : k ≠ 0 := fun e => q (by rw [hk', e]; rfl)
    rw [if_neg q, if_neg q, show (0 : Int32) = nI 0 from rfl, B7_above hO w (by omega), bo_s]
theorem B7_load {O : OS} {h : HP} (hO : MD_ O h) (w : WFE (mv h)) {i : Nat} (hi : i < sK (mv h)) : f_X7_load (nI i) h = some (sLoad O (mv h) i) := by
  unfold f_X7_load
  rw [B7_above hO w hi, bo_s, (hO.2.1 h AG.rf).2, bo_s, E_least0, bo_s, mx0_e]
  unfold sLoad
  rw [mv_s h (show 2 < 6 by omega), mv_s h (show 3 < 6 by omega)]
theorem B7_miles {O : OS} {h : HP} (hO : MD_ O h) (w : WFE (mv h)) : f_X7_milesNow h = some (sMiles O (mv h)) := by
  unfold f_X7_milesNow sMiles
  rw [B7_height hO w, bo_s, mv_s h (show 2 < 6 by omega)]
theorem B7_strength {O : OS} {p : Nat} {h : HP} (hO : MD_ O h) (w : WFE (mv h)) (hp : p < 6) : ∃ h', f_X7_strength (nI p) h = some (sStr O (mv h) p, h') ∧ FM P113 NO_ h h' := by
  obtain ⟨g, e, fr⟩ := hO.1 h p AG.rf hp
  obtain ⟨-, -, d, hd, hday⟩ := w
  have hrow : ∀ c, 97 ≤ c → c ≤ 103 → g.1 c = h.1 c := fun c a b => fr.1 c (by omega) (by unfold P113; omega)
  have hpl : ∀ j, g.1 96 j = h.1 96 j := fun j => fr.2.1 j (fun q => q)
  refine ⟨g, ?_, fr⟩
  rw [mv_s h (by omega)] at hday
  have hrem : nI d - nI d / 4 * 4 = nI (d % 4) := rem_n (a := d) (b := 4) (by omega) (by omega) (by omega)
  have hix : (4 : Int32) * nI p + nI (d % 4) = nI (4 * p + d % 4) := by rw [show (4 : Int32) = nI 4 from rfl, mul_n, add_n]
  unfold f_X7_strength sStr
  rw [e, bd_s]
  simp only [gd_b (inb_n hp (show (6 : Nat) < 2147483648 by omega)), lt_e, hrow 97 (by omega) (by omega), hrow 98 (by omega) (by omega), hrow 100 (by omega) (by omega), hrow 102 (by omega) (by omega), hpl, cl_n (show p < 2147483648 by omega), show h.1 96 5 = nI d from hday, hrem, hix, gd_b (inb_n (show 4 * p + d % 4 < 24 by omega) (show (24 : Nat) < 2147483648 by omega)), cl_n (show 4 * p + d % 4 < 2147483648 by omega), mv_a h (show 0 < 5 by omega) hp, mv_a h (show 1 < 5 by omega) hp, mv_a h (show 3 < 5 by omega) hp, mv_a h (show 2 < 5 by omega) hp, mv_s h (show 3 < 6 by omega), mv_s h (show 5 < 6 by omega), cl_n (show d < 2147483648 by omega), mv_r h (show 4 * p + d % 4 < 24 by omega), E_least0, bo_s, mx0_e, sFacts]
  by_cases k1 : h.1 (97 + 0) p = 1
  · simp [k1]
  · by_cases k2 : h.1 (97 + 0) p = 2
    · simp [k2]
    · by_cases k3 : h.1 (97 + 0) p = 3
      · simp [k3]
      · by_cases k4 : h.1 (97 + 0) p = 4
        · simp [k4]
        · by_cases k5 : h.1 (97 + 0) p = 5
          · simp [k5, i32_ring1]
          · by_cases k6 : h.1 (97 + 0) p = 6
            · simp [k6, Int32.add_assoc]
            · simp at k1 k2 k3 k4 k5 k6
              simp [k1, k2, k3, k4, k5, k6]
