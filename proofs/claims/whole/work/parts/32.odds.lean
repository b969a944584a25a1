/-! odds, means -/
theorem CS_cut {O : OS} {g : HP} {a : AS} {d0 i : Nat} (hC : CD O 22 g) (e : dv 22 g = sSet a 4 0) (w : WFG a) (h5 : a.1 5 = nI d0) (hi : i ≤ sK a) : CS O 22 (core (sCut a i)) d0 0 (si g 22 8 (nI i)) := by
  obtain ⟨k, hk3, hk, hK, hm⟩ := w.1.k
  have hk8 : g.1 22 8 = nI k := by
    rw [← dv_s 22 g (show 1 < 6 by omega), e, sSet_n _ _ (by omega)]; exact hk
  have hd := dv_cut (o := 22) (h := g) (k := k) (i := i) hk3 hk8 (by omega)
  rw [e, ← sCut_set _ _ (by omega)] at hd
  obtain ⟨s, hs, es⟩ := w.2
  have wc : WFG (sCut a i) := ⟨WFE_cut w.1 hi, s, hs, (sCut_n _ (by omega)).trans es⟩
  have := CS_mk (d0 := d0) (hC.fr (Fc.si (S := SD 22) (Or.inl ⟨by omega, by omega⟩))) hd (WFG_set wc (by omega) (by omega) (by omega)) (sSet_s _ _ _) ((sSet_n _ _ (by omega)).trans ((sCut_n _ (by omega)).trans h5))
  rw [core_set4] at this
  exact this
theorem MA_cut {O : OS} {h g : HP} {c0 a : AS} {w0 d0 i : Nat} (m : MA O h c0 w0 d0 0 g) (e : mv g = a) (w : WFG a) (h4 : a.1 4 = nI w0) (h5 : a.1 5 = nI d0) (hi : i ≤ sK a) : MA O h (core (sCut a i)) w0 d0 0 (si g 96 1 (nI i)) := by
  obtain ⟨k, hk3, hk, hK, hm⟩ := w.1.k
  have hk8 : g.1 96 1 = nI k := by rw [← mv_s g (show 1 < 6 by omega), e]; exact hk
  have hd := mv_cut (h := g) (k := k) (i := i) hk3 hk8 (by omega)
  rw [e] at hd
  obtain ⟨s, hs, es⟩ := w.2
  exact MA_mk m (S := NO_) (J := fun j => j = 1) (FM.place rfl) (fun _ z => z.elim) (fun j z => by omega) hd ⟨WFE_cut w.1 hi, s, hs, (sCut_n _ (by omega)).trans es⟩ ((sCut_n _ (by omega)).trans h4) ((sCut_n _ (by omega)).trans h5)
/-- a fraction in lowest terms, both ways -/
theorem lowT {s k : Nat} (hs : s < 1000000) (hk0 : 0 < k) (hk : k ≤ 3) (p : Int32) : ∃ r, f_X6_inLowestTerms (nI s) (nI k) p = some r ∧ f_X7_lowest (nI s) (nI k) p = some r := by
  obtain ⟨f, hf⟩ : ∃ f, FZ = f + 5 := ⟨FZ - 5, by have := FZ_ge; omega⟩
  have hz : nz (nI k) = true := by
    have : k = 1 ∨ k = 2 ∨ k = 3 := by omega
    rcases this with rfl | rfl | rfl <;> decide
  have hkn : ¬ nI k = 0 := fun z => by have := (eq_n (b := 0) (by omega) (by omega)).mp z; omega
  have hkp : ¬ nI k ≤ 0 := fun z => by have := (le_n (b := 0) (by omega) (by omega)).mp z; omega
  have hr : nI s - nI s / nI k * nI k = nI (s % k) := rem_n (by omega) hk0 (by omega)
  by_cases z : s % k = 0
  · have hd : f_X7_divisor (nI s) (nI k) = some (nI k) := by
      unfold f_X7_divisor
      rw [hf, f_X7_divisor_L5, if_neg hkn, gd_b hz, lt_e, hr, z, f_X7_divisor_L5, if_pos (by decide)]
    unfold f_X6_inLowestTerms f_X7_lowest f_X6_inLowestTerms_J15
    rw [if_neg hkp, gd_b hz, hr, z, if_pos (by decide), hd, bo_s]
    by_cases y : p = 0
    · refine ⟨Int32.toInt64 (nI s / nI k), ?_, ?_⟩
      · rw [if_pos y, if_neg (by decide), gd_b hz]
      · rw [if_pos y, gd_b hz]
    · refine ⟨1, ?_, ?_⟩
      · rw [if_neg y, if_neg (by decide)]
      · rw [if_neg y, gd_b hz]
        have : k = 1 ∨ k = 2 ∨ k = 3 := by omega
        rcases this with rfl | rfl | rfl <;> decide
  · have hk2 : k = 2 ∨ k = 3 := by
      have : k = 1 ∨ k = 2 ∨ k = 3 := by omega
      rcases this with rfl | h | h
      · omega
      · exact Or.inl h
      · exact Or.inr h
    have hd : f_X7_divisor (nI s) (nI k) = some 1 := by
      unfold f_X7_divisor
      rw [hf, f_X7_divisor_L5, if_neg hkn, gd_b hz, lt_e, hr]
      have : s % k < k := Nat.mod_lt _ hk0
      rcases hk2 with rfl | rfl
      · rw [show s % 2 = 1 by omega, f_X7_divisor_L5, if_neg (by decide), gd_b (by decide), lt_e, show nI 2 - nI 2 / nI 1 * nI 1 = 0 by decide, f_X7_divisor_L5, if_pos rfl]; rfl
      · have y : s % 3 = 1 ∨ s % 3 = 2 := by omega
        rcases y with y | y
        · rw [y, f_X7_divisor_L5, if_neg (by decide), gd_b (by decide), lt_e, show nI 3 - nI 3 / nI 1 * nI 1 = 0 by decide, f_X7_divisor_L5, if_pos rfl]; rfl
        · rw [y, f_X7_divisor_L5, if_neg (by decide), gd_b (by decide), lt_e, show nI 3 - nI 3 / nI 2 * nI 2 = 1 by decide, f_X7_divisor_L5, if_neg (by decide), gd_b (by decide), lt_e, show nI 2 - nI 2 / 1 * 1 = 0 by decide, f_X7_divisor_L5, if_pos rfl]
    have hd1 : ∀ n, n < 1000000 → nI n / 1 = nI n := fun n hn => by
      have := div_n (a := n) (b := 1) (by omega) (by omega) (by omega)
      rw [show (1 : Int32) = nI 1 from rfl, this, Nat.div_one]
    unfold f_X6_inLowestTerms f_X7_lowest f_X6_inLowestTerms_J15
    have hml : s % k < k := Nat.mod_lt _ hk0
    have hne : ¬ nI (s % k) = 0 := fun y => z ((eq_n (a := s % k) (b := 0) (by omega) (by omega)).mp y)
    rw [if_neg hkp, gd_b hz, hr, if_neg hne, hd, bo_s]
    by_cases y : p = 0
    · refine ⟨Int32.toInt64 (nI s), ?_, ?_⟩
      · rw [if_pos y, if_pos rfl]
      · rw [if_pos y, gd_b (by decide), hd1 s hs]
    · refine ⟨Int32.toInt64 (nI k), ?_, ?_⟩
      · rw [if_neg y, if_pos rfl]
      · rw [if_neg y, gd_b (by decide), hd1 k (by omega)]
def odF (O : OS) (a : AS) (N : Nat) : Nat → Nat → Nat → Nat
  | 0, _, w => w
  | c + 1, i, w => if fB O (core (sCut a i)) N 0 = none then odF O a N c (i + 1) (w + 1) else odF O a N c (i + 1) w
theorem odF_le {O : OS} {a : AS} {N : Nat} : ∀ (c i w : Nat), odF O a N c i w ≤ w + c := by
  intro c
  induction c with
  | zero => intro i w; exact Nat.le_refl _
  | succ c ih =>
    intro i w
    simp only [odF]
    split
    · have := ih (i + 1) (w + 1); omega
    · have := ih (i + 1) w; omega
theorem B1_odds_L38 {O : OS} (a : AS) {N k : Nat} (p : Int32) (hN : N ≤ 60) (hk : sK a = k) : ∀ (c i w : Nat) (h : HP) (fuel : Nat), i + c = k → c < fuel → QC O h → dv 6 h = a → ∃ h', f_X6_odds_L38 fuel (nI N) p (nI w) (nI i) h = (bo (f_X6_inLowestTerms (nI (odF O a N c i w)) (nI k) p) fun v => some (v, h')) ∧ FC h h' := by
  intro c
  induction c with
  | zero =>
    intro i w h fuel hn hf q ha
    obtain ⟨f, rfl⟩ : ∃ f, fuel = f + 1 := ⟨fuel - 1, by omega⟩
    obtain ⟨k2, hk3, hk2, hK, hm⟩ := q.2.g.1.1.k
    rw [ha] at hk2 hK
    have e8 : h.1 6 8 = nI k := by rw [← dv_s 6 h (show 1 < 6 by omega), ha, hk2]; congr 1; omega
    refine ⟨h, ?_, FC.rf⟩
    rw [f_X6_odds_L38, e8, if_pos (by rw [le_n (by omega) (by omega)]; omega)]
    rfl
  | succ c ih =>
    intro i w h fuel hn hf q ha
    obtain ⟨f, rfl⟩ : ∃ f, fuel = f + 1 := ⟨fuel - 1, by omega⟩
    obtain ⟨k2, hk3, hk2, hK, hm⟩ := q.2.g.1.1.k
    rw [ha] at hk2 hK
    have e8 : h.1 6 8 = nI k := by rw [← dv_s 6 h (show 1 < 6 by omega), ha, hk2]; congr 1; omega
    obtain ⟨w0, d0, g, hw0, hd0, ew, ed, e, hC, ev, cs, fc⟩ := ask6 q
    have s := CS_cut (i := i) hC ev q.2.g.1 ed (by rw [ha]; omega)
    rw [ha] at s
    obtain ⟨g1, e1, fr1⟩ := B1_nothing (n := N) (by omega) (by omega) s
    have fc1 : FC h g1 := (fc.trans (FC.fc (Fc.si (S := SD 22) (Or.inl ⟨by omega, by omega⟩)))).trans (FC.fc fr1)
    have q1 := q.fc fc1
    rw [f_X6_odds_L38, e8, if_neg (by rw [le_n (by omega) (by omega)]; omega), e, bo_s, lt_e, e1, bd_s]
    simp only [odF]
    by_cases z : fB O (core (sCut a i)) N 0 = none
    · obtain ⟨h', e', f'⟩ := ih (i + 1) (w + 1) g1 f (by omega) (by omega) q1 (fc1.d6.trans ha)
      rw [if_pos z, if_neg one_ne, if_pos z, lt_e, lt_e, one_n, one_n]
      exact ⟨h', e', fc1.trans f'⟩
    · obtain ⟨h', e', f'⟩ := ih (i + 1) w g1 f (by omega) (by omega) q1 (fc1.d6.trans ha)
      rw [if_neg z, if_pos rfl, if_neg z, lt_e, one_n]
      exact ⟨h', e', fc1.trans f'⟩
theorem B7_odds_L40 {O : OS} (a : AS) {N k : Nat} (p : Int32) (hN : N ≤ 60) (hk : sK a = k) : ∀ (c i w : Nat) (h : HP) (fuel : Nat), i + c = k → c < fuel → QM O h → mv h = a → ∃ h', f_X7_odds_L40 fuel (nI N) p (nI w) (nI k) (nI i) h = (bo (f_X7_lowest (nI (odF O a N c i w)) (nI k) p) fun v => some (v, h')) ∧ BZ h h' := by
  intro c
  induction c with
  | zero =>
    intro i w h fuel hn hf q ha
    obtain ⟨f, rfl⟩ : ∃ f, fuel = f + 1 := ⟨fuel - 1, by omega⟩
    refine ⟨h, ?_, q.rf⟩
    rw [f_X7_odds_L40, if_pos (by rw [show i = k by omega]; exact Int32.le_refl _)]
    rfl
  | succ c ih =>
    intro i w h fuel hn hf q ha
    obtain ⟨f, rfl⟩ : ∃ f, fuel = f + 1 := ⟨fuel - 1, by omega⟩
    obtain ⟨k2, hk3, hk2, hK, hm⟩ := q.2.1.g.1.1.k
    rw [ha] at hk2 hK
    obtain ⟨w0, d0, g, hw0, hd0, ew, ed, e, ev, ma⟩ := ask7 q
    have s := MA_cut (i := i) ma ev q.2.1.g.1 ew ed (by rw [ha]; omega)
    rw [ha] at s
    obtain ⟨g1, e1, -, b1'⟩ := B7_firstThen (n := N) (by omega) (by omega) (by omega) s
    have b1 := b1'.z
    have q1 := q.z b1
    rw [f_X7_odds_L40, if_neg (by rw [le_n (by omega) (by omega)]; omega), e, bo_s, lt_e, e1, bd_s]
    simp only [odF]
    by_cases z : fB O (core (sCut a i)) N 0 = none
    · obtain ⟨h', e', f'⟩ := ih (i + 1) (w + 1) g1 f (by omega) (by omega) q1 (b1.1.trans ha)
      rw [if_neg (fun y => (r1_iff (by omega)).mp y z), if_pos z, lt_e, lt_e, one_n, one_n]
      exact ⟨h', e', b1.trans f'⟩
    · obtain ⟨h', e', f'⟩ := ih (i + 1) w g1 f (by omega) (by omega) q1 (b1.1.trans ha)
      rw [if_pos ((r1_iff (by omega)).mpr z), if_neg z, lt_e, lt_e, one_n, Int32.add_zero]
      exact ⟨h', e', b1.trans f'⟩
theorem C_odds {O : OS} {h : HP} (q : AQ O h) (x1 x2 : Int32) : ∃ r h1 h2, f_X6_odds x1 x2 h = some (r, h1) ∧ f_X7_odds x1 x2 h1 = some (r, h2) ∧ AZ h h2 := by
  rcases rngc x1 (lo := 0) (hi := 60) 0 60 rfl rfl (by omega) (by omega) with ⟨hz, -⟩ | ⟨N, -, hN, rfl, ho⟩
  · refine halves q (fun _ => -9223372036854775808) (fun _ => ⟨h, ?_, FC.rf⟩) (fun g qm => ⟨g, ?_, qm.rf⟩)
    · unfold f_X6_odds; rw [E_within, bo_s, hz, if_pos rfl]
    · unfold f_X7_odds; rw [E_isDays, bo_s, hz, if_pos rfl]
  rcases rngc x2 (lo := 0) (hi := 1) 0 1 rfl rfl (by omega) (by omega) with ⟨hz, -⟩ | ⟨j, -, hj, rfl, hp⟩
  · refine halves q (fun _ => -9223372036854775808) (fun _ => ⟨h, ?_, FC.rf⟩) (fun g qm => ⟨g, ?_, qm.rf⟩)
    · unfold f_X6_odds; rw [E_within, bo_s, ho, if_neg one_ne, E_within, bo_s, hz, if_pos rfl]
    · unfold f_X7_odds; rw [E_isDays, bo_s, ho, if_neg one_ne, E_in, bo_s, hz, if_pos rfl]
  obtain ⟨k, hk3, hk, hK, hm⟩ := q.qc.2.g.1.1.k
  have e8 : h.1 6 8 = nI k := by rw [← dv_s 6 h (show 1 < 6 by omega), hk]
  by_cases h0 : k = 0
  · subst h0
    obtain ⟨qm, em⟩ := q.qm FC.rf
    have e8' : h.1 96 1 = nI 0 := by rw [← mv_s h (show 1 < 6 by omega), em, hk]
    refine ⟨-9223372036854775808, h, h, ?_, ?_, h, FC.rf, qm.rf⟩
    · unfold f_X6_odds; rw [E_within, bo_s, ho, if_neg one_ne, E_within, bo_s, hp, if_neg one_ne, e8, if_pos (show nI 0 = 0 from rfl)]
    · unfold f_X7_odds; rw [E_isDays, bo_s, ho, if_neg one_ne, E_in, bo_s, hp, if_neg one_ne, e8', if_pos (show nI 0 = 0 from rfl)]
  · have hkn : ¬ nI k = 0 := fun z => h0 ((eq_n (b := 0) (by omega) (by omega)).mp z)
    obtain ⟨g, e, f⟩ := B1_odds_L38 (O := O) (dv 6 h) (N := N) (k := k) (nI j) (by omega) hK k 0 0 h FZ (by omega) (by have := FZ_ge; omega) q.qc rfl
    obtain ⟨qm, em⟩ := q.qm f
    have e8' : g.1 96 1 = nI k := by rw [← mv_s g (show 1 < 6 by omega), em, hk]
    obtain ⟨g2, e2, b⟩ := B7_odds_L40 (O := O) (dv 6 h) (N := N) (k := k) (nI j) (by omega) hK k 0 0 g FZ (by omega) (by have := FZ_ge; omega) qm em
    obtain ⟨r, r1, r2⟩ := lowT (s := odF O (dv 6 h) N k 0 0) (k := k) (by have := odF_le (O := O) (a := dv 6 h) (N := N) k 0 0; omega) (by omega) hk3 (nI j)
    rw [r1, bo_s] at e
    rw [r2, bo_s] at e2
    refine ⟨r, g, g2, ?_, ?_, g, f, b⟩
    · unfold f_X6_odds; rw [E_within, bo_s, ho, if_neg one_ne, E_within, bo_s, hp, if_neg one_ne, e8, if_neg hkn]; exact e
    · unfold f_X7_odds; rw [E_isDays, bo_s, ho, if_neg one_ne, E_in, bo_s, hp, if_neg one_ne, e8', if_neg hkn, lt_e]; exact e2
/-! means -/
def OW (O : OS) : Prop := ∃ wi, wi ≤ 99 ∧ O.1 = nI wi
theorem sLoad_n {O : OS} {a : AS} (w : WFG a) (hl : ∃ la, la ≤ 99 ∧ O.2.1 = nI la) (hw : OW O) (hst : ∃ s, s ≤ 9 ∧ a.1 3 = nI s) {i : Nat} (hi : i < sK a) : ∃ t, t ≤ 700 ∧ sLoad O a i = nI t := by
  obtain ⟨w1, s, hs, es⟩ := w
  obtain ⟨t, ht, e⟩ := sAbove_n w1 hl hi
  obtain ⟨wi, hwi, ew⟩ := hw
  obtain ⟨st, hst, est⟩ := hst
  have hb : t * s ≤ 297 * 9 := Nat.mul_le_mul ht hs
  unfold sLoad
  rw [e, es, mul_n, show (5 : Int32) = nI 5 from rfl, div_n (by omega) (by omega) (by omega), ew, add_n, est, show (3 : Int32) = nI 3 from rfl, mul_n]
  unfold mx0
  by_cases z : t * s / 5 + wi ≤ 3 * st
  · have : ¬ (0 : Int32) < nI (t * s / 5 + wi) - nI (3 * st) := by
      rw [Int32.lt_iff_toInt_lt, pk_sub_toInt (by omega) (by omega)]
      show ¬ (0 : Int) < ((t * s / 5 + wi : Nat) : Int) - ((3 * st : Nat) : Int)
      omega
    rw [if_neg this]
    exact ⟨0, by omega, rfl⟩
  · rw [sub_n (by omega), if_pos (by rw [show (0 : Int32) = nI 0 from rfl, lt_n (by omega) (by omega)]; omega)]
    exact ⟨_, by omega, rfl⟩
def meF (O : OS) (a : AS) : Nat → Nat → Int32 → Int32
  | 0, _, s => s
  | c + 1, i, s => meF O a c (i + 1) (s + sLoad O a i)
theorem meF_n {O : OS} {a : AS} (w : WFG a) (hl : ∃ la, la ≤ 99 ∧ O.2.1 = nI la) (hw : OW O) (hst : ∃ s, s ≤ 9 ∧ a.1 3 = nI s) : ∀ (c i s : Nat), i + c ≤ sK a → ∃ t, t ≤ s + 700 * c ∧ meF O a c i (nI s) = nI t := by
  intro c
  induction c with
  | zero => intro i s _; exact ⟨s, by omega, rfl⟩
  | succ c ih =>
    intro i s hi
    obtain ⟨t, ht, e⟩ := sLoad_n w hl hw hst (i := i) (by omega)
    obtain ⟨t2, ht2, e2⟩ := ih (i + 1) (s + t) (by omega)
    refine ⟨t2, by omega, ?_⟩
    simp only [meF, e, add_n]
    exact e2
theorem B1_mean_L27 {O : OS} {h : HP} {k : Nat} (q : QC O h) (hk3 : k ≤ 3) (hk : sK (dv 6 h) = k) (e8 : h.1 6 8 = nI k) (p : Int32) : ∀ (c i : Nat) (s : Int32) (fuel : Nat), i + c = k → c < fuel → f_X6_mean_L27 h fuel p s (nI i) = f_X6_inLowestTerms (meF O (dv 6 h) c i s) (nI k) p := by
  intro c
  induction c with
  | zero =>
    intro i s fuel hn hf
    obtain ⟨f, rfl⟩ : ∃ f, fuel = f + 1 := ⟨fuel - 1, by omega⟩
    rw [f_X6_mean_L27, e8, if_pos (by rw [le_n (by omega) (by omega)]; omega)]
    show bo (f_X6_inLowestTerms s (nI k) p) _ = f_X6_inLowestTerms s (nI k) p
    cases f_X6_inLowestTerms s (nI k) p <;> rfl
  | succ c ih =>
    intro i s fuel hn hf
    obtain ⟨f, rfl⟩ : ∃ f, fuel = f + 1 := ⟨fuel - 1, by omega⟩
    rw [f_X6_mean_L27, e8, if_neg (by rw [le_n (by omega) (by omega)]; omega), B1_load q.1 q.2.g.1.1 (by omega), bo_s, lt_e, lt_e, one_n]
    exact ih (i + 1) _ f (by omega) (by omega)
theorem B7_mean_L25 {O : OS} {h : HP} {k : Nat} (q : QM O h) (hk3 : k ≤ 3) (hk : sK (mv h) = k) (e8 : h.1 96 1 = nI k) (p : Int32) : ∀ (c i : Nat) (s : Int32) (fuel : Nat), i + c = k → c < fuel → f_X7_mean_L25 h fuel p s (nI i) = f_X7_lowest (meF O (mv h) c i s) (nI k) p := by
  intro c
  induction c with
  | zero =>
    intro i s fuel hn hf
    obtain ⟨f, rfl⟩ : ∃ f, fuel = f + 1 := ⟨fuel - 1, by omega⟩
    rw [f_X7_mean_L25, e8, if_pos (by rw [le_n (by omega) (by omega)]; omega)]
    show bo (f_X7_lowest s (nI k) p) _ = f_X7_lowest s (nI k) p
    cases f_X7_lowest s (nI k) p <;> rfl
  | succ c ih =>
    intro i s fuel hn hf
    obtain ⟨f, rfl⟩ : ∃ f, fuel = f + 1 := ⟨fuel - 1, by omega⟩
    rw [f_X7_mean_L25, e8, if_neg (by rw [le_n (by omega) (by omega)]; omega), B7_load q.1 q.2.1.g.1.1 (by omega), bo_s, lt_e, lt_e, one_n]
    exact ih (i + 1) _ f (by omega) (by omega)
theorem C_mean {O : OS} {h : HP} (q : AQ O h) (hw : OW O) (x1 : Int32) : ∃ r, f_X6_mean x1 h = some r ∧ f_X7_mean x1 h = some r := by
  rcases rngc x1 (lo := 0) (hi := 1) 0 1 rfl rfl (by omega) (by omega) with ⟨hz, -⟩ | ⟨j, -, hj, rfl, hp⟩
  · refine ⟨-9223372036854775808, ?_, ?_⟩
    · unfold f_X6_mean; rw [E_within, bo_s, hz, if_pos rfl]
    · unfold f_X7_mean; rw [E_in, bo_s, hz, if_pos rfl]
  obtain ⟨k, hk3, hk, hK, hm⟩ := q.qc.2.g.1.1.k
  obtain ⟨qm, em⟩ := q.qm FC.rf
  have e8 : h.1 6 8 = nI k := by rw [← dv_s 6 h (show 1 < 6 by omega), hk]
  have e8' : h.1 96 1 = nI k := by rw [← mv_s h (show 1 < 6 by omega), em, hk]
  by_cases h0 : k = 0
  · subst h0
    refine ⟨-9223372036854775808, ?_, ?_⟩
    · unfold f_X6_mean; rw [E_within, bo_s, hp, if_neg one_ne, e8, if_pos (show nI 0 = 0 from rfl)]
    · unfold f_X7_mean; rw [E_in, bo_s, hp, if_neg one_ne, e8', if_pos (show nI 0 = 0 from rfl)]
  · have hkn : ¬ nI k = 0 := fun z => h0 ((eq_n (b := 0) (by omega) (by omega)).mp z)
    have hst : ∃ s, s ≤ 9 ∧ (dv 6 h).1 3 = nI s := by
      obtain ⟨_, _, _, _, _, _, _, _, h7, _⟩ := q.qc.2
      exact h7
    obtain ⟨t, ht, et⟩ := meF_n q.qc.2.g.1 qm.1.2.2 hw hst k 0 0 (by omega)
    have et' : meF O (dv 6 h) k 0 0 = nI t := et
    have e1 := B1_mean_L27 q.qc hk3 hK e8 (nI j) k 0 0 FZ (by omega) (by have := FZ_ge; omega)
    have e2 := B7_mean_L25 qm hk3 (by rw [em]; exact hK) e8' (nI j) k 0 0 FZ (by omega) (by have := FZ_ge; omega)
    rw [em, et'] at e2
    rw [et'] at e1
    obtain ⟨r, r1, r2⟩ := lowT (s := t) (k := k) (by omega) (by omega) hk3 (nI j)
    refine ⟨r, ?_, ?_⟩
    · unfold f_X6_mean; rw [E_within, bo_s, hp, if_neg one_ne, e8, if_neg hkn]; exact e1.trans r1
    · unfold f_X7_mean; rw [E_in, bo_s, hp, if_neg one_ne, e8', if_neg hkn]; exact e2.trans r2
