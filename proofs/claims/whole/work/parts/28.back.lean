/-! putting back -/
def AC (c : Nat) : Prop := 99 ≤ c ∧ c ≤ 101 ∨ c = 103 ∨ 113 ≤ c ∧ c ≤ 118
def AJ (j : Nat) : Prop := 1 ≤ j ∧ j ≤ 5 ∨ j = 31 ∨ j = 32 ∨ 34 ≤ j ∧ j ≤ 38 ∨ j = 43
def BC (c : Nat) : Prop := 99 ≤ c ∧ c ≤ 101 ∨ c = 103
def BJ (j : Nat) : Prop := 1 ≤ j ∧ j ≤ 5 ∨ j = 31 ∨ j = 32
def K103 (c : Nat) : Prop := c = 103
def K99 (c : Nat) : Prop := 99 ≤ c ∧ c ≤ 101
theorem B7_putBack_L105 : ∀ (c i : Nat) (h : HP) (fuel : Nat), i + c = 3 → c < fuel → (∀ j, j < i → h.1 103 j = h.1 118 j) → ∃ h', f_X7_putBack_L105 fuel (nI i) h = some h' ∧ (∀ j, j < 3 → h'.1 103 j = h.1 118 j) ∧ FM K103 NO_ h h' := by
  intro c
  induction c with
  | zero =>
    intro i h fuel hi hf hj
    obtain ⟨f, rfl⟩ : ∃ f, fuel = f + 1 := ⟨fuel - 1, by omega⟩
    refine ⟨h, ?_, fun j q => hj j (by omega), FM.rf⟩
    rw [f_X7_putBack_L105, if_pos (by rw [show (3 : Int32) = nI 3 from rfl, le_n (by omega) (by omega)]; omega)]
  | succ c ih =>
    intro i h fuel hi hf hj
    obtain ⟨f, rfl⟩ : ∃ f, fuel = f + 1 := ⟨fuel - 1, by omega⟩
    rw [f_X7_putBack_L105, if_neg (by rw [show (3 : Int32) = nI 3 from rfl, le_n (by omega) (by omega)]; omega)]
    simp only [gd_b (inb_n (show i < 3 by omega) (show (3 : Nat) < 2147483648 by omega)), lt_e, cl_n (show i < 2147483648 by omega), one_n]
    obtain ⟨g, e, eg, fr⟩ := ih (i + 1) (si h 103 i (h.1 118 i)) f (by omega) (by omega) (fun j q => by
      rw [si_w, si_r (show (118 : Nat) ≠ 103 by omega)]
      by_cases e : j = i
      · subst e; exact up_s _ _ _
      · rw [up_n _ _ e]; exact hj j (by omega))
    refine ⟨g, e, fun j q => (eg j q).trans (by rw [si_r (show (118 : Nat) ≠ 103 by omega)]), (FM.cell (by omega) (show K103 103 from rfl)).trans fr (fun _ q => q) (fun _ q => q) (fun _ q => q) (fun _ q => q)⟩
theorem B7_putBack_L55 : ∀ (c i : Nat) (h : HP) (fuel : Nat), i + c = 6 → c < fuel → (∀ j, j < i → h.1 99 j = h.1 115 j ∧ h.1 100 j = h.1 116 j ∧ h.1 101 j = h.1 117 j) → ∃ h', f_X7_putBack_L55 fuel (nI i) h = f_X7_putBack_L105 FZ 0 h' ∧ (∀ j, j < 6 → h'.1 99 j = h.1 115 j ∧ h'.1 100 j = h.1 116 j ∧ h'.1 101 j = h.1 117 j) ∧ FM K99 NO_ h h' := by
  intro c
  induction c with
  | zero =>
    intro i h fuel hi hf hj
    obtain ⟨f, rfl⟩ : ∃ f, fuel = f + 1 := ⟨fuel - 1, by omega⟩
    refine ⟨h, ?_, fun j q => hj j (by omega), FM.rf⟩
    rw [f_X7_putBack_L55, if_pos (by rw [show (6 : Int32) = nI 6 from rfl, le_n (by omega) (by omega)]; omega)]
  | succ c ih =>
    intro i h fuel hi hf hj
    obtain ⟨f, rfl⟩ : ∃ f, fuel = f + 1 := ⟨fuel - 1, by omega⟩
    rw [f_X7_putBack_L55, if_neg (by rw [show (6 : Int32) = nI 6 from rfl, le_n (by omega) (by omega)]; omega)]
    simp only [gd_b (inb_n (show i < 6 by omega) (show (6 : Nat) < 2147483648 by omega)), lt_e, cl_n (show i < 2147483648 by omega), one_n, si_r (show (116 : Nat) ≠ 99 by omega), si_r (show (117 : Nat) ≠ 100 by omega), si_r (show (117 : Nat) ≠ 99 by omega)]
    obtain ⟨g, e, eg, fr⟩ := ih (i + 1) (si (si (si h 99 i (h.1 115 i)) 100 i (h.1 116 i)) 101 i (h.1 117 i)) f (by omega) (by omega) (fun j q => by
      simp only [si_r (show (115 : Nat) ≠ 101 by omega), si_r (show (115 : Nat) ≠ 100 by omega), si_r (show (115 : Nat) ≠ 99 by omega), si_r (show (116 : Nat) ≠ 101 by omega), si_r (show (116 : Nat) ≠ 100 by omega), si_r (show (116 : Nat) ≠ 99 by omega), si_r (show (117 : Nat) ≠ 101 by omega), si_r (show (117 : Nat) ≠ 100 by omega), si_r (show (117 : Nat) ≠ 99 by omega), si_r (show (99 : Nat) ≠ 101 by omega), si_r (show (99 : Nat) ≠ 100 by omega), si_r (show (100 : Nat) ≠ 101 by omega), si_w, si_r (show (100 : Nat) ≠ 99 by omega), si_r (show (101 : Nat) ≠ 99 by omega), si_r (show (101 : Nat) ≠ 100 by omega)]
      by_cases e : j = i
      · subst e; exact ⟨up_s _ _ _, up_s _ _ _, up_s _ _ _⟩
      · rw [up_n _ _ e, up_n _ _ e, up_n _ _ e]; exact hj j (by omega))
    refine ⟨g, e, fun j q => ?_, (((FM.cell (by omega) (show K99 99 by unfold K99; omega)).trans (FM.cell (by omega) (show K99 100 by unfold K99; omega)) (fun _ q => q) (fun _ q => q) (fun _ q => q) (fun _ q => q)).trans (FM.cell (by omega) (show K99 101 by unfold K99; omega)) (fun _ q => q) (fun _ q => q) (fun _ q => q) (fun _ q => q)).trans fr (fun _ q => q) (fun _ q => q) (fun _ q => q) (fun _ q => q)⟩
    have := eg j q
    simp only [si_r (show (115 : Nat) ≠ 101 by omega), si_r (show (115 : Nat) ≠ 100 by omega), si_r (show (115 : Nat) ≠ 99 by omega), si_r (show (116 : Nat) ≠ 101 by omega), si_r (show (116 : Nat) ≠ 100 by omega), si_r (show (116 : Nat) ≠ 99 by omega), si_r (show (117 : Nat) ≠ 101 by omega), si_r (show (117 : Nat) ≠ 100 by omega), si_r (show (117 : Nat) ≠ 99 by omega)] at this
    exact this
theorem B7_putBack {h0 h : HP} (k : KP h0 h) (f0 : FM AC AJ h0 h) : ∃ h', f_X7_putBack h = some h' ∧ mv h' = mv h0 ∧ h'.1 96 31 = 99999 ∧ h'.1 96 32 = 9999 ∧ FM BC BJ h h' := by
  unfold f_X7_putBack
  simp only [lt_e, si_w, up_n _ _ (show (34 : Nat) ≠ 32 by omega), up_n _ _ (show (34 : Nat) ≠ 31 by omega), up_n _ _ (show (35 : Nat) ≠ 1 by omega), up_n _ _ (show (35 : Nat) ≠ 32 by omega), up_n _ _ (show (35 : Nat) ≠ 31 by omega), up_n _ _ (show (36 : Nat) ≠ 2 by omega), up_n _ _ (show (36 : Nat) ≠ 1 by omega), up_n _ _ (show (36 : Nat) ≠ 32 by omega), up_n _ _ (show (36 : Nat) ≠ 31 by omega), up_n _ _ (show (37 : Nat) ≠ 3 by omega), up_n _ _ (show (37 : Nat) ≠ 2 by omega), up_n _ _ (show (37 : Nat) ≠ 1 by omega), up_n _ _ (show (37 : Nat) ≠ 32 by omega), up_n _ _ (show (37 : Nat) ≠ 31 by omega), up_n _ _ (show (38 : Nat) ≠ 4 by omega), up_n _ _ (show (38 : Nat) ≠ 3 by omega), up_n _ _ (show (38 : Nat) ≠ 2 by omega), up_n _ _ (show (38 : Nat) ≠ 1 by omega), up_n _ _ (show (38 : Nat) ≠ 32 by omega), up_n _ _ (show (38 : Nat) ≠ 31 by omega)]
  generalize hg : si (si (si (si (si (si (si h 96 31 99999) 96 32 9999) 96 1 (h.1 96 34)) 96 2 (h.1 96 35)) 96 3 (h.1 96 36)) 96 4 (h.1 96 37)) 96 5 (h.1 96 38) = g
  have fr : FM BC BJ h g := by
    rw [← hg]
    refine ⟨fun c hc _ => by simp only [si_r hc], fun j q => ?_, rfl⟩
    unfold BJ at q
    simp only [si_w, up_n _ _ (show j ≠ 5 by omega), up_n _ _ (show j ≠ 4 by omega), up_n _ _ (show j ≠ 3 by omega), up_n _ _ (show j ≠ 2 by omega), up_n _ _ (show j ≠ 1 by omega), up_n _ _ (show j ≠ 32 by omega), up_n _ _ (show j ≠ 31 by omega)]
  have hs : ∀ j, j < 5 → g.1 96 (1 + j) = h.1 96 (34 + j) := by
    rw [← hg]
    intro j hj
    match j, hj with
    | 0, _ => simp [si_1]
    | 1, _ => simp [si_1]
    | 2, _ => simp [si_1]
    | 3, _ => simp [si_1]
    | 4, _ => simp [si_1]
  have h31 : g.1 96 31 = 99999 := by rw [← hg]; simp [si_1]
  have h32 : g.1 96 32 = 9999 := by rw [← hg]; simp [si_1]
  obtain ⟨g2, e2, k2, f2⟩ := B7_putBack_L55 6 0 g FZ (by omega) (by have := FZ_ge; omega) (fun j q => by omega)
  obtain ⟨g3, e3, k3, f3⟩ := B7_putBack_L105 3 0 g2 FZ (by omega) (by have := FZ_ge; omega) (fun j q => by omega)
  have e2' : f_X7_putBack_L55 FZ 0 g = f_X7_putBack_L105 FZ 0 g2 := e2
  have e3' : f_X7_putBack_L105 FZ 0 g2 = some g3 := e3
  have pl : ∀ j, g3.1 96 j = g.1 96 j := fun j => (f3.2.1 _ (fun q => q)).trans (f2.2.1 _ (fun q => q))
  have c3 : ∀ c, c ≠ 96 → c ≠ 103 → g3.1 c = g2.1 c := fun c a b => f3.1 c a b
  have c2 : ∀ c, c ≠ 96 → ¬ K99 c → g2.1 c = h.1 c := fun c a b => (f2.1 c a b).trans (by rw [← hg]; simp only [si_r a])
  refine ⟨g3, e2'.trans e3', ?_, (pl 31).trans h31, (pl 32).trans h32, (fr.trans f2 (S2 := BC) (J2 := BJ) (fun _ q => q) (fun c q => show BC c by unfold K99 at q; unfold BC; omega) (fun _ q => q) (fun _ q => q.elim)).trans f3 (fun _ q => q) (fun c q => show BC c by unfold K103 at q; unfold BC; omega) (fun _ q => q) (fun _ q => q.elim)⟩
  apply mv_ext
  · intro j hj
    rw [pl j]
    match j, hj with
    | 0, _ => rw [fr.2.1 0 (by unfold BJ; omega), f0.2.1 0 (by unfold AJ; omega)]
    | 1, _ => exact (hs 0 (by omega)).trans (k.1 0 (by omega))
    | 2, _ => exact (hs 1 (by omega)).trans (k.1 1 (by omega))
    | 3, _ => exact (hs 2 (by omega)).trans (k.1 2 (by omega))
    | 4, _ => exact (hs 3 (by omega)).trans (k.1 3 (by omega))
    | 5, _ => exact (hs 4 (by omega)).trans (k.1 4 (by omega))
  · intro i j hi hj
    have kk := k.2.1 j hj
    have gg := k2 j hj
    rw [show g.1 115 = h.1 115 from fr.1 115 (by omega) (by unfold BC; omega), show g.1 116 = h.1 116 from fr.1 116 (by omega) (by unfold BC; omega), show g.1 117 = h.1 117 from fr.1 117 (by omega) (by unfold BC; omega)] at gg
    match i, hi with
    | 0, _ => rw [c3 _ (by omega) (by omega), c2 _ (by omega) (by unfold K99; omega), f0.1 _ (by omega) (by unfold AC; omega)]
    | 1, _ => rw [c3 _ (by omega) (by omega), c2 _ (by omega) (by unfold K99; omega), f0.1 _ (by omega) (by unfold AC; omega)]
    | 2, _ => rw [c3 _ (by omega) (by omega)]; exact gg.1.trans kk.1
    | 3, _ => rw [c3 _ (by omega) (by omega)]; exact gg.2.1.trans kk.2.1
    | 4, _ => rw [c3 _ (by omega) (by omega)]; exact gg.2.2.trans kk.2.2
  · intro j hj
    rw [c3 _ (by omega) (by omega), c2 _ (by omega) (by unfold K99; omega), f0.1 _ (by omega) (by unfold AC; omega)]
  · intro j hj
    rw [k3 j hj, c2 118 (by omega) (by unfold K99; omega)]
    exact k.2.2 j hj
/-- the reference in the midst of asking: how it was is h0 -/
def MA (O : OS) (h0 : HP) (c0 : AS) (w0 d0 j : Nat) (g : HP) : Prop := MS O c0 w0 d0 j g ∧ KP h0 g ∧ FM AC AJ h0 g
theorem MA_step {O : OS} {h0 : HP} {c0 : AS} {w0 d0 j : Nat} {g : HP} (s : MA O h0 c0 w0 d0 j g) (h1 : d0 + j + 1 < 1000000) (h2 : j < 350) (h3 : w0 < 1000000000) : ∃ g', f_X7_goDay g = some (rD (cBrk O (cN O j c0)) (-5), g') ∧ MA O h0 c0 w0 d0 (j + 1) g' := by
  obtain ⟨s1, s2, s3⟩ := s
  obtain ⟨g', e, q, fr⟩ := MS_step s1 h1 h2 h3
  refine ⟨g', e, q, s2.fm fr (fun c a b z => by unfold DS at z; omega) (fun j a b z => by unfold DJ at z; omega), s3.trans fr (fun _ z => z) (fun c z => show AC c by unfold DS at z; unfold AC; omega) (fun _ z => z) (fun j z => show AJ j by unfold DJ at z; unfold AJ; omega)⟩
theorem B7_start {O : OS} {h : HP} (hC : MD_ O h) (w : WFG (mv h)) {w0 d0 : Nat} (hw : (mv h).1 4 = nI w0) (hd : (mv h).1 5 = nI d0) : ∃ g, f_X7_save h = some g ∧ mv g = mv h ∧ MA O h (core (mv h)) w0 d0 0 g := by
  obtain ⟨g, e, k, h31, fr⟩ := B7_save h
  have hm : mv g = mv h := fr.mv (fun c a b q => by unfold KS at q; omega) (fun j hj q => by unfold KJ at q; omega)
  refine ⟨g, e, hm, ⟨hC.fm fr (fun c a b q => by unfold KS at q; omega) (by unfold KJ; omega), h31, by rw [hm]; exact w, by rw [hm]; rfl, by rw [hm]; exact hw, by rw [hm]; exact hd, Nat.le_refl 0⟩, k, fr.mono (fun c q => by unfold KS at q; unfold AC; omega) (fun j q => by unfold KJ at q; unfold AJ; omega)⟩
theorem MA_back {O : OS} {h0 : HP} {c0 : AS} {w0 d0 j : Nat} {g : HP} (s : MA O h0 c0 w0 d0 j g) : ∃ g', f_X7_putBack g = some g' ∧ mv g' = mv h0 ∧ g'.1 96 31 = 99999 ∧ g'.1 96 32 = 9999 ∧ FM AC AJ h0 g' ∧ FM BC BJ g g' := by
  obtain ⟨g', e, q1, q2, q3, q4⟩ := B7_putBack s.2.1 s.2.2
  exact ⟨g', e, q1, q2, q3, s.2.2.trans q4 (fun _ z => z) (fun c z => show AC c by unfold BC at z; unfold AC; omega) (fun _ z => z) (fun j z => show AJ j by unfold BJ at z; unfold AJ; omega), q4⟩
theorem MA_days {O : OS} {h0 : HP} {c0 : AS} {w0 d0 : Nat} (h3 : w0 < 1000000000) : ∀ (c j : Nat) (g : HP) (fuel : Nat), MA O h0 c0 w0 d0 j g → d0 + j + c < 1000000 → j + c < 350 → c < fuel → ∃ g', f_X7_goDays_L2 fuel (nI (j + c)) (nI j) g = some g' ∧ MA O h0 c0 w0 d0 (j + c) g' := by
  intro c
  induction c with
  | zero =>
    intro j g fuel s _ _ hf
    obtain ⟨f, rfl⟩ : ∃ f, fuel = f + 1 := ⟨fuel - 1, by omega⟩
    refine ⟨g, ?_, s⟩
    rw [f_X7_goDays_L2, if_pos (show nI (j + 0) ≤ nI j from Int32.le_refl _)]
  | succ c ih =>
    intro j g fuel s h1 h2 hf
    obtain ⟨f, rfl⟩ : ∃ f, fuel = f + 1 := ⟨fuel - 1, by omega⟩
    obtain ⟨g1, e1, s1⟩ := MA_step s (by omega) (by omega) h3
    obtain ⟨g2, e2, s2⟩ := ih (j + 1) g1 f s1 (by omega) (by omega) (by omega)
    refine ⟨g2, ?_, by rw [show j + (c + 1) = j + 1 + c by omega]; exact s2⟩
    rw [f_X7_goDays_L2, if_neg (by rw [le_n (by omega) (by omega)]; omega), e1, bd_s, lt_e, one_n, show j + (c + 1) = j + 1 + c by omega]
    exact e2
theorem B7_goDays {O : OS} {h0 : HP} {c0 : AS} {w0 d0 n : Nat} {g : HP} (h3 : w0 < 1000000000) (s : MA O h0 c0 w0 d0 0 g) (h1 : d0 + n < 1000000) (h2 : n < 350) : ∃ g', f_X7_goDays (nI n) g = some g' ∧ MA O h0 c0 w0 d0 n g' := by
  obtain ⟨g', e, q⟩ := MA_days h3 n 0 g FZ s (by omega) (by omega) (by have := FZ_ge; omega)
  rw [Nat.zero_add] at e q
  exact ⟨g', e, q⟩
