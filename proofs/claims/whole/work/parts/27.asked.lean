/-! what is asked: the trial deck of the class; saving and putting back in the reference -/
theorem dv_ext {o q : Nat} {h h' : HP} (hs : ∀ j, j < 6 → h'.1 o (7 + j) = h.1 q (7 + j)) (ha : ∀ i j, i < 5 → j < 6 → h'.1 (o + (i + 1)) j = h.1 (q + (i + 1)) j) (hr : ∀ j, j < 24 → h'.1 (o + 6) j = h.1 (q + 6) j) (hm : ∀ j, j < 3 → h'.1 (o + 7) j = h.1 (q + 7) j) : dv o h' = dv q h := by
  have e8 : h'.1 o 8 = h.1 q 8 := hs 1 (by omega)
  refine Prod.ext (funext fun j => ?_) (funext fun i => funext fun j => ?_)
  · show (if j < 6 then _ else _) = (if j < 6 then _ else _)
    by_cases hj : j < 6
    · rw [if_pos hj, if_pos hj]; exact hs j hj
    · rw [if_neg hj, if_neg hj]
  · show (if j < wdt (h'.1 o 8) i then _ else _) = (if j < wdt (h.1 q 8) i then _ else _)
    rw [e8]
    by_cases hj : j < wdt (h.1 q 8) i
    · rw [if_pos hj, if_pos hj]
      unfold wdt at hj
      by_cases h5 : i < 5
      · rw [if_pos h5] at hj; exact ha i j h5 hj
      · rw [if_neg h5] at hj
        by_cases h6 : i = 5
        · subst h6; rw [if_pos rfl] at hj; exact hr j hj
        · rw [if_neg h6] at hj
          by_cases h7 : i = 6
          · subst h7; rw [if_pos rfl] at hj; exact hm j (by omega)
          · rw [if_neg h7] at hj; omega
    · rw [if_neg hj, if_neg hj]
theorem mv_ext {h h' : HP} (hs : ∀ j, j < 6 → h'.1 96 j = h.1 96 j) (ha : ∀ i j, i < 5 → j < 6 → h'.1 (97 + i) j = h.1 (97 + i) j) (hr : ∀ j, j < 24 → h'.1 102 j = h.1 102 j) (hm : ∀ j, j < 3 → h'.1 103 j = h.1 103 j) : mv h' = mv h := by
  have e8 : h'.1 96 1 = h.1 96 1 := hs 1 (by omega)
  refine Prod.ext (funext fun j => ?_) (funext fun i => funext fun j => ?_)
  · show (if j < 6 then _ else _) = (if j < 6 then _ else _)
    by_cases hj : j < 6
    · rw [if_pos hj, if_pos hj]; exact hs j hj
    · rw [if_neg hj, if_neg hj]
  · show (if j < wdt (h'.1 96 1) i then _ else _) = (if j < wdt (h.1 96 1) i then _ else _)
    rw [e8]
    by_cases hj : j < wdt (h.1 96 1) i
    · rw [if_pos hj, if_pos hj]
      unfold wdt at hj
      by_cases h5 : i < 5
      · rw [if_pos h5] at hj; exact ha i j h5 hj
      · rw [if_neg h5] at hj
        by_cases h6 : i = 5
        · subst h6; rw [if_pos rfl] at hj; exact hr j hj
        · rw [if_neg h6] at hj
          by_cases h7 : i = 6
          · subst h7; rw [if_pos rfl] at hj; exact hm j (by omega)
          · rw [if_neg h7] at hj; omega
    · rw [if_neg hj, if_neg hj]
theorem ci_r {h : HP} {x y : Nat} {sp dp n : Int32} {c : Nat} (hc : c ≠ y) : (ci h x y sp dp n).1 c = h.1 c := by funext a; rw [ci_1, if_neg hc]
theorem ci_w {h : HP} {x y : Nat} {n : Int32} {k : Nat} (hn : n = nI k) (hk : k < 100) {j : Nat} (hj : j < k) : (ci h x y 0 0 n).1 y j = h.1 x j := by
  subst hn
  have e0 : Int32.toNatClampNeg 0 = 0 := by decide
  rw [ci_1, if_pos rfl, e0, cl_n (by omega), if_pos ⟨Nat.zero_le _, by omega⟩, Nat.zero_add, Nat.sub_zero]
/-- which cells are the deck's -/
def OD (o c : Nat) : Prop := o ≤ c ∧ c ≤ o + 7
theorem B1_copy {o q oc : Nat} {h : HP} (ho : isD o) (hq : isD q) (hne : o ≠ q) (h1 : h.2.2 q = some oc) (hoc : isOc oc = true) : ∃ h', f_X1_copyFrom o q h = some h' ∧ dv o h' = dv q h ∧ h'.2.2 o = some oc ∧ F2 (OD o) h h' := by
  have d : ∀ i j, i ≤ 7 → j ≤ 7 → q + i ≠ o + j := fun i j hi hj => by unfold isD at ho hq; omega
  have d0 : ∀ j, j ≤ 7 → q ≠ o + j := fun j hj => d 0 j (by omega) hj
  have d1 : ∀ i, i ≤ 7 → q + i ≠ o := fun i hi => d i 0 hi (by omega)
  unfold f_X1_copyFrom
  simp only [show cpk 0 6 6 = true by decide, show cpk 0 24 24 = true by decide, show cpk 0 3 3 = true by decide, gd_t, lt_e, ci_2, si_2, h1, bo_s, hoc]
  refine ⟨_, rfl, ?_, ?_, ?_⟩
  · apply dv_ext
    · intro j hj
      simp only [sr_1, si_1, ci_r (d0 1 (by omega)), ci_r (d0 2 (by omega)), ci_r (d0 3 (by omega)), ci_r (d0 4 (by omega)), ci_r (d0 5 (by omega)), ci_r (d0 6 (by omega)), ci_r (d0 7 (by omega)), if_neg (Ne.symm hne), if_true, Ne.symm hne, if_false]
      match j, hj with
      | 0, _ => rfl
      | 1, _ => rfl
      | 2, _ => rfl
      | 3, _ => rfl
      | 4, _ => rfl
      | 5, _ => rfl
    · intro i j hi hj
      simp only [sr_1, si_r (show o + (i + 1) ≠ o by omega)]
      match i, hi with
      | 0, _ =>
        simp only [Nat.zero_add, Nat.reduceAdd, ci_r (show o + 1 ≠ o + 2 by omega), ci_r (show o + 1 ≠ o + 3 by omega), ci_r (show o + 1 ≠ o + 4 by omega), ci_r (show o + 1 ≠ o + 5 by omega), ci_r (show o + 1 ≠ o + 6 by omega), ci_r (show o + 1 ≠ o + 7 by omega)]
        rw [ci_w (n := 6) (k := 6) rfl (by omega) hj]
      | 1, _ =>
        simp only [Nat.reduceAdd, ci_r (show o + 2 ≠ o + 3 by omega), ci_r (show o + 2 ≠ o + 4 by omega), ci_r (show o + 2 ≠ o + 5 by omega), ci_r (show o + 2 ≠ o + 6 by omega), ci_r (show o + 2 ≠ o + 7 by omega)]
        rw [ci_w (n := 6) (k := 6) rfl (by omega) hj, ci_r (d 2 1 (by omega) (by omega))]
      | 2, _ =>
        simp only [Nat.reduceAdd, ci_r (show o + 3 ≠ o + 4 by omega), ci_r (show o + 3 ≠ o + 5 by omega), ci_r (show o + 3 ≠ o + 6 by omega), ci_r (show o + 3 ≠ o + 7 by omega)]
        rw [ci_w (n := 6) (k := 6) rfl (by omega) hj, ci_r (d 3 2 (by omega) (by omega)), ci_r (d 3 1 (by omega) (by omega))]
      | 3, _ =>
        simp only [Nat.reduceAdd, ci_r (show o + 4 ≠ o + 5 by omega), ci_r (show o + 4 ≠ o + 6 by omega), ci_r (show o + 4 ≠ o + 7 by omega)]
        rw [ci_w (n := 6) (k := 6) rfl (by omega) hj, ci_r (d 4 3 (by omega) (by omega)), ci_r (d 4 2 (by omega) (by omega)), ci_r (d 4 1 (by omega) (by omega))]
      | 4, _ =>
        simp only [Nat.reduceAdd, ci_r (show o + 5 ≠ o + 6 by omega), ci_r (show o + 5 ≠ o + 7 by omega)]
        rw [ci_w (n := 6) (k := 6) rfl (by omega) hj, ci_r (d 5 4 (by omega) (by omega)), ci_r (d 5 3 (by omega) (by omega)), ci_r (d 5 2 (by omega) (by omega)), ci_r (d 5 1 (by omega) (by omega))]
    · intro j hj
      simp only [sr_1, si_r (show o + 6 ≠ o by omega), ci_r (show o + 6 ≠ o + 7 by omega)]
      rw [ci_w (n := 24) (k := 24) rfl (by omega) hj, ci_r (d 6 5 (by omega) (by omega)), ci_r (d 6 4 (by omega) (by omega)), ci_r (d 6 3 (by omega) (by omega)), ci_r (d 6 2 (by omega) (by omega)), ci_r (d 6 1 (by omega) (by omega))]
    · intro j hj
      simp only [sr_1, si_r (show o + 7 ≠ o by omega)]
      rw [ci_w (n := 3) (k := 3) rfl (by omega) hj, ci_r (d 7 6 (by omega) (by omega)), ci_r (d 7 5 (by omega) (by omega)), ci_r (d 7 4 (by omega) (by omega)), ci_r (d 7 3 (by omega) (by omega)), ci_r (d 7 2 (by omega) (by omega)), ci_r (d 7 1 (by omega) (by omega))]
  · exact if_pos rfl
  · refine ⟨fun c hc => ?_, rfl, fun c hc => ?_⟩
    · have hn : ∀ i, i ≤ 7 → c ≠ o + i := fun i hi e => hc ⟨by omega, by omega⟩
      have hn0 : c ≠ o := hn 0 (by omega)
      simp only [sr_1, si_r hn0, ci_r (hn 1 (by omega)), ci_r (hn 2 (by omega)), ci_r (hn 3 (by omega)), ci_r (hn 4 (by omega)), ci_r (hn 5 (by omega)), ci_r (hn 6 (by omega)), ci_r (hn 7 (by omega))]
    · exact if_neg (fun e => hc ⟨by omega, by omega⟩)
theorem B1_start {O : OS} {h : HP} (hC : CD O 6 h) (w : WFG (dv 6 h)) {d0 : Nat} (hd : (dv 6 h).1 5 = nI d0) : ∃ h', f_X1_startFrom 22 6 h = some h' ∧ dv 22 h' = sSet (dv 6 h) 4 0 ∧ CS O 22 (core (dv 6 h)) d0 0 h' ∧ F2 (OD 22) h h' := by
  obtain ⟨ho, oc, h1, hO⟩ := hC
  obtain ⟨g, e, ev, e2, fr⟩ := B1_copy (o := 22) (q := 6) (Or.inr (Or.inr rfl)) (Or.inl rfl) (by omega) h1 hO.1
  have hset := dv_set (o := 22) (h := g) (j := 4) (v := 0) (by omega) (by omega)
  have hfr : F2 (OD 22) h (si g 22 11 0) := fr.trans (Fc.F2 (Fc.si (S := OD 22) ⟨by omega, by omega⟩)) (fun _ q => q) (fun _ q => q)
  unfold f_X1_startFrom
  rw [e, bo_s, lt_e]
  rw [ev] at hset
  refine ⟨_, rfl, hset, ⟨⟨Or.inr (Or.inr rfl), oc, e2, hO.fr (fun c a b => hfr.1 c (fun q => by have := isOc_n hO.1; unfold OD at q; omega))⟩, ?_, ?_, ?_, ?_, Nat.le_refl 0⟩, hfr⟩
  · rw [show dv 22 (si g 22 11 0) = _ from hset]
    exact ⟨WFE_set w.1 (by omega) (by omega), by obtain ⟨s, hs, es⟩ := w.2; exact ⟨s, hs, (sSet_n _ _ (by omega)).trans es⟩⟩
  · rw [show dv 22 (si g 22 11 0) = _ from hset, core_set4]; rfl
  · rw [show dv 22 (si g 22 11 0) = _ from hset]; exact sSet_s _ _ _
  · rw [show dv 22 (si g 22 11 0) = _ from hset]; exact (sSet_n _ _ (by omega)).trans hd
/-- the reference's saved numbers -/
def KS (c : Nat) : Prop := 115 ≤ c ∧ c ≤ 118
def KJ (j : Nat) : Prop := j = 31 ∨ j = 32 ∨ 34 ≤ j ∧ j ≤ 38
def KP (h0 g : HP) : Prop := (∀ j, j < 5 → g.1 96 (34 + j) = h0.1 96 (1 + j)) ∧ (∀ j, j < 6 → g.1 115 j = h0.1 99 j ∧ g.1 116 j = h0.1 100 j ∧ g.1 117 j = h0.1 101 j) ∧ ∀ j, j < 3 → g.1 118 j = h0.1 103 j
theorem KP.fm {S J : Nat → Prop} {h0 g g' : HP} (k : KP h0 g) (f : FM S J g g') (hS : ∀ c, 115 ≤ c → c ≤ 118 → ¬ S c) (hJ : ∀ j, 34 ≤ j → j ≤ 38 → ¬ J j) : KP h0 g' := by
  obtain ⟨k1, k2, k3⟩ := k
  refine ⟨fun j hj => by rw [f.2.1 _ (hJ _ (by omega) (by omega))]; exact k1 j hj, fun j hj => ?_, fun j hj => by rw [f.1 118 (by omega) (hS _ (by omega) (by omega))]; exact k3 j hj⟩
  rw [f.1 115 (by omega) (hS _ (by omega) (by omega)), f.1 116 (by omega) (hS _ (by omega) (by omega)), f.1 117 (by omega) (hS _ (by omega) (by omega))]
  exact k2 j hj
def K118 (c : Nat) : Prop := c = 118
theorem B7_save_L106 : ∀ (c i : Nat) (h : HP) (fuel : Nat), i + c = 3 → c < fuel → (∀ j, j < i → h.1 118 j = h.1 103 j) → ∃ h', f_X7_save_L106 fuel (nI i) h = some h' ∧ (∀ j, j < 3 → h'.1 118 j = h.1 103 j) ∧ FM K118 NO_ h h' := by
  intro c
  induction c with
  | zero =>
    intro i h fuel hi hf hj
    obtain ⟨f, rfl⟩ : ∃ f, fuel = f + 1 := ⟨fuel - 1, by omega⟩
    refine ⟨h, ?_, fun j q => hj j (by omega), FM.rf⟩
    rw [f_X7_save_L106, if_pos (by rw [show (3 : Int32) = nI 3 from rfl, le_n (by omega) (by omega)]; omega)]
  | succ c ih =>
    intro i h fuel hi hf hj
    obtain ⟨f, rfl⟩ : ∃ f, fuel = f + 1 := ⟨fuel - 1, by omega⟩
    rw [f_X7_save_L106, if_neg (by rw [show (3 : Int32) = nI 3 from rfl, le_n (by omega) (by omega)]; omega)]
    simp only [gd_b (inb_n (show i < 3 by omega) (show (3 : Nat) < 2147483648 by omega)), lt_e, cl_n (show i < 2147483648 by omega), one_n]
    obtain ⟨g, e, eg, fr⟩ := ih (i + 1) (si h 118 i (h.1 103 i)) f (by omega) (by omega) (fun j q => by
      rw [si_w, si_r (show (103 : Nat) ≠ 118 by omega)]
      by_cases e : j = i
      · subst e; exact up_s _ _ _
      · rw [up_n _ _ e]; exact hj j (by omega))
    refine ⟨g, e, fun j q => (eg j q).trans (by rw [si_r (show (103 : Nat) ≠ 118 by omega)]), (FM.cell (by omega) (show K118 118 from rfl)).trans fr (fun _ q => q) (fun _ q => q) (fun _ q => q) (fun _ q => q)⟩
theorem B7_save_L56 : ∀ (c i : Nat) (h : HP) (fuel : Nat), i + c = 6 → c < fuel → (∀ j, j < i → h.1 115 j = h.1 99 j ∧ h.1 116 j = h.1 100 j ∧ h.1 117 j = h.1 101 j) → ∃ h', f_X7_save_L56 fuel (nI i) h = f_X7_save_L106 FZ 0 h' ∧ (∀ j, j < 6 → h'.1 115 j = h.1 99 j ∧ h'.1 116 j = h.1 100 j ∧ h'.1 117 j = h.1 101 j) ∧ FM KS NO_ h h' := by
  intro c
  induction c with
  | zero =>
    intro i h fuel hi hf hj
    obtain ⟨f, rfl⟩ : ∃ f, fuel = f + 1 := ⟨fuel - 1, by omega⟩
    refine ⟨h, ?_, fun j q => hj j (by omega), FM.rf⟩
    rw [f_X7_save_L56, if_pos (by rw [show (6 : Int32) = nI 6 from rfl, le_n (by omega) (by omega)]; omega)]
  | succ c ih =>
    intro i h fuel hi hf hj
    obtain ⟨f, rfl⟩ : ∃ f, fuel = f + 1 := ⟨fuel - 1, by omega⟩
    rw [f_X7_save_L56, if_neg (by rw [show (6 : Int32) = nI 6 from rfl, le_n (by omega) (by omega)]; omega)]
    simp only [gd_b (inb_n (show i < 6 by omega) (show (6 : Nat) < 2147483648 by omega)), lt_e, cl_n (show i < 2147483648 by omega), one_n, si_r (show (100 : Nat) ≠ 115 by omega), si_r (show (101 : Nat) ≠ 116 by omega), si_r (show (101 : Nat) ≠ 115 by omega)]
    obtain ⟨g, e, eg, fr⟩ := ih (i + 1) (si (si (si h 115 i (h.1 99 i)) 116 i (h.1 100 i)) 117 i (h.1 101 i)) f (by omega) (by omega) (fun j q => by
      simp only [si_r (show (99 : Nat) ≠ 117 by omega), si_r (show (99 : Nat) ≠ 116 by omega), si_r (show (99 : Nat) ≠ 115 by omega), si_r (show (100 : Nat) ≠ 117 by omega), si_r (show (100 : Nat) ≠ 116 by omega), si_r (show (100 : Nat) ≠ 115 by omega), si_r (show (101 : Nat) ≠ 117 by omega), si_r (show (101 : Nat) ≠ 116 by omega), si_r (show (101 : Nat) ≠ 115 by omega), si_r (show (115 : Nat) ≠ 117 by omega), si_r (show (115 : Nat) ≠ 116 by omega), si_r (show (116 : Nat) ≠ 117 by omega), si_w, si_r (show (116 : Nat) ≠ 115 by omega), si_r (show (117 : Nat) ≠ 115 by omega), si_r (show (117 : Nat) ≠ 116 by omega)]
      by_cases e : j = i
      · subst e; exact ⟨up_s _ _ _, up_s _ _ _, up_s _ _ _⟩
      · rw [up_n _ _ e, up_n _ _ e, up_n _ _ e]; exact hj j (by omega))
    refine ⟨g, e, fun j q => ?_, (((FM.cell (by omega) (show KS 115 by unfold KS; omega)).trans (FM.cell (by omega) (show KS 116 by unfold KS; omega)) (fun _ q => q) (fun _ q => q) (fun _ q => q) (fun _ q => q)).trans (FM.cell (by omega) (show KS 117 by unfold KS; omega)) (fun _ q => q) (fun _ q => q) (fun _ q => q) (fun _ q => q)).trans fr (fun _ q => q) (fun _ q => q) (fun _ q => q) (fun _ q => q)⟩
    have := eg j q
    simp only [si_r (show (99 : Nat) ≠ 117 by omega), si_r (show (99 : Nat) ≠ 116 by omega), si_r (show (99 : Nat) ≠ 115 by omega), si_r (show (100 : Nat) ≠ 117 by omega), si_r (show (100 : Nat) ≠ 116 by omega), si_r (show (100 : Nat) ≠ 115 by omega), si_r (show (101 : Nat) ≠ 117 by omega), si_r (show (101 : Nat) ≠ 116 by omega), si_r (show (101 : Nat) ≠ 115 by omega)] at this
    exact this
theorem B7_save (h : HP) : ∃ h', f_X7_save h = some h' ∧ KP h h' ∧ h'.1 96 31 = 2000000000 ∧ FM KS KJ h h' := by
  unfold f_X7_save
  obtain ⟨M, hM⟩ : ∃ M : Int32, M = 2000000000 := ⟨_, rfl⟩
  rw [← hM]
  simp only [lt_e, si_w, up_n _ _ (show (1 : Nat) ≠ 32 by omega), up_n _ _ (show (1 : Nat) ≠ 31 by omega), up_n _ _ (show (2 : Nat) ≠ 34 by omega), up_n _ _ (show (2 : Nat) ≠ 32 by omega), up_n _ _ (show (2 : Nat) ≠ 31 by omega), up_n _ _ (show (3 : Nat) ≠ 35 by omega), up_n _ _ (show (3 : Nat) ≠ 34 by omega), up_n _ _ (show (3 : Nat) ≠ 32 by omega), up_n _ _ (show (3 : Nat) ≠ 31 by omega), up_n _ _ (show (4 : Nat) ≠ 36 by omega), up_n _ _ (show (4 : Nat) ≠ 35 by omega), up_n _ _ (show (4 : Nat) ≠ 34 by omega), up_n _ _ (show (4 : Nat) ≠ 32 by omega), up_n _ _ (show (4 : Nat) ≠ 31 by omega), up_n _ _ (show (5 : Nat) ≠ 37 by omega), up_n _ _ (show (5 : Nat) ≠ 36 by omega), up_n _ _ (show (5 : Nat) ≠ 35 by omega), up_n _ _ (show (5 : Nat) ≠ 34 by omega), up_n _ _ (show (5 : Nat) ≠ 32 by omega), up_n _ _ (show (5 : Nat) ≠ 31 by omega)]
  generalize hg : si (si (si (si (si (si (si h 96 31 M) 96 32 M) 96 34 (h.1 96 1)) 96 35 (h.1 96 2)) 96 36 (h.1 96 3)) 96 37 (h.1 96 4)) 96 38 (h.1 96 5) = g
  have hJ : ∀ j, (j = 31 ∨ j = 32 ∨ 34 ≤ j ∧ j ≤ 38) → KJ j := fun j q => q
  have fr : FM KS KJ h g := by
    rw [← hg]
    refine ⟨fun c hc _ => by simp only [si_r hc], fun j q => ?_, rfl⟩
    unfold KJ at q
    simp only [si_w, up_n _ _ (show j ≠ 38 by omega), up_n _ _ (show j ≠ 37 by omega), up_n _ _ (show j ≠ 36 by omega), up_n _ _ (show j ≠ 35 by omega), up_n _ _ (show j ≠ 34 by omega), up_n _ _ (show j ≠ 32 by omega), up_n _ _ (show j ≠ 31 by omega)]
  have hs : ∀ j, j < 5 → g.1 96 (34 + j) = h.1 96 (1 + j) := by
    rw [← hg]
    intro j hj
    match j, hj with
    | 0, _ => simp [si_1]
    | 1, _ => simp [si_1]
    | 2, _ => simp [si_1]
    | 3, _ => simp [si_1]
    | 4, _ => simp [si_1]
  have h31 : g.1 96 31 = M := by rw [← hg]; simp [si_1]
  obtain ⟨g2, e2, k2, f2⟩ := B7_save_L56 6 0 g FZ (by omega) (by have := FZ_ge; omega) (fun j q => by omega)
  obtain ⟨g3, e3, k3, f3⟩ := B7_save_L106 3 0 g2 FZ (by omega) (by have := FZ_ge; omega) (fun j q => by omega)
  have e2' : f_X7_save_L56 FZ 0 g = f_X7_save_L106 FZ 0 g2 := e2
  have e3' : f_X7_save_L106 FZ 0 g2 = some g3 := e3
  refine ⟨g3, e2'.trans e3', ⟨fun j hj => ?_, fun j hj => ?_, fun j hj => ?_⟩, ?_, (fr.trans f2 (S2 := KS) (J2 := KJ) (fun _ q => q) (fun _ q => q) (fun _ q => q) (fun _ q => q.elim)).trans f3 (fun _ q => q) (fun c q => show KS c by unfold K118 at q; unfold KS; omega) (fun _ q => q) (fun _ q => q.elim)⟩
  · rw [f3.2.1 _ (fun q => q), f2.2.1 _ (fun q => q)]; exact hs j hj
  · have a := k2 j hj
    rw [f3.1 115 (by omega) (by unfold K118; omega), f3.1 116 (by omega) (by unfold K118; omega), f3.1 117 (by omega) (by unfold K118; omega), a.1, a.2.1, a.2.2, fr.1 99 (by omega) (by unfold KS; omega), fr.1 100 (by omega) (by unfold KS; omega), fr.1 101 (by omega) (by unfold KS; omega)]
    exact ⟨rfl, rfl, rfl⟩
  · rw [k3 j hj, f2.1 103 (by omega) (by unfold KS; omega), fr.1 103 (by omega) (by unfold KS; omega)]
  · rw [f3.2.1 _ (fun q => q), f2.2.1 _ (fun q => q)]; exact h31
