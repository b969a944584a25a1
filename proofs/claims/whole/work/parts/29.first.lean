/-! what breaks first -/
def fB (O : OS) (c0 : AS) : Nat → Nat → Option (Nat × Nat)
  | 0, _ => none
  | c + 1, d => match cBrk O (cN O d c0) with
    | some p => some (d, p)
    | none => fB O c0 c (d + 1)
theorem cBrk_lt {O : OS} {a c : AS} {p : Nat} (w : WFE a) (hc : core a = c) (h : cBrk O c = some p) : p < 6 := by
  subst hc
  unfold cBrk at h
  rw [sBrk_core] at h
  cases hb : sBrk O a with
  | none => rw [hb] at h; cases h
  | some i =>
    rw [hb] at h
    have hi := sBrk_lt hb
    obtain ⟨k, hk3, hk, hK, hm⟩ := w.k
    obtain ⟨m, hm6, hmi⟩ := hm i (by omega)
    have : (core a).2 6 i = nI m := by rw [core_r a (by omega)]; exact hmi
    simp only [Option.map, this, cl_n (show m < 2147483648 by omega)] at h
    cases h; exact hm6
def r1 (x : Int32) : Option (Nat × Nat) → Int32
  | none => -5
  | some (d, p) => if x = 0 then nI d else nI p
theorem neg1_lt : (-1 : Int32) < 0 := by decide
theorem not_neg {n : Nat} (h : n < 2147483648) : ¬ nI n < 0 := nI_pos (by omega)
theorem B1_first_L24 {O : OS} {c0 : AS} {d0 : Nat} (hd0 : d0 < 900000) (x1 : Int32) : ∀ (c d : Nat) (g : HP) (fuel : Nat), d + c = 61 → c < fuel → CS O 22 c0 d0 d g → ∃ g', f_X6_first_L24 fuel x1 (nI d) g = some (r1 x1 (fB O c0 c d), g') ∧ Fc (SD 22) g g' := by
  intro c
  induction c with
  | zero =>
    intro d g fuel hd hf s
    obtain ⟨f, rfl⟩ : ∃ f, fuel = f + 1 := ⟨fuel - 1, by omega⟩
    refine ⟨g, ?_, Fc.rf⟩
    rw [f_X6_first_L24, if_pos (by rw [show (60 : Int32) = nI 60 from rfl, lt_n (by omega) (by omega)]; omega)]
    rfl
  | succ c ih =>
    intro d g fuel hd hf s
    obtain ⟨f, rfl⟩ : ∃ f, fuel = f + 1 := ⟨fuel - 1, by omega⟩
    obtain ⟨g1, e1, s1, fr1⟩ := CS_step s (by omega) (by omega)
    rw [f_X6_first_L24, if_neg (by rw [show (60 : Int32) = nI 60 from rfl, lt_n (by omega) (by omega)]; omega)]
    cases hb : cBrk O (cN O d c0) with
    | none =>
      rw [hb] at e1
      have hfb : fB O c0 (c + 1) d = fB O c0 c (d + 1) := by simp only [fB, hb]
      obtain ⟨g2, e2, fr2⟩ := ih (d + 1) g1 f (by omega) (by omega) s1
      refine ⟨g2, ?_, fr1.trans fr2 (fun _ q => q) (fun _ q => q)⟩
      rw [hfb, e1, bd_s, if_pos (show rD none (-1) < 0 from neg1_lt), lt_e, one_n]
      exact e2
    | some p =>
      rw [hb] at e1
      have hfb : fB O c0 (c + 1) d = some (d, p) := by simp only [fB, hb]
      have hp := cBrk_lt s.2.1.1 s.2.2.1 hb
      refine ⟨g1, ?_, fr1⟩
      rw [hfb, e1, bd_s, if_neg (show ¬ rD (some p) (-1) < 0 from not_neg (n := p) (by omega))]
      show _ = some ((if x1 = 0 then nI d else nI p), g1)
      by_cases q : x1 = 0
      · rw [if_pos q, if_pos q]
      · rw [if_neg q, if_neg q]; rfl
theorem B1_nothing_L2 {O : OS} {c0 : AS} {d0 n : Nat} (hn : n < 300) (hd0 : d0 < 900000) : ∀ (c d : Nat) (g : HP) (fuel : Nat), d + c = n → c < fuel → CS O 22 c0 d0 d g → ∃ g', f_X1_nothingBreaksIn_L2 22 fuel (nI n) (nI d) g = some ((if fB O c0 c d = none then 1 else 0), g') ∧ Fc (SD 22) g g' := by
  intro c
  induction c with
  | zero =>
    intro d g fuel hd hf s
    obtain ⟨f, rfl⟩ : ∃ f, fuel = f + 1 := ⟨fuel - 1, by omega⟩
    refine ⟨g, ?_, Fc.rf⟩
    rw [f_X1_nothingBreaksIn_L2, if_pos (by rw [le_n (by omega) (by omega)]; omega)]
    rfl
  | succ c ih =>
    intro d g fuel hd hf s
    obtain ⟨f, rfl⟩ : ∃ f, fuel = f + 1 := ⟨fuel - 1, by omega⟩
    obtain ⟨g1, e1, s1, fr1⟩ := CS_step s (by omega) (by omega)
    rw [f_X1_nothingBreaksIn_L2, if_neg (by rw [le_n (by omega) (by omega)]; omega)]
    cases hb : cBrk O (cN O d c0) with
    | none =>
      rw [hb] at e1
      have hfb : fB O c0 (c + 1) d = fB O c0 c (d + 1) := by simp only [fB, hb]
      obtain ⟨g2, e2, fr2⟩ := ih (d + 1) g1 f (by omega) (by omega) s1
      refine ⟨g2, ?_, fr1.trans fr2 (fun _ q => q) (fun _ q => q)⟩
      rw [hfb, e1, bd_s, if_pos (show rD none (-1) < 0 from neg1_lt), lt_e, one_n]
      exact e2
    | some p =>
      rw [hb] at e1
      have hfb : fB O c0 (c + 1) d = some (d, p) := by simp only [fB, hb]
      have hp := cBrk_lt s.2.1.1 s.2.2.1 hb
      refine ⟨g1, ?_, fr1⟩
      rw [hfb, e1, bd_s, if_neg (show ¬ rD (some p) (-1) < 0 from not_neg (n := p) (by omega)), if_neg (by simp)]
theorem B1_nothing {O : OS} {c0 : AS} {d0 n : Nat} {g : HP} (hn : n < 300) (hd0 : d0 < 900000) (s : CS O 22 c0 d0 0 g) : ∃ g', f_X1_nothingBreaksIn 22 (nI n) g = some ((if fB O c0 n 0 = none then 1 else 0), g') ∧ Fc (SD 22) g g' :=
  B1_nothing_L2 hn hd0 n 0 g FZ (by omega) (by have := FZ_ge; omega) s
/-- all is put back -/
def BK (h0 g : HP) : Prop := mv g = mv h0 ∧ g.1 96 31 = 99999 ∧ g.1 96 32 = 9999 ∧ FM AC AJ h0 g
theorem B7_firstThen_L11 {O : OS} {h0 : HP} {c0 : AS} {w0 d0 n : Nat} (hn : n < 300) (hd0 : d0 < 900000) (h3 : w0 < 1000000000) : ∀ (c k : Nat) (g : HP) (fuel : Nat), k + c = n → c + 1 < fuel → MA O h0 c0 w0 d0 k g → g.1 96 43 = -5 → ∃ g', f_X7_firstThen_L11 fuel (nI n) (-5) (nI k) g = some (r1 0 (fB O c0 c k), g') ∧ g'.1 96 43 = r1 1 (fB O c0 c k) ∧ BK h0 g' := by
  intro c
  induction c with
  | zero =>
    intro k g fuel hd hf s h43
    obtain ⟨f, rfl⟩ : ∃ f, fuel = f + 1 := ⟨fuel - 1, by omega⟩
    obtain ⟨g1, e1, q1, q2, q3, q4, q5⟩ := MA_back s
    refine ⟨g1, ?_, (q5.2.1 43 (by unfold BJ; omega)).trans h43, q1, q2, q3, q4⟩
    rw [f_X7_firstThen_L11, if_pos (by rw [le_n (by omega) (by omega)]; omega), e1, bo_s]
    rfl
  | succ c ih =>
    intro k g fuel hd hf s h43
    obtain ⟨f, rfl⟩ : ∃ f, fuel = f + 1 := ⟨fuel - 1, by omega⟩
    obtain ⟨g1, e1, s1⟩ := MA_step s (by omega) (by omega) h3
    rw [f_X7_firstThen_L11, if_neg (by rw [le_n (by omega) (by omega)]; omega), if_neg (by decide)]
    cases hb : cBrk O (cN O k c0) with
    | none =>
      have h431 : g1.1 96 43 = -5 := by
        obtain ⟨g1', e1', -, fr⟩ := MS_step s.1 (by omega) (by omega) h3
        rw [e1] at e1'
        obtain ⟨-, rfl⟩ := so2 e1'
        exact (fr.2.1 43 (by unfold DJ; omega)).trans h43
      rw [hb] at e1
      have hfb : fB O c0 (c + 1) k = fB O c0 c (k + 1) := by simp only [fB, hb]
      obtain ⟨g2, e2, q1, q2⟩ := ih (k + 1) g1 f (by omega) (by omega) s1 h431
      refine ⟨g2, ?_, by rw [hfb]; exact q1, q2⟩
      rw [hfb, e1, bd_s, if_neg (show ¬ (0 : Int32) ≤ rD none (-5) by decide), lt_e, one_n]
      exact e2
    | some p =>
      rw [hb] at e1
      have hfb : fB O c0 (c + 1) k = some (k, p) := by simp only [fB, hb]
      have hp := cBrk_lt s.1.2.2.1.1 s.1.2.2.2.1 hb
      obtain ⟨f2, rfl⟩ : ∃ f2, f = f2 + 1 := ⟨f - 1, by omega⟩
      have fr43 : FM AC AJ g1 (si g1 96 43 (nI p)) := FM.place (by unfold AJ; omega)
      have kp : KP h0 (si g1 96 43 (nI p)) := s1.2.1.fm (S := NO_) (J := fun j => j = 43) (FM.place rfl) (fun _ _ _ q => q) (fun j a b q => by omega)
      obtain ⟨g2, e2, q1, q2, q3, q5⟩ := B7_putBack kp (s1.2.2.trans fr43 (S2 := AC) (J2 := AJ) (fun _ z => z) (fun _ z => z) (fun _ z => z) (fun _ z => z))
      refine ⟨g2, ?_, ?_, q1, q2, q3, (s1.2.2.trans fr43 (S2 := AC) (J2 := AJ) (fun _ z => z) (fun _ z => z) (fun _ z => z) (fun _ z => z)).trans q5 (fun _ z => z) (fun c z => show AC c by unfold BC at z; unfold AC; omega) (fun _ z => z) (fun j z => show AJ j by unfold BJ at z; unfold AJ; omega)⟩
      · rw [hfb, e1, bd_s, if_pos (show (0 : Int32) ≤ rD (some p) (-5) by show nI 0 ≤ nI p; rw [le_n (by omega) (by omega)]; omega), lt_e, lt_e, one_n, f_X7_firstThen_L11]
        show _ = some (nI k, g2)
        by_cases q : nI n ≤ nI (k + 1)
        · rw [if_pos q]
          show bo (f_X7_putBack (si g1 96 43 (nI p))) _ = _
          rw [e2, bo_s]
        · rw [if_neg q, if_pos (by rw [show (0 : Int32) = nI 0 from rfl, le_n (by omega) (by omega)]; omega)]
          show bo (f_X7_putBack (si g1 96 43 (nI p))) _ = _
          rw [e2, bo_s]
      · rw [hfb, q5.2.1 43 (by unfold BJ; omega), si_w, up_s]
        rfl
theorem B7_firstThen {O : OS} {h0 : HP} {c0 : AS} {w0 d0 n : Nat} {g : HP} (hn : n < 300) (hd0 : d0 < 900000) (h3 : w0 < 1000000000) (s : MA O h0 c0 w0 d0 0 g) : ∃ g', f_X7_firstThen (nI n) g = some (r1 0 (fB O c0 n 0), g') ∧ g'.1 96 43 = r1 1 (fB O c0 n 0) ∧ BK h0 g' := by
  have fr : FM NO_ (fun j => j = 43) g (si g 96 43 (-5)) := FM.place rfl
  have hm : mv (si g 96 43 (-5)) = mv g := fr.mv (fun _ _ _ q => q) (fun j hj q => by omega)
  unfold f_X7_firstThen
  rw [lt_e]
  refine B7_firstThen_L11 hn hd0 h3 n 0 (si g 96 43 (-5)) FZ (by omega) (by have := FZ_ge; omega) ⟨?_, s.2.1.fm fr (fun _ _ _ q => q) (fun j a b q => by omega), s.2.2.trans fr (fun _ z => z) (fun _ z => z.elim) (fun _ z => z) (fun j z => show AJ j by unfold AJ; omega)⟩ (by rw [si_w, up_s])
  obtain ⟨p1, p2, p3, p4, p5, p6, p7⟩ := s.1
  exact ⟨p1.fm fr (fun _ _ _ q => q) (by omega), (fr.2.1 31 (by omega)).trans p2, by rw [hm]; exact p3, by rw [hm]; exact p4, by rw [hm]; exact p5, by rw [hm]; exact p6, p7⟩
/-- how all is between two calls, for what is asked -/
def WFA (a : AS) : Prop := ∃ n k, n ≤ 6 ∧ k ≤ 3 ∧ a.1 0 = nI n ∧ a.1 1 = nI k ∧ (∀ j, j < k → ∃ m, m < n ∧ a.2 6 j = nI m) ∧ (∃ s, s ≤ 9 ∧ a.1 2 = nI s) ∧ (∃ s, s ≤ 9 ∧ a.1 3 = nI s) ∧ (∃ w, w ≤ 99999 ∧ a.1 4 = nI w) ∧ (∃ d, d ≤ 9999 ∧ a.1 5 = nI d) ∧ ∀ p, p < 6 → (∃ l, l ≤ 99 ∧ a.2 2 p = nI l) ∧ (∃ l, l ≤ 99 ∧ a.2 3 p = nI l) ∧ (∃ l, l ≤ 9 ∧ a.2 1 p = nI l) ∧ (∃ l, l ≤ 6 ∧ a.2 0 p = nI l)
theorem WFA.g {a : AS} (w : WFA a) : WFG a ∧ ∃ w0 d0, w0 ≤ 99999 ∧ d0 ≤ 9999 ∧ a.1 4 = nI w0 ∧ a.1 5 = nI d0 := by
  obtain ⟨n, k, h1, h2, h3, h4, h5, h6, h7, ⟨w0, h8, h9⟩, ⟨d0, h10, h11⟩, h12⟩ := w
  refine ⟨⟨⟨⟨k, h2, h4, fun j hj => ?_⟩, fun p hp => (h12 p hp).1, d0, by omega, h11⟩, h6⟩, w0, d0, h8, h10, h9, h11⟩
  obtain ⟨m, hm, e⟩ := h5 j hj
  exact ⟨m, by omega, e⟩
def AQ (O : OS) (h : HP) : Prop := CD O 6 h ∧ MD_ O h ∧ dv 6 h = mv h ∧ h.1 96 31 = 99999 ∧ h.1 96 32 = 9999 ∧ WFA (dv 6 h)
/-- what an asking call leaves -/
def AF (h h' : HP) : Prop := (∀ c, ¬ SD 22 c → c ≠ 96 → ¬ AC c → h'.1 c = h.1 c) ∧ (∀ j, ¬ AJ j → h'.1 96 j = h.1 96 j) ∧ mv h' = mv h ∧ h'.1 96 31 = 99999 ∧ h'.1 96 32 = 9999 ∧ h'.2.1 = h.2.1 ∧ ∀ c, ¬ OD 22 c → h'.2.2 c = h.2.2 c
theorem SD22_big {c : Nat} (hc : 96 ≤ c) : ¬ SD 22 c := by unfold SD isF; omega
theorem OD_SD {c : Nat} (h : OD 22 c) : SD 22 c := Or.inl h
theorem F2.mvv {h h1 : HP} (f : F2 (SD 22) h h1) : mv h1 = mv h := mv_fr (fun j _ => by rw [f.1 96 (SD22_big (by omega))]) (fun c a _ => f.1 c (SD22_big (by omega)))
theorem AQ.c {O : OS} {h h1 : HP} (q : AQ O h) (f : F2 (SD 22) h h1) : MD_ O h1 ∧ WFG (mv h1) ∧ mv h1 = dv 6 h := by
  obtain ⟨q1, q2, q3, q4, q5, q6⟩ := q
  have hm := f.mvv
  exact ⟨q2.ag ⟨fun c a b => f.1 c (SD22_big (by omega)), by rw [f.1 96 (SD22_big (by omega))]⟩, by rw [hm, ← q3]; exact q6.g.1, hm.trans q3.symm⟩
theorem AF.of {h h1 h2 : HP} (f : F2 (SD 22) h h1) (fo : ∀ c, ¬ OD 22 c → h1.2.2 c = h.2.2 c) (b : BK h1 h2) : AF h h2 := by
  obtain ⟨b1, b2, b3, b4⟩ := b
  refine ⟨fun c a p q => (b4.1 c p q).trans (f.1 c a), fun j q => (b4.2.1 j q).trans (by rw [f.1 96 (SD22_big (by omega))]), b1.trans f.mvv, b2, b3, by rw [b4.2.2]; exact f.2.1, fun c q => by rw [b4.2.2]; exact fo c q⟩
theorem AF.none {h h1 : HP} (q4 : h.1 96 31 = 99999) (q5 : h.1 96 32 = 9999) (f : F2 (SD 22) h h1) (fo : ∀ c, ¬ OD 22 c → h1.2.2 c = h.2.2 c) : AF h h1 :=
  AF.of f fo ⟨rfl, by rw [f.1 96 (SD22_big (by omega))]; exact q4, by rw [f.1 96 (SD22_big (by omega))]; exact q5, FM.rf⟩
theorem F2.rf {S : Nat → Prop} {h : HP} : F2 S h h := ⟨fun _ _ => rfl, rfl, fun _ _ => rfl⟩
theorem one_ne : ¬ (1 : Int32) = 0 := by decide
theorem C_first {O : OS} {h : HP} (q : AQ O h) (x1 : Int32) : ∃ r h1 h2, f_X6_first x1 h = some (r, h1) ∧ f_X7_first x1 h1 = some (r, h2) ∧ AF h h2 := by
  have q' := q
  obtain ⟨q1, q2, q3, q4, q5, q6⟩ := q
  rcases rngc x1 (lo := 0) (hi := 1) 0 1 rfl rfl (by omega) (by omega) with ⟨hz, -⟩ | ⟨j, -, hj, rfl, ho⟩
  · refine ⟨-1, h, h, ?_, ?_, AF.none q4 q5 F2.rf (fun _ _ => rfl)⟩
    · unfold f_X6_first; rw [E_within, bo_s, hz, if_pos rfl]
    · unfold f_X7_first; rw [E_in, bo_s, hz, if_pos rfl]
  · obtain ⟨wg, w0, d0, hw0, hd0, ew, ed⟩ := q6.g
    obtain ⟨g, e, ev, cs, fr⟩ := B1_start q1 wg ed
    obtain ⟨g1, e1, fr1⟩ := B1_first_L24 (O := O) (c0 := core (dv 6 h)) (d0 := d0) (by omega) (nI j) 61 0 g FZ (by omega) (by have := FZ_ge; omega) cs
    have e1' : f_X6_first_L24 FZ (nI j) 0 g = some (r1 (nI j) (fB O (core (dv 6 h)) 61 0), g1) := e1
    have frr : F2 (SD 22) h g1 := fr.trans fr1.F2 (fun _ z => Or.inl z) (fun _ z => z)
    have fo : ∀ c, ¬ OD 22 c → g1.2.2 c = h.2.2 c := fun c z => by rw [fr1.2]; exact fr.2.2 c z
    obtain ⟨m1, m2, m3⟩ := q'.c frr
    obtain ⟨g2, e2, hm2, ma⟩ := B7_start m1 m2 (by rw [m3]; exact ew) (by rw [m3]; exact ed)
    rw [m3] at ma
    obtain ⟨g3, e3, e43, bk⟩ := B7_firstThen (n := 61) (by omega) (by omega) (by omega) ma
    have e3' : f_X7_firstThen 61 g2 = some (r1 0 (fB O (core (dv 6 h)) 61 0), g3) := e3
    refine ⟨r1 (nI j) (fB O (core (dv 6 h)) 61 0), g1, g3, ?_, ?_, AF.of frr fo bk⟩
    · unfold f_X6_first; rw [E_within, bo_s, ho, if_neg one_ne, e, bo_s, e1']
    · unfold f_X7_first
      rw [E_in, bo_s, ho, if_neg one_ne, e2, bo_s, e3', bd_s]
      by_cases z : nI j = 0
      · rw [if_pos z, z]
      · rw [if_neg z, e43]
        have : j = 1 := by
          by_cases z0 : j = 0
          · exact absurd (by rw [z0]; rfl) z
          · omega
        subst this
        rfl
