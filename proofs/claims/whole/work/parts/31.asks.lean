/-! asking, both sides apart: class half, reference half -/
def FC (h h' : HP) : Prop := F2 (SD 22) h h' ∧ ∀ c, ¬ OD 22 c → h'.2.2 c = h.2.2 c
theorem FC.rf {h : HP} : FC h h := ⟨F2.rf, fun _ _ => rfl⟩
theorem FC.trans {h h1 h2 : HP} (a : FC h h1) (b : FC h1 h2) : FC h h2 := ⟨a.1.trans b.1 (fun _ z => z) (fun _ z => z), fun c z => (b.2 c z).trans (a.2 c z)⟩
theorem FC.fc {h h' : HP} (f : Fc (SD 22) h h') : FC h h' := ⟨f.F2, fun c _ => by rw [f.2]⟩
theorem FC.o {h h' : HP} (f : F2 (OD 22) h h') : FC h h' := ⟨⟨fun c z => f.1 c (fun q => z (OD_SD q)), f.2.1, fun c z => f.2.2 c (fun q => z (OD_SD q))⟩, f.2.2⟩
theorem FC.d6 {h h' : HP} (f : FC h h') : dv 6 h' = dv 6 h := dv_fr (fun c a b => f.1.1 c (by unfold SD isF; omega))
def QC (O : OS) (h : HP) : Prop := CD O 6 h ∧ WFA (dv 6 h)
theorem QC.fc {O : OS} {h h' : HP} (q : QC O h) (f : FC h h') : QC O h' := by
  obtain ⟨⟨ho, oc, h1, h2⟩, w⟩ := q
  refine ⟨⟨ho, oc, by rw [f.2 6 (by unfold OD; omega)]; exact h1, h2.fr (fun c a b => f.1.1 c (oc_SD (Or.inr (Or.inr rfl)) h2.1 a b))⟩, by rw [f.d6]; exact w⟩
def ZC (c : Nat) : Prop := 97 ≤ c ∧ c ≤ 103 ∨ 113 ≤ c ∧ c ≤ 120
def ZJ (j : Nat) : Prop := 1 ≤ j ∧ j ≤ 5 ∨ j = 31 ∨ j = 32 ∨ 34 ≤ j ∧ j ≤ 38 ∨ j = 43 ∨ j = 45 ∨ j = 46
def BZ (h0 g : HP) : Prop := mv g = mv h0 ∧ g.1 96 31 = 99999 ∧ g.1 96 32 = 9999 ∧ FM ZC ZJ h0 g
theorem AC_ZC {c : Nat} (z : AC c) : ZC c := by unfold AC at z; unfold ZC; omega
theorem AJ_ZJ {c : Nat} (z : AJ c) : ZJ c := by unfold AJ at z; unfold ZJ; omega
theorem BK.z {h g : HP} (b : BK h g) : BZ h g := ⟨b.1, b.2.1, b.2.2.1, b.2.2.2.mono (fun _ => AC_ZC) (fun _ => AJ_ZJ)⟩
theorem BZ.trans {h h1 h2 : HP} (a : BZ h h1) (b : BZ h1 h2) : BZ h h2 := ⟨b.1.trans a.1, b.2.1, b.2.2.1, a.2.2.2.trans b.2.2.2 (fun _ z => z) (fun _ z => z) (fun _ z => z) (fun _ z => z)⟩
def QM (O : OS) (h : HP) : Prop := MD_ O h ∧ WFA (mv h) ∧ h.1 96 31 = 99999 ∧ h.1 96 32 = 9999
theorem QM.rf {O : OS} {h : HP} (q : QM O h) : BZ h h := ⟨rfl, q.2.2.1, q.2.2.2, FM.rf⟩
theorem QM.z {O : OS} {h g : HP} (q : QM O h) (b : BZ h g) : QM O g := ⟨q.1.fm b.2.2.2 (fun c a b z => by unfold ZC at z; omega) (by unfold ZJ; omega), by rw [b.1]; exact q.2.1, b.2.1, b.2.2.1⟩
/-- what an asking call leaves -/
def AZ (h h' : HP) : Prop := ∃ h1, FC h h1 ∧ BZ h1 h'
theorem AQ.qc {O : OS} {h : HP} (q : AQ O h) : QC O h := ⟨q.1, q.2.2.2.2.2⟩
theorem AQ.qm {O : OS} {h h1 : HP} (q : AQ O h) (f : FC h h1) : QM O h1 ∧ mv h1 = dv 6 h := by
  obtain ⟨a, b, c⟩ := q.c f.1
  refine ⟨⟨a, by rw [c]; exact q.2.2.2.2.2, by rw [f.1.1 96 (SD22_big (by omega))]; exact q.2.2.2.1, by rw [f.1.1 96 (SD22_big (by omega))]; exact q.2.2.2.2.1⟩, c⟩
/-- the two halves together -/
theorem halves {α : Type} {O : OS} {h : HP} {F G : HP → Option (α × HP)} (q : AQ O h) (R : AS → α) (a : QC O h → ∃ h1, F h = some (R (dv 6 h), h1) ∧ FC h h1) (b : ∀ g, QM O g → ∃ g', G g = some (R (mv g), g') ∧ BZ g g') : ∃ r h1 h2, F h = some (r, h1) ∧ G h1 = some (r, h2) ∧ AZ h h2 := by
  obtain ⟨h1, e1, f1⟩ := a q.qc
  obtain ⟨m, e⟩ := q.qm f1
  obtain ⟨h2, e2, f2⟩ := b h1 m
  exact ⟨_, h1, h2, e1, by rw [e2, e], h1, f1, f2⟩
/-! begin of an asking, with a change of the deck -/
theorem ask6 {O : OS} {h : HP} (q : QC O h) : ∃ w0 d0 g, w0 ≤ 99999 ∧ d0 ≤ 9999 ∧ (dv 6 h).1 4 = nI w0 ∧ (dv 6 h).1 5 = nI d0 ∧ f_X1_startFrom 22 6 h = some g ∧ CD O 22 g ∧ dv 22 g = sSet (dv 6 h) 4 0 ∧ CS O 22 (core (dv 6 h)) d0 0 g ∧ FC h g := by
  obtain ⟨wg, w0, d0, hw0, hd0, ew, ed⟩ := q.2.g
  obtain ⟨g, e, ev, cs, fr⟩ := B1_start q.1 wg ed
  exact ⟨w0, d0, g, hw0, hd0, ew, ed, e, cs.1, ev, cs, FC.o fr⟩
theorem CS_mk {O : OS} {g : HP} {a : AS} {d0 : Nat} (hC : CD O 22 g) (e : dv 22 g = a) (w : WFG a) (h4 : a.1 4 = 0) (h5 : a.1 5 = nI d0) : CS O 22 (core a) d0 0 g := by
  subst e; exact ⟨hC, w, rfl, h4, h5, Nat.le_refl 0⟩
theorem WFG_set {a : AS} {j : Nat} {v : Int32} (w : WFG a) (h1 : j ≠ 1) (h5 : j ≠ 5) (h2 : j = 2 → ∃ s, s ≤ 9 ∧ v = nI s) : WFG (sSet a j v) := by
  obtain ⟨w1, s, hs, e⟩ := w
  refine ⟨WFE_set w1 h1 h5, ?_⟩
  by_cases z : j = 2
  · subst z
    obtain ⟨t, ht, et⟩ := h2 rfl
    exact ⟨t, ht, (sSet_s _ _ _).trans et⟩
  · exact ⟨s, hs, (sSet_n _ _ (Ne.symm z)).trans e⟩
/-- a number of the deck is written anew at the start of an asking -/
theorem CS_set {O : OS} {g : HP} {a : AS} {d0 j : Nat} {v : Int32} (hC : CD O 22 g) (e : dv 22 g = sSet a 4 0) (w : WFG a) (h5 : a.1 5 = nI d0) (hj : j = 2 ∨ j = 3) (hv : ∃ s, s ≤ 9 ∧ v = nI s) : CS O 22 (core (sSet a j v)) d0 0 (si g 22 (7 + j) v) := by
  have hd := dv_set (o := 22) (h := g) (j := j) (v := v) (by omega) (by omega)
  rw [e, sSet_comm _ _ _ (by omega)] at hd
  have := CS_mk (d0 := d0) (hC.fr (Fc.si (S := SD 22) (Or.inl ⟨by omega, by omega⟩))) hd (WFG_set (WFG_set w (by omega) (by omega) (fun _ => hv)) (by omega) (by omega) (by omega)) (sSet_s _ _ _) ((sSet_n _ _ (by omega)).trans ((sSet_n _ _ (by omega)).trans h5))
  rw [core_set4] at this
  exact this
theorem ask7 {O : OS} {h : HP} (q : QM O h) : ∃ w0 d0 g, w0 ≤ 99999 ∧ d0 ≤ 9999 ∧ (mv h).1 4 = nI w0 ∧ (mv h).1 5 = nI d0 ∧ f_X7_save h = some g ∧ mv g = mv h ∧ MA O h (core (mv h)) w0 d0 0 g := by
  obtain ⟨wg, w0, d0, hw0, hd0, ew, ed⟩ := q.2.1.g
  obtain ⟨g, e, ev, ma⟩ := B7_start q.1 wg ew ed
  exact ⟨w0, d0, g, hw0, hd0, ew, ed, e, ev, ma⟩
/-- how all is changed at the start of an asking, in the reference -/
theorem MA_mk {O : OS} {h g g' : HP} {c0 a : AS} {w0 d0 : Nat} (m : MA O h c0 w0 d0 0 g) {S J : Nat → Prop} (f : FM S J g g') (hS : ∀ c, S c → c = 103) (hJ : ∀ j, J j → 1 ≤ j ∧ j ≤ 3) (e : mv g' = a) (w : WFG a) (h4 : a.1 4 = nI w0) (h5 : a.1 5 = nI d0) : MA O h (core a) w0 d0 0 g' := by
  subst e
  obtain ⟨⟨p1, p2, p3, p4, p5, p6, p7⟩, k, f0⟩ := m
  refine ⟨⟨p1.fm f (fun c a b q => by have := hS c q; omega) (fun q => by have := hJ _ q; omega), (f.2.1 31 (fun q => by have := hJ _ q; omega)).trans p2, w, rfl, h4, h5, Nat.le_refl 0⟩, k.fm f (fun c a b q => by have := hS c q; omega) (fun j a b q => by have := hJ j q; omega), f0.trans f (fun _ z => z) (fun c z => show AC c by have := hS c z; unfold AC; omega) (fun _ z => z) (fun j z => show AJ j by have := hJ j z; unfold AJ; omega)⟩
theorem MA_set {O : OS} {h g : HP} {c0 a : AS} {w0 d0 j : Nat} {v : Int32} (m : MA O h c0 w0 d0 0 g) (e : mv g = a) (w : WFG a) (h4 : a.1 4 = nI w0) (h5 : a.1 5 = nI d0) (hj : j = 2 ∨ j = 3) (hv : ∃ s, s ≤ 9 ∧ v = nI s) : MA O h (core (sSet a j v)) w0 d0 0 (si g 96 j v) := by
  have hd := mv_set (h := g) (j := j) (v := v) (by omega) (by omega)
  rw [e] at hd
  exact MA_mk m (S := NO_) (J := fun i => i = j) (FM.place rfl) (fun _ z => z.elim) (fun i z => by omega) hd (WFG_set w (by omega) (by omega) (fun _ => hv)) ((sSet_n _ _ (by omega)).trans h4) ((sSet_n _ _ (by omega)).trans h5)
theorem MA.back {O : OS} {h0 : HP} {c0 : AS} {w0 d0 j : Nat} {g : HP} (s : MA O h0 c0 w0 d0 j g) : ∃ g', f_X7_putBack g = some g' ∧ BZ h0 g' ∧ FM BC BJ g g' := by
  obtain ⟨g', e, a, b, c, d, f⟩ := MA_back s
  exact ⟨g', e, BK.z ⟨a, b, c, d⟩, f⟩
/-! port -/
def pF (O : OS) (c0 : AS) (m : Nat) : Nat → Nat → Int32
  | 0, _ => -5
  | c + 1, d => if m ≤ gN O d c0 then nI d else pF O c0 m c (d + 1)
theorem B1_port_L27 {O : OS} {c0 : AS} {d0 m : Nat} (hd0 : d0 ≤ 9999) (hm : m ≤ 9999) : ∀ (c d : Nat) (g : HP) (fuel : Nat), d + c = 100 → c < fuel → CS O 22 c0 d0 d g → ∃ g', f_X6_port_L27 fuel (nI m) (nI d) g = some (pF O c0 m c d, g') ∧ Fc (SD 22) g g' := by
  intro c
  induction c with
  | zero =>
    intro d g fuel hd hf s
    obtain ⟨f, rfl⟩ : ∃ f, fuel = f + 1 := ⟨fuel - 1, by omega⟩
    refine ⟨g, ?_, Fc.rf⟩
    rw [f_X6_port_L27, if_pos (by rw [show (99 : Int32) = nI 99 from rfl, lt_n (by omega) (by omega)]; omega)]
    rfl
  | succ c ih =>
    intro d g fuel hd hf s
    obtain ⟨f, rfl⟩ : ∃ f, fuel = f + 1 := ⟨fuel - 1, by omega⟩
    have hw : g.1 22 11 = nI (gN O d c0) := (dv_s 22 g (show 4 < 6 by omega)).symm.trans s.2.2.2.1
    have hb := s.2.2.2.2.2
    rw [f_X6_port_L27, if_neg (by rw [show (99 : Int32) = nI 99 from rfl, lt_n (by omega) (by omega)]; omega), hw]
    simp only [pF]
    by_cases z : m ≤ gN O d c0
    · rw [if_neg (by rw [lt_n (by omega) (by omega)]; omega), if_pos z]
      exact ⟨g, rfl, Fc.rf⟩
    · obtain ⟨g1, e1, s1, fr1⟩ := CS_step s (by omega) (by omega)
      obtain ⟨g2, e2, fr2⟩ := ih (d + 1) g1 f (by omega) (by omega) s1
      rw [if_pos (by rw [lt_n (by omega) (by omega)]; omega), if_neg z, e1, bd_s, lt_e, one_n]
      exact ⟨g2, e2, fr1.trans fr2 (fun _ q => q) (fun _ q => q)⟩
theorem B7_port_L21 {O : OS} {h0 : HP} {c0 : AS} {w0 d0 m : Nat} (hd0 : d0 ≤ 9999) (hw0 : w0 ≤ 99999) (hm : m ≤ 9999) (h37 : h0.1 96 4 = nI w0) : ∀ (c d : Nat) (g : HP) (fuel : Nat), d + c = 100 → c < fuel → MA O h0 c0 w0 d0 d g → ∃ g', f_X7_port_L21 fuel (nI m) (nI d) g = some (pF O c0 m c d, g') ∧ BZ h0 g' := by
  intro c
  induction c with
  | zero =>
    intro d g fuel hd hf s
    obtain ⟨f, rfl⟩ : ∃ f, fuel = f + 1 := ⟨fuel - 1, by omega⟩
    obtain ⟨g1, e1, b1, -⟩ := s.back
    have z : (100 : Int32) ≤ nI d := by rw [show (100 : Int32) = nI 100 from rfl, le_n (by omega) (by omega)]; omega
    refine ⟨g1, ?_, b1⟩
    rw [f_X7_port_L21, if_pos z, e1, bo_s, if_pos z]
    rfl
  | succ c ih =>
    intro d g fuel hd hf s
    obtain ⟨f, rfl⟩ : ∃ f, fuel = f + 1 := ⟨fuel - 1, by omega⟩
    have hw : g.1 96 4 = nI (w0 + gN O d c0) := (mv_s g (show 4 < 6 by omega)).symm.trans s.1.2.2.2.2.1
    have hk : g.1 96 37 = nI w0 := (s.2.1.1 3 (by omega)).trans h37
    have hb := s.1.2.2.2.2.2.2
    have z : ¬ (100 : Int32) ≤ nI d := by rw [show (100 : Int32) = nI 100 from rfl, le_n (by omega) (by omega)]; omega
    rw [f_X7_port_L21, if_neg z, hw, hk, sub_n (by omega), Nat.add_sub_cancel_left]
    simp only [pF]
    by_cases y : m ≤ gN O d c0
    · obtain ⟨g1, e1, b1, -⟩ := s.back
      rw [if_pos (by rw [le_n (by omega) (by omega)]; omega), if_pos y, e1, bo_s, if_neg z]
      exact ⟨g1, rfl, b1⟩
    · obtain ⟨g1, e1, s1⟩ := MA_step s (by omega) (by omega) (by omega)
      obtain ⟨g2, e2, fr2⟩ := ih (d + 1) g1 f (by omega) (by omega) s1
      rw [if_neg (by rw [le_n (by omega) (by omega)]; omega), if_neg y, e1, bd_s, lt_e, one_n]
      exact ⟨g2, e2, fr2⟩
theorem C_port {O : OS} {h : HP} (q : AQ O h) (x1 : Int32) : ∃ r h1 h2, f_X6_port x1 h = some (r, h1) ∧ f_X7_port x1 h1 = some (r, h2) ∧ AZ h h2 := by
  rcases rngc x1 (lo := 0) (hi := 9999) 0 9999 rfl rfl (by omega) (by omega) with ⟨hz, -⟩ | ⟨m, -, hm, rfl, ho⟩
  · refine halves q (fun _ => -2) (fun _ => ⟨h, ?_, FC.rf⟩) (fun g qm => ⟨g, ?_, qm.rf⟩)
    · unfold f_X6_port; rw [E_within, bo_s, hz, if_pos rfl]
    · unfold f_X7_port; rw [E_in, bo_s, hz, if_pos rfl]
  · refine halves q (fun a => pF O (core a) m 100 0) (fun qc => ?_) (fun g qm => ?_)
    · obtain ⟨w0, d0, g, hw0, hd0, ew, ed, e, hC, ev, cs, fc⟩ := ask6 qc
      obtain ⟨g1, e1, fr1⟩ := B1_port_L27 (m := m) hd0 hm 100 0 g FZ (by omega) (by have := FZ_ge; omega) cs
      refine ⟨g1, ?_, fc.trans (FC.fc fr1)⟩
      unfold f_X6_port; rw [E_within, bo_s, ho, if_neg one_ne, e, bo_s]
      exact e1
    · obtain ⟨w0, d0, g1, hw0, hd0, ew, ed, e, ev, ma⟩ := ask7 qm
      obtain ⟨g2, e2, b2⟩ := B7_port_L21 (m := m) hd0 hw0 hm ((mv_s g (show 4 < 6 by omega)).symm.trans ew) 100 0 g1 FZ (by omega) (by have := FZ_ge; omega) ma
      refine ⟨g2, ?_, b2⟩
      unfold f_X7_port; rw [E_in, bo_s, ho, if_neg one_ne, e, bo_s]
      exact e2
/-! spread -/
def spF (O : OS) (a : AS) : Nat → Nat → Int32 → Int32 → Int32
  | 0, _, _, b => b
  | c + 1, n, m, b => if nI (gN O 30 (core (sSet a 2 (nI n)))) ≤ m then spF O a c (n + 1) m b else spF O a c (n + 1) (nI (gN O 30 (core (sSet a 2 (nI n))))) (nI n)
theorem B1_spread_L34 {O : OS} {c0 : AS} {d0 : Nat} (hd0 : d0 ≤ 9999) (rc : Int32 → Int32 → Int32 → HP → Option (Int32 × HP)) (x1 x2 x3 : Int32) : ∀ (c d : Nat) (g : HP) (fuel : Nat), d + c = 30 → c < fuel → CS O 22 c0 d0 d g → ∃ g', f_X6_spread_L34 rc fuel x1 x2 x3 (nI d) g = (if nI (gN O 30 c0) ≤ x1 then rc x1 x2 (x3 + 1) g' else rc (nI (gN O 30 c0)) x3 (x3 + 1) g') ∧ Fc (SD 22) g g' := by
  intro c
  induction c with
  | zero =>
    intro d g fuel hd hf s
    obtain ⟨f, rfl⟩ : ∃ f, fuel = f + 1 := ⟨fuel - 1, by omega⟩
    have : d = 30 := by omega
    subst this
    have hw : g.1 22 11 = nI (gN O 30 c0) := (dv_s 22 g (show 4 < 6 by omega)).symm.trans s.2.2.2.1
    refine ⟨g, ?_, Fc.rf⟩
    rw [f_X6_spread_L34, if_pos (by decide), hw]
    simp only [lt_e]
  | succ c ih =>
    intro d g fuel hd hf s
    obtain ⟨f, rfl⟩ : ∃ f, fuel = f + 1 := ⟨fuel - 1, by omega⟩
    obtain ⟨g1, e1, s1, fr1⟩ := CS_step s (by omega) (by omega)
    obtain ⟨g2, e2, fr2⟩ := ih (d + 1) g1 f (by omega) (by omega) s1
    rw [f_X6_spread_L34, if_neg (by rw [show (30 : Int32) = nI 30 from rfl, le_n (by omega) (by omega)]; omega), e1, bd_s, lt_e, one_n]
    exact ⟨g2, e2, fr1.trans fr2 (fun _ q => q) (fun _ q => q)⟩
theorem B1_spread_L6 {O : OS} (a : AS) : ∀ (c n : Nat) (m b : Int32) (h : HP) (fuel : Nat), n + c = 10 → c < fuel → QC O h → dv 6 h = a → ∃ h', f_X6_spread_L6 fuel m b (nI n) h = some (spF O a c n m b, h') ∧ FC h h' := by
  intro c
  induction c with
  | zero =>
    intro n m b h fuel hn hf q ha
    obtain ⟨f, rfl⟩ : ∃ f, fuel = f + 1 := ⟨fuel - 1, by omega⟩
    refine ⟨h, ?_, FC.rf⟩
    rw [f_X6_spread_L6, if_pos (by rw [show (9 : Int32) = nI 9 from rfl, lt_n (by omega) (by omega)]; omega)]
    rfl
  | succ c ih =>
    intro n m b h fuel hn hf q ha
    obtain ⟨f, rfl⟩ : ∃ f, fuel = f + 1 := ⟨fuel - 1, by omega⟩
    obtain ⟨w0, d0, g, hw0, hd0, ew, ed, e, hC, ev, cs, fc⟩ := ask6 q
    have s := CS_set (j := 2) (v := nI n) hC ev q.2.g.1 ed (Or.inl rfl) ⟨n, by omega, rfl⟩
    rw [ha] at s
    obtain ⟨g1, e1, fr1⟩ := B1_spread_L34 hd0 (fun z0 z1 z2 z3 => f_X6_spread_L6 f z0 z1 z2 z3) m b (nI n) 30 0 (si g 22 9 (nI n)) FZ (by omega) (by have := FZ_ge; omega) s
    have fc1 : FC h g1 := (fc.trans (FC.fc (Fc.si (S := SD 22) (Or.inl ⟨by omega, by omega⟩)))).trans (FC.fc fr1)
    have q1 := q.fc fc1
    rw [f_X6_spread_L6, if_neg (by rw [show (9 : Int32) = nI 9 from rfl, lt_n (by omega) (by omega)]; omega), e, bo_s, lt_e]
    refine (fun (P : ∃ h', (if nI (gN O 30 (core (sSet a 2 (nI n)))) ≤ m then f_X6_spread_L6 f m b (nI n + 1) g1 else f_X6_spread_L6 f (nI (gN O 30 (core (sSet a 2 (nI n))))) (nI n) (nI n + 1) g1) = some (spF O a (c + 1) n m b, h') ∧ FC h h') => by obtain ⟨h', e', f'⟩ := P; exact ⟨h', Eq.trans e1 e', f'⟩) ?_
    simp only [spF]
    by_cases z : nI (gN O 30 (core (sSet a 2 (nI n)))) ≤ m
    · obtain ⟨h', e', f'⟩ := ih (n + 1) m b g1 f (by omega) (by omega) q1 (fc1.d6.trans ha)
      rw [if_pos z, if_pos z, one_n]
      exact ⟨h', e', fc1.trans f'⟩
    · obtain ⟨h', e', f'⟩ := ih (n + 1) (nI (gN O 30 (core (sSet a 2 (nI n))))) (nI n) g1 f (by omega) (by omega) q1 (fc1.d6.trans ha)
      rw [if_neg z, if_neg z, one_n]
      exact ⟨h', e', fc1.trans f'⟩
theorem B7_wentThen {O : OS} {h0 : HP} {c0 : AS} {w0 d0 n : Nat} {g : HP} (hw : w0 ≤ 99999) (hd : d0 ≤ 9999) (hn : n < 300) (h37 : h0.1 96 4 = nI w0) (s : MA O h0 c0 w0 d0 0 g) : ∃ g', f_X7_wentThen (nI n) g = some (nI (gN O n c0), g') ∧ BZ h0 g' := by
  obtain ⟨g1, e1, s1⟩ := B7_goDays (n := n) (by omega) s (by omega) (by omega)
  obtain ⟨g2, e2, b2, -⟩ := s1.back
  have hw : g1.1 96 4 = nI (w0 + gN O n c0) := (mv_s g1 (show 4 < 6 by omega)).symm.trans s1.1.2.2.2.2.1
  have hk : g1.1 96 37 = nI w0 := (s1.2.1.1 3 (by omega)).trans h37
  refine ⟨g2, ?_, b2⟩
  unfold f_X7_wentThen
  rw [e1, bo_s, lt_e, hw, hk, sub_n (by omega), Nat.add_sub_cancel_left, e2, bo_s]
theorem B7_spread_L6 {O : OS} (a : AS) : ∀ (c n : Nat) (m b : Int32) (h : HP) (fuel : Nat), n + c = 10 → c < fuel → QM O h → mv h = a → ∃ h', f_X7_spread_L6 fuel b m (nI n) h = some (spF O a c n m b, h') ∧ BZ h h' := by
  intro c
  induction c with
  | zero =>
    intro n m b h fuel hn hf q ha
    obtain ⟨f, rfl⟩ : ∃ f, fuel = f + 1 := ⟨fuel - 1, by omega⟩
    refine ⟨h, ?_, q.rf⟩
    rw [f_X7_spread_L6, if_pos (by rw [show (10 : Int32) = nI 10 from rfl, le_n (by omega) (by omega)]; omega)]
    rfl
  | succ c ih =>
    intro n m b h fuel hn hf q ha
    obtain ⟨f, rfl⟩ : ∃ f, fuel = f + 1 := ⟨fuel - 1, by omega⟩
    obtain ⟨w0, d0, g, hw0, hd0, ew, ed, e, ev, ma⟩ := ask7 q
    have s := MA_set (j := 2) (v := nI n) ma ev q.2.1.g.1 ew ed (Or.inl rfl) ⟨n, by omega, rfl⟩
    rw [ha] at s
    obtain ⟨g1, e1, b1⟩ := B7_wentThen (n := 30) hw0 hd0 (by omega) ((mv_s h (show 4 < 6 by omega)).symm.trans ew) s
    have e1' : f_X7_wentThen 30 (si g 96 2 (nI n)) = some (nI (gN O 30 (core (sSet a 2 (nI n)))), g1) := e1
    have q1 := q.z b1
    rw [f_X7_spread_L6, if_neg (by rw [show (10 : Int32) = nI 10 from rfl, le_n (by omega) (by omega)]; omega), e, bo_s, lt_e, e1', bd_s]
    simp only [spF]
    by_cases z : nI (gN O 30 (core (sSet a 2 (nI n)))) ≤ m
    · obtain ⟨h', e', f'⟩ := ih (n + 1) m b g1 f (by omega) (by omega) q1 (b1.1.trans ha)
      rw [if_neg (Int32.not_lt.mpr z), if_pos z, lt_e, one_n]
      exact ⟨h', e', b1.trans f'⟩
    · obtain ⟨h', e', f'⟩ := ih (n + 1) (nI (gN O 30 (core (sSet a 2 (nI n))))) (nI n) g1 f (by omega) (by omega) q1 (b1.1.trans ha)
      rw [if_pos (Int32.not_le.mp z), if_neg z, lt_e, one_n]
      exact ⟨h', e', b1.trans f'⟩
theorem C_spread {O : OS} {h : HP} (q : AQ O h) : ∃ r h1 h2, f_X6_spread h = some (r, h1) ∧ f_X7_spread h1 = some (r, h2) ∧ AZ h h2 :=
  halves q (fun a => spF O a 10 0 (-1) 0) (fun qc => B1_spread_L6 (dv 6 h) 10 0 (-1) 0 h FZ (by omega) (by have := FZ_ge; omega) qc rfl) (fun g qm => B7_spread_L6 (mv g) 10 0 (-1) 0 g FZ (by omega) (by have := FZ_ge; omega) qm rfl)
/-! fewest -/
def fwF (O : OS) (a : AS) (N : Nat) : Nat → Nat → Int32
  | 0, _ => -5
  | c + 1, n => if fB O (core (sSet a 3 (nI n))) N 0 = none then nI n else fwF O a N c (n + 1)
theorem B1_fewest_L15 {O : OS} (a : AS) {N : Nat} (hN : N ≤ 60) : ∀ (c n : Nat) (h : HP) (fuel : Nat), n + c = 10 → c < fuel → QC O h → dv 6 h = a → ∃ h', f_X6_fewest_L15 fuel (nI N) (nI n) h = some (fwF O a N c n, h') ∧ FC h h' := by
  intro c
  induction c with
  | zero =>
    intro n h fuel hn hf q ha
    obtain ⟨f, rfl⟩ : ∃ f, fuel = f + 1 := ⟨fuel - 1, by omega⟩
    refine ⟨h, ?_, FC.rf⟩
    rw [f_X6_fewest_L15, if_pos (by rw [show (9 : Int32) = nI 9 from rfl, lt_n (by omega) (by omega)]; omega)]
    rfl
  | succ c ih =>
    intro n h fuel hn hf q ha
    obtain ⟨f, rfl⟩ : ∃ f, fuel = f + 1 := ⟨fuel - 1, by omega⟩
    obtain ⟨w0, d0, g, hw0, hd0, ew, ed, e, hC, ev, cs, fc⟩ := ask6 q
    have s := CS_set (j := 3) (v := nI n) hC ev q.2.g.1 ed (Or.inr rfl) ⟨n, by omega, rfl⟩
    rw [ha] at s
    obtain ⟨g1, e1, fr1⟩ := B1_nothing (n := N) (by omega) (by omega) s
    have fc1 : FC h g1 := (fc.trans (FC.fc (Fc.si (S := SD 22) (Or.inl ⟨by omega, by omega⟩)))).trans (FC.fc fr1)
    have q1 := q.fc fc1
    have e1' : f_X1_nothingBreaksIn 22 (nI N) (si g 22 10 (nI n)) = _ := e1
    rw [f_X6_fewest_L15, if_neg (by rw [show (9 : Int32) = nI 9 from rfl, lt_n (by omega) (by omega)]; omega), e, bo_s, lt_e, e1', bd_s]
    simp only [fwF]
    by_cases z : fB O (core (sSet a 3 (nI n))) N 0 = none
    · rw [if_pos z, if_neg one_ne, if_pos z]
      exact ⟨g1, rfl, fc1⟩
    · obtain ⟨h', e', f'⟩ := ih (n + 1) g1 f (by omega) (by omega) q1 (fc1.d6.trans ha)
      rw [if_neg z, if_pos rfl, if_neg z, lt_e, one_n]
      exact ⟨h', e', fc1.trans f'⟩
theorem r1_neg {x : Option (Nat × Nat)} (hx : ∀ d p, x = some (d, p) → d < 1000) : (0 : Int32) ≤ r1 0 x ↔ ¬ x = none := by
  cases x with
  | none => exact iff_of_false (show ¬ (0 : Int32) ≤ -5 by decide) (fun z => z rfl)
  | some y =>
    obtain ⟨d, p⟩ := y
    have := hx d p rfl
    refine iff_of_true (show (0 : Int32) ≤ (if (0 : Int32) = 0 then nI d else nI p) from ?_) (by simp)
    rw [if_pos rfl, show (0 : Int32) = nI 0 from rfl, le_n (by omega) (by omega)]; omega
theorem fB_lt {O : OS} {c0 : AS} : ∀ {c d e p : Nat}, fB O c0 c d = some (e, p) → d ≤ e ∧ e < d + c := by
  intro c
  induction c with
  | zero => intro d e p h; cases h
  | succ c ih =>
    intro d e p h
    simp only [fB] at h
    split at h
    · cases h; omega
    · have := ih h; omega
theorem r1_iff {O : OS} {c0 : AS} {N : Nat} (hN : N ≤ 61) : (0 : Int32) ≤ r1 0 (fB O c0 N 0) ↔ ¬ fB O c0 N 0 = none := r1_neg (fun d p e => by have := fB_lt e; omega)
theorem B7_fewest_L16 {O : OS} (a : AS) {N : Nat} (hN : N ≤ 60) : ∀ (c n : Nat) (h : HP) (fuel : Nat), n + c = 10 → c < fuel → QM O h → mv h = a → ∃ h', f_X7_fewest_L16 fuel (nI N) (nI n) h = some (fwF O a N c n, h') ∧ BZ h h' := by
  intro c
  induction c with
  | zero =>
    intro n h fuel hn hf q ha
    obtain ⟨f, rfl⟩ : ∃ f, fuel = f + 1 := ⟨fuel - 1, by omega⟩
    refine ⟨h, ?_, q.rf⟩
    rw [f_X7_fewest_L16, if_pos (by rw [show (10 : Int32) = nI 10 from rfl, le_n (by omega) (by omega)]; omega)]
    rfl
  | succ c ih =>
    intro n h fuel hn hf q ha
    obtain ⟨f, rfl⟩ : ∃ f, fuel = f + 1 := ⟨fuel - 1, by omega⟩
    obtain ⟨w0, d0, g, hw0, hd0, ew, ed, e, ev, ma⟩ := ask7 q
    have s := MA_set (j := 3) (v := nI n) ma ev q.2.1.g.1 ew ed (Or.inr rfl) ⟨n, by omega, rfl⟩
    rw [ha] at s
    obtain ⟨g1, e1, -, b1'⟩ := B7_firstThen (n := N) (by omega) (by omega) (by omega) s
    have b1 := b1'.z
    have q1 := q.z b1
    rw [f_X7_fewest_L16, if_neg (by rw [show (10 : Int32) = nI 10 from rfl, le_n (by omega) (by omega)]; omega), e, bo_s, lt_e, e1, bd_s]
    simp only [fwF]
    by_cases z : fB O (core (sSet a 3 (nI n))) N 0 = none
    · rw [if_neg (fun y => (r1_iff (by omega)).mp y z), if_pos z]
      exact ⟨g1, rfl, b1⟩
    · obtain ⟨h', e', f'⟩ := ih (n + 1) g1 f (by omega) (by omega) q1 (b1.1.trans ha)
      rw [if_pos ((r1_iff (by omega)).mpr z), if_neg z, lt_e, one_n]
      exact ⟨h', e', b1.trans f'⟩
theorem C_fewest {O : OS} {h : HP} (q : AQ O h) (x1 : Int32) : ∃ r h1 h2, f_X6_fewest x1 h = some (r, h1) ∧ f_X7_fewest x1 h1 = some (r, h2) ∧ AZ h h2 := by
  rcases rngc x1 (lo := 1) (hi := 30) 1 30 rfl rfl (by omega) (by omega) with ⟨hz, -⟩ | ⟨m, -, hm, rfl, ho⟩
  · refine halves q (fun _ => -2) (fun _ => ⟨h, ?_, FC.rf⟩) (fun g qm => ⟨g, ?_, qm.rf⟩)
    · unfold f_X6_fewest; rw [E_within, bo_s, hz, if_pos rfl]
    · unfold f_X7_fewest; rw [E_in, bo_s, hz, if_pos rfl]
  · refine halves q (fun a => fwF O a m 10 0) (fun qc => ?_) (fun g qm => ?_)
    · unfold f_X6_fewest; rw [E_within, bo_s, ho, if_neg one_ne]
      exact B1_fewest_L15 (dv 6 h) (by omega) 10 0 h FZ (by omega) (by have := FZ_ge; omega) qc rfl
    · unfold f_X7_fewest; rw [E_in, bo_s, ho, if_neg one_ne]
      exact B7_fewest_L16 (mv g) (by omega) 10 0 g FZ (by omega) (by have := FZ_ge; omega) qm rfl
