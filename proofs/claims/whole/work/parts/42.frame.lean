/-! the calls that only ask keep all of it -/
theorem FZ_s : ∃ f, FZ = f + 1 := ⟨FZ - 1, by have := FZ_ge; omega⟩
theorem MD_clm {h : HP} (e : h.1 96 14 = -1) : MD_ clmq h := by
  have neg : ¬ (0 : Int32) ≤ -1 := by decide
  have zz : (0 : Int32) ≤ 0 := by decide
  obtain ⟨f, hf⟩ := FZ_s
  refine ⟨fun g p a hp => ⟨g, ?_, FM.rf⟩, fun g a => ?_, 2, by omega, rfl⟩
  · have e2 : g.1 96 14 = -1 := a.2.trans e
    unfold f_X7_heart f_X7_begin
    rw [e2, if_neg neg, bo_s, hf, f_X7_heart_L8]
    unfold f_X7_behind
    rw [e2, if_neg neg, bo_s, if_pos zz]
    rfl
  · have e2 : g.1 96 14 = -1 := a.2.trans e
    have key : ∀ x1 x2 : Int32, f_X7_lastOf x1 x2 g = some x2 := fun x1 x2 => by
      unfold f_X7_lastOf f_X7_begin
      rw [e2, if_neg neg, bo_s, hf, f_X7_lastOf_L8]
      unfold f_X7_behind
      rw [e2, if_neg neg, bo_s, if_pos zz]
    exact ⟨key 3 2, key 2 5⟩
theorem AGq.rf {i : Nat} {h : HP} : AGq i h h := ⟨rfl, fun _ _ _ _ _ => rfl, fun _ _ => rfl⟩
theorem OW_clm : OW clmq := ⟨5, by omega, rfl⟩
/-- an ocean that a deck has: of the class, of the reference -/
theorem CURq.c {O Oh : OS} {m : Nat} {T : Nat → OS} {h : HP} {oc : Option Nat} {the : Int32} (o : OCNq Oh m T h) (c : CURq O m T oc the) : (∃ a, oc = some a ∧ OceC O h a) ∧ OW O ∧ (h.1 96 14 = the → MD_ O h) := by
  obtain ⟨o1, o2, o3, o4, o5, -⟩ := o
  rcases c with ⟨c1, c2, c3⟩ | ⟨i, hi, c1, c2, c3⟩
  · subst c3
    exact ⟨⟨1, c1, o4⟩, OW_clm, fun e => MD_clm (e.trans c2)⟩
  · subst c3
    obtain ⟨q1, q2, q3⟩ := o5 i hi
    exact ⟨⟨_, c1, q1⟩, q2, fun e => q3 h AGq.rf (e.trans c2)⟩
theorem IVq.aq {O : OS} {n m : Nat} {T : Nat → OS} {h : HP} (v : IVq O n m T h) : AQ O h ∧ OW O ∧ DM (dv 6 h) ∧ n ≤ 6 ∧ h.1 6 7 = nI n ∧ h.1 96 0 = nI n := by
  obtain ⟨⟨d1, d2, d3, d4, d5, d6, d7⟩, o, -⟩ := v
  obtain ⟨⟨a, q1, q2⟩, q3, q4⟩ := CURq.c o o.2.2.2.2.2
  refine ⟨⟨⟨Or.inl rfl, a, q1, q2⟩, q4 rfl, d1, d2, d3, d4⟩, q3, d5, d6, d7, ?_⟩
  have : (dv 6 h).1 0 = (mv h).1 0 := by rw [d1]
  rw [dv_s 6 h (by omega), mv_s h (by omega)] at this
  exact this.symm.trans d7
theorem IVq.sen {O : OS} {n m : Nat} {T : Nat → OS} {h : HP} (v : IVq O n m T h) : ∃ ns r, SEN ns r h := by
  obtain ⟨-, -, ⟨k, p1, p2, p3, p4⟩, -⟩ := v
  refine ⟨k, fun i => (h.1 31 i, (h.1 32 i).toNatClampNeg), p1, p2, p3, fun i hi => ?_⟩
  obtain ⟨a, b, t, ht, e⟩ := p4 i hi
  have e' : h.1 32 i = nI t := e
  have : (h.1 32 i).toNatClampNeg = t := by rw [e', cl_n (by omega)]
  show (h.1 32 i).toNatClampNeg ≤ 20 ∧ h.1 31 i = h.1 31 i ∧ h.1 32 i = nI (h.1 32 i).toNatClampNeg ∧ h.1 121 i = h.1 31 i ∧ h.1 122 i = nI (h.1 32 i).toNatClampNeg
  rw [this]
  exact ⟨ht, rfl, e', a.symm, b.symm.trans e'⟩
theorem IVq.pln {O : OS} {n m : Nat} {T : Nat → OS} {h : HP} (v : IVq O n m T h) : ∃ np r, PLN n np r h := by
  obtain ⟨-, -, -, ⟨k, p1, p2, p3, p4⟩, -⟩ := v
  exact ⟨k, fun i => (h.1 34 i, h.1 35 i), p1, p2, p3, fun i hi => ⟨rfl, rfl, (p4 i hi).1.symm, (p4 i hi).2.1.symm, (p4 i hi).2.2⟩⟩
def SAq (c : Nat) : Prop := SD 22 c ∨ ZC c
def N_q (_ : Nat) : Prop := False
theorem AZ.kq {h h' : HP} (z : AZ h h') : Kq SAq ZJ N_q (OD 22) h h' ∧ mv h' = mv h ∧ h'.1 96 31 = 99999 ∧ h'.1 96 32 = 9999 := by
  obtain ⟨h1, a, b⟩ := z
  refine ⟨⟨fun c hc q => (b.2.2.2.1 c hc (fun z => q (Or.inr z))).trans (a.1.1 c (fun z => q (Or.inl z))), fun j q => (b.2.2.2.2.1 j q).trans (by rw [a.1.1 96 (SD22_big (by omega))]), fun c _ => ?_, fun c q => ?_⟩, b.1.trans a.1.mvv, b.2.1, b.2.2.1⟩
  · rw [b.2.2.2.2.2, a.1.2.1]
  · rw [b.2.2.2.2.2]; exact a.2 c q
theorem AF.kq {h h' : HP} (z : AF h h') : Kq SAq ZJ N_q (OD 22) h h' ∧ mv h' = mv h ∧ h'.1 96 31 = 99999 ∧ h'.1 96 32 = 9999 := by
  obtain ⟨a1, a2, a3, a4, a5, a6, a7⟩ := z
  exact ⟨⟨fun c hc q => a1 c (fun z => q (Or.inl z)) hc (fun z => q (Or.inr (AC_ZC z))), fun j q => a2 j (fun z => q (AJ_ZJ z)), fun c _ => by rw [a6], a7⟩, a3, a4, a5⟩
/-- what all but the deck needs, when deck 22, what is kept of asking, or deck 6 changes -/
def SBq (c : Nat) : Prop := (6 ≤ c ∧ c ≤ 13) ∨ SD 22 c ∨ ZC c
theorem IVq.deck {O : OS} {n n' m : Nat} {T : Nat → OS} {h h' : HP} {J : Nat → Prop} (v : IVq O n m T h) (hn : n ≤ n') (f : Kq SBq J N_q (OD 22) h h') (hJ : ∀ j, J j → j ≤ 5 ∨ 31 ≤ j ∧ j ≤ 46) (d : D6q n' h') : IVq O n' m T h' := by
  obtain ⟨d0, o, s, p, b, i, t, a, tp⟩ := v
  have jj : ∀ j, 6 ≤ j → ¬ (31 ≤ j ∧ j ≤ 46) → ¬ J j := fun j h1 h2 z => by have := hJ j z; omega
  have cc : ∀ c, ¬ (6 ≤ c ∧ c ≤ 13) → ¬ (22 ≤ c ∧ c ≤ 29) → ¬ isF c → ¬ (97 ≤ c ∧ c ≤ 103) → ¬ (113 ≤ c ∧ c ≤ 120) → ¬ SBq c := fun c a1 a2 a3 a4 a5 z => by
    unfold SBq SD ZC at z
    rcases z with z | (z | z) | z
    · exact a1 z
    · exact a2 ⟨by omega, by omega⟩
    · exact a3 z
    · rcases z with z | z
      · exact a4 z
      · exact a5 z
  have c2 : ∀ c, ¬ (5 ≤ c ∧ c ≤ 13) → ¬ (22 ≤ c ∧ c ≤ 29) → ¬ (53 ≤ c ∧ c ≤ 78) → ¬ (97 ≤ c ∧ c ≤ 103) → ¬ (113 ≤ c ∧ c ≤ 120) → ¬ SBq c := fun c a1 a2 a3 a4 a5 => cc c (by omega) a2 (by unfold isF; omega) a4 a5
  have p' : PRq 33 51 123 10 (PRw n') h := p.imp (fun x y z => by
    rcases z with z | z | z | ⟨z1, w, hw, z2⟩ | z
    · exact Or.inl z
    · exact Or.inr (Or.inl z)
    · exact Or.inr (Or.inr (Or.inl z))
    · exact Or.inr (Or.inr (Or.inr (Or.inl ⟨z1, w, by omega, z2⟩)))
    · exact Or.inr (Or.inr (Or.inr (Or.inr z))))
  have b' : PRq 36 52 125 8 (PBk n') h := b.imp (fun x y ⟨⟨w, hw, z⟩, y⟩ => ⟨⟨w, by omega, z⟩, y⟩)
  refine ⟨d, o.kp f (c2 0 (by omega) (by omega) (by omega) (by omega) (by omega)) (fun c z => ?_) (fun c a1 a2 => c2 c (by omega) (by omega) (by omega) (by omega) (by omega)) (jj 13 (by omega) (by omega)) (jj 14 (by omega) (by omega)) (by unfold OD; omega),
    s.kp f (by omega) (by omega) (fun c a1 a2 => c2 c (by omega) (by omega) (by omega) (by omega) (by omega)) (fun c a1 a2 => c2 c (by omega) (by omega) (by omega) (by omega) (by omega)) (jj _ (by omega) (by omega)),
    p'.kp f (by omega) (by omega) (fun c a1 a2 => c2 c (by omega) (by omega) (by omega) (by omega) (by omega)) (fun c a1 a2 => c2 c (by omega) (by omega) (by omega) (by omega) (by omega)) (jj _ (by omega) (by omega)),
    b'.kp f (by omega) (by omega) (fun c a1 a2 => c2 c (by omega) (by omega) (by omega) (by omega) (by omega)) (fun c a1 a2 => c2 c (by omega) (by omega) (by omega) (by omega) (by omega)) (jj _ (by omega) (by omega)),
    i.kp f (c2 0 (by omega) (by omega) (by omega) (by omega) (by omega)) (fun c a1 a2 => c2 c (by omega) (by omega) (by omega) (by omega) (by omega)) (fun c a1 a2 => c2 c (by omega) (by omega) (by omega) (by omega) (by omega)) (fun c a1 a2 => c2 c (by omega) (by omega) (by omega) (by omega) (by omega)) (fun j a1 a2 => jj j (by omega) (by omega)) (by unfold OD; omega),
    t.kp f (c2 _ (by omega) (by omega) (by omega) (by omega) (by omega)) (c2 _ (by omega) (by omega) (by omega) (by omega) (by omega)) (c2 _ (by omega) (by omega) (by omega) (by omega) (by omega)) (c2 _ (by omega) (by omega) (by omega) (by omega) (by omega)) (jj _ (by omega) (by omega)),
    a.kp f (c2 _ (by omega) (by omega) (by omega) (by omega) (by omega)) (c2 _ (by omega) (by omega) (by omega) (by omega) (by omega)) (c2 _ (by omega) (by omega) (by omega) (by omega) (by omega)) (jj _ (by omega) (by omega)),
    tp.kp f (fun c a1 a2 => ⟨c2 c (by omega) (by omega) (by omega) (by omega) (by omega), fun z => z⟩) (fun c a1 a2 => ⟨c2 c (by omega) (by omega) (by omega) (by omega) (by omega), fun z => z⟩)⟩
  unfold OCcq at z
  rcases z with z | ⟨z1, z2, z3⟩
  · exact c2 c (by omega) (by omega) (by omega) (by omega) (by omega)
  · exact cc c (by omega) (by omega) z3 (by omega) (by omega)
theorem IVq.ask {O : OS} {n m : Nat} {T : Nat → OS} {h h' : HP} (v : IVq O n m T h) (z : Kq SAq ZJ N_q (OD 22) h h' ∧ mv h' = mv h ∧ h'.1 96 31 = 99999 ∧ h'.1 96 32 = 9999) : IVq O n m T h' := by
  obtain ⟨f, e, e1, e2⟩ := z
  have f' : Kq SBq ZJ N_q (OD 22) h h' := ⟨fun c hc q => f.1 c hc (fun z => q (Or.inr z)), f.2.1, f.2.2.1, f.2.2.2⟩
  refine v.deck (Nat.le_refl _) f' (fun j z => by unfold ZJ at z; omega) ?_
  obtain ⟨⟨d1, d2, d3, d4, d5, d6, d7⟩, -⟩ := v
  have c6 : ∀ c, 6 ≤ c → c ≤ 13 → ¬ SAq c := fun c a b => by unfold SAq SD ZC isF; omega
  have ed : dv 6 h' = dv 6 h := dv_fr (fun c a b => f.1 c (by omega) (c6 c a (by omega)))
  exact ⟨by rw [ed, e]; exact d1, e1, e2, by rw [ed]; exact d4, by rw [ed]; exact d5, d6, by rw [f.1 6 (by omega) (c6 6 (by omega) (by omega))]; exact d7⟩
theorem IVq.pass {O : OS} {n m : Nat} {T : Nat → OS} {h h' : HP} (v : IVq O n m T h) (z : AP O h h') : IVq O n m T h' := by
  obtain ⟨a1, a2, a3, ⟨q1, q2, q3, q4, q5, q6⟩, a5, a6⟩ := z
  have sb : ∀ c, SD 6 c → SBq c := fun c z => by
    rcases z with z | z
    · exact Or.inl ⟨by omega, by omega⟩
    · exact Or.inr (Or.inl (Or.inr z))
  have f : Kq SBq ZJ N_q (OD 22) h h' := ⟨fun c hc q => a1 c (fun z => q (sb c z)) hc (fun z => q (Or.inr (Or.inr z))), a2, fun c _ => by rw [a3], fun c _ => by rw [a3]⟩
  refine v.deck (Nat.le_refl _) f (fun j z => by unfold ZJ at z; omega) ?_
  obtain ⟨⟨d1, d2, d3, d4, d5, d6, d7⟩, -⟩ := v
  have e7 : h'.1 6 7 = h.1 6 7 := by
    rw [dv_s 6 h' (by omega), dv_s 6 h (by omega)] at a5
    exact a5
  exact ⟨q3, q4, q5, q6, a6 d5, d6, e7.trans d7⟩
