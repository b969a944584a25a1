/-! the best row, in the class -/
noncomputable def pI (p : Prop) : Bool := @decide p (Classical.propDecidable p)
theorem pI_t {p : Prop} (h : p) : pI p = true := @decide_eq_true p (Classical.propDecidable p) h
theorem pI_f {p : Prop} (h : ¬ p) : pI p = false := @decide_eq_false p (Classical.propDecidable p) h
def V61 : Option (Nat × Nat) → Nat
  | none => 61
  | some (d, _) => d
def LG (a : AS) (i : Nat) : Prop := rK i = sK a ∧ ∀ j, j < rK i → sPl a (nI (rE i j)) ≠ none
def wF (O : OS) (a : AS) (i : Nat) : Option Nat := some (gN O 10 (core (sLash a i)))
def wH (O : OS) (a : AS) (i : Nat) : Option Nat := match sBrk O (sLash a i) with
  | none => some (sHeight O (sLash a i)).toNatClampNeg
  | some _ => none
noncomputable def wL (O : OS) (a : AS) (i : Nat) : Option Nat := match pI (LG a i) with
  | true => some (V61 (fB O (core (sLash a i)) 61 0))
  | false => none
noncomputable def wq (q : Nat) (O : OS) (a : AS) (i : Nat) : Option Nat := match q with
  | 0 => wF O a i
  | 1 => wH O a i
  | _ => wL O a i
noncomputable def wv (n q : Nat) (O : OS) (a : AS) (i : Nat) : Option Nat := match pI (vd n i) with
  | true => wq q O a i
  | false => none
abbrev SR : Type := Option (Nat × Nat)
def stp (w : Nat → Option Nat) (i : Nat) (s : SR) : SR := match w i with
  | none => s
  | some v => match s with
    | none => some (i, v)
    | some (j, u) => if v ≤ u then some (j, u) else some (i, v)
theorem stp_none {w : Nat → Option Nat} {i : Nat} (h : w i = none) (s : SR) : stp w i s = s := by unfold stp; rw [h]
theorem wv_inv {n q i : Nat} {O : OS} {a : AS} (h : ¬ vd n i) : wv n q O a i = none := by unfold wv; rw [pI_f h]
theorem wv_val {n q i : Nat} {O : OS} {a : AS} (h : vd n i) : wv n q O a i = wq q O a i := by unfold wv; rw [pI_t h]
/-- what stands in a state is worth what it says -/
def SB (w : Nat → Option Nat) (s : SR) : Prop := ∀ j u, s = some (j, u) → w j = some u ∧ j < 294 ∧ u < 1000000
theorem SB_stp {w : Nat → Option Nat} (hw : ∀ i v, w i = some v → v < 1000000) {i : Nat} (hi : i < 294) {s : SR} (h : SB w s) : SB w (stp w i s) := by
  unfold stp
  cases hv : w i with
  | none => exact h
  | some v =>
    cases s with
    | none => intro j u e; cases e; exact ⟨hv, hi, hw i v hv⟩
    | some x =>
      obtain ⟨j0, u0⟩ := x
      dsimp only
      by_cases z : v ≤ u0
      · rw [if_pos z]; exact h
      · rw [if_neg z]; intro j u e; cases e; exact ⟨hv, hi, hw i v hv⟩
def sM : SR → Int32
  | none => -5
  | some (_, u) => nI u
def sB : SR → Int32
  | none => -1
  | some (j, _) => nI j
theorem CS_step_p {O : OS} {d0 j : Nat} {c0 : AS} {h h' : HP} {v : Int32} (s : CS O 22 c0 d0 j h) (h1 : d0 + j + 1 < 1000000) (e : f_X1_dayGoes 22 h = some (v, h')) : h'.1 22 7 = h.1 22 7 := by
  obtain ⟨hC, w, hco, hw, hd, hg⟩ := s
  obtain ⟨g, e2, ev, fr⟩ := B1_day hC w.1 hd h1
  rw [e] at e2
  have : (dv 22 h').1 0 = (dv 22 h).1 0 := by rw [← (so2 e2).2, ev]; exact day_sc _ _ _ _ (by omega) (by omega) (by omega)
  rw [dv_s 22 h' (by omega), dv_s 22 h (by omega)] at this
  exact this
theorem B1_worth_L59 {O : OS} {c0 : AS} {d0 : Nat} (hd0 : d0 ≤ 9999) : ∀ (c d : Nat) (g : HP) (fuel : Nat), d + c = 10 → c < fuel → CS O 22 c0 d0 d g → ∃ g', f_X6_worth_L59 fuel (nI d) g = some (nI (gN O 10 c0), g') ∧ Fc (SD 22) g g' ∧ g'.1 22 7 = g.1 22 7 := by
  intro c
  induction c with
  | zero =>
    intro d g fuel hd hf s
    obtain ⟨f, rfl⟩ : ∃ f, fuel = f + 1 := ⟨fuel - 1, by omega⟩
    have : d = 10 := by omega
    subst this
    have hw : g.1 22 11 = nI (gN O 10 c0) := (dv_s 22 g (show 4 < 6 by omega)).symm.trans s.2.2.2.1
    refine ⟨g, ?_, Fc.rf, rfl⟩
    rw [f_X6_worth_L59, if_pos (by decide), hw]
  | succ c ih =>
    intro d g fuel hd hf s
    obtain ⟨f, rfl⟩ : ∃ f, fuel = f + 1 := ⟨fuel - 1, by omega⟩
    obtain ⟨g1, e1, s1, fr1⟩ := CS_step s (by omega) (by omega)
    obtain ⟨g2, e2, fr2, p2⟩ := ih (d + 1) g1 f (by omega) (by omega) s1
    rw [f_X6_worth_L59, if_neg (by rw [show (10 : Int32) = nI 10 from rfl, le_n (by omega) (by omega)]; omega), e1, bd_s, lt_e, one_n]
    exact ⟨g2, e2, fr1.trans fr2 (fun _ q => q) (fun _ q => q), p2.trans (CS_step_p s (by omega) e1)⟩
theorem B1_worth_L106 {O : OS} {c0 : AS} {d0 : Nat} (hd0 : d0 ≤ 9999) : ∀ (c d : Nat) (g : HP) (fuel : Nat), d + c = 61 → c < fuel → CS O 22 c0 d0 d g → ∃ g', f_X6_worth_L106 fuel (nI d) g = some (nI (V61 (fB O c0 c d)), g') ∧ Fc (SD 22) g g' ∧ g'.1 22 7 = g.1 22 7 := by
  intro c
  induction c with
  | zero =>
    intro d g fuel hd hf s
    obtain ⟨f, rfl⟩ : ∃ f, fuel = f + 1 := ⟨fuel - 1, by omega⟩
    refine ⟨g, ?_, Fc.rf, rfl⟩
    rw [f_X6_worth_L106, if_pos (by rw [show (60 : Int32) = nI 60 from rfl, lt_n (by omega) (by omega)]; omega)]
    rfl
  | succ c ih =>
    intro d g fuel hd hf s
    obtain ⟨f, rfl⟩ : ∃ f, fuel = f + 1 := ⟨fuel - 1, by omega⟩
    obtain ⟨g1, e1, s1, fr1⟩ := CS_step s (by omega) (by omega)
    have p1 := CS_step_p s (by omega) e1
    rw [f_X6_worth_L106, if_neg (by rw [show (60 : Int32) = nI 60 from rfl, lt_n (by omega) (by omega)]; omega)]
    cases hb : cBrk O (cN O d c0) with
    | none =>
      rw [hb] at e1
      have hfb : fB O c0 (c + 1) d = fB O c0 c (d + 1) := by simp only [fB, hb]
      obtain ⟨g2, e2, fr2, p2⟩ := ih (d + 1) g1 f (by omega) (by omega) s1
      refine ⟨g2, ?_, fr1.trans fr2 (fun _ q => q) (fun _ q => q), p2.trans p1⟩
      rw [hfb, e1, bd_s, if_pos (show rD none (-1) < 0 from neg1_lt), lt_e, one_n]
      exact e2
    | some p =>
      rw [hb] at e1
      have hfb : fB O c0 (c + 1) d = some (d, p) := by simp only [fB, hb]
      have hp := cBrk_lt s.2.1.1 s.2.2.1 hb
      refine ⟨g1, ?_, fr1, p1⟩
      rw [hfb, e1, bd_s, if_neg (show ¬ rD (some p) (-1) < 0 from not_neg (n := p) (by omega))]
      rfl
theorem B1_same {g : HP} {a : AS} {k i : Nat} (hk3 : k ≤ 3) (h8 : g.1 6 8 = nI k) (ha : dv 6 g = a) (hK : sK a = k) (t8 : g.1 22 8 = nI (rK i)) (tm : ∀ j, j < rK i → g.1 29 j = nI (rE i j)) : f_X1_standsOfTheSame 22 6 g = some (bI (pI (LG a i))) := by
  have k3 := (rK_le i).2
  have key : ∀ (c j fuel : Nat), j + c = rK i → c < fuel → (∀ x, x < j → sPl a (nI (rE i x)) ≠ none) → f_X1_standsOfTheSame_L2 22 6 g fuel (nI j) = some (bI (pI (LG a i))) := by
    intro c
    induction c with
    | zero =>
      intro j fuel hj hf hp
      obtain ⟨f, rfl⟩ : ∃ f, fuel = f + 1 := ⟨fuel - 1, by omega⟩
      rw [f_X1_standsOfTheSame_L2, t8, if_pos (by rw [le_n (by omega) (by omega)]; omega), h8]
      by_cases z : rK i = k
      · rw [if_pos (by rw [z]), pI_t ⟨by omega, fun x hx => hp x (by omega)⟩]; rfl
      · rw [if_neg (fun y => z ((eq_n (by omega) (by omega)).mp y)), pI_f (fun y => z (y.1.trans hK))]; rfl
    | succ c ih =>
      intro j fuel hj hf hp
      obtain ⟨f, rfl⟩ : ∃ f, fuel = f + 1 := ⟨fuel - 1, by omega⟩
      rw [f_X1_standsOfTheSame_L2, t8, if_neg (by rw [le_n (by omega) (by omega)]; omega), gd_b (inb_n (by omega) (by omega)), cl_n (by omega), tm j (by omega), B1_placeOf hk3 h8, bo_s, ha]
      cases hpl : sPl a (nI (rE i j)) with
      | none =>
        rw [if_neg (show ¬ (0 : Int32) ≤ rD none (-1) by decide), pI_f (fun y => y.2 j (by omega) hpl)]; rfl
      | some x =>
        have hx := (sPl_lt hpl).1
        rw [if_pos (show (0 : Int32) ≤ rD (some x) (-1) by show nI 0 ≤ nI x; rw [le_n (by omega) (by omega)]; omega), lt_e, one_n]
        refine ih (j + 1) f (by omega) (by omega) (fun y hy => ?_)
        by_cases e : y = j
        · subst e; rw [hpl]; simp
        · exact hp y (by omega)
  exact key (rK i) 0 FZ (by omega) (by have := FZ_ge; omega) (fun x hx => by omega)
theorem sBrk_set4 (O : OS) (a : AS) (v : Int32) : sBrk O (sSet a 4 v) = sBrk O a := by rw [← sBrk_core, core_set4, sBrk_core]
theorem sHeight_set4 (O : OS) (a : AS) (v : Int32) : sHeight O (sSet a 4 v) = sHeight O a := by rw [← sHeight_core, core_set4, sHeight_core]
def qI : Nat → Int32
  | 0 => 0
  | 1 => 1
  | _ => 2
theorem B1_worth {O : OS} {a : AS} {h : HP} {n q i : Nat} (hn : n ≤ 6) (ha0 : a.1 0 = nI n) (hi : i < 294) (qc : QC O h) (ha : dv 6 h = a) : ∃ g', f_X6_worth (qI q) (nI i) h = some (rD (wv n q O a i) (-5), g') ∧ FC h g' ∧ g'.1 22 7 = nI n := by
  obtain ⟨w0, d0, g, hw0, hd0, ew, ed, e, hC, ev, cs, fc⟩ := ask6 qc
  rw [ha] at ev ed
  have h7 : g.1 22 7 = nI n := by rw [← dv_s 22 g (show 0 < 6 by omega), ev, sSet_n _ _ (by omega)]; exact ha0
  obtain ⟨v, g2, e2, v1, v0, ev2, p7, p8, pm, fr⟩ := B1_lash (i := i) hn hi h7
  have fc2 : FC h g2 := fc.trans (FC.fc fr)
  unfold f_X6_worth
  rw [e, bo_s, e2, bd_s]
  rcases vd_dec n i with hv | hv
  · rw [v1 hv, if_neg one_ne, wv_val hv]
    rw [ev, ← sLash_set _ _ (by omega)] at ev2
    have wl := WFG_lash (by rw [← ha]; exact qc.2.g.1 : WFG a) hn hv
    have cs2 : CS O 22 (core (sLash a i)) d0 0 g2 := by
      have := CS_mk (d0 := d0) (hC.fr fr) ev2 (WFG_set wl (by omega) (by omega) (by omega)) (sSet_s _ _ _) ((sSet_n _ _ (by omega)).trans ((sLash_s a i (by omega)).trans ed))
      rw [core_set4] at this; exact this
    match q with
    | 0 =>
      rw [if_neg (show ¬ qI 0 = 1 by decide), if_pos (show qI 0 = 0 from rfl)]
      obtain ⟨g3, e3, fr3, p3⟩ := B1_worth_L59 hd0 10 0 g2 FZ (by omega) (by have := FZ_ge; omega) cs2
      exact ⟨g3, e3, fc2.trans (FC.fc fr3), p3.trans p7⟩
    | 1 =>
      rw [if_pos (show qI 1 = 1 from rfl)]
      obtain ⟨g3, e3, fr3⟩ := B1_breaking cs2.1 cs2.2.1.1
      have fr3' : Fc (SD 22) g2 g3 := fr3.mono (fun _ z => Or.inr z)
      have d3 : dv 22 g3 = dv 22 g2 := fr3.dv (fun c a b => notF_D (Or.inr (Or.inr rfl)) a b)
      have p3 : g3.1 22 7 = nI n := by rw [fr3.1 22 (by unfold isF; omega)]; exact p7
      rw [e3, bd_s]
      rw [ev2, sBrk_set4]
      show ∃ g', _ = some (rD (wH O a i) (-5), g') ∧ _
      unfold wH
      cases hb : sBrk O (sLash a i) with
      | none =>
        rw [if_neg (by decide), B1_height (cs2.1.fr fr3') (by rw [d3]; exact cs2.2.1.1), bo_s, d3, ev2, sHeight_set4]
        obtain ⟨t, ht, et⟩ := sHeight_n wl.1 (by obtain ⟨_, oc, _, hO⟩ := hC; exact hO.2.2.2.1 : ∃ la, la ≤ 99 ∧ O.2.1 = nI la)
        refine ⟨g3, ?_, fc2.trans (FC.fc fr3'), p3⟩
        show _ = some (nI (sHeight O (sLash a i)).toNatClampNeg, g3)
        rw [et, cl_n (by omega)]
      | some j =>
        have hj := sBrk_lt hb
        have hk : sK (sLash a i) = rK i := by unfold sK; rw [sLash_1, cl_n (by have := (rK_le i).2; omega)]
        have := (rK_le i).2
        rw [if_pos (show (0 : Int32) ≤ nI j from (le_n (a := 0) (by omega) (by omega)).mpr (by omega))]
        exact ⟨g3, rfl, fc2.trans (FC.fc fr3'), p3⟩
    | q + 2 =>
      rw [if_neg (show ¬ qI (q + 2) = 1 by show ¬ (2 : Int32) = 1; decide), if_neg (show ¬ qI (q + 2) = 0 by show ¬ (2 : Int32) = 0; decide)]
      obtain ⟨k, hk3, hk, hK, hm⟩ := qc.2.g.1.1.k
      rw [ha] at hk hK
      have h8 : g2.1 6 8 = nI k := by rw [← dv_s 6 g2 (show 1 < 6 by omega), fc2.d6, ha, hk]
      rw [B1_same hk3 h8 (fc2.d6.trans ha) hK p8 pm, bo_s]
      show ∃ g', _ = some (rD (wL O a i) (-5), g') ∧ _
      unfold wL
      cases pI (LG a i) with
      | false => rw [if_pos (show bI false = 0 from rfl)]; exact ⟨g2, rfl, fc2, p7⟩
      | true =>
        rw [if_neg (show ¬ bI true = 0 by decide)]
        obtain ⟨g3, e3, fr3, p3⟩ := B1_worth_L106 hd0 61 0 g2 FZ (by omega) (by have := FZ_ge; omega) cs2
        exact ⟨g3, e3, fc2.trans (FC.fc fr3), p3.trans p7⟩
  · rw [v0 hv, if_pos rfl, wv_inv hv]
    exact ⟨g2, rfl, fc2, p7⟩
theorem wv_lt {O : OS} {a : AS} {n q : Nat} (hn : n ≤ 6) (w : WFG a) (hl : ∃ la, la ≤ 99 ∧ O.2.1 = nI la) {d0 : Nat} (hd0 : d0 ≤ 9999) (hd : a.1 5 = nI d0) (hg : ∀ i, vd n i → gN O 10 (core (sLash a i)) < 1000000) : ∀ i v, wv n q O a i = some v → v < 1000000 := by
  intro i v h
  rcases vd_dec n i with hv | hv
  · rw [wv_val hv] at h
    match q with
    | 0 =>
      have h' : some (gN O 10 (core (sLash a i))) = some v := h
      rw [← Option.some.inj h']; exact hg i hv
    | 1 =>
      have h' : wH O a i = some v := h
      unfold wH at h'
      cases hb : sBrk O (sLash a i) with
      | none =>
        rw [hb] at h'
        obtain ⟨t, ht, et⟩ := sHeight_n (WFG_lash w hn hv).1 hl
        simp only [et, cl_n (show t < 2147483648 by omega)] at h'
        cases h'; omega
      | some j => rw [hb] at h'; cases h'
    | q + 2 =>
      have h' : wL O a i = some v := h
      unfold wL at h'
      cases hp : pI (LG a i) with
      | false => rw [hp] at h'; cases h'
      | true =>
        rw [hp] at h'
        have h2 : some (V61 (fB O (core (sLash a i)) 61 0)) = some v := h'
        rw [← Option.some.inj h2]
        generalize hf : fB O (core (sLash a i)) 61 0 = y
        cases y with
        | none => show 61 < 1000000; omega
        | some x =>
          obtain ⟨d, p⟩ := x
          have := fB_lt hf
          show d < 1000000; omega
  · rw [wv_inv hv] at h; cases h
theorem B1_bestRow_L8 {O : OS} {a : AS} {n q : Nat} (hn : n ≤ 6) (ha0 : a.1 0 = nI n) (hw : ∀ i v, wv n q O a i = some v → v < 1000000) : ∀ (c i : Nat) (s : SR) (h : HP) (fuel : Nat), i + c = 294 → c < fuel → QC O h → dv 6 h = a → SB (wv n q O a) s → ∃ h', f_X6_bestRow_L8 fuel (qI q) (sM s) (sB s) (nI i) h = some (sB (fo (stp (wv n q O a)) c i s), h') ∧ FC h h' ∧ (h'.1 22 7 = nI n ∨ c = 0 ∧ h' = h) ∧ SB (wv n q O a) (fo (stp (wv n q O a)) c i s) := by
  intro c
  induction c with
  | zero =>
    intro i s h fuel hi hf qc ha sb
    obtain ⟨f, rfl⟩ : ∃ f, fuel = f + 1 := ⟨fuel - 1, by omega⟩
    refine ⟨h, ?_, FC.rf, Or.inr ⟨rfl, rfl⟩, sb⟩
    rw [f_X6_bestRow_L8, if_pos (by rw [show (294 : Int32) = nI 294 from rfl, le_n (by omega) (by omega)]; omega)]
    rfl
  | succ c ih =>
    intro i s h fuel hi hf qc ha sb
    obtain ⟨f, rfl⟩ : ∃ f, fuel = f + 1 := ⟨fuel - 1, by omega⟩
    obtain ⟨g, e, fc, p⟩ := B1_worth (q := q) hn ha0 (show i < 294 by omega) qc ha
    obtain ⟨h', e', fc', p', sb'⟩ := ih (i + 1) (stp (wv n q O a) i s) g f (by omega) (by omega) (qc.fc fc) (fc.d6.trans ha) (SB_stp hw (by omega) sb)
    refine ⟨h', ?_, fc.trans fc', Or.inl (by rcases p' with p' | ⟨-, p'⟩; exact p'; rw [p']; exact p), sb'⟩
    rw [f_X6_bestRow_L8, if_neg (by rw [show (294 : Int32) = nI 294 from rfl, le_n (by omega) (by omega)]; omega), e, bd_s]
    show _ = some (sB (fo (stp (wv n q O a)) c (i + 1) (stp (wv n q O a) i s)), h')
    rw [← e']
    unfold stp
    cases hv : wv n q O a i with
    | none =>
      have : rD none (-5) ≤ sM s := by
        cases s with
        | none => decide
        | some x =>
          obtain ⟨j, u⟩ := x
          have := (sb j u rfl).2.2
          show (-5 : Int32) ≤ nI u
          rw [Int32.le_iff_toInt_le, nI_toInt (by omega)]
          have : (-5 : Int32).toInt = -5 := by decide
          omega
      rw [if_pos this, lt_e, one_n]
    | some v =>
      have hv6 := hw i v hv
      cases s with
      | none =>
        rw [if_neg (show ¬ rD (some v) (-5) ≤ sM none by
          show ¬ nI v ≤ (-5 : Int32)
          rw [Int32.le_iff_toInt_le, nI_toInt (by omega)]
          have : (-5 : Int32).toInt = -5 := by decide
          omega), lt_e, one_n]
        rfl
      | some x =>
        obtain ⟨j, u⟩ := x
        have hu := (sb j u rfl).2.2
        dsimp only
        by_cases z : v ≤ u
        · rw [if_pos (show rD (some v) (-5) ≤ sM (some (j, u)) from (le_n (by omega) (by omega)).mpr z), if_pos z, lt_e, one_n]
        · rw [if_neg (show ¬ rD (some v) (-5) ≤ sM (some (j, u)) from fun y => z ((le_n (by omega) (by omega)).mp y)), if_neg z, lt_e, one_n]
          rfl
def bR (s : SR) (k : Nat) : Int32 := match s with
  | none => -5
  | some (j, u) => if k = 3 then nI u else if rK j ≤ k then -5 else nI (rE j k)
theorem B1_worth_m1 {O : OS} {h : HP} (qc : QC O h) (q : Int32) : ∃ g', f_X6_worth q (-1) h = some (-5, g') ∧ FC h g' := by
  obtain ⟨w0, d0, g, hw0, hd0, ew, ed, e, hC, ev, cs, fc⟩ := ask6 qc
  refine ⟨g, ?_, fc⟩
  unfold f_X6_worth f_X1_lashRow
  rw [e, bo_s, if_pos neg1_lt, bd_s, if_pos rfl]
/-- the row that was found, laid in the trial: its k-th -/
theorem B1_kth {n k : Nat} {w : Nat → Option Nat} {s : SR} {g : HP} (hn : n ≤ 6) (hk : k < 3) (h7 : g.1 22 7 = nI n) (sb : SB w s) (hv : ∀ j u, w j = some u → vd n j) : ∃ g', (bd (f_X1_lashRow 22 (sB s) g) fun v16 g14 => if v16 = 0 then (some ((-5), g14)) else (if (g14.1 22 8) ≤ nI k then (some ((-5), g14)) else (gd (inb (nI k) 3) (some ((g14.1 29 (Int32.toNatClampNeg (nI k))), g14))))) = some (bR s k, g') ∧ Fc (SD 22) g g' := by
  cases s with
  | none =>
    refine ⟨g, ?_, Fc.rf⟩
    show (bd (f_X1_lashRow 22 (-1) g) _) = _
    unfold f_X1_lashRow
    rw [if_pos neg1_lt, bd_s, if_pos rfl]; rfl
  | some x =>
    obtain ⟨j, u⟩ := x
    obtain ⟨b1, b2, b3⟩ := sb j u rfl
    obtain ⟨v, g2, e2, v1, v0, ev2, p7, p8, pm, fr⟩ := B1_lash (i := j) hn b2 h7
    have k3 := (rK_le j).2
    refine ⟨g2, ?_, fr⟩
    show (bd (f_X1_lashRow 22 (nI j) g) _) = _
    rw [e2, bd_s, v1 (hv j u b1), if_neg one_ne, p8]
    unfold bR
    dsimp only
    rw [if_neg (show ¬ k = 3 by omega)]
    by_cases z : rK j ≤ k
    · rw [if_pos ((le_n (by omega) (by omega)).mpr z), if_pos z]
    · rw [if_neg (fun y => z ((le_n (by omega) (by omega)).mp y)), if_neg z, gd_b (inb_n hk (by omega)), cl_n (by omega), pm k (by omega)]
theorem wv_vd {n q : Nat} {O : OS} {a : AS} : ∀ j u, wv n q O a j = some u → vd n j := by
  intro j u h
  rcases vd_dec n j with hv | hv
  · exact hv
  · rw [wv_inv hv] at h; cases h
theorem SB_none {w : Nat → Option Nat} : SB w none := fun j u e => by cases e
theorem gN_lash {O : OS} {a : AS} {n : Nat} (hn : n ≤ 6) (w : WFG a) (hl : ∃ la, la ≤ 99 ∧ O.2.1 = nI la) {d0 : Nat} (hd0 : d0 ≤ 9999) (hd : a.1 5 = nI d0) : ∀ i, vd n i → gN O 10 (core (sLash a i)) < 1000000 := by
  intro i hv
  have wl := WFG_lash w hn hv
  have key : ∀ j, j ≤ 10 → ∃ b, WFG b ∧ core b = cN O j (core (sLash a i)) ∧ b.1 4 = nI (gN O j (core (sLash a i))) ∧ b.1 5 = nI (d0 + j) ∧ gN O j (core (sLash a i)) ≤ 267 * j := by
    intro j
    induction j with
    | zero =>
      intro _
      refine ⟨sSet (sLash a i) 4 0, WFG_set wl (by omega) (by omega) (by omega), core_set4 _, sSet_s _ _ _, (sSet_n _ _ (by omega)).trans ((sLash_s a i (by omega)).trans hd), Nat.le_refl _⟩
    | succ j ih =>
      intro hj
      obtain ⟨b, b1, b2, b3, b4, b5⟩ := ih (by omega)
      obtain ⟨q1, q2, q3, q4⟩ := day_more (cm := 99999) (cb := 9999) (cmn := 99999) rfl (by omega) (w0 := 0) hl b1 b2 (by rw [Nat.zero_add]; exact b3) b4 (by omega) (by omega)
      refine ⟨_, q1, q2, by rw [q3, Nat.zero_add], q4, ?_⟩
      have := cGain_le hl b1 b2
      simp only [gN]; omega
  obtain ⟨b, -, -, -, -, b5⟩ := key 10 (Nat.le_refl _)
  omega
/-- the best row as both must find it -/
noncomputable def bestS (n q : Nat) (O : OS) (a : AS) : SR := fo (stp (wv n q O a)) 294 0 none
theorem B1_best {O : OS} {h : HP} {n q k : Nat} (hn : n ≤ 6) (qc : QC O h) (h0 : (dv 6 h).1 0 = nI n) (hk : k ≤ 3) (hq : q ≤ 1) : ∃ g', f_X6_best (nI q) (nI k) h = some (bR (bestS n q O (dv 6 h)) k, g') ∧ FC h g' := by
  obtain ⟨wg, w0, d0, hw0, hd0, ew, ed⟩ := qc.2.g
  have hl : ∃ la, la ≤ 99 ∧ O.2.1 = nI la := by obtain ⟨_, oc, _, hO⟩ := qc.1; exact hO.2.2.2.1
  have hw := wv_lt (q := q) hn wg hl hd0 ed (gN_lash hn wg hl hd0 ed)
  obtain ⟨g, e, fc, p, sb⟩ := B1_bestRow_L8 (q := q) hn h0 hw 294 0 none h FZ (by omega) (by have := FZ_ge; omega) qc rfl SB_none
  have p7 : g.1 22 7 = nI n := by
    rcases p with p | ⟨p, -⟩
    · exact p
    · omega
  have eq : qI q = nI q := by
    have : q = 0 ∨ q = 1 := by omega
    rcases this with rfl | rfl <;> rfl
  have r1 : rng (nI q) 0 1 = 1 := by
    have : q = 0 ∨ q = 1 := by omega
    rcases this with rfl | rfl <;> decide
  have r2 : rng (nI k) 0 3 = 1 := by
    have : k = 0 ∨ k = 1 ∨ k = 2 ∨ k = 3 := by omega
    rcases this with rfl | rfl | rfl | rfl <;> decide
  rw [eq] at e
  have e' : f_X6_bestRow (nI q) h = some (sB (bestS n q O (dv 6 h)), g) := e
  unfold f_X6_best
  rw [E_within, bo_s, r1, if_neg one_ne, E_within, bo_s, r2, if_neg one_ne, e', bd_s]
  have sb' : SB (wv n q O (dv 6 h)) (bestS n q O (dv 6 h)) := sb
  by_cases z : k = 3
  · subst z
    rw [if_pos (show nI 3 = 3 from rfl)]
    cases hs : bestS n q O (dv 6 h) with
    | none =>
      obtain ⟨g2, e2, fc2⟩ := B1_worth_m1 (qc.fc fc) (nI q)
      refine ⟨g2, ?_, fc.trans fc2⟩
      show bd (f_X6_worth (nI q) (-1) g) _ = _
      rw [e2, bd_s]; rfl
    | some x =>
      obtain ⟨j, u⟩ := x
      obtain ⟨b1, b2, b3⟩ := sb' j u hs
      obtain ⟨g2, e2, fc2, -⟩ := B1_worth (q := q) hn h0 b2 (qc.fc fc) fc.d6
      rw [eq, b1] at e2
      refine ⟨g2, ?_, fc.trans fc2⟩
      show bd (f_X6_worth (nI q) (nI j) g) _ = _
      rw [e2, bd_s]; rfl
  · obtain ⟨g2, e2, fr2⟩ := B1_kth (k := k) hn (by omega) p7 sb' wv_vd
    refine ⟨g2, ?_, fc.trans (FC.fc fr2)⟩
    rw [if_neg (show ¬ nI k = 3 from fun y => z ((eq_n (b := 3) (by omega) (by omega)).mp y))]
    exact e2
