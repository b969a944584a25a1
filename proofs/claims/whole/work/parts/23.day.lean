/-! a day, pure facts -/
theorem sSet_s (a : AS) (j : Nat) (v : Int32) : (sSet a j v).1 j = v := if_pos rfl
theorem sSet_n (a : AS) {i j : Nat} (v : Int32) (h : i ≠ j) : (sSet a j v).1 i = a.1 i := if_neg h
theorem sPut_n (a : AS) {i j y : Nat} (v : Int32) (h : y ≠ i) : (sPut a i j v).2 y = a.2 y := if_neg h
theorem sPut_w (a : AS) (i j : Nat) (v : Int32) : (sPut a i j v).2 i = va_up (a.2 i) j v := if_pos rfl
theorem sCut_s (a : AS) (k : Nat) : (sCut a k).1 1 = nI k := up_s a.1 1 (nI k)
theorem sCut_n (a : AS) {k i : Nat} (h : i ≠ 1) : (sCut a k).1 i = a.1 i := if_neg h
theorem sCut_m (a : AS) (k : Nat) : (sCut a k).2 6 = fun j => if j < k then a.2 6 j else 0 := up_s a.2 6 _
theorem sCut_r (a : AS) {k i : Nat} (h : i ≠ 6) : (sCut a k).2 i = a.2 i := if_neg h
theorem sSum_cong {a b : AS} (h2 : a.2 2 = b.2 2) (h6 : a.2 6 = b.2 6) : ∀ c i s, sSum a c i s = sSum b c i s := by
  intro c
  induction c with
  | zero => intro i s; rfl
  | succ c ih => intro i s; simp only [sSum, h2, h6, ih]
theorem sAbove_cong {O : OS} {a b : AS} (h1 : a.1 1 = b.1 1) (h2 : a.2 2 = b.2 2) (h6 : a.2 6 = b.2 6) (i : Nat) : sAbove O a i = sAbove O b i := by
  unfold sAbove sK; rw [h1, sSum_cong h2 h6]
theorem sHeight_cong {O : OS} {a b : AS} (h1 : a.1 1 = b.1 1) (h2 : a.2 2 = b.2 2) (h6 : a.2 6 = b.2 6) : sHeight O a = sHeight O b := by
  simp only [sHeight, h1, sAbove_cong h1 h2 h6]
theorem sLoad_cong {O : OS} {a b : AS} (h1 : a.1 1 = b.1 1) (hs : a.1 2 = b.1 2) (ht : a.1 3 = b.1 3) (h2 : a.2 2 = b.2 2) (h6 : a.2 6 = b.2 6) (i : Nat) : sLoad O a i = sLoad O b i := by
  simp only [sLoad, hs, ht, sAbove_cong h1 h2 h6]
theorem sMiles_cong {O : OS} {a b : AS} (h1 : a.1 1 = b.1 1) (hs : a.1 2 = b.1 2) (h2 : a.2 2 = b.2 2) (h6 : a.2 6 = b.2 6) : sMiles O a = sMiles O b := by
  simp only [sMiles, hs, sHeight_cong h1 h2 h6]
theorem sBrkF_lt {O : OS} {a : AS} : ∀ {c i j}, sBrkF O a c i = some j → i ≤ j ∧ j < i + c := by
  intro c
  induction c with
  | zero => intro i j h; cases h
  | succ c ih =>
    intro i j h
    simp only [sBrkF] at h
    split at h
    · have := ih h; omega
    · cases h; omega
theorem sBrk_lt {O : OS} {a : AS} {j : Nat} (h : sBrk O a = some j) : j < sK a := by
  have := sBrkF_lt h; omega
theorem WFE_set5 {a : AS} {d : Nat} (w : WFE a) (hd : d < 1000000) : WFE (sSet a 5 (nI d)) := by
  obtain ⟨⟨k, h1, h2, h3⟩, h4, -⟩ := w
  exact ⟨⟨k, h1, (sSet_n a _ (by omega)).trans h2, h3⟩, h4, d, hd, sSet_s _ _ _⟩
theorem WFE_set {a : AS} {j : Nat} {v : Int32} (w : WFE a) (h1 : j ≠ 1) (h5 : j ≠ 5) : WFE (sSet a j v) := by
  obtain ⟨⟨k, q1, q2, q3⟩, q4, d, q5, q6⟩ := w
  exact ⟨⟨k, q1, (sSet_n a _ (by omega)).trans q2, q3⟩, q4, d, q5, (sSet_n a _ (by omega)).trans q6⟩
theorem WFE_put {a : AS} {i j : Nat} {v : Int32} (w : WFE a) (h2 : i ≠ 2) (h6 : i ≠ 6) : WFE (sPut a i j v) := by
  obtain ⟨⟨k, q1, q2, q3⟩, q4, q5⟩ := w
  have e6 : (sPut a i j v).2 6 = a.2 6 := sPut_n _ _ (by omega)
  have e2 : (sPut a i j v).2 2 = a.2 2 := sPut_n _ _ (by omega)
  exact ⟨⟨k, q1, q2, by rw [e6]; exact q3⟩, by rw [e2]; exact q4, q5⟩
theorem WFE_len {a : AS} {j l : Nat} (w : WFE a) (hl : l ≤ 99) : WFE (sPut a 2 j (nI l)) := by
  obtain ⟨⟨k, q1, q2, q3⟩, q4, q5⟩ := w
  have e6 : (sPut a 2 j (nI l)).2 6 = a.2 6 := sPut_n _ _ (by omega)
  refine ⟨⟨k, q1, q2, by rw [e6]; exact q3⟩, fun p hp => ?_, q5⟩
  rw [sPut_w]
  by_cases e : p = j
  · subst e; exact ⟨l, hl, up_s _ _ _⟩
  · rw [up_n _ _ e]; exact q4 p hp
theorem WFE_cut {a : AS} {i : Nat} (w : WFE a) (hi : i ≤ sK a) : WFE (sCut a i) := by
  obtain ⟨k, q1, q2, qK, q3⟩ := w.k
  obtain ⟨-, q4, d, q5, q6⟩ := w
  refine ⟨⟨i, by omega, sCut_s _ _, fun j hj => ?_⟩, by rw [sCut_r a (by omega)]; exact q4, d, q5, (sCut_n a (by omega)).trans q6⟩
  rw [sCut_m]
  show ∃ m, m < 6 ∧ (if j < i then a.2 6 j else 0) = nI m
  rw [if_pos hj]
  exact q3 j (by omega)
theorem WFE_wearF {O : OS} : ∀ (c i : Nat) (a : AS), WFE a → WFE (sWearF O c i a) := by
  intro c
  induction c with
  | zero => intro i a w; exact w
  | succ c ih => intro i a w; exact ih _ _ (WFE_put w (by omega) (by omega))
theorem half_n {l : Nat} (h : l ≤ 99) : nI l / 2 = nI (l / 2) := div_n (a := l) (b := 2) (by omega) (by omega) (by omega)
theorem one_n (d : Nat) : nI d + 1 = nI (d + 1) := nI_1 d
theorem WFE_day {cm cb : Int32} {O : OS} {a : AS} {d : Nat} (w : WFE a) (hd : a.1 5 = nI d) (h1 : d + 1 < 1000000) : WFE (sDay cm cb O a).2 ∧ (sDay cm cb O a).2.1 5 = nI (d + 1) := by
  have e5 : a.1 5 + 1 = nI (d + 1) := by rw [hd, one_n]
  unfold sDay
  rw [e5]
  have w5 := WFE_set5 w h1
  cases hb : sBrk O a with
  | none =>
    refine ⟨WFE_wearF _ _ _ (WFE_set w5 (by omega) (by omega)), ?_⟩
    have key : ∀ (c i : Nat) (b : AS), (sWearF O c i b).1 = b.1 := by
      intro c
      induction c with
      | zero => intro i b; rfl
      | succ c ih => intro i b; simp only [sWearF, ih]; rfl
    show (sWearF O _ _ _).1 5 = _
    rw [key]
    exact (sSet_n _ _ (by omega)).trans (sSet_s _ _ _)
  | some i =>
    obtain ⟨k, q1, q2, qK, q3⟩ := w.k
    have hi := sBrk_lt hb
    obtain ⟨m, hm6, hm⟩ := q3 i (by omega)
    obtain ⟨l, hl, hlen⟩ := w.2.1 m hm6
    dsimp only
    rw [hm, cl_n (by omega), hlen, half_n hl]
    refine ⟨WFE_cut (WFE_put (WFE_put (WFE_len w5 (by omega)) (by omega) (by omega)) (by omega) (by omega)) ?_, (sCut_n _ (by omega)).trans (sSet_s a 5 (nI (d + 1)))⟩
    show i ≤ ((sSet a 5 (nI (d + 1))).1 1).toNatClampNeg
    rw [sSet_n _ _ (by omega)]
    exact Nat.le_of_lt hi
def rD (x : Option Nat) (n : Int32) : Int32 := match x with
  | none => n
  | some p => nI p
theorem wearF_sc {O : OS} : ∀ (c i : Nat) (b : AS), (sWearF O c i b).1 = b.1 ∧ ∀ j, j ≠ 3 → (sWearF O c i b).2 j = b.2 j := by
  intro c
  induction c with
  | zero => intro i b; exact ⟨rfl, fun _ _ => rfl⟩
  | succ c ih =>
    intro i b
    refine ⟨(ih _ _).1, fun j hj => ((ih _ _).2 j hj).trans (sPut_n _ _ hj)⟩
theorem B1_day_L94 {O : OS} {o k : Nat} (hk3 : k ≤ 3) : ∀ (c i : Nat) (h : HP) (fuel : Nat), i + c = k → c < fuel → CD O o h → WFE (dv o h) → (dv o h).1 1 = nI k → ∃ h', f_X1_dayGoes_L94 o fuel (nI i) h = some (-1, h') ∧ dv o h' = sWearF O c i (dv o h) ∧ Fc (SD o) h h' := by
  intro c
  induction c with
  | zero =>
    intro i h fuel hi hf hC w hk
    obtain ⟨f, rfl⟩ : ∃ f, fuel = f + 1 := ⟨fuel - 1, by omega⟩
    rw [dv_s o h (by omega)] at hk
    refine ⟨h, ?_, rfl, Fc.rf⟩
    rw [f_X1_dayGoes_L94, if_pos (by rw [show h.1 o 8 = nI k from hk, le_n (by omega) (by omega)]; omega)]
  | succ c ih =>
    intro i h fuel hi hf hC w hk
    obtain ⟨f, rfl⟩ : ∃ f, fuel = f + 1 := ⟨fuel - 1, by omega⟩
    have hk' := hk
    rw [dv_s o h (by omega)] at hk'
    obtain ⟨k2, hk2, e2, hK, hm⟩ := w.k
    have : k2 = k := by rw [hk] at e2; exact (eq_n (by omega) (by omega)).mp e2.symm
    subst this
    obtain ⟨m, hm6, hmi⟩ := hm i (by omega)
    have hmi' := hmi
    rw [dv_m o h hk3 hk' (by omega)] at hmi'
    have hput := dv_put (o := o) (h := h) (i := 3) (j := m) (v := mn (h.1 (o + 4) m + sLoad O (dv o h) i / 10) 99) (by omega) hm6
    have hS : SD o (o + 4) := Or.inl ⟨by omega, by omega⟩
    rw [f_X1_dayGoes_L94, if_neg (by rw [show h.1 o 8 = nI k2 from hk', le_n (by omega) (by omega)]; omega), gd_b (inb_n (by omega) (by omega)), cl_n (by omega), hmi', lt_e, gd_b (inb_n hm6 (by omega)), B1_load hC w (by omega), bo_s, gd_b (inb_n hm6 (by omega)), lt_e, lt_e, cl_n (show m < 2147483648 by omega), one_n]
    obtain ⟨g, e, ev, fr⟩ := ih (i + 1) (si h (o + 4) m (mn (h.1 (o + 4) m + sLoad O (dv o h) i / 10) 99)) f (by omega) (by omega) (hC.fr (Fc.si hS)) (by rw [hput]; exact WFE_put w (by omega) (by omega)) (by rw [hput]; exact hk)
    refine ⟨g, e, ?_, (Fc.si hS).trans fr (fun _ q => q) (fun _ q => q)⟩
    rw [ev, hput]
    simp only [sWearF, hmi, cl_n (show m < 2147483648 by omega), dv_a o h (show 3 < 5 by omega) hm6]
theorem B1_day {O : OS} {o d : Nat} {h : HP} (hC : CD O o h) (w : WFE (dv o h)) (hd : (dv o h).1 5 = nI d) (hd1 : d + 1 < 1000000) : ∃ h', f_X1_dayGoes o h = some (rD (sDay 99999 9999 O (dv o h)).1 (-1), h') ∧ dv o h' = (sDay 99999 9999 O (dv o h)).2 ∧ Fc (SD o) h h' := by
  obtain ⟨g1, e1, fr1⟩ := B1_breaking hC w
  have hv1 : dv o g1 = dv o h := fr1.dv (fun c a b => notF_D hC.1 a b)
  have hS : ∀ i, i ≤ 7 → SD o (o + i) := fun i hi => Or.inl ⟨by omega, by omega⟩
  have hS0 : SD o o := Or.inl ⟨by omega, by omega⟩
  have fr1' : Fc (SD o) h g1 := fr1.mono (fun _ q => Or.inr q)
  have hday : g1.1 o 12 + 1 = nI (d + 1) := by
    have := hd; rw [← hv1, dv_s o g1 (by omega)] at this
    rw [show g1.1 o 12 = nI d from this, one_n]
  have hday2 : (dv o h).1 5 + 1 = nI (d + 1) := by rw [hd, one_n]
  have hv4 : dv o (si g1 o 12 (nI (d + 1))) = sSet (dv o h) 5 (nI (d + 1)) := by
    have := dv_set (o := o) (h := g1) (j := 5) (v := nI (d + 1)) (by omega) (by omega)
    rw [hv1] at this; exact this
  have fr4 : Fc (SD o) h (si g1 o 12 (nI (d + 1))) := fr1'.trans (Fc.si hS0) (fun _ q => q) (fun _ q => q)
  have hC4 := hC.fr fr4
  have w4 : WFE (dv o (si g1 o 12 (nI (d + 1)))) := by rw [hv4]; exact WFE_set5 w hd1
  obtain ⟨k, hk3, hk, hK, hm⟩ := w.k
  unfold f_X1_dayGoes
  rw [e1, bd_s, lt_e, hday]
  unfold sDay
  rw [hday2]
  generalize hg4 : si g1 o 12 (nI (d + 1)) = g4 at hv4 fr4 hC4 w4 ⊢
  cases hb : sBrk O (dv o h) with
  | none =>
    dsimp only
    rw [if_pos (by decide), B1_miles hC4 w4, bo_s, lt_e]
    have hmil : sMiles O (dv o g4) = sMiles O (dv o h) := by rw [hv4]; exact sMiles_cong (sSet_n _ _ (by omega)) (sSet_n _ _ (by omega)) rfl rfl
    have hwent : g4.1 o 11 = (dv o h).1 4 := by
      have := dv_s o g4 (show 4 < 6 by omega); rw [hv4] at this; exact this.symm.trans (sSet_n _ _ (by omega))
    rw [hmil, hwent]
    have hv9 : dv o (si g4 o 11 (mn ((dv o h).1 4 + sMiles O (dv o h)) 99999)) = sSet (sSet (dv o h) 5 (nI (d + 1))) 4 (mn ((dv o h).1 4 + sMiles O (dv o h)) 99999) := by
      have := dv_set (o := o) (h := g4) (j := 4) (v := mn ((dv o h).1 4 + sMiles O (dv o h)) 99999) (by omega) (by omega)
      rw [hv4] at this; exact this
    obtain ⟨g, e, ev, fr⟩ := B1_day_L94 (O := O) (o := o) hk3 k 0 (si g4 o 11 (mn ((dv o h).1 4 + sMiles O (dv o h)) 99999)) FZ (by omega) (by have := FZ_ge; omega) (hC4.fr (Fc.si hS0)) (by rw [hv9]; exact WFE_set (WFE_set5 w hd1) (by omega) (by omega)) (by rw [hv9]; exact (sSet_n _ _ (by omega)).trans ((sSet_n _ _ (by omega)).trans hk))
    refine ⟨g, e, ?_, (fr4.trans (Fc.si hS0) (fun _ q => q) (fun _ q => q)).trans fr (fun _ q => q) (fun _ q => q)⟩
    rw [ev, hv9, hK]
  | some i =>
    have hi := sBrk_lt hb
    rw [hK] at hi
    obtain ⟨m, hm6, hmi⟩ := hm i hi
    dsimp only
    have hk4 : g4.1 o 8 = nI k := by
      have := dv_s o g4 (show 1 < 6 by omega); rw [hv4] at this; exact this.symm.trans ((sSet_n _ _ (by omega)).trans hk)
    have hm4 : g4.1 (o + 7) i = nI m := by
      rw [← dv_m o g4 hk3 hk4 hi, hv4]; exact hmi
    have hl4 : g4.1 (o + 3) m = (dv o h).2 2 m := by
      have := dv_a o g4 (show 2 < 5 by omega) hm6; rw [hv4] at this; exact this.symm
    have hb4 : g4.1 (o + 5) m = (dv o h).2 4 m := by
      have := dv_a o g4 (show 4 < 5 by omega) hm6; rw [hv4] at this; exact this.symm
    rw [if_neg (by rw [show (0 : Int32) = nI 0 from rfl, lt_n (by omega) (by omega)]; omega), gd_b (inb_n (by omega) (by omega)), cl_n (show i < 2147483648 by omega), lt_e, hm4]
    simp only [gd_b (inb_n hm6 (show (6 : Nat) < 2147483648 by omega)), cl_n (show m < 2147483648 by omega), lt_e, hl4, si_r (show o + 5 ≠ o + 4 by omega), si_r (show o + 5 ≠ o + 3 by omega), hb4, hmi]
    refine ⟨_, rfl, ?_, ?_⟩
    · have p1 := dv_put (o := o) (h := g4) (i := 2) (j := m) (v := (dv o h).2 2 m / 2) (by omega) hm6
      have p2 := dv_put (o := o) (h := si g4 (o + 3) m ((dv o h).2 2 m / 2)) (i := 3) (j := m) (v := 0) (by omega) hm6
      have p3 := dv_put (o := o) (h := si (si g4 (o + 3) m ((dv o h).2 2 m / 2)) (o + 4) m 0) (i := 4) (j := m) (v := mn ((dv o h).2 4 m + 1) 9999) (by omega) hm6
      have p4 := dv_cut (o := o) (h := si (si (si g4 (o + 3) m ((dv o h).2 2 m / 2)) (o + 4) m 0) (o + 5) m (mn ((dv o h).2 4 m + 1) 9999)) (k := k) (i := i) hk3 (by rw [si_r (by omega), si_r (by omega), si_r (by omega)]; exact hk4) (by omega)
      rw [p3, p2, p1, hv4] at p4
      exact p4
    · exact (((fr4.trans (Fc.si (hS 3 (by omega))) (fun _ q => q) (fun _ q => q)).trans (Fc.si (hS 4 (by omega))) (fun _ q => q) (fun _ q => q)).trans (Fc.si (hS 5 (by omega))) (fun _ q => q) (fun _ q => q)).trans (Fc.si hS0) (fun _ q => q) (fun _ q => q)
