/-! ocean: both sides -/
theorem IMGq.kp0 {S J L R : Nat → Prop} {m m' : Nat} {T T' : Nat → OS} {h h' : HP} (o : IMGq m T h) (f : Kq S J L R h h') (h0 : h'.1 0 9 = h.1 0 9) (h1 : ∀ c, 14 ≤ c → c ≤ 21 → ¬ S c) (h2 : ∀ c, 39 ≤ c → c ≤ 47 → ¬ S c) (h3 : ∀ c, 127 ≤ c → c ≤ 139 → ¬ S c) (hJ : ∀ j, 57 ≤ j → j ≤ 67 → ¬ J j) (hR : ¬ R 14) (hC : ∀ O oc the, CURq O m T oc the → CURq O m' T' oc the) : IMGq m' T' h' := by
  have e1 : h'.1 96 57 = h.1 96 57 := f.2.1 57 (hJ _ (by omega) (by omega))
  rcases o with ⟨a, b⟩ | ⟨a, b, n, O, q1, q2, q3, q4, q5, q6, q7, q8, q9⟩
  · exact Or.inl ⟨h0.trans a, e1.trans b⟩
  · have d : dv 14 h' = dv 14 h := dv_fr (fun c a b => f.1 c (by omega) (h1 c a (by omega)))
    have i : iv h' = iv h := iv_fr (fun j _ => f.2.1 _ (hJ _ (by omega) (by omega))) (fun c a b => f.1 c (by omega) (h3 c a (by omega)))
    exact Or.inr ⟨h0.trans a, e1.trans b, n, O, by rw [d, i]; exact q1, by rw [d]; exact q2, by rw [d]; exact q3, q4, by rw [f.1 14 (by omega) (h1 _ (by omega) (by omega))]; exact q5, by rw [f.2.2.2 14 hR, f.2.1 58 (hJ _ (by omega) (by omega))]; exact hC _ _ _ q6,
      q7.kp f (by omega) (by omega) (fun c a b => h2 c (by omega) (by omega)) (fun c a b => h3 c (by omega) (by omega)) (hJ _ (by omega) (by omega)),
      q8.kp f (by omega) (by omega) (fun c a b => h2 c (by omega) (by omega)) (fun c a b => h3 c (by omega) (by omega)) (hJ _ (by omega) (by omega)),
      q9.kp f (by omega) (by omega) (fun c a b => h2 c (by omega) (by omega)) (fun c a b => h3 c (by omega) (by omega)) (hJ _ (by omega) (by omega))⟩
def SOq (m c : Nat) : Prop := c = 0 ∨ c = 79 ∨ (49 + 5 * m ≤ c ∧ c ≤ 49 + 5 * m + 3) ∨ (105 ≤ c ∧ c ≤ 111)
def JOq (j : Nat) : Prop := (13 ≤ j ∧ j ≤ 17) ∨ (26 ≤ j ∧ j ≤ 28)
def ROq (c : Nat) : Prop := c = 6 ∨ c = 79
theorem IVq.oce {O O' : OS} {n m m' : Nat} {T T' : Nat → OS} {h h' : HP} (v : IVq O n m T h) (hm : m < 6) (f : Kq (SOq m) JOq N_q ROq h h') (h09 : h'.1 0 9 = h.1 0 9) (t' : TXTq h') (hC : ∀ O oc the, CURq O m T oc the → CURq O m' T' oc the) (o' : OCNq O' m' T' h') : IVq O' n m' T' h' := by
  obtain ⟨d, o, s, p, b, i, t, a, tp⟩ := v
  have cc : ∀ c, c ≠ 0 → c ≠ 79 → ¬ (49 ≤ c ∧ c ≤ 78) → ¬ (105 ≤ c ∧ c ≤ 111) → ¬ SOq m c := fun c h0 h1 h2 h3 z => by unfold SOq at z; omega
  exact ⟨d.kp f (fun c _ _ => cc c (by omega) (by omega) (by omega) (by omega)) (fun c _ _ => cc c (by omega) (by omega) (by omega) (by omega)) (fun j _ => by unfold JOq; omega) (by unfold JOq; omega) (by unfold JOq; omega),
    o',
    s.kp f (by omega) (by omega) (fun c _ _ => cc c (by omega) (by omega) (by omega) (by omega)) (fun c _ _ => cc c (by omega) (by omega) (by omega) (by omega)) (by unfold JOq; omega),
    p.kp f (by omega) (by omega) (fun c _ _ => cc c (by omega) (by omega) (by omega) (by omega)) (fun c _ _ => cc c (by omega) (by omega) (by omega) (by omega)) (by unfold JOq; omega),
    b.kp f (by omega) (by omega) (fun c _ _ => cc c (by omega) (by omega) (by omega) (by omega)) (fun c _ _ => cc c (by omega) (by omega) (by omega) (by omega)) (by unfold JOq; omega),
    i.kp0 f h09 (fun c _ _ => cc c (by omega) (by omega) (by omega) (by omega)) (fun c _ _ => cc c (by omega) (by omega) (by omega) (by omega)) (fun c _ _ => cc c (by omega) (by omega) (by omega) (by omega)) (fun j _ _ => by unfold JOq; omega) (by unfold ROq; omega) hC,
    t', a.kp f (cc _ (by omega) (by omega) (by omega) (by omega)) (cc _ (by omega) (by omega) (by omega) (by omega)) (cc _ (by omega) (by omega) (by omega) (by omega)) (by unfold JOq; omega),
    tp.kp f (fun c _ _ => ⟨cc c (by omega) (by omega) (by omega) (by omega), fun z => z⟩) (fun c _ _ => ⟨cc c (by omega) (by omega) (by omega) (by omega), fun z => z⟩)⟩
/-- what stays of the oceans read before -/
theorem OCNq.old {O : OS} {m : Nat} {T : Nat → OS} {h h' : HP} (o : OCNq O m T h) (hm : m < 6) (f : Kq (SOq m) JOq N_q ROq h h') (g105 : ∀ j, j ≠ m → h'.1 105 j = h.1 105 j) (g106 : ∀ c, 106 ≤ c → c ≤ 109 → ∀ j, ¬ (10 * m ≤ j ∧ j < 10 * m + 10) → h'.1 c j = h.1 c j) (g110 : ∀ j, ¬ (100 * m ≤ j ∧ j < 100 * m + 100) → h'.1 110 j = h.1 110 j) : OceC clmq h' 1 ∧ ∀ i, i < m → OceC (T i) h' (49 + 5 * i) ∧ OW (T i) ∧ RFOq (T i) i h' := by
  obtain ⟨o1, o2, o3, o4, o5, -⟩ := o
  refine ⟨o4.fr (fun c a b => f.1 c (by omega) (by unfold SOq; omega)), fun i hi => ?_⟩
  obtain ⟨q1, q2, q3⟩ := o5 i hi
  exact ⟨q1.fr (fun c a b => f.1 c (by omega) (by unfold SOq; omega)), q2, q3.ag ⟨g105 i (by omega), fun c a b j hj => g106 c a b _ (by omega), fun j hj => g110 _ (by omega)⟩⟩
theorem m1_neg : (-1 : Int32) < 0 := by decide
theorem C_ocean {O : OS} {n m : Nat} {T : Nat → OS} {h : HP} (w : IVq O n m T h) : ∃ r h1 h2, f_X6_ocean h = some (r, h1) ∧ f_X7_ocean h1 = some (r, h2) ∧ IVxq h2 := by
  obtain ⟨om, o011, o9613, -⟩ := w.2.1
  by_cases m6 : m = 6
  · subst m6
    exact ⟨-4, h, h, by unfold f_X6_ocean; rw [o011, if_neg (show ¬ nI 6 < 6 by decide)], by unfold f_X7_ocean; rw [o9613, if_pos (show nI 6 = 6 from rfl)], O, n, 6, T, w⟩
  have hm : m < 6 := by omega
  obtain ⟨s, t1, t2, t3, t4, t5⟩ := w.2.2.2.2.2.2.1
  -- the text
  generalize hX : (fun i => if i < s then (h.1 80 i).toNatClampNeg else 999) = X
  have xb : ∀ i, i < s → X i ≤ 127 ∧ h.1 80 i = nI (X i) ∧ h.1 104 i = nI (X i) := fun i hi => by
    obtain ⟨b, hb, e1, e2⟩ := t4 i hi
    have : X i = b := by
      rw [← hX]
      show (if i < s then (h.1 80 i).toNatClampNeg else 999) = b
      rw [if_pos hi, e1, cl_n (by omega)]
    rw [this]; exact ⟨hb, e1, e2⟩
  have x : XOK s X := ⟨t1, fun i hi => (xb i hi).1, fun i hi => by
    rw [← hX]
    show (if i < s then (h.1 80 i).toNatClampNeg else 999) = 999
    rw [if_neg (by omega)]⟩
  have ioc : isOc (49 + 5 * m) = true := by
    have a1 : m = 0 ∨ m = 1 ∨ m = 2 ∨ m = 3 ∨ m = 4 ∨ m = 5 := by omega
    rcases a1 with rfl | rfl | rfl | rfl | rfl | rfl <;> rfl
  have i6 := inb_n hm (show (6 : Nat) < 2147483648 by omega)
  have lr5 : lra 5 m = 49 + 5 * m := rfl
  -- the class begins
  generalize hg0 : si (si (si (si (sr h 79 (some (49 + 5 * m))) (49 + 5 * m) 4 0) (49 + 5 * m) 5 5) (49 + 5 * m) 6 2) 79 2 0 = g0
  have k0 : CPq (49 + 5 * m) s X 0 [] g0 := by
    rw [← hg0]
    refine ⟨by show (sr h 79 (some (49 + 5 * m))).2.2 79 = _; rw [sr_3, if_pos rfl], ioc, ?_, ?_, fun i hi => ?_, ?_, fun i hi => absurd hi (Nat.not_lt_zero i), by omega, Nat.le_refl _⟩
    · rw [si_w, up_n _ _ (by omega), si_r (by omega), si_r (by omega), si_r (by omega)]; exact t2
    · rw [si_w, up_s]; rfl
    · rw [si_r (by omega), si_r (by omega), si_r (by omega), si_r (by omega)]; exact (xb i hi).2.1
    · rw [si_r (by omega), si_w, up_n _ _ (by omega), si_w, up_n _ _ (by omega), si_w, up_s]; rfl
  have w5 : g0.1 (49 + 5 * m) 5 = 5 := by rw [← hg0, si_r (by omega), si_w, up_n _ _ (by omega), si_w, up_s]
  have w6 : g0.1 (49 + 5 * m) 6 = 2 := by rw [← hg0, si_r (by omega), si_w, up_s]
  have c0 : ∀ c, c ≠ 79 → c ≠ 49 + 5 * m → g0.1 c = h.1 c := fun c h1 h2 => by rw [← hg0, si_r h1, si_r h2, si_r h2, si_r h2]; rfl
  have r0 : g0.2.1 = h.2.1 ∧ ∀ c, c ≠ 79 → g0.2.2 c = h.2.2 c := by rw [← hg0]; exact ⟨rfl, fun c hc => if_neg hc⟩
  obtain ⟨p1, p2⟩ := E5_L19 x (49 + 5 * m) (49 + 5 * m) 10 1 0 [] g0 FZ (by omega) (by have := FZ_ge; omega) k0
  have into : f_X5_readInto (49 + 5 * m) h = f_X5_readInto_L19 (49 + 5 * m) (49 + 5 * m) FZ (nI 1) g0 := by
    unfold f_X5_readInto f_X2_becomeCalm
    have e79 : (sr h 79 (some (49 + 5 * m))).2.2 79 = some (49 + 5 * m) := by rw [sr_3, if_pos rfl]
    rw [lt_e, e79, bo_s, gd_b ioc, lt_e, lt_e, lt_e, bo_s, lt_e, hg0]
    rfl
  have lt6 : nI m < 6 := by rw [show (6 : Int32) = nI 6 from rfl, lt_n (by omega) (by omega)]; exact hm
  -- the reference begins
  have begin7 : ∀ g : HP, (∀ c, 96 ≤ c → g.1 c = h.1 c) → ∃ g1, f_X7_goesText (nI m) g = f_X7_goesText_L15 FZ (nI m) (nI 0) g1 ∧ RTq m s X 0 [] g1 ∧ FGq m 0 g g1 := fun g eg => by
    refine ⟨si (si g 96 16 0) 96 26 (nI (100 * m)), ?_, ⟨?_, ?_, fun i hi => ?_, ?_, fun i hi => absurd hi (Nat.not_lt_zero i), by show (0 : Nat) ≤ 0; omega, by omega, fun i hi => ?_⟩, fun c h1 _ => by rw [si_r h1, si_r h1], fun j hj => by rw [si_w, up_n _ _ (by omega), si_w, up_n _ _ (by omega)], fun j _ => by rw [si_r (by omega), si_r (by omega)], fun c _ _ j _ => by rw [si_r (by omega), si_r (by omega)], fun j _ => by rw [si_r (by omega), si_r (by omega)], rfl⟩
    · unfold f_X7_goesText
      rw [lt_e, show (100 : Int32) = nI 100 from rfl, mul_n, lt_e]; rfl
    · rw [si_w, up_n _ _ (by omega), si_w, up_n _ _ (by omega), eg 96 (by omega)]; exact t3
    · rw [si_w, up_n _ _ (by omega), si_w, up_s]; rfl
    · rw [si_r (by omega), si_r (by omega), eg 104 (by omega)]; exact (xb i hi).2.2
    · rw [si_w, up_s]; rfl
    · rw [si_r (by omega), si_r (by omega), eg 112 (by omega)]; exact t5 i hi
  cases ht : txtQ X s 10 0 with
  | mk r b =>
    cases r with
    | none =>
      obtain ⟨g1, e1, hb, f1⟩ := p2 b ht
      -- the class has a fault
      generalize hg2 : si g1 79 3 0 = g2
      have c2 : ∀ c, c ≠ 79 → ¬ (49 + 5 * m ≤ c ∧ c ≤ 49 + 5 * m + 3) → g2.1 c = h.1 c := fun c h1 h2 => by rw [← hg2, si_r h1, f1.1 c h1 (by omega), c0 c h1 (by omega)]
      have r2 : g2.2.1 = h.2.1 ∧ ∀ c, c ≠ 79 → g2.2.2 c = h.2.2 c := by
        have e : g2.2 = g0.2 := by rw [← hg2]; exact f1.2.2
        exact ⟨by rw [e]; exact r0.1, fun c hc => by rw [e]; exact r0.2 c hc⟩
      have e6 : f_X6_ocean h = some (-10 - nI b, g2) := by
        unfold f_X6_ocean
        rw [o011, if_pos lt6, gd_b i6, cl_n (by omega), lr5, lt_e, into, e1, bd_s, lt_e, if_neg (nI_pos (by have := x.1; omega)), hg2]
      obtain ⟨g3, e3, k3, f3⟩ := begin7 g2 (fun c hc => c2 c (by omega) (by omega))
      obtain ⟨-, q2⟩ := T7_L15 x hm 10 0 0 [] g3 FZ (by omega) (by have := FZ_ge; omega) (by omega) k3
      obtain ⟨g4, e4, k4, f4⟩ := q2 b ht
      have ff := f3.trans f4
      have g13 : g2.1 96 13 = nI m := by rw [c2 96 (by omega) (by omega)]; exact o9613
      have f5 : Kq (SOq m) JOq N_q ROq h (si g4 96 15 0) := by
        refine ⟨fun c hc q => ?_, fun j q => ?_, fun c _ => ?_, fun c q => ?_⟩
        · unfold SOq at q
          rw [si_r hc, ff.1 c hc (by omega), c2 c (by omega) (by omega)]
        · unfold JOq at q
          rw [si_w, up_n _ _ (by omega), ff.2.1 j (by omega), c2 96 (by omega) (by omega)]
        · show g4.2.1 c = _; rw [ff.2.2.2.2.2, r2.1]
        · unfold ROq at q
          show g4.2.2 c = _; rw [ff.2.2.2.2.2, r2.2 c (by omega)]
      have z0 : (si g4 96 15 0).1 0 = h.1 0 := by rw [si_r (by omega), ff.1 0 (by omega) (by omega), c2 0 (by omega) (by omega)]
      refine ⟨-10 - nI b, g2, si g4 96 15 0, e6, ?_, O, n, m, T, w.oce hm f5 (by rw [z0]) ⟨0, by omega, ?_, ?_, fun i hi => absurd hi (Nat.not_lt_zero i), fun i hi => ?_⟩ (fun _ _ _ c => c) ⟨om, by rw [z0]; exact o011, ?_, ?_⟩⟩
      · unfold f_X7_ocean
        rw [g13, if_neg (by rw [show (6 : Int32) = nI 6 from rfl, eq_n (by omega) (by omega)]; omega), e3, e4, bd_s, lt_e, if_pos rfl, si_w, up_n _ _ (by omega), k4]
      · rw [si_r (by omega), ff.1 79 (by omega) (by omega), ← hg2, si_w, up_s]; rfl
      · rw [si_w, up_s]; rfl
      · rw [f5.1 112 (by omega) (by unfold SOq; omega)]; exact t5 i hi
      · rw [si_w, up_n _ _ (by omega), ff.2.1 13 (by omega), g13]
      · obtain ⟨y1, y2⟩ := w.2.1.old hm f5 (fun j hj => by rw [si_r (by omega), ff.2.2.1 j hj, c2 105 (by omega) (by omega)]) (fun c a b j hj => by rw [si_r (by omega), ff.2.2.2.1 c a b j (by omega), c2 c (by omega) (by omega)]) (fun j hj => by rw [si_r (by omega), ff.2.2.2.2.1 j hj, c2 110 (by omega) (by omega)])
        refine ⟨y1, y2, ?_⟩
        have e6' : (si g4 96 15 0).2.2 6 = h.2.2 6 := by show g4.2.2 6 = _; rw [ff.2.2.2.2.2, r2.2 6 (by omega)]
        have e14 : (si g4 96 15 0).1 96 14 = h.1 96 14 := by rw [si_w, up_n _ _ (by omega), ff.2.1 14 (by omega), c2 96 (by omega) (by omega)]
        rw [e6', e14]
        exact w.2.1.2.2.2.2.2
    | some qs =>
      obtain ⟨g1, e1, k1, f1, y5, y6⟩ := p1 qs b ht
      have hok := txtQ_ok x 10 0 qs b (by omega) ht
      -- the class has the ocean
      generalize hg2 : si (sr (si g1 79 3 0) 6 (some (49 + 5 * m))) 0 11 (nI (m + 1)) = g2
      have c2 : ∀ c, c ≠ 79 → c ≠ 0 → ¬ (49 + 5 * m ≤ c ∧ c ≤ 49 + 5 * m + 3) → g2.1 c = h.1 c := fun c h1 h3 h2 => by
        rw [← hg2, si_r h3]
        show (si g1 79 3 0).1 c = _
        rw [si_r h1, f1.1 c h1 (by omega), c0 c h1 (by omega)]
      have s2 : ∀ c, 49 + 5 * m ≤ c → c ≤ 49 + 5 * m + 3 → g2.1 c = g1.1 c := fun c h1 h3 => by
        rw [← hg2, si_r (by omega)]
        show (si g1 79 3 0).1 c = _
        rw [si_r (by omega)]
      have z0 : ∀ j, j ≠ 11 → g2.1 0 j = h.1 0 j := fun j hj => by
        rw [← hg2, si_w, up_n _ _ hj]
        show (si g1 79 3 0).1 0 j = _
        rw [si_r (by omega), f1.1 0 (by omega) (by omega), c0 0 (by omega) (by omega)]
      have z11 : g2.1 0 11 = nI (m + 1) := by rw [← hg2, si_w, up_s]
      have g12e : g1.2 = g0.2 := f1.2.2
      have r2 : g2.2.1 = h.2.1 ∧ g2.2.2 6 = some (49 + 5 * m) ∧ ∀ c, c ≠ 79 → c ≠ 6 → g2.2.2 c = h.2.2 c := by
        rw [← hg2]
        refine ⟨by show g1.2.1 = _; rw [g12e]; exact r0.1, by show (sr (si g1 79 3 0) 6 (some (49 + 5 * m))).2.2 6 = _; rw [sr_3, if_pos rfl], fun c h1 h2 => ?_⟩
        show (if c = 6 then _ else g1.2.2 c) = _
        rw [if_neg h2, g12e]; exact r0.2 c h1
      have e11 : (si g1 79 3 0).1 0 11 = nI m := by rw [si_r (by omega), f1.1 0 (by omega) (by omega), c0 0 (by omega) (by omega)]; exact o011
      have e6 : f_X6_ocean h = some (nI m, g2) := by
        unfold f_X6_ocean
        rw [o011, if_pos lt6, gd_b i6, cl_n (by omega), lr5, lt_e, into, e1, bd_s, lt_e, if_pos m1_neg, e11, gd_b i6, cl_n (by omega), lr5, lt_e, lt_e, show (sr (si g1 79 3 0) 6 (some (49 + 5 * m))).1 0 11 = nI m from e11, one_n, lt_e, hg2, z11, show (1 : Int32) = nI 1 from rfl, sub_n (by omega), Nat.add_sub_cancel]
      obtain ⟨g3, e3, k3, f3⟩ := begin7 g2 (fun c hc => c2 c (by omega) (by omega) (by omega))
      obtain ⟨q1, -⟩ := T7_L15 x hm 10 0 0 [] g3 FZ (by omega) (by have := FZ_ge; omega) (by omega) k3
      obtain ⟨g4, e4, k4, r4, w4, l4, f4⟩ := q1 qs b ht
      have ff := f3.trans f4
      have g13 : g2.1 96 13 = nI m := by rw [c2 96 (by omega) (by omega) (by omega)]; exact o9613
      generalize hg5 : si (si (si g4 96 15 0) 96 14 (nI m)) 96 13 (nI (m + 1)) = g5
      have c5 : ∀ c, c ≠ 96 → g5.1 c = g4.1 c := fun c hc => by rw [← hg5, si_r hc, si_r hc, si_r hc]
      have p13 : g5.1 96 13 = nI (m + 1) := by rw [← hg5, si_w, up_s]
      have p14 : g5.1 96 14 = nI m := by rw [← hg5, si_w, up_n _ _ (by omega), si_w, up_s]
      have p15 : g5.1 96 15 = 0 := by rw [← hg5, si_w, up_n _ _ (by omega), si_w, up_n _ _ (by omega), si_w, up_s]
      have t5' : g5.2 = g2.2 := by rw [← hg5]; exact ff.2.2.2.2.2
      have f5 : Kq (SOq m) JOq N_q ROq h g5 := by
        refine ⟨fun c hc q => ?_, fun j q => ?_, fun c _ => ?_, fun c q => ?_⟩
        · unfold SOq at q
          rw [c5 c hc, ff.1 c hc (by omega), c2 c (by omega) (by omega) (by omega)]
        · unfold JOq at q
          rw [← hg5, si_w, up_n _ _ (by omega), si_w, up_n _ _ (by omega), si_w, up_n _ _ (by omega), ff.2.1 j (by omega), c2 96 (by omega) (by omega) (by omega)]
        · rw [t5', r2.1]
        · unfold ROq at q
          rw [t5', r2.2.2 c (by omega) (by omega)]
      have y0 : g5.1 0 = g2.1 0 := by rw [c5 0 (by omega), ff.1 0 (by omega) (by omega)]
      obtain ⟨v1, v2⟩ := w.2.1.old hm f5 (fun j hj => by rw [c5 105 (by omega), ff.2.2.1 j hj, c2 105 (by omega) (by omega) (by omega)]) (fun c a b j hj => by rw [c5 c (by omega), ff.2.2.2.1 c a b j (by omega), c2 c (by omega) (by omega) (by omega)]) (fun j hj => by rw [c5 110 (by omega), ff.2.2.2.2.1 j hj, c2 110 (by omega) (by omega) (by omega)])
      have so : ∀ c, 49 + 5 * m ≤ c → c ≤ 49 + 5 * m + 3 → g5.1 c = g1.1 c := fun c a b => by rw [c5 c (by omega), ff.1 c (by omega) (by omega), s2 c a b]
      have len : (stpF qs).length ≤ b := k1.2.2.2.2.2.2.2.2
      have bs : b ≤ s := k1.2.2.2.2.2.2.2.1
      have xs := x.1
      -- the new ocean of the class
      have noc : OceC (ocQ qs) g5 (49 + 5 * m) := by
        refine ⟨ioc, ?_, ?_, lasF_n qs 2 hok ⟨2, by omega, rfl⟩, HC_of (N := (stpF qs).length) hok (by omega) ?_ rfl (fun j hj => ?_)⟩
        · rw [so _ (by omega) (by omega), y5, w5]; rfl
        · rw [so _ (by omega) (by omega), y6, w6]; rfl
        · rw [so _ (by omega) (by omega)]; exact k1.2.2.2.2.2.1
        · rw [so _ (by omega) (by omega), so _ (by omega) (by omega), so _ (by omega) (by omega), Nat.zero_add]; exact k1.2.2.2.2.2.2.1 j hj
      have now : OW (ocQ qs) := lasF_n qs 5 hok ⟨5, by omega, rfl⟩
      have sl : (sgF qs).length ≤ 100 := by
        have := k4.2.2.2.2.2.1
        have z : ([] ++ sgF qs : List Tq).length = (sgF qs).length := rfl
        omega
      have nrf : RFOq (ocQ qs) m g5 := RFO_of hm hok (by omega) (by rw [c5 105 (by omega), w4, Nat.zero_add])
        (by
          have := r4
          have key : ∀ (qs : List Cq) (n o : Nat), ROWS m n o qs g4 → ROWS m n o qs g5 := by
            intro qs
            induction qs with
            | nil => intro n o _; trivial
            | cons q qs ih =>
              intro n o r
              obtain ⟨⟨a1, a2, a3⟩, a4⟩ := r
              exact ⟨⟨by rw [c5 106 (by omega)]; exact a1, by rw [c5 107 (by omega)]; exact a2, fun h => ⟨by rw [c5 108 (by omega)]; exact (a3 h).1, by rw [c5 109 (by omega)]; exact (a3 h).2⟩⟩, ih _ _ a4⟩
          exact key qs 0 0 r4)
        (fun j hj => by rw [c5 110 (by omega), Nat.add_zero]; exact k4.2.2.2.2.1 j hj) sl
      have hT : ∀ i, i < m → (fun i => if i = m then ocQ qs else T i) i = T i := fun i hi => if_neg (by omega)
      refine ⟨nI m, g2, g5, e6, ?_, ocQ qs, n, m + 1, (fun i => if i = m then ocQ qs else T i), w.oce hm f5 (by rw [y0, z0 9 (by omega)]) ⟨0, by omega, ?_, by rw [p15]; rfl, fun i hi => absurd hi (Nat.not_lt_zero i), fun i hi => ?_⟩ (fun O' oc the c => ?_) ⟨by omega, by rw [y0]; exact z11, p13, v1, fun i hi => ?_, Or.inr ⟨m, by omega, by rw [t5']; exact r2.2.1, p14, (if_pos rfl).symm⟩⟩⟩
      · unfold f_X7_ocean
        have a1 : (si g4 96 15 0).1 96 13 = nI m := by rw [si_w, up_n _ _ (by omega), ff.2.1 13 (by omega), g13]
        rw [g13, if_neg (by rw [show (6 : Int32) = nI 6 from rfl, eq_n (by omega) (by omega)]; omega), e3, e4, bd_s, lt_e, if_neg one_ne, a1, lt_e, si_w, up_n _ _ (show (13 : Nat) ≠ 14 by omega), a1, one_n, lt_e, hg5, p14]
      · rw [c5 79 (by omega), ff.1 79 (by omega) (by omega), ← hg2, si_r (by omega)]
        show (si g1 79 3 0).1 79 3 = nI 0
        rw [si_w, up_s]; rfl
      · rw [f5.1 112 (by omega) (by unfold SOq; omega)]; exact t5 i hi
      · rcases c with ⟨a1, a2, a3⟩ | ⟨i, hi, a1, a2, a3⟩
        · exact Or.inl ⟨a1, a2, a3⟩
        · exact Or.inr ⟨i, by omega, a1, a2, by rw [a3]; exact (hT i hi).symm⟩
      · by_cases e : i = m
        · subst e
          show OceC (if i = i then ocQ qs else T i) g5 (49 + 5 * i) ∧ OW (if i = i then ocQ qs else T i) ∧ RFOq (if i = i then ocQ qs else T i) i g5
          rw [if_pos rfl]
          exact ⟨noc, now, nrf⟩
        · have := v2 i (by omega)
          show OceC (if i = m then ocQ qs else T i) g5 (49 + 5 * i) ∧ OW (if i = m then ocQ qs else T i) ∧ RFOq (if i = m then ocQ qs else T i) i g5
          rw [if_neg e]
          exact this
