/-! image, undo: both sides -/
theorem PRq.k {cs pl ra mx : Nat} {P : Int32 → Int32 → Prop} {h : HP} (p : PRq cs pl ra mx P h) : ∃ k, k ≤ mx ∧ h.1 cs 2 = nI k := ⟨p.choose, p.choose_spec.1, p.choose_spec.2.1⟩
def SYi (c : Nat) : Prop := c = 0 ∨ 14 ≤ c ∧ c ≤ 21 ∨ 39 ≤ c ∧ c ≤ 47 ∨ 127 ≤ c ∧ c ≤ 139
def JYi (j : Nat) : Prop := 57 ≤ j ∧ j ≤ 67
theorem C_image {O : OS} {n m : Nat} {T : Nat → OS} {h : HP} (w : IVq O n m T h) : ∃ r h1 h2, f_X6_image h = some (r, h1) ∧ f_X7_image h1 = some (r, h2) ∧ IVxq h2 := by
  have d := w.1
  have e0 := d.2.2.2.2.2.2
  have e9 := d.mv0
  obtain ⟨⟨oc, q1, q2⟩, -, -⟩ := CURq.c w.2.1 w.2.1.2.2.2.2.2
  obtain ⟨s, hs, es⟩ := w.2.2.1.k
  obtain ⟨p, hp, ep⟩ := w.2.2.2.1.k
  obtain ⟨b, hb, eb⟩ := w.2.2.2.2.1.k
  obtain ⟨g1, x1, v1, r1, f1⟩ := B1_copy (o := 14) (q := 6) (Or.inr (Or.inl rfl)) (Or.inl rfl) (by omega) q1 q2.1
  have a1 : ∀ c, ¬ (14 ≤ c ∧ c ≤ 21) → g1.1 c = h.1 c := fun c hc => f1.1 c (by unfold OD; omega)
  obtain ⟨g2, x2, s2, y2, f2⟩ := E_copy3 (o := 39) (q := 30) (mx := 5) (k := s) (h := g1) rfl rfl rfl rfl (by omega) hs (by rw [a1 _ (by omega)]; exact es) (by omega)
  have a2 : ∀ c, ¬ (14 ≤ c ∧ c ≤ 21) → ¬ (39 ≤ c ∧ c ≤ 41) → g2.1 c = h.1 c := fun c h1 h2 => (f2.1 c (by omega)).trans (a1 c h1)
  obtain ⟨g3, x3, s3, y3, f3⟩ := E_copy3 (o := 42) (q := 33) (mx := 10) (k := p) (h := g2) rfl rfl rfl rfl (by omega) hp (by rw [a2 _ (by omega) (by omega)]; exact ep) (by omega)
  have a3 : ∀ c, ¬ (14 ≤ c ∧ c ≤ 21) → ¬ (39 ≤ c ∧ c ≤ 44) → g3.1 c = h.1 c := fun c h1 h2 => (f3.1 c (by omega)).trans (a2 c h1 (by omega))
  obtain ⟨g4, x4, s4, y4, f4⟩ := E_copy3 (o := 45) (q := 36) (mx := 8) (k := b) (h := g3) rfl rfl rfl rfl (by omega) hb (by rw [a3 _ (by omega) (by omega)]; exact eb) (by omega)
  have a4 : ∀ c, ¬ (14 ≤ c ∧ c ≤ 21) → ¬ (39 ≤ c ∧ c ≤ 47) → g4.1 c = h.1 c := fun c h1 h2 => (f4.1 c (by omega)).trans (a3 c h1 (by omega))
  generalize hg5 : si g4 0 9 1 = g5
  have a5 : ∀ c, c ≠ 0 → ¬ (14 ≤ c ∧ c ≤ 21) → ¬ (39 ≤ c ∧ c ≤ 47) → g5.1 c = h.1 c := fun c h0 h1 h2 => by rw [← hg5, si_r h0]; exact a4 c h1 h2
  have t5 : g5.2 = g1.2 := by rw [← hg5]; show g4.2 = _; rw [f4.2, f3.2, f2.2]
  obtain ⟨g6, x6, i6, k57, k58, k65, k66, k67, f6⟩ := B7_image g5
  have a6 : ∀ c, c ≠ 96 → ¬ (127 ≤ c ∧ c ≤ 139) → g6.1 c = g5.1 c := fun c h1 h2 => f6.1 c h1 (by unfold SIm; omega)
  have p6 : ∀ j, ¬ JYi j → g6.1 96 j = h.1 96 j := fun j hj => (f6.2.1 j hj).trans (by rw [a5 96 (by omega) (by omega) (by omega)])
  have t6 : g6.2 = g1.2 := f6.2.2.trans t5
  have f : Kq SYi JYi N_q (OD 14) h g6 := ⟨fun c hc q => by unfold SYi at q; rw [a6 c hc (by omega), a5 c (by omega) (by omega) (by omega)], p6, fun c _ => by rw [t6, f1.2.1], fun c q => by rw [t6]; exact f1.2.2 c q⟩
  have d14 : dv 14 g6 = dv 6 h := by
    rw [← v1]
    refine dv_fr (fun c h1 h2 => ?_)
    rw [a6 c (by omega) (by omega), ← hg5, si_r (by omega), f4.1 c (by omega), f3.1 c (by omega), f2.1 c (by omega)]
  have m5 : mv g5 = mv h := mv_fr (fun j _ => by rw [a5 96 (by omega) (by omega) (by omega)]) (fun c h1 h2 => a5 c (by omega) (by omega) (by omega))
  have ivm : iv g6 = mv h := by
    rw [← m5, mv_gv]
    exact gv_ext (b := 97) (s := 0) (b' := 127) (s' := 59) (fun j hj => i6.2.2.2.2.2.2 j hj) i6.1 i6.2.1 i6.2.2.1
  have k3 : ∀ c, 39 ≤ c → c ≤ 47 → g6.1 c = g4.1 c := fun c h1 h2 => by rw [a6 c (by omega) (by omega), ← hg5, si_r (by omega)]
  have cc : ∀ c, c ≠ 0 → ¬ (14 ≤ c ∧ c ≤ 21) → ¬ (39 ≤ c ∧ c ≤ 47) → ¬ (127 ≤ c ∧ c ≤ 139) → ¬ SYi c := fun c h0 h1 h2 h3 z => by unfold SYi at z; omega
  have z0 : g6.1 0 11 = h.1 0 11 := by rw [a6 0 (by omega) (by omega), ← hg5, si_w, up_n _ _ (by omega), a4 0 (by omega) (by omega)]
  have z9 : g6.1 0 9 = 1 := by rw [a6 0 (by omega) (by omega), ← hg5, si_w, up_s]
  have r6 : g6.2.2 6 = h.2.2 6 := f.2.2.2 6 (by unfold OD; omega)
  have w14 : g6.1 96 14 = h.1 96 14 := p6 14 (by unfold JYi; omega)
  refine ⟨nI n, g5, g6, ?_, ?_, O, n, m, T, ?_⟩
  · unfold f_X6_image
    rw [x1, bo_s, x2, bo_s, x3, bo_s, x4, bo_s, hg5, lt_e, a5 6 (by omega) (by omega) (by omega), e0]
  · rw [x6, p6 0 (by unfold JYi; omega), e9]
  · obtain ⟨-, o, ps, pp, pb, -, t, a, tp⟩ := w
    refine ⟨d.kp f (fun c _ _ => cc c (by omega) (by omega) (by omega) (by omega)) (fun c _ _ => cc c (by omega) (by omega) (by omega) (by omega)) (fun j _ => by unfold JYi; omega) (by unfold JYi; omega) (by unfold JYi; omega),
      o.kp0 f z0 (fun c z => cc c (by unfold OCcq at z; omega) (by unfold OCcq at z; omega) (by unfold OCcq at z; omega) (by unfold OCcq at z; omega)) (fun c _ _ => cc c (by omega) (by omega) (by omega) (by omega)) (by unfold JYi; omega) (by rw [r6, w14]; exact o.2.2.2.2.2),
      ps.kp f (by omega) (by omega) (fun c _ _ => cc c (by omega) (by omega) (by omega) (by omega)) (fun c _ _ => cc c (by omega) (by omega) (by omega) (by omega)) (by unfold JYi; omega),
      pp.kp f (by omega) (by omega) (fun c _ _ => cc c (by omega) (by omega) (by omega) (by omega)) (fun c _ _ => cc c (by omega) (by omega) (by omega) (by omega)) (by unfold JYi; omega),
      pb.kp f (by omega) (by omega) (fun c _ _ => cc c (by omega) (by omega) (by omega) (by omega)) (fun c _ _ => cc c (by omega) (by omega) (by omega) (by omega)) (by unfold JYi; omega),
      Or.inr ⟨z9, k57, n, O, ?_, ?_, ?_, d.2.2.2.2.2.1, ?_, ?_, ?_, ?_, ?_⟩,
      t.kp f (cc _ (by omega) (by omega) (by omega) (by omega)) (cc _ (by omega) (by omega) (by omega) (by omega)) (cc _ (by omega) (by omega) (by omega) (by omega)) (cc _ (by omega) (by omega) (by omega) (by omega)) (by unfold JYi; omega),
      a.kp f (cc _ (by omega) (by omega) (by omega) (by omega)) (cc _ (by omega) (by omega) (by omega) (by omega)) (cc _ (by omega) (by omega) (by omega) (by omega)) (by unfold JYi; omega),
      tp.kp f (fun c _ _ => ⟨cc c (by omega) (by omega) (by omega) (by omega), fun z => z⟩) (fun c _ _ => ⟨cc c (by omega) (by omega) (by omega) (by omega), fun z => z⟩)⟩
    · rw [d14, ivm]; exact d.1
    · rw [d14]; exact d.2.2.2.1
    · rw [d14]; exact d.2.2.2.2.1
    · have : (dv 14 g6).1 0 = (dv 6 h).1 0 := by rw [d14]
      rw [dv_s 14 g6 (by omega), dv_s 6 h (by omega)] at this
      exact this.trans e0
    · rw [show g6.2.2 14 = h.2.2 6 by rw [t6, r1, q1], k58, a5 96 (by omega) (by omega) (by omega)]
      exact o.2.2.2.2.2
    · refine ps.mk es (by omega) (by omega) (by rw [k3 _ (by omega) (by omega), f4.1 _ (by omega), f3.1 _ (by omega)]; exact s2) (by rw [k65, a5 96 (by omega) (by omega) (by omega)]) (fun j hj => ?_) (fun j hj => ?_)
      · rw [k3 _ (by omega) (by omega), k3 _ (by omega) (by omega), f4.1 _ (by omega), f3.1 _ (by omega), f4.1 _ (by omega), f3.1 _ (by omega), (y2 j hj).1, (y2 j hj).2, a1 _ (by omega), a1 _ (by omega)]
        exact ⟨rfl, rfl⟩
      · have k := i6.2.2.2.1 j hj
        rw [k.1, k.2, a5 _ (by omega) (by omega) (by omega), a5 _ (by omega) (by omega) (by omega)]
        exact ⟨rfl, rfl⟩
    · refine pp.mk ep (by omega) (by omega) (by rw [k3 _ (by omega) (by omega), f4.1 _ (by omega)]; exact s3) (by rw [k66, a5 96 (by omega) (by omega) (by omega)]) (fun j hj => ?_) (fun j hj => ?_)
      · rw [k3 _ (by omega) (by omega), k3 _ (by omega) (by omega), f4.1 _ (by omega), f4.1 _ (by omega), (y3 j hj).1, (y3 j hj).2, a2 _ (by omega) (by omega), a2 _ (by omega) (by omega)]
        exact ⟨rfl, rfl⟩
      · have k := i6.2.2.2.2.1 j hj
        rw [show (136 : Nat) = 134 + 2 from rfl, show 134 + 2 + 1 = 134 + 3 from rfl, k.1, k.2, a5 _ (by omega) (by omega) (by omega), a5 _ (by omega) (by omega) (by omega)]
        exact ⟨rfl, rfl⟩
    · refine pb.mk eb (by omega) (by omega) (by rw [k3 _ (by omega) (by omega)]; exact s4) (by rw [k67, a5 96 (by omega) (by omega) (by omega)]) (fun j hj => ?_) (fun j hj => ?_)
      · rw [k3 _ (by omega) (by omega), k3 _ (by omega) (by omega), (y4 j hj).1, (y4 j hj).2, a3 _ (by omega) (by omega), a3 _ (by omega) (by omega)]
        exact ⟨rfl, rfl⟩
      · have k := i6.2.2.2.2.2.1 j hj
        rw [show (138 : Nat) = 134 + 4 from rfl, show 134 + 4 + 1 = 134 + 5 from rfl, k.1, k.2, a5 _ (by omega) (by omega) (by omega), a5 _ (by omega) (by omega) (by omega)]
        exact ⟨rfl, rfl⟩
def SYu (c : Nat) : Prop := 6 ≤ c ∧ c ≤ 13 ∨ 30 ≤ c ∧ c ≤ 38 ∨ 97 ≤ c ∧ c ≤ 103 ∨ 121 ≤ c ∧ c ≤ 126
def JYu (j : Nat) : Prop := j ≤ 5 ∨ j = 14 ∨ j = 48 ∨ j = 51 ∨ j = 52
theorem C_undo {O : OS} {n m : Nat} {T : Nat → OS} {h : HP} (w : IVq O n m T h) : ∃ r h1 h2, f_X6_undo h = some (r, h1) ∧ f_X7_undo h1 = some (r, h2) ∧ IVxq h2 := by
  have d := w.1
  rcases w.2.2.2.2.2.1 with ⟨z1, z2⟩ | ⟨z1, z2, n', O', dd, wa, dm, n6, e0, cu, is, ip, ib⟩
  · exact ⟨-3, h, h, by unfold f_X6_undo; rw [if_pos z1], by unfold f_X7_undo; rw [if_pos z2], O, n, m, T, w⟩
  obtain ⟨⟨oc, q1, q2⟩, -, -⟩ := CURq.c w.2.1 cu
  obtain ⟨s, hs, es⟩ := is.k
  obtain ⟨p, hp, ep⟩ := ip.k
  obtain ⟨b, hb, eb⟩ := ib.k
  obtain ⟨g1, x1, v1, r1, f1⟩ := B1_copy (o := 6) (q := 14) (Or.inl rfl) (Or.inr (Or.inl rfl)) (by omega) q1 q2.1
  have a1 : ∀ c, ¬ (6 ≤ c ∧ c ≤ 13) → g1.1 c = h.1 c := fun c hc => f1.1 c (by unfold OD; omega)
  obtain ⟨g2, x2, s2, y2, f2⟩ := E_copy3 (o := 30) (q := 39) (mx := 5) (k := s) (h := g1) rfl rfl rfl rfl (by omega) hs (by rw [a1 _ (by omega)]; exact es) (by omega)
  have a2 : ∀ c, ¬ (6 ≤ c ∧ c ≤ 13) → ¬ (30 ≤ c ∧ c ≤ 32) → g2.1 c = h.1 c := fun c h1 h2 => (f2.1 c (by omega)).trans (a1 c h1)
  obtain ⟨g3, x3, s3, y3, f3⟩ := E_copy3 (o := 33) (q := 42) (mx := 10) (k := p) (h := g2) rfl rfl rfl rfl (by omega) hp (by rw [a2 _ (by omega) (by omega)]; exact ep) (by omega)
  have a3 : ∀ c, ¬ (6 ≤ c ∧ c ≤ 13) → ¬ (30 ≤ c ∧ c ≤ 35) → g3.1 c = h.1 c := fun c h1 h2 => (f3.1 c (by omega)).trans (a2 c h1 (by omega))
  obtain ⟨g5, x4, s4, y4, f4⟩ := E_copy3 (o := 36) (q := 45) (mx := 8) (k := b) (h := g3) rfl rfl rfl rfl (by omega) hb (by rw [a3 _ (by omega) (by omega)]; exact eb) (by omega)
  have a5 : ∀ c, ¬ (6 ≤ c ∧ c ≤ 13) → ¬ (30 ≤ c ∧ c ≤ 38) → g5.1 c = h.1 c := fun c h1 h2 => (f4.1 c (by omega)).trans (a3 c h1 (by omega))
  have t5 : g5.2 = g1.2 := by rw [f4.2, f3.2, f2.2]
  have n57 : ¬ g5.1 96 57 = 0 := by rw [a5 96 (by omega) (by omega), z2]; exact one_ne
  obtain ⟨g6, x6, i6, k14, k48, k51, k52, f6⟩ := B7_undo n57
  have a6 : ∀ c, c ≠ 96 → ¬ (97 ≤ c ∧ c ≤ 103) → ¬ (121 ≤ c ∧ c ≤ 126) → g6.1 c = g5.1 c := fun c h1 h2 h3 => f6.1 c h1 (by unfold SUn; omega)
  have p6 : ∀ j, ¬ JYu j → g6.1 96 j = h.1 96 j := fun j hj => (f6.2.1 j hj).trans (by rw [a5 96 (by omega) (by omega)])
  have t6 : g6.2 = g1.2 := f6.2.2.trans t5
  have f : Kq SYu JYu N_q (OD 6) h g6 := ⟨fun c hc q => by unfold SYu at q; rw [a6 c hc (by omega) (by omega), a5 c (by omega) (by omega)], p6, fun c _ => by rw [t6, f1.2.1], fun c q => by rw [t6]; exact f1.2.2 c q⟩
  have d6 : dv 6 g6 = dv 14 h := by
    rw [← v1]
    refine dv_fr (fun c h1 h2 => ?_)
    rw [a6 c (by omega) (by omega) (by omega), f4.1 c (by omega), f3.1 c (by omega), f2.1 c (by omega)]
  have i5 : iv g5 = iv h := iv_fr (fun j _ => by rw [a5 96 (by omega) (by omega)]) (fun c h1 h2 => a5 c (by omega) (by omega))
  have mvi : mv g6 = iv h := by
    rw [← i5, mv_gv]
    exact gv_ext (b := 127) (s := 59) (b' := 97) (s' := 0) (fun j hj => i6.2.2.2.2.2.2 j hj) i6.1 i6.2.1 i6.2.2.1
  have k3 : ∀ c, 30 ≤ c → c ≤ 38 → g6.1 c = g5.1 c := fun c h1 h2 => a6 c (by omega) (by omega) (by omega)
  have cc : ∀ c, ¬ (6 ≤ c ∧ c ≤ 13) → ¬ (30 ≤ c ∧ c ≤ 38) → ¬ (97 ≤ c ∧ c ≤ 103) → ¬ (121 ≤ c ∧ c ≤ 126) → ¬ SYu c := fun c h0 h1 h2 h3 z => by unfold SYu at z; omega
  have r6 : g6.2.2 6 = h.2.2 14 := by rw [t6, r1, q1]
  have w14 : g6.1 96 14 = h.1 96 58 := by rw [k14, a5 96 (by omega) (by omega)]
  have e6 : g6.1 6 7 = nI n' := by
    have : (dv 6 g6).1 0 = (dv 14 h).1 0 := by rw [d6]
    rw [dv_s 6 g6 (by omega), dv_s 14 h (by omega)] at this
    exact this.trans e0
  have D : D6q n' g6 := ⟨by rw [d6, mvi]; exact dd, by rw [p6 31 (by unfold JYu; omega)]; exact d.2.1, by rw [p6 32 (by unfold JYu; omega)]; exact d.2.2.1, by rw [d6]; exact wa, by rw [d6]; exact dm, n6, e6⟩
  refine ⟨nI n', g5, g6, ?_, ?_, O', n', m, T, ?_⟩
  · unfold f_X6_undo
    rw [z1, if_neg one_ne, x1, bo_s, x2, bo_s, x3, bo_s, x4, bo_s, ← a6 6 (by omega) (by omega) (by omega), e6]
  · rw [x6, D.mv0]
  · obtain ⟨-, o, -, -, -, im, t, a, tp⟩ := w
    refine ⟨D,
      o.kp0 f (by rw [a6 0 (by omega) (by omega) (by omega), a5 0 (by omega) (by omega)]) (fun c z => cc c (by unfold OCcq at z; omega) (by unfold OCcq at z; omega) (by unfold OCcq at z; omega) (by unfold OCcq at z; omega)) (fun c _ _ => cc c (by omega) (by omega) (by omega) (by omega)) (by unfold JYu; omega) (by rw [r6, w14]; exact cu),
      ?_, ?_, ?_,
      im.kp f (cc _ (by omega) (by omega) (by omega) (by omega)) (fun c _ _ => cc c (by omega) (by omega) (by omega) (by omega)) (fun c _ _ => cc c (by omega) (by omega) (by omega) (by omega)) (fun c _ _ => cc c (by omega) (by omega) (by omega) (by omega)) (fun j _ _ => by unfold JYu; omega) (by unfold OD; omega),
      t.kp f (cc _ (by omega) (by omega) (by omega) (by omega)) (cc _ (by omega) (by omega) (by omega) (by omega)) (cc _ (by omega) (by omega) (by omega) (by omega)) (cc _ (by omega) (by omega) (by omega) (by omega)) (by unfold JYu; omega),
      a.kp f (cc _ (by omega) (by omega) (by omega) (by omega)) (cc _ (by omega) (by omega) (by omega) (by omega)) (cc _ (by omega) (by omega) (by omega) (by omega)) (by unfold JYu; omega),
      tp.kp f (fun c _ _ => ⟨cc c (by omega) (by omega) (by omega) (by omega), fun z => z⟩) (fun c _ _ => ⟨cc c (by omega) (by omega) (by omega) (by omega), fun z => z⟩)⟩
    · refine is.mk es (by omega) (by omega) (by rw [k3 _ (by omega) (by omega), f4.1 _ (by omega), f3.1 _ (by omega)]; exact s2) (by rw [k48, a5 96 (by omega) (by omega)]) (fun j hj => ?_) (fun j hj => ?_)
      · rw [k3 _ (by omega) (by omega), k3 _ (by omega) (by omega), f4.1 _ (by omega), f3.1 _ (by omega), f4.1 _ (by omega), f3.1 _ (by omega), (y2 j hj).1, (y2 j hj).2, a1 _ (by omega), a1 _ (by omega)]
        exact ⟨rfl, rfl⟩
      · have k := i6.2.2.2.1 j hj
        rw [k.1, k.2, a5 _ (by omega) (by omega), a5 _ (by omega) (by omega)]
        exact ⟨rfl, rfl⟩
    · refine ip.mk ep (by omega) (by omega) (by rw [k3 _ (by omega) (by omega), f4.1 _ (by omega)]; exact s3) (by rw [k51, a5 96 (by omega) (by omega)]) (fun j hj => ?_) (fun j hj => ?_)
      · rw [k3 _ (by omega) (by omega), k3 _ (by omega) (by omega), f4.1 _ (by omega), f4.1 _ (by omega), (y3 j hj).1, (y3 j hj).2, a2 _ (by omega) (by omega), a2 _ (by omega) (by omega)]
        exact ⟨rfl, rfl⟩
      · have k := i6.2.2.2.2.1 j hj
        rw [show (123 : Nat) = 121 + 2 from rfl, show 121 + 2 + 1 = 121 + 3 from rfl, k.1, k.2, a5 _ (by omega) (by omega), a5 _ (by omega) (by omega)]
        exact ⟨rfl, rfl⟩
    · refine ib.mk eb (by omega) (by omega) (by rw [k3 _ (by omega) (by omega)]; exact s4) (by rw [k52, a5 96 (by omega) (by omega)]) (fun j hj => ?_) (fun j hj => ?_)
      · rw [k3 _ (by omega) (by omega), k3 _ (by omega) (by omega), (y4 j hj).1, (y4 j hj).2, a3 _ (by omega) (by omega), a3 _ (by omega) (by omega)]
        exact ⟨rfl, rfl⟩
      · have k := i6.2.2.2.2.2.1 j hj
        rw [show (125 : Nat) = 121 + 4 from rfl, show 121 + 4 + 1 = 121 + 5 from rfl, k.1, k.2, a5 _ (by omega) (by omega), a5 _ (by omega) (by omega)]
        exact ⟨rfl, rfl⟩
