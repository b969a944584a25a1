/-! image, undo -/
theorem gv_ext {b s b' s' : Nat} {h h' : HP} (hs : ∀ j, j < 6 → h'.1 96 (s' + j) = h.1 96 (s + j)) (ha : ∀ i j, i < 5 → j < 6 → h'.1 (b' + i) j = h.1 (b + i) j) (hr : ∀ j, j < 24 → h'.1 (b' + 5) j = h.1 (b + 5) j) (hm : ∀ j, j < 3 → h'.1 (b' + 6) j = h.1 (b + 6) j) : ((fun j => if j < 6 then h'.1 96 (s' + j) else 0, fun i j => if j < wdt (h'.1 96 (s' + 1)) i then h'.1 (b' + i) j else 0) : AS) = (fun j => if j < 6 then h.1 96 (s + j) else 0, fun i j => if j < wdt (h.1 96 (s + 1)) i then h.1 (b + i) j else 0) := by
  have e8 := hs 1 (by omega)
  refine Prod.ext (funext fun j => ?_) (funext fun i => funext fun j => ?_)
  · dsimp only
    by_cases hj : j < 6
    · rw [if_pos hj, if_pos hj]; exact hs j hj
    · rw [if_neg hj, if_neg hj]
  · dsimp only
    rw [e8]
    by_cases hj : j < wdt (h.1 96 (s + 1)) i
    · rw [if_pos hj, if_pos hj]
      unfold wdt at hj
      by_cases h5 : i < 5
      · rw [if_pos h5] at hj; exact ha i j h5 hj
      · rw [if_neg h5] at hj
        by_cases h6 : i = 5
        · subst h6; rw [if_pos rfl] at hj; exact hr j hj
        · rw [if_neg h6] at hj
          by_cases h7 : i = 6
          · subst h7; rw [if_pos rfl] at hj; exact hm j (by omega)
          · rw [if_neg h7] at hj; omega
    · rw [if_neg hj, if_neg hj]
theorem mv_gv (h : HP) : mv h = (fun j => if j < 6 then h.1 96 (0 + j) else 0, fun i j => if j < wdt (h.1 96 (0 + 1)) i then h.1 (97 + i) j else 0) := by
  unfold mv
  refine Prod.ext (funext fun j => ?_) rfl
  show (if j < 6 then h.1 96 j else 0) = (if j < 6 then h.1 96 (0 + j) else 0)
  rw [Nat.zero_add]
/-- a row of pairs is taken over -/
theorem E_copy3 {o q mx k : Nat} {h : HP} (ha : aln (o + 1) = mx) (hb : aln (o + 2) = mx) (hc : aln (q + 1) = mx) (hd : aln (q + 2) = mx) (hmx : mx ≤ 10) (hk : k ≤ mx) (e : h.1 q 2 = nI k) (hoq : o + 2 < q ∨ q + 2 < o) : ∃ h', f_X3_copyFrom o q h = some h' ∧ h'.1 o 2 = nI k ∧ (∀ j, j < k → h'.1 (o + 1) j = h.1 (q + 1) j ∧ h'.1 (o + 2) j = h.1 (q + 2) j) ∧ Fc (fun c => o ≤ c ∧ c ≤ o + 2) h h' := by
  have ck : cpk 0 (nI k) mx = true := by
    simp only [cpk, Bool.and_eq_true, Bool.not_eq_true', decide_eq_false_iff_not, decide_eq_true_eq, cl_n (show k < 2147483648 by omega)]
    exact ⟨⟨by decide, nI_pos (by omega)⟩, by show 0 + k ≤ mx; omega⟩
  have mn : (if (Int32.ofNat mx) < nI k then Int32.ofNat mx else nI k) = nI k := if_neg (show ¬ nI mx < nI k by rw [lt_n (by omega) (by omega)]; omega)
  refine ⟨ci (ci (si h o 2 (nI k)) (q + 1) (o + 1) 0 0 (nI k)) (q + 2) (o + 2) 0 0 (nI k), ?_, ?_, fun j hj => ⟨?_, ?_⟩, fun c hc => ?_, rfl⟩
  · unfold f_X3_copyFrom
    rw [ha, hb, hc, hd, e, mn, lt_e, si_w, up_s, gd_b ck, gd_b ck, lt_e, ci_r (show o ≠ o + 1 by omega), si_w, up_s, gd_b ck, gd_b ck, lt_e]
  · rw [ci_r (by omega), ci_r (by omega), si_w, up_s]
  · rw [ci_r (by omega), ci_w rfl (by omega) hj, si_r (by omega)]
  · rw [ci_w rfl (by omega) hj, ci_r (by omega), si_r (by omega)]
  · rw [ci_r (show c ≠ o + 2 by omega), ci_r (show c ≠ o + 1 by omega), si_r (show c ≠ o by omega)]
theorem OCNq.kp0 {S J L R : Nat → Prop} {O : OS} {m : Nat} {T : Nat → OS} {h h' : HP} (o : OCNq O m T h) (f : Kq S J L R h h') (h0 : h'.1 0 11 = h.1 0 11) (hc : ∀ c, OCcq c → ¬ S c) (hr : ∀ c, 105 ≤ c → c ≤ 110 → ¬ S c) (hJ1 : ¬ J 13) {O' : OS} (o6 : CURq O' m T (h'.2.2 6) (h'.1 96 14)) : OCNq O' m T h' := by
  obtain ⟨o1, o2, o3, o4, o5, -⟩ := o
  refine ⟨o1, h0.trans o2, by rw [f.2.1 13 hJ1]; exact o3, o4.fr (fun c a b => f.1 c (by have := OCc_oc o4.1 a b; unfold OCcq at this; omega) (hc c (OCc_oc o4.1 a b))), fun i hi => ?_, o6⟩
  obtain ⟨q1, q2, q3⟩ := o5 i hi
  refine ⟨q1.fr (fun c a b => f.1 c (by have := OCc_oc q1.1 a b; unfold OCcq at this; omega) (hc c (OCc_oc q1.1 a b))), q2, q3.ag ⟨by rw [f.1 105 (by omega) (hr _ (by omega) (by omega))], fun c a b j _ => by rw [f.1 c (by omega) (hr c (by omega) (by omega))], fun j _ => by rw [f.1 110 (by omega) (hr _ (by omega) (by omega))]⟩⟩
/-- pairs that are alike, elsewhere -/
theorem PRq.mk {cs pl ra cs' pl' ra' mx k : Nat} {P : Int32 → Int32 → Prop} {h h' : HP} (p : PRq cs pl ra mx P h) (e : h.1 cs 2 = nI k) (hk : k ≤ 10) (hmx : mx ≤ 10) (a1 : h'.1 cs' 2 = nI k) (a2 : h'.1 96 pl' = h.1 96 pl) (a3 : ∀ j, j < k → h'.1 (cs' + 1) j = h.1 (cs + 1) j ∧ h'.1 (cs' + 2) j = h.1 (cs + 2) j) (a4 : ∀ j, j < mx → h'.1 ra' j = h.1 ra j ∧ h'.1 (ra' + 1) j = h.1 (ra + 1) j) : PRq cs' pl' ra' mx P h' := by
  obtain ⟨k', p1, p2, p3, p4⟩ := p
  have ek : k' = k := (eq_n (by omega) (by omega)).mp (p2.symm.trans e)
  subst ek
  refine ⟨k', p1, a1, a2.trans p3, fun i hi => ?_⟩
  rw [(a3 i hi).1, (a3 i hi).2, (a4 i (by omega)).1, (a4 i (by omega)).2]
  exact p4 i hi
def imR (b s r : Nat) (b' s' r' : Nat) (h h' : HP) : Prop := (∀ i j, i < 5 → j < 6 → h'.1 (b' + i) j = h.1 (b + i) j) ∧ (∀ j, j < 24 → h'.1 (b' + 5) j = h.1 (b + 5) j) ∧ (∀ j, j < 3 → h'.1 (b' + 6) j = h.1 (b + 6) j) ∧ (∀ j, j < 5 → h'.1 r' j = h.1 r j ∧ h'.1 (r' + 1) j = h.1 (r + 1) j) ∧ (∀ j, j < 10 → h'.1 (r' + 2) j = h.1 (r + 2) j ∧ h'.1 (r' + 3) j = h.1 (r + 3) j) ∧ (∀ j, j < 8 → h'.1 (r' + 4) j = h.1 (r + 4) j ∧ h'.1 (r' + 5) j = h.1 (r + 5) j) ∧ ∀ j, j < 6 → h'.1 96 (s' + j) = h.1 96 (s + j)
def SIm (c : Nat) : Prop := 127 ≤ c ∧ c ≤ 139
def SUn (c : Nat) : Prop := 97 ≤ c ∧ c ≤ 103 ∨ 121 ≤ c ∧ c ≤ 126
theorem B7_image (h : HP) : ∃ g, f_X7_image h = some (g.1 96 0, g) ∧ imR 97 0 121 127 59 134 h g ∧ g.1 96 57 = 1 ∧ g.1 96 58 = h.1 96 14 ∧ g.1 96 65 = h.1 96 48 ∧ g.1 96 66 = h.1 96 51 ∧ g.1 96 67 = h.1 96 52 ∧ FM SIm (fun j => 57 ≤ j ∧ j ≤ 67) h g := by
  generalize hg : sp 67 52 (sp 66 51 (sp 65 48 (sp 64 5 (sp 63 4 (sp 62 3 (sp 61 2 (sp 60 1 (sp 59 0 (sp 58 14 (si h 96 57 1)))))))))) = g0
  have c0 : ∀ c, c ≠ 96 → g0.1 c = h.1 c := fun c hc => by rw [← hg]; simp only [sp_c hc, si_r hc]
  have c02 : g0.2 = h.2 := by rw [← hg]; rfl
  obtain ⟨g1, e1, k1, f1⟩ := B7_image_L87 6 0 g0 FZ (by omega) (by have := FZ_ge; omega) (fun j q => by omega)
  obtain ⟨g2, e2, k2, f2⟩ := B7_image_L161 24 0 g1 FZ (by omega) (by have := FZ_ge; omega) (fun j q => by omega)
  obtain ⟨g3, e3, k3, f3⟩ := B7_image_L187 3 0 g2 FZ (by omega) (by have := FZ_ge; omega) (fun j q => by omega)
  obtain ⟨g4, e4, k4, f4⟩ := B7_image_L212 5 0 g3 FZ (by omega) (by have := FZ_ge; omega) (fun j q => by omega)
  obtain ⟨g5, e5, k5, f5⟩ := B7_image_L249 10 0 g4 FZ (by omega) (by have := FZ_ge; omega) (fun j q => by omega)
  obtain ⟨g6, e6, k6, f6⟩ := B7_image_L287 8 0 g5 FZ (by omega) (by have := FZ_ge; omega) (fun j q => by omega)
  have d5 : ∀ c, ¬ (134+4 ≤ c ∧ c ≤ 134+5) → g6.1 c = g5.1 c := fun c hc => f6.1 c (by omega)
  have d4 : ∀ c, ¬ (134+2 ≤ c ∧ c ≤ 134+5) → g6.1 c = g4.1 c := fun c hc => (d5 c (by omega)).trans (f5.1 c (by omega))
  have d3 : ∀ c, ¬ (134 ≤ c ∧ c ≤ 134+5) → g6.1 c = g3.1 c := fun c hc => (d4 c (by omega)).trans (f4.1 c (by omega))
  have d2 : ∀ c, ¬ (134 ≤ c ∧ c ≤ 134+5) → c ≠ 127+6 → g6.1 c = g2.1 c := fun c hc h1 => (d3 c (by omega)).trans (f3.1 c (by omega))
  have d1 : ∀ c, ¬ (134 ≤ c ∧ c ≤ 134+5) → ¬ (127+5 ≤ c ∧ c ≤ 127+6) → g6.1 c = g1.1 c := fun c hc h1 => (d2 c (by omega) (by omega)).trans (f2.1 c (by omega))
  have d0 : ∀ c, ¬ (134 ≤ c ∧ c ≤ 134+5) → ¬ (127 ≤ c ∧ c ≤ 127+6) → g6.1 c = g0.1 c := fun c hc h1 => (d1 c (by omega) (by omega)).trans (f1.1 c (by omega))
  have b1 : ∀ c, ¬ (127 ≤ c ∧ c ≤ 127+4) → g1.1 c = g0.1 c := fun c hc => f1.1 c (by omega)
  have b2 : ∀ c, ¬ (127 ≤ c ∧ c ≤ 127+5) → g2.1 c = g0.1 c := fun c hc => (f2.1 c (by omega)).trans (b1 c (by omega))
  have b3 : ∀ c, ¬ (127 ≤ c ∧ c ≤ 127+6) → g3.1 c = g0.1 c := fun c hc => (f3.1 c (by omega)).trans (b2 c (by omega))
  have b4 : ∀ c, ¬ (127 ≤ c ∧ c ≤ 127+6) → ¬ (134 ≤ c ∧ c ≤ 134+1) → g4.1 c = g0.1 c := fun c hc h1 => (f4.1 c (by omega)).trans (b3 c (by omega))
  have b5 : ∀ c, ¬ (127 ≤ c ∧ c ≤ 127+6) → ¬ (134 ≤ c ∧ c ≤ 134+3) → g5.1 c = g0.1 c := fun c hc h1 => (f5.1 c (by omega)).trans (b4 c (by omega) (by omega))
  have d96 : g6.1 96 = g0.1 96 := d0 96 (by omega) (by omega)
  refine ⟨g6, ?_, ⟨fun i j hi hj => ?_, fun j hj => ?_, fun j hj => ?_, fun j hj => ?_, fun j hj => ?_, fun j hj => ?_, fun j hj => ?_⟩, ?_, ?_, ?_, ?_, ?_, fun c hc q => ?_, fun j q => ?_, ?_⟩
  · refine Eq.trans ?_ e6
    refine Eq.trans ?_ e5
    refine Eq.trans ?_ e4
    refine Eq.trans ?_ e3
    refine Eq.trans ?_ e2
    refine Eq.trans ?_ e1
    rw [← hg]
    rfl
  · have k := k1 j hj
    match i, hi with
    | 0, _ => rw [d1 _ (by omega) (by omega), k.1, c0 _ (by omega)]
    | 1, _ => rw [d1 _ (by omega) (by omega), k.2.1, c0 _ (by omega)]
    | 2, _ => rw [d1 _ (by omega) (by omega), k.2.2.1, c0 _ (by omega)]
    | 3, _ => rw [d1 _ (by omega) (by omega), k.2.2.2.1, c0 _ (by omega)]
    | 4, _ => rw [d1 _ (by omega) (by omega), k.2.2.2.2, c0 _ (by omega)]
  · rw [d2 _ (by omega) (by omega), k2 j hj, b1 _ (by omega), c0 _ (by omega)]
  · rw [d3 _ (by omega), k3 j hj, b2 _ (by omega), c0 _ (by omega)]
  · have k := k4 j hj
    rw [d4 _ (by omega), d4 _ (by omega), k.1, k.2, b3 _ (by omega), b3 _ (by omega), c0 _ (by omega), c0 _ (by omega)]
    exact ⟨rfl, rfl⟩
  · have k := k5 j hj
    rw [d5 _ (by omega), d5 _ (by omega), k.1, k.2, b4 _ (by omega) (by omega), b4 _ (by omega) (by omega), c0 _ (by omega), c0 _ (by omega)]
    exact ⟨rfl, rfl⟩
  · have k := k6 j hj
    rw [k.1, k.2, b5 _ (by omega) (by omega), b5 _ (by omega) (by omega), c0 _ (by omega), c0 _ (by omega)]
    exact ⟨rfl, rfl⟩
  · rw [d96, ← hg]
    match j, hj with
    | 0, _ => simp [sp_p, si_1]
    | 1, _ => simp [sp_p, si_1]
    | 2, _ => simp [sp_p, si_1]
    | 3, _ => simp [sp_p, si_1]
    | 4, _ => simp [sp_p, si_1]
    | 5, _ => simp [sp_p, si_1]
  · rw [d96, ← hg]; simp [sp_p, si_1]
  · rw [d96, ← hg]; simp [sp_p, si_1]
  · rw [d96, ← hg]; simp [sp_p, si_1]
  · rw [d96, ← hg]; simp [sp_p, si_1]
  · rw [d96, ← hg]; simp [sp_p, si_1]
  · unfold SIm at q
    rw [d0 c (by omega) (by omega), c0 c hc]
  · rw [d96, ← hg]
    simp only [sp_p]
    rw [if_neg (by omega), if_neg (by omega), if_neg (by omega), if_neg (by omega), if_neg (by omega), if_neg (by omega), if_neg (by omega), if_neg (by omega), if_neg (by omega), if_neg (by omega), si_w, up_n _ _ (by omega)]
  · rw [f6.2, f5.2, f4.2, f3.2, f2.2, f1.2, c02]
theorem B7_undo {h : HP} (h57 : ¬ h.1 96 57 = 0) : ∃ g, f_X7_undo h = some (g.1 96 0, g) ∧ imR 127 59 134 97 0 121 h g ∧ g.1 96 14 = h.1 96 58 ∧ g.1 96 48 = h.1 96 65 ∧ g.1 96 51 = h.1 96 66 ∧ g.1 96 52 = h.1 96 67 ∧ FM SUn (fun j => j ≤ 5 ∨ j = 14 ∨ j = 48 ∨ j = 51 ∨ j = 52) h g := by
  generalize hg : sp 52 67 (sp 51 66 (sp 48 65 (sp 5 64 (sp 4 63 (sp 3 62 (sp 2 61 (sp 1 60 (sp 0 59 (sp 14 58 h))))))))) = g0
  have c0 : ∀ c, c ≠ 96 → g0.1 c = h.1 c := fun c hc => by rw [← hg]; simp only [sp_c hc, si_r hc]
  have c02 : g0.2 = h.2 := by rw [← hg]; rfl
  obtain ⟨g1, e1, k1, f1⟩ := B7_undo_L92 6 0 g0 FZ (by omega) (by have := FZ_ge; omega) (fun j q => by omega)
  obtain ⟨g2, e2, k2, f2⟩ := B7_undo_L166 24 0 g1 FZ (by omega) (by have := FZ_ge; omega) (fun j q => by omega)
  obtain ⟨g3, e3, k3, f3⟩ := B7_undo_L192 3 0 g2 FZ (by omega) (by have := FZ_ge; omega) (fun j q => by omega)
  obtain ⟨g4, e4, k4, f4⟩ := B7_undo_L217 5 0 g3 FZ (by omega) (by have := FZ_ge; omega) (fun j q => by omega)
  obtain ⟨g5, e5, k5, f5⟩ := B7_undo_L254 10 0 g4 FZ (by omega) (by have := FZ_ge; omega) (fun j q => by omega)
  obtain ⟨g6, e6, k6, f6⟩ := B7_undo_L292 8 0 g5 FZ (by omega) (by have := FZ_ge; omega) (fun j q => by omega)
  have d5 : ∀ c, ¬ (121+4 ≤ c ∧ c ≤ 121+5) → g6.1 c = g5.1 c := fun c hc => f6.1 c (by omega)
  have d4 : ∀ c, ¬ (121+2 ≤ c ∧ c ≤ 121+5) → g6.1 c = g4.1 c := fun c hc => (d5 c (by omega)).trans (f5.1 c (by omega))
  have d3 : ∀ c, ¬ (121 ≤ c ∧ c ≤ 121+5) → g6.1 c = g3.1 c := fun c hc => (d4 c (by omega)).trans (f4.1 c (by omega))
  have d2 : ∀ c, ¬ (121 ≤ c ∧ c ≤ 121+5) → c ≠ 97+6 → g6.1 c = g2.1 c := fun c hc h1 => (d3 c (by omega)).trans (f3.1 c (by omega))
  have d1 : ∀ c, ¬ (121 ≤ c ∧ c ≤ 121+5) → ¬ (97+5 ≤ c ∧ c ≤ 97+6) → g6.1 c = g1.1 c := fun c hc h1 => (d2 c (by omega) (by omega)).trans (f2.1 c (by omega))
  have d0 : ∀ c, ¬ (121 ≤ c ∧ c ≤ 121+5) → ¬ (97 ≤ c ∧ c ≤ 97+6) → g6.1 c = g0.1 c := fun c hc h1 => (d1 c (by omega) (by omega)).trans (f1.1 c (by omega))
  have b1 : ∀ c, ¬ (97 ≤ c ∧ c ≤ 97+4) → g1.1 c = g0.1 c := fun c hc => f1.1 c (by omega)
  have b2 : ∀ c, ¬ (97 ≤ c ∧ c ≤ 97+5) → g2.1 c = g0.1 c := fun c hc => (f2.1 c (by omega)).trans (b1 c (by omega))
  have b3 : ∀ c, ¬ (97 ≤ c ∧ c ≤ 97+6) → g3.1 c = g0.1 c := fun c hc => (f3.1 c (by omega)).trans (b2 c (by omega))
  have b4 : ∀ c, ¬ (97 ≤ c ∧ c ≤ 97+6) → ¬ (121 ≤ c ∧ c ≤ 121+1) → g4.1 c = g0.1 c := fun c hc h1 => (f4.1 c (by omega)).trans (b3 c (by omega))
  have b5 : ∀ c, ¬ (97 ≤ c ∧ c ≤ 97+6) → ¬ (121 ≤ c ∧ c ≤ 121+3) → g5.1 c = g0.1 c := fun c hc h1 => (f5.1 c (by omega)).trans (b4 c (by omega) (by omega))
  have d96 : g6.1 96 = g0.1 96 := d0 96 (by omega) (by omega)
  refine ⟨g6, ?_, ⟨fun i j hi hj => ?_, fun j hj => ?_, fun j hj => ?_, fun j hj => ?_, fun j hj => ?_, fun j hj => ?_, fun j hj => ?_⟩, ?_, ?_, ?_, ?_, fun c hc q => ?_, fun j q => ?_, ?_⟩
  · refine Eq.trans ?_ e6
    refine Eq.trans ?_ e5
    refine Eq.trans ?_ e4
    refine Eq.trans ?_ e3
    refine Eq.trans ?_ e2
    refine Eq.trans ?_ e1
    rw [← hg]
    unfold f_X7_undo
    rw [if_neg h57]
    rfl
  · have k := k1 j hj
    match i, hi with
    | 0, _ => rw [d1 _ (by omega) (by omega), k.1, c0 _ (by omega)]
    | 1, _ => rw [d1 _ (by omega) (by omega), k.2.1, c0 _ (by omega)]
    | 2, _ => rw [d1 _ (by omega) (by omega), k.2.2.1, c0 _ (by omega)]
    | 3, _ => rw [d1 _ (by omega) (by omega), k.2.2.2.1, c0 _ (by omega)]
    | 4, _ => rw [d1 _ (by omega) (by omega), k.2.2.2.2, c0 _ (by omega)]
  · rw [d2 _ (by omega) (by omega), k2 j hj, b1 _ (by omega), c0 _ (by omega)]
  · rw [d3 _ (by omega), k3 j hj, b2 _ (by omega), c0 _ (by omega)]
  · have k := k4 j hj
    rw [d4 _ (by omega), d4 _ (by omega), k.1, k.2, b3 _ (by omega), b3 _ (by omega), c0 _ (by omega), c0 _ (by omega)]
    exact ⟨rfl, rfl⟩
  · have k := k5 j hj
    rw [d5 _ (by omega), d5 _ (by omega), k.1, k.2, b4 _ (by omega) (by omega), b4 _ (by omega) (by omega), c0 _ (by omega), c0 _ (by omega)]
    exact ⟨rfl, rfl⟩
  · have k := k6 j hj
    rw [k.1, k.2, b5 _ (by omega) (by omega), b5 _ (by omega) (by omega), c0 _ (by omega), c0 _ (by omega)]
    exact ⟨rfl, rfl⟩
  · rw [d96, ← hg]
    match j, hj with
    | 0, _ => simp [sp_p, si_1]
    | 1, _ => simp [sp_p, si_1]
    | 2, _ => simp [sp_p, si_1]
    | 3, _ => simp [sp_p, si_1]
    | 4, _ => simp [sp_p, si_1]
    | 5, _ => simp [sp_p, si_1]
  · rw [d96, ← hg]; simp [sp_p]
  · rw [d96, ← hg]; simp [sp_p]
  · rw [d96, ← hg]; simp [sp_p]
  · rw [d96, ← hg]; simp [sp_p]
  · unfold SUn at q
    rw [d0 c (by omega) (by omega), c0 c hc]
  · rw [d96, ← hg]
    simp only [sp_p]
    rw [if_neg (by omega), if_neg (by omega), if_neg (by omega), if_neg (by omega), if_neg (by omega), if_neg (by omega), if_neg (by omega), if_neg (by omega), if_neg (by omega), if_neg (by omega)]
  · rw [f6.2, f5.2, f4.2, f3.2, f2.2, f1.2, c02]
