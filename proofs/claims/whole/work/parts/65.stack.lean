/-! the reference's waiting signs -/
theorem RPq.top {f s a c : Nat} {X : Nat → Nat} {S : List Tq} {W : List Nat} {g : HP} (k : RPq f s X a S (c :: W) g) : g.1 111 W.length = nI c := by
  have := k.2.2.2.2.2.2.1 W.length (by simp)
  rw [this]
  congr 1
  simp
theorem gdc {c : Nat} {W : List Nat} {i : Nat} (h : i < W.length) : (c :: W).getD ((c :: W).length - 1 - i) 0 = W.getD (W.length - 1 - i) 0 := by
  rw [show (c :: W).length - 1 - i = (W.length - 1 - i) + 1 by simp only [List.length_cons]; omega]
  rfl
/-- a sign goes from those that wait to those that are told; the order of the writes of whole -/
theorem RPq.mv1 {f s a c cc : Nat} {X : Nat → Nat} {S : List Tq} {W : List Nat} {g : HP} (k : RPq f s X a S (c :: W) g) (t : Tq) : RPq f s X a (S ++ [t]) W (si (si (si (si g 110 (100 * f + S.length) (cdQ t)) 96 26 (nI (100 * f + S.length + 1))) 96 27 (nI W.length)) 96 28 (nI (opQ W))) ∧ FLq f cc g (si (si (si (si g 110 (100 * f + S.length) (cdQ t)) 96 26 (nI (100 * f + S.length + 1))) 96 27 (nI W.length)) 96 28 (nI (opQ W))) ∨ 100 < s := by
  by_cases hs : 100 < s
  · exact Or.inr hs
  left
  obtain ⟨k1, k2, k3, k4, k5, k6, k7, k8, k9, k10, k11, k12⟩ := k
  have len : (S ++ [t]).length = S.length + 1 := List.length_append
  have lw : (c :: W).length = W.length + 1 := List.length_cons
  rw [lw] at k9
  refine ⟨⟨?_, ?_, fun i hi => ?_, ?_, fun i hi => ?_, ?_, fun i hi => ?_, by rw [si_w, up_s], by rw [len]; omega, k10, fun i hi => ?_, fun c hc => k12 c (List.mem_cons_of_mem _ hc)⟩, fun c h1 h2 => ?_, fun j hj => ?_, fun j _ => ?_, fun j hj => ?_, rfl⟩
  · rw [si_w, up_n _ _ (by omega), si_w, up_n _ _ (by omega), si_w, up_n _ _ (by omega), si_r (by omega)]; exact k1
  · rw [si_w, up_n _ _ (by omega), si_w, up_n _ _ (by omega), si_w, up_n _ _ (by omega), si_r (by omega)]; exact k2
  · rw [si_r (by omega), si_r (by omega), si_r (by omega), si_r (by omega)]; exact k3 i hi
  · rw [si_w, up_n _ _ (by omega), si_w, up_n _ _ (by omega), si_w, up_s, len]; rfl
  · rw [len] at hi
    rw [si_r (by omega), si_r (by omega), si_r (by omega), si_w, getD_apT]
    by_cases e : i = S.length
    · subst e; rw [up_s, if_neg (by omega), if_pos rfl]
    · rw [up_n _ _ (by omega), if_pos (by omega)]; exact k5 i (by omega)
  · rw [si_w, up_n _ _ (by omega), si_w, up_s]
  · rw [si_r (by omega), si_r (by omega), si_r (by omega), si_r (by omega), k7 i (by rw [lw]; omega), gdc hi]
  · rw [si_r (by omega), si_r (by omega), si_r (by omega), si_r (by omega)]; exact k11 i hi
  · rw [si_r h1, si_r h1, si_r h1, si_r (by omega)]
  · rw [si_w, up_n _ _ (by omega), si_w, up_n _ _ (by omega), si_w, up_n _ _ (by omega), si_r (by omega)]
  · rw [si_r (by omega), si_r (by omega), si_r (by omega), si_r (by omega)]
  · rw [si_r (by omega), si_r (by omega), si_r (by omega), si_w, up_n _ _ (by omega)]
/-- the order of the writes of settle -/
theorem RPq.mv2 {f s a c cc : Nat} {X : Nat → Nat} {S : List Tq} {W : List Nat} {g : HP} (k : RPq f s X a S (c :: W) g) (hc : ¬ (c = 33 ∨ c = 40)) (hs : s ≤ 100) (t : Tq) : RPq f s X a (S ++ [t]) W (si (si (si g 96 27 (nI W.length)) 110 (100 * f + S.length) (cdQ t)) 96 26 (nI (100 * f + S.length + 1))) ∧ FLq f cc g (si (si (si g 96 27 (nI W.length)) 110 (100 * f + S.length) (cdQ t)) 96 26 (nI (100 * f + S.length + 1))) := by
  obtain ⟨k1, k2, k3, k4, k5, k6, k7, k8, k9, k10, k11, k12⟩ := k
  have len : (S ++ [t]).length = S.length + 1 := List.length_append
  have lw : (c :: W).length = W.length + 1 := List.length_cons
  rw [lw] at k9
  have op : opQ (c :: W) = opQ W := by rw [opQ, if_neg hc]
  refine ⟨⟨?_, ?_, fun i hi => ?_, ?_, fun i hi => ?_, ?_, fun i hi => ?_, ?_, by rw [len]; omega, k10, fun i hi => ?_, fun c hc => k12 c (List.mem_cons_of_mem _ hc)⟩, fun c h1 h2 => ?_, fun j hj => ?_, fun j _ => ?_, fun j hj => ?_, rfl⟩
  · rw [si_w, up_n _ _ (by omega), si_r (by omega), si_w, up_n _ _ (by omega)]; exact k1
  · rw [si_w, up_n _ _ (by omega), si_r (by omega), si_w, up_n _ _ (by omega)]; exact k2
  · rw [si_r (by omega), si_r (by omega), si_r (by omega)]; exact k3 i hi
  · rw [si_w, up_s, len]; rfl
  · rw [len] at hi
    rw [si_r (by omega), si_w, getD_apT]
    by_cases e : i = S.length
    · subst e; rw [up_s, if_neg (by omega), if_pos rfl]
    · rw [up_n _ _ (by omega), if_pos (by omega), si_r (by omega)]; exact k5 i (by omega)
  · rw [si_w, up_n _ _ (by omega), si_r (by omega), si_w, up_s]
  · rw [si_r (by omega), si_r (by omega), si_r (by omega), k7 i (by rw [lw]; omega), gdc hi]
  · rw [si_w, up_n _ _ (by omega), si_r (by omega), si_w, up_n _ _ (by omega), ← op]; exact k8
  · rw [si_r (by omega), si_r (by omega), si_r (by omega)]; exact k11 i hi
  · rw [si_r h1, si_r (by omega), si_r h1]
  · rw [si_w, up_n _ _ (by omega), si_r (by omega), si_w, up_n _ _ (by omega)]
  · rw [si_r (by omega), si_r (by omega), si_r (by omega)]
  · rw [si_r (by omega), si_w, up_n _ _ (by omega), si_r (by omega)]
def bngQ : List Nat → Nat
  | [] => 0
  | c :: w => if c = 33 then bngQ w + 1 else 0
theorem E7_whole_L0 {f s a cc : Nat} {X : Nat → Nat} (x : XOK s X) (hf : f < 6) : ∀ (W : List Nat) (S : List Tq) (g : HP) (fuel : Nat), bngQ W < fuel → RPq f s X a S W g → ∃ g', f_X7_whole_L0 fuel g = some g' ∧ RPq f s X a (S ++ List.replicate (bngQ W) (tkO 33)) (W.drop (bngQ W)) g' ∧ FLq f cc g g' := by
  intro W
  induction W with
  | nil =>
    intro S g fuel hfu k
    obtain ⟨fu, rfl⟩ : ∃ fu, fuel = fu + 1 := ⟨fuel - 1, by omega⟩
    refine ⟨g, ?_, ?_, FLq.rf⟩
    · rw [f_X7_whole_L0, k.2.2.2.2.2.1, if_pos (by decide)]
    · show RPq f s X a (S ++ []) [] g
      rw [List.append_nil]; exact k
  | cons c W ih =>
    intro S g fuel hfu k
    obtain ⟨fu, rfl⟩ : ∃ fu, fuel = fu + 1 := ⟨fuel - 1, by omega⟩
    have xs := x.1
    have lw : (c :: W).length = W.length + 1 := List.length_cons
    have k9 := k.2.2.2.2.2.2.2.2.1
    have k10 := k.2.2.2.2.2.2.2.2.2.1
    rw [lw] at k9
    have w1 : nI (W.length + 1) - 1 = nI W.length := by rw [show (1 : Int32) = nI 1 from rfl, sub_n (by omega), Nat.add_sub_cancel]
    have iw := inb_n (show W.length < 101 by omega) (show (101 : Nat) < 2147483648 by omega)
    rw [f_X7_whole_L0, k.2.2.2.2.2.1, lw, if_neg (by rw [show (0 : Int32) = nI 0 from rfl, le_n (by omega) (by omega)]; omega), w1, gd_b iw, cl_n (by omega), k.top]
    by_cases z : c = 33
    · subst z
      have bq : bngQ (33 :: W) = bngQ W + 1 := by rw [bngQ, if_pos rfl]
      rw [bq] at hfu ⊢
      rcases k.mv1 (cc := cc) (tkO 33) with ⟨m1, m2⟩ | m
      · obtain ⟨g', e1, e2, e3⟩ := ih (S ++ [tkO 33]) _ fu (by omega) m1
        have op : opQ (33 :: W) = opQ W + 1 := by rw [opQ, if_pos (Or.inl rfl)]
        have o8 := k.2.2.2.2.2.2.2.1
        have ow : opQ W ≤ W.length := by
          have : ∀ w : List Nat, opQ w ≤ w.length := by
            intro w
            induction w with
            | nil => exact Nat.le_refl _
            | cons c w ih => rw [opQ, List.length_cons]; split <;> omega
          exact this W
        refine ⟨g', ?_, ?_, m2.trans e3⟩
        · unfold f_X7_emits
          rw [if_pos (show nI 33 = 33 from rfl), k.2.2.2.1, gd_b (inb_n (by omega) (by omega)), cl_n (by omega), lt_e, si_r (show (96 : Nat) ≠ 110 by omega), k.2.2.2.1, one_n, lt_e, bo_s, si_w, up_n _ _ (show (27 : Nat) ≠ 26 by omega), si_r (show (96 : Nat) ≠ 110 by omega), k.2.2.2.2.2.1, lw, w1, lt_e, si_w, up_n _ _ (show (28 : Nat) ≠ 27 by omega), si_w, up_n _ _ (show (28 : Nat) ≠ 26 by omega), si_r (show (96 : Nat) ≠ 110 by omega), o8, op, show nI (opQ W + 1) - 1 = nI (opQ W) by rw [show (1 : Int32) = nI 1 from rfl, sub_n (by omega), Nat.add_sub_cancel], lt_e]
          exact e1
        · rw [List.append_assoc] at e2
          exact e2
      · omega
    · have bq : bngQ (c :: W) = 0 := by rw [bngQ, if_neg z]
      have c127 := k.2.2.2.2.2.2.2.2.2.2.2 c (List.mem_cons_self ..)
      rw [bq, if_neg (show ¬ nI c = 33 by rw [show (33 : Int32) = nI 33 from rfl, eq_n (by omega) (by omega)]; exact z)]
      refine ⟨g, rfl, ?_, FLq.rf⟩
      show RPq f s X a (S ++ []) (c :: W) g
      rw [List.append_nil]; exact k
theorem opQ_le : ∀ w : List Nat, opQ w ≤ w.length := by
  intro w
  induction w with
  | nil => exact Nat.le_refl _
  | cons c w ih => rw [opQ, List.length_cons]; split <;> omega
theorem bngQ_le : ∀ w : List Nat, bngQ w ≤ w.length := by
  intro w
  induction w with
  | nil => exact Nat.le_refl _
  | cons c w ih => rw [bngQ, List.length_cons]; split <;> omega
theorem E7_whole {f s a cc : Nat} {X : Nat → Nat} {S : List Tq} {W : List Nat} {g : HP} (x : XOK s X) (hf : f < 6) (k : RPq f s X a S W g) : ∃ g', f_X7_whole g = some g' ∧ RPq f s X a (S ++ List.replicate (bngQ W) (tkO 33)) (W.drop (bngQ W)) g' ∧ FLq f cc g g' := by
  have k9 := k.2.2.2.2.2.2.2.2.1
  have k10 := k.2.2.2.2.2.2.2.2.2.1
  have xs := x.1
  have b := bngQ_le W
  exact E7_whole_L0 x hf W S g FZ (by have := FZ_ge; omega) k
/-- what waits with & and | is told: P goes, R stays -/
theorem E7_settle_L0 {f s a cc z : Nat} {X : Nat → Nat} (x : XOK s X) (hf : f < 6) {R : List Nat} (hz : z = 38 ∨ z = 124) (hR : ∀ c w, R = c :: w → c ≠ 38 ∧ (c = 124 → z = 38)) : ∀ (P : List Nat) (S : List Tq) (g : HP) (fuel : Nat), P.length < fuel → (∀ c, c ∈ P → c = 38 ∨ (c = 124 ∧ z = 124)) → RPq f s X a S (P ++ R) g → ∃ g', f_X7_settle_L0 fuel (nI z) g = some g' ∧ RPq f s X a (S ++ P.map tkO) R g' ∧ FLq f cc g g' := by
  intro P
  induction P with
  | nil =>
    intro S g fuel hfu hP k
    obtain ⟨fu, rfl⟩ : ∃ fu, fuel = fu + 1 := ⟨fuel - 1, by omega⟩
    have xs := x.1
    have k' : RPq f s X a S R g := k
    refine ⟨g, ?_, by rw [List.map_nil, List.append_nil]; exact k', FLq.rf⟩
    rw [f_X7_settle_L0, k'.2.2.2.2.2.1]
    cases R with
    | nil => rw [if_pos (by decide)]
    | cons c w =>
      have lw : (c :: w).length = w.length + 1 := List.length_cons
      have k9 := k'.2.2.2.2.2.2.2.2.1
      have k10 := k'.2.2.2.2.2.2.2.2.2.1
      rw [lw] at k9
      have w1 : nI (w.length + 1) - 1 = nI w.length := by rw [show (1 : Int32) = nI 1 from rfl, sub_n (by omega), Nat.add_sub_cancel]
      have iw := inb_n (show w.length < 101 by omega) (show (101 : Nat) < 2147483648 by omega)
      have c127 := k'.2.2.2.2.2.2.2.2.2.2.2 c (List.mem_cons_self ..)
      obtain ⟨r1, r2⟩ := hR c w rfl
      rw [lw, if_neg (by rw [show (0 : Int32) = nI 0 from rfl, le_n (by omega) (by omega)]; omega), w1, gd_b iw, cl_n (by omega), k'.top, if_neg (show ¬ nI c = 38 by rw [show (38 : Int32) = nI 38 from rfl, eq_n (by omega) (by omega)]; exact r1), gd_b iw]
      by_cases y : c = 124
      · rw [if_pos (by rw [y]; rfl), if_pos (by rw [r2 y]; rfl)]
      · rw [if_neg (show ¬ nI c = 124 by rw [show (124 : Int32) = nI 124 from rfl, eq_n (by omega) (by omega)]; exact y)]
  | cons c P ih =>
    intro S g fuel hfu hP k
    obtain ⟨fu, rfl⟩ : ∃ fu, fuel = fu + 1 := ⟨fuel - 1, by omega⟩
    have xs := x.1
    have k' : RPq f s X a S (c :: (P ++ R)) g := k
    have lw : (c :: (P ++ R)).length = (P ++ R).length + 1 := List.length_cons
    have k9 := k'.2.2.2.2.2.2.2.2.1
    have k10 := k'.2.2.2.2.2.2.2.2.2.1
    rw [lw] at k9
    have w1 : nI ((P ++ R).length + 1) - 1 = nI (P ++ R).length := by rw [show (1 : Int32) = nI 1 from rfl, sub_n (by omega), Nat.add_sub_cancel]
    have iw := inb_n (show (P ++ R).length < 101 by omega) (show (101 : Nat) < 2147483648 by omega)
    have pc := hP c (List.mem_cons_self ..)
    obtain ⟨m1, m2⟩ := k'.mv2 (cc := cc) (by omega) xs (tkO c)
    have hfu' : P.length < fu := by rw [List.length_cons] at hfu; omega
    obtain ⟨g', e1, e2, e3⟩ := ih (S ++ [tkO c]) _ fu hfu' (fun d hd => hP d (List.mem_cons_of_mem _ hd)) m1
    have cd : -(nI c) = cdQ (tkO c) := by
      unfold cdQ tkO
      rw [if_pos (show c = 33 ∨ c = 38 ∨ c = 124 by omega)]
    have j45 : f_X7_settle_J45 (fun z0 z1 => f_X7_settle_L0 fu z0 z1) (nI z) g = some g' := by
      unfold f_X7_settle_J45 f_X7_emits
      rw [k'.2.2.2.2.2.1, lw, w1, lt_e, si_w, up_s, gd_b iw, cl_n (by omega), si_r (show (111 : Nat) ≠ 96 by omega), k'.top, cd, up_n _ _ (show (26 : Nat) ≠ 27 by omega), k'.2.2.2.1, gd_b (inb_n (by omega) (by omega)), cl_n (by omega), lt_e, si_r (show (96 : Nat) ≠ 110 by omega), si_w, up_n _ _ (show (26 : Nat) ≠ 27 by omega), k'.2.2.2.1, one_n, lt_e, bo_s]
      exact e1
    refine ⟨g', ?_, ?_, m2.trans e3⟩
    · rw [f_X7_settle_L0, k'.2.2.2.2.2.1, lw, if_neg (by rw [show (0 : Int32) = nI 0 from rfl, le_n (by omega) (by omega)]; omega), w1, gd_b iw, cl_n (by omega), k'.top]
      rcases pc with e | ⟨e, ez⟩
      · rw [if_pos (by rw [e]; rfl)]; exact j45
      · rw [if_neg (show ¬ nI c = 38 by rw [e]; decide), gd_b iw, if_pos (by rw [e]; rfl), if_neg (show ¬ nI z = 38 by rw [ez]; decide)]; exact j45
    · rw [List.map_cons, show S ++ (tkO c :: P.map tkO) = S ++ [tkO c] ++ P.map tkO by rw [List.append_assoc]; rfl]
      exact e2
theorem E7_settle {f s a cc z : Nat} {X : Nat → Nat} {S : List Tq} {P R : List Nat} {g : HP} (x : XOK s X) (hf : f < 6) (hz : z = 38 ∨ z = 124) (hR : ∀ c w, R = c :: w → c ≠ 38 ∧ (c = 124 → z = 38)) (hP : ∀ c, c ∈ P → c = 38 ∨ (c = 124 ∧ z = 124)) (k : RPq f s X a S (P ++ R) g) : ∃ g', f_X7_settle (nI z) g = some g' ∧ RPq f s X a (S ++ P.map tkO) R g' ∧ FLq f cc g g' := by
  have k9 := k.2.2.2.2.2.2.2.2.1
  have k10 := k.2.2.2.2.2.2.2.2.2.1
  have xs := x.1
  rw [List.length_append] at k9
  exact E7_settle_L0 x hf hz hR P S g FZ (by have := FZ_ge; omega) hP k
/-- a sign begins to wait; & and | -/
theorem RPq.pu1 {f s a c cc : Nat} {X : Nat → Nat} {S : List Tq} {W : List Nat} {g : HP} (k : RPq f s X a S W g) (hc : c = 38 ∨ c = 124) (ha : a + 1 ≤ s) : RPq f s X (a + 1) S (c :: W) (si (si (si g 111 W.length (nI c)) 96 27 (nI (W.length + 1))) 96 16 (nI (a + 1))) ∧ FLq f cc g (si (si (si g 111 W.length (nI c)) 96 27 (nI (W.length + 1))) 96 16 (nI (a + 1))) := by
  obtain ⟨k1, k2, k3, k4, k5, k6, k7, k8, k9, k10, k11, k12⟩ := k
  have lw : (c :: W).length = W.length + 1 := List.length_cons
  refine ⟨⟨?_, by rw [si_w, up_s], fun i hi => ?_, ?_, fun i hi => ?_, ?_, fun i hi => ?_, ?_, by rw [lw]; omega, ha, fun i hi => ?_, fun d hd => ?_⟩, ((FLq.w111 (f := f) (cc := cc)).trans (FLq.pl (by omega))).trans (FLq.pl (by omega))⟩
  · rw [si_w, up_n _ _ (by omega), si_w, up_n _ _ (by omega), si_r (by omega)]; exact k1
  · rw [si_r (by omega), si_r (by omega), si_r (by omega)]; exact k3 i hi
  · rw [si_w, up_n _ _ (by omega), si_w, up_n _ _ (by omega), si_r (by omega)]; exact k4
  · rw [si_r (by omega), si_r (by omega), si_r (by omega)]; exact k5 i hi
  · rw [si_w, up_n _ _ (by omega), si_w, up_s, lw]
  · rw [si_r (by omega), si_r (by omega), si_w]
    by_cases e : i = W.length
    · subst e; rw [up_s, show (c :: W).length - 1 - W.length = 0 by rw [lw]; omega]; rfl
    · rw [up_n _ _ e]
      have : i < W.length := by rw [lw] at hi; omega
      rw [gdc this]; exact k7 i this
  · rw [si_w, up_n _ _ (by omega), si_w, up_n _ _ (by omega), si_r (by omega), opQ, if_neg (by omega)]; exact k8
  · rw [si_r (by omega), si_r (by omega), si_r (by omega)]; exact k11 i hi
  · rcases List.mem_cons.mp hd with e | e
    · omega
    · exact k12 d e
/-- ! and ( -/
theorem RPq.pu2 {f s a c cc : Nat} {X : Nat → Nat} {S : List Tq} {W : List Nat} {g : HP} (k : RPq f s X a S W g) (hc : c = 33 ∨ c = 40) (ha : a + 1 ≤ s) : RPq f s X (a + 1) S (c :: W) (si (si (si (si g 96 28 (nI (opQ W + 1))) 111 W.length (nI c)) 96 27 (nI (W.length + 1))) 96 16 (nI (a + 1))) ∧ FLq f cc g (si (si (si (si g 96 28 (nI (opQ W + 1))) 111 W.length (nI c)) 96 27 (nI (W.length + 1))) 96 16 (nI (a + 1))) := by
  obtain ⟨k1, k2, k3, k4, k5, k6, k7, k8, k9, k10, k11, k12⟩ := k
  have lw : (c :: W).length = W.length + 1 := List.length_cons
  refine ⟨⟨?_, by rw [si_w, up_s], fun i hi => ?_, ?_, fun i hi => ?_, ?_, fun i hi => ?_, ?_, by rw [lw]; omega, ha, fun i hi => ?_, fun d hd => ?_⟩, (((FLq.pl (f := f) (cc := cc) (by omega)).trans FLq.w111).trans (FLq.pl (by omega))).trans (FLq.pl (by omega))⟩
  · rw [si_w, up_n _ _ (by omega), si_w, up_n _ _ (by omega), si_r (by omega), si_w, up_n _ _ (by omega)]; exact k1
  · rw [si_r (by omega), si_r (by omega), si_r (by omega), si_r (by omega)]; exact k3 i hi
  · rw [si_w, up_n _ _ (by omega), si_w, up_n _ _ (by omega), si_r (by omega), si_w, up_n _ _ (by omega)]; exact k4
  · rw [si_r (by omega), si_r (by omega), si_r (by omega), si_r (by omega)]; exact k5 i hi
  · rw [si_w, up_n _ _ (by omega), si_w, up_s, lw]
  · rw [si_r (by omega), si_r (by omega), si_w]
    by_cases e : i = W.length
    · subst e; rw [up_s, show (c :: W).length - 1 - W.length = 0 by rw [lw]; omega]; rfl
    · rw [up_n _ _ e, si_r (by omega)]
      have : i < W.length := by rw [lw] at hi; omega
      rw [gdc this]; exact k7 i this
  · rw [si_w, up_n _ _ (by omega), si_w, up_n _ _ (by omega), si_r (by omega), si_w, up_s, opQ, if_pos hc]
  · rw [si_r (by omega), si_r (by omega), si_r (by omega), si_r (by omega)]; exact k11 i hi
  · rcases List.mem_cons.mp hd with e | e
    · omega
    · exact k12 d e
