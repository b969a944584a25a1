/-! the heart that the reference tells of its rows -/
def GAt (f o : Nat) (t : List Tq) (g : HP) : Prop := ∀ j, j < t.length → g.1 110 (100 * f + o + j) = cdQ (t.getD j (0, 0, 0))
theorem GAt.l {f o : Nat} {t u : List Tq} {g : HP} (h : GAt f o (t ++ u) g) : GAt f o t g := fun j hj => by
  have := h j (by rw [List.length_append]; omega)
  rw [getD_apL hj] at this
  exact this
theorem GAt.r {f o : Nat} {t u : List Tq} {g : HP} (h : GAt f o (t ++ u) g) : GAt f (o + t.length) u g := fun j hj => by
  have := h (t.length + j) (by rw [List.length_append]; omega)
  rw [getD_apR, show 100 * f + o + (t.length + j) = 100 * f + (o + t.length) + j by omega] at this
  exact this
theorem GAt.fr {f o : Nat} {t : List Tq} {g g' : HP} (h : GAt f o t g) (e : g'.1 110 = g.1 110) : GAt f o t g' := fun j hj => by rw [e]; exact h j hj
/-- the pile holds st, the newest behind -/
def PLq (st : List Bool) (g : HP) : Prop := ∀ i, i < st.length → g.1 113 i = bI (st.getD (st.length - 1 - i) false)
theorem gbc {c : Bool} {W : List Bool} {i : Nat} (h : i < W.length) : (c :: W).getD ((c :: W).length - 1 - i) false = W.getD (W.length - 1 - i) false := by
  rw [show (c :: W).length - 1 - i = (W.length - 1 - i) + 1 by simp only [List.length_cons]; omega]
  rfl
theorem PLq.top {b : Bool} {st : List Bool} {g : HP} (h : PLq (b :: st) g) : g.1 113 st.length = bI b := by
  have := h st.length (by simp)
  rw [this]
  congr 1
  simp
theorem PLq.tail {b : Bool} {st : List Bool} {g : HP} (h : PLq (b :: st) g) : PLq st g := fun i hi => by
  rw [h i (by simp only [List.length_cons]; omega), gbc hi]
theorem PLq.put {b : Bool} {st : List Bool} {g : HP} (h : PLq st g) : PLq (b :: st) (si g 113 st.length (bI b)) := fun i hi => by
  rw [si_w]
  by_cases e : i = st.length
  · subst e
    rw [up_s]
    congr 1
    simp
  · have : i < st.length := by simp only [List.length_cons] at hi; omega
    rw [up_n _ _ e, gbc this]
    exact h i this
theorem bI_1 : vp_nar .boolean 1 = bI true := rfl
theorem bI_0 : vp_nar .boolean 0 = bI false := rfl
theorem bI_z (b : Bool) : (bI b = 0) ↔ b = false := by cases b <;> decide
theorem bT_q {b : Bool} (h : ¬ b = false) : b = true := by
  cases b with
  | true => rfl
  | false => exact absurd rfl h
/-- the facts as the reference asks for them -/
def faQ (p : Nat) (g : HP) : List Int32 := [nI p, g.1 97 p, g.1 98 p, g.1 99 p / 10, g.1 100 p / 10, g.1 96 5 - g.1 96 5 / 10 * 10]
theorem faQ_g {p l : Nat} {g : HP} (hp : p < 6) (hl : l < 6) : f_X7_factOf (nI l) (nI p) g = some ((faQ p g).getD l 0) := by
  have i6 := inb_n hp (show (6 : Nat) < 2147483648 by omega)
  have cp : (nI p).toNatClampNeg = p := cl_n (by omega)
  unfold f_X7_factOf
  have a1 : l = 0 ∨ l = 1 ∨ l = 2 ∨ l = 3 ∨ l = 4 ∨ l = 5 := by omega
  rcases a1 with rfl | rfl | rfl | rfl | rfl | rfl
  · rw [if_pos (show nI 0 = 0 from rfl)]; rfl
  · rw [if_neg (by decide), if_pos (show nI 1 = 1 from rfl), gd_b i6, cp]; rfl
  · rw [if_neg (by decide), if_neg (by decide), if_pos (show nI 2 = 2 from rfl), gd_b i6, cp]; rfl
  · rw [if_neg (by decide), if_neg (by decide), if_neg (by decide), if_pos (show nI 3 = 3 from rfl), gd_b i6, cp]; rfl
  · rw [if_neg (by decide), if_neg (by decide), if_neg (by decide), if_neg (by decide), if_pos (show nI 4 = 4 from rfl), gd_b i6, cp]; rfl
  · rw [if_neg (by decide), if_neg (by decide), if_neg (by decide), if_neg (by decide), if_neg (by decide)]; rfl
theorem faQ_fr {p : Nat} {g g' : HP} (f : FM P113 NO_ g g') : faQ p g' = faQ p g := by
  have c : ∀ c, 97 ≤ c → c ≤ 100 → g'.1 c = g.1 c := fun c a b => f.1 c (by omega) (by unfold P113; omega)
  unfold faQ
  rw [c 97 (by omega) (by omega), c 98 (by omega) (by omega), c 99 (by omega) (by omega), c 100 (by omega) (by omega), f.2.1 5 (fun z => z)]
theorem FM.w113 {g : HP} {j : Nat} {v : Int32} : FM P113 NO_ g (si g 113 j v) := FM.cell (by omega) rfl
theorem FM.tr {g g1 g2 : HP} (a : FM P113 NO_ g g1) (b : FM P113 NO_ g1 g2) : FM P113 NO_ g g2 := a.trans b (fun _ z => z) (fun _ z => z) (fun _ z => z) (fun _ z => z)
/-- signs t take the pile st to v and st -/
def RN7 (f p cc to k : Nat) (t : List Tq) (v : List Int32 → Bool) : Prop := ∀ (o : Nat) (st : List Bool) (g : HP) (fuel : Nat), GAt f o t g → g.1 109 cc = nI to → 100 * f + o + t.length ≤ to → PLq st g → st.length + k ≤ 60 → ∃ g', f_X7_holds_L10 (fuel + t.length) (nI cc) (nI p) (nI st.length) (nI (100 * f + o)) g = f_X7_holds_L10 fuel (nI cc) (nI p) (nI (st.length + 1)) (nI (100 * f + o + t.length)) g' ∧ PLq (v (faQ p g) :: st) g' ∧ FM P113 NO_ g g'
theorem code_n {c l n : Nat} (hc : c = 60 ∨ c = 61 ∨ c = 62) (hl : l < 6) (hn : n ≤ 99) : cdQ (c, l, nI n) = nI (1000 * l + 100 * (c - 60) + n) := by
  unfold cdQ
  rw [if_neg (show ¬ (c = 33 ∨ c = 38 ∨ c = 124) by omega)]
  show (1000 : Int32) * nI l + 100 * (nI c - 60) + nI n = _
  rw [show (1000 : Int32) = nI 1000 from rfl, show (100 : Int32) = nI 100 from rfl, show (60 : Int32) = nI 60 from rfl, sub_n (by omega), mul_n, mul_n, add_n, add_n]
theorem E7_holds {f p cc to k : Nat} {t : List Tq} {v : List Int32 → Bool} (w : WfQ k t v) (hf : f < 6) (hp : p < 6) (hcc : cc < 60) (hto : to ≤ 100 * f + 100) : RN7 f p cc to k t v := by
  have icc := inb_n hcc (show (60 : Nat) < 2147483648 by omega)
  have cn : (nI cc).toNatClampNeg = cc := cl_n (by omega)
  refine w (fun k t v => RN7 f p cc to k t v) (fun k c l n hk hc hl hn => ?_) (fun k t v ih => ?_) (fun k op t t' v v' ih ih' hop => ?_)
  · intro o st g fuel ha h9 hi s hl2
    obtain ⟨m, hm, rfl⟩ := hn
    have hi' : 100 * f + o + 1 ≤ to := hi
    have b1 : g.1 110 (100 * f + o) = nI (1000 * l + 100 * (c - 60) + m) := (ha 0 (by show 0 < 1; omega)).trans (code_n hc hl hm)
    have ng : ¬ nI to ≤ nI (100 * f + o) := by rw [le_n (by omega) (by omega)]; omega
    have i100 := inb_n (show st.length < 100 by omega) (show (100 : Nat) < 2147483648 by omega)
    have fin : ∀ b : Bool, ∃ g', f_X7_holds_L10 fuel (nI cc) (nI p) (nI (st.length + 1)) (nI (100 * f + o + 1)) (si g 113 st.length (bI b)) = f_X7_holds_L10 fuel (nI cc) (nI p) (nI (st.length + 1)) (nI (100 * f + o + [(c, l, nI m)].length)) g' ∧ PLq (b :: st) g' ∧ FM P113 NO_ g g' := fun b => ⟨_, rfl, s.put, FM.w113⟩
    have d1 : nI (1000 * l + 100 * (c - 60) + m) / 1000 = nI l := by
      rw [show (1000 : Int32) = nI 1000 from rfl, div_n (by omega) (by omega) (by omega)]; congr 1; omega
    have d2 : nI (1000 * l + 100 * (c - 60) + m) / 100 = nI (10 * l + (c - 60)) := by
      rw [show (100 : Int32) = nI 100 from rfl, div_n (by omega) (by omega) (by omega)]; congr 1; omega
    have d3 : nI (10 * l + (c - 60)) - nI (10 * l + (c - 60)) / 10 * 10 = nI (c - 60) := by
      rw [show (10 : Int32) = nI 10 from rfl, rem_n (by omega) (by omega) (by omega)]; congr 1; omega
    have d4 : nI (1000 * l + 100 * (c - 60) + m) - nI (10 * l + (c - 60)) * 100 = nI m := by
      rw [show (100 : Int32) = nI 100 from rfl, mul_n, sub_n (by omega)]; congr 1; omega
    show ∃ g', f_X7_holds_L10 (fuel + 1) (nI cc) (nI p) (nI st.length) (nI (100 * f + o)) g = _ ∧ PLq (tstQ c ((faQ p g).getD l 0) (nI m) :: st) g' ∧ FM P113 NO_ g g'
    rw [f_X7_holds_L10, gd_b icc, cn, h9, if_neg ng, gd_b (inb_n (by omega) (by omega)), cl_n (by omega), b1, lt_e, if_neg (show ¬ nI (1000 * l + 100 * (c - 60) + m) = -33 by
      intro e
      have := congrArg Int32.toInt e
      rw [nI_toInt (by omega)] at this
      have e2 : (-33 : Int32).toInt = -33 := by decide
      omega), if_pos (show (0 : Int32) ≤ nI (1000 * l + 100 * (c - 60) + m) from Int32.not_lt.mp (nI_pos (by omega))), d1, faQ_g hp hl, bo_s, d2, d3, lt_e, d4]
    generalize (faQ p g).getD l 0 = y
    rcases hc with rfl | rfl | rfl
    · rw [if_pos (show nI (60 - 60) = 0 from rfl), show tstQ 60 y (nI m) = decide (y < nI m) from rfl]
      by_cases z : nI m ≤ y
      · rw [if_pos z, gd_b i100, cl_n (by omega), lt_e, one_n, lt_e, one_n, lt_e, bI_0, decide_eq_false (Int32.not_lt.mpr z)]
        exact fin false
      · rw [if_neg z, gd_b i100, cl_n (by omega), lt_e, one_n, lt_e, one_n, lt_e, bI_1, decide_eq_true (Int32.not_le.mp z)]
        exact fin true
    · rw [if_neg (show ¬ nI (61 - 60) = 0 by decide), if_pos (show nI (61 - 60) = 1 from rfl), show tstQ 61 y (nI m) = decide (y = nI m) from rfl]
      by_cases z : y = nI m
      · rw [if_pos z, gd_b i100, cl_n (by omega), lt_e, one_n, lt_e, one_n, lt_e, bI_1, decide_eq_true z]
        exact fin true
      · rw [if_neg z, gd_b i100, cl_n (by omega), lt_e, one_n, lt_e, one_n, lt_e, bI_0, decide_eq_false z]
        exact fin false
    · rw [if_neg (show ¬ nI (62 - 60) = 0 by decide), if_neg (show ¬ nI (62 - 60) = 1 by decide), show tstQ 62 y (nI m) = decide (nI m < y) from rfl]
      by_cases z : y ≤ nI m
      · rw [if_pos z, gd_b i100, cl_n (by omega), lt_e, one_n, lt_e, one_n, lt_e, bI_0, decide_eq_false (Int32.not_lt.mpr z)]
        exact fin false
      · rw [if_neg z, gd_b i100, cl_n (by omega), lt_e, one_n, lt_e, one_n, lt_e, bI_1, decide_eq_true (Int32.not_le.mp z)]
        exact fin true
  · intro o st g fuel ha h9 hi s hl2
    rw [List.length_append] at hi
    have hi' : 100 * f + o + (t.length + 1) ≤ to := hi
    obtain ⟨g1, e1, s1, f1⟩ := ih o st g (fuel + 1) ha.l h9 (by omega) s hl2
    have a1 := ha.r 0 (by show 0 < 1; omega)
    have b1 : g1.1 110 (100 * f + o + t.length) = -33 := by
      rw [f1.1 110 (by omega) (by unfold P113; omega), show 100 * f + o + t.length = 100 * f + (o + t.length) + 0 by omega, a1]; rfl
    have h9' : g1.1 109 cc = nI to := by rw [f1.1 109 (by omega) (by unfold P113; omega)]; exact h9
    have ng : ¬ nI to ≤ nI (100 * f + o + t.length) := by rw [le_n (by omega) (by omega)]; omega
    have o1 : nI (st.length + 1) - 1 = nI st.length := by rw [show (1 : Int32) = nI 1 from rfl, sub_n (by omega), Nat.add_sub_cancel]
    have i100 := inb_n (show st.length < 100 by omega) (show (100 : Nat) < 2147483648 by omega)
    have fin : ∀ g', f_X7_holds_L10 (fuel + 1) (nI cc) (nI p) (nI (st.length + 1)) (nI (100 * f + o + t.length)) g1 = f_X7_holds_L10 fuel (nI cc) (nI p) (nI (st.length + 1)) (nI (100 * f + o + t.length + 1)) g' → f_X7_holds_L10 (fuel + (t ++ [(33, 0, 0)]).length) (nI cc) (nI p) (nI st.length) (nI (100 * f + o)) g = f_X7_holds_L10 fuel (nI cc) (nI p) (nI (st.length + 1)) (nI (100 * f + o + (t ++ [(33, 0, 0)]).length)) g' := fun g' e => by
      rw [List.length_append]
      show f_X7_holds_L10 (fuel + (t.length + 1)) (nI cc) (nI p) (nI st.length) (nI (100 * f + o)) g = f_X7_holds_L10 fuel (nI cc) (nI p) (nI (st.length + 1)) (nI (100 * f + o + (t.length + 1))) g'
      rw [show fuel + (t.length + 1) = fuel + 1 + t.length by omega, e1, e, Nat.add_assoc (100 * f + o)]
    have tp := s1.top
    cases hv : v (faQ p g) with
    | false =>
      rw [hv] at s1 tp
      refine ⟨si g1 113 st.length (bI true), fin _ ?_, (by show PLq ((!v (faQ p g)) :: st) _; rw [hv]; exact s1.tail.put (b := true)), f1.tr FM.w113⟩
      rw [f_X7_holds_L10, gd_b icc, cn, h9', if_neg ng, gd_b (inb_n (by omega) (by omega)), cl_n (by omega), b1, lt_e, if_pos rfl, o1, gd_b i100, cl_n (by omega), tp, if_pos (show bI false = 0 from rfl), gd_b i100, lt_e, one_n, lt_e, bI_1]
    | true =>
      rw [hv] at s1 tp
      refine ⟨si g1 113 st.length (bI false), fin _ ?_, (by show PLq ((!v (faQ p g)) :: st) _; rw [hv]; exact s1.tail.put (b := false)), f1.tr FM.w113⟩
      rw [f_X7_holds_L10, gd_b icc, cn, h9', if_neg ng, gd_b (inb_n (by omega) (by omega)), cl_n (by omega), b1, lt_e, if_pos rfl, o1, gd_b i100, cl_n (by omega), tp, if_neg (show ¬ bI true = 0 by decide), gd_b i100, lt_e, one_n, lt_e, bI_0]
  · intro o st g fuel ha h9 hi s hl2
    rw [List.length_append, List.length_append] at hi
    have hi' : 100 * f + o + (t.length + t'.length + 1) ≤ to := hi
    obtain ⟨g1, e1, s1, f1⟩ := ih o st g (fuel + 1 + t'.length) ha.l.l h9 (by omega) s hl2
    have h9' : g1.1 109 cc = nI to := by rw [f1.1 109 (by omega) (by unfold P113; omega)]; exact h9
    have g110 : g1.1 110 = g.1 110 := f1.1 110 (by omega) (by unfold P113; omega)
    obtain ⟨g2, e2, s2, f2⟩ := ih' (o + t.length) (v (faQ p g) :: st) g1 (fuel + 1) (ha.l.r.fr g110) h9' (by omega) s1 (by simp only [List.length_cons]; omega)
    rw [faQ_fr f1] at s2
    have a1 := ha.r 0 (by show 0 < 1; omega)
    rw [List.length_append] at a1
    have g210 : g2.1 110 = g.1 110 := (f2.1 110 (by omega) (by unfold P113; omega)).trans g110
    have b1 : g2.1 110 (100 * f + (o + t.length) + t'.length) = -(nI op) := by
      rw [g210, show 100 * f + (o + t.length) + t'.length = 100 * f + (o + (t.length + t'.length)) + 0 by omega, a1]
      show cdQ (op, 0, 0) = _
      unfold cdQ
      rw [if_pos (show op = 33 ∨ op = 38 ∨ op = 124 by omega)]
    have h9'' : g2.1 109 cc = nI to := by rw [f2.1 109 (by omega) (by unfold P113; omega)]; exact h9'
    have ng : ¬ nI to ≤ nI (100 * f + (o + t.length) + t'.length) := by rw [le_n (by omega) (by omega)]; omega
    have o1 : nI (st.length + 1) - 1 = nI st.length := by rw [show (1 : Int32) = nI 1 from rfl, sub_n (by omega), Nat.add_sub_cancel]
    have o2 : nI (st.length + 1 + 1) + -1 = nI (st.length + 1) := dn_n (st.length + 1)
    have i100 := inb_n (show st.length < 100 by omega) (show (100 : Nat) < 2147483648 by omega)
    have j100 := inb_n (show st.length + 1 < 100 by omega) (show (100 : Nat) < 2147483648 by omega)
    have fin : ∀ g', f_X7_holds_L10 (fuel + 1) (nI cc) (nI p) (nI (st.length + 1 + 1)) (nI (100 * f + (o + t.length) + t'.length)) g2 = f_X7_holds_L10 fuel (nI cc) (nI p) (nI (st.length + 1)) (nI (100 * f + (o + t.length) + t'.length + 1)) g' → f_X7_holds_L10 (fuel + (t ++ t' ++ [(op, 0, 0)]).length) (nI cc) (nI p) (nI st.length) (nI (100 * f + o)) g = f_X7_holds_L10 fuel (nI cc) (nI p) (nI (st.length + 1)) (nI (100 * f + o + (t ++ t' ++ [(op, 0, 0)]).length)) g' := fun g' e => by
      rw [List.length_append, List.length_append]
      show f_X7_holds_L10 (fuel + (t.length + t'.length + 1)) (nI cc) (nI p) (nI st.length) (nI (100 * f + o)) g = f_X7_holds_L10 fuel (nI cc) (nI p) (nI (st.length + 1)) (nI (100 * f + o + (t.length + t'.length + 1))) g'
      rw [show fuel + (t.length + t'.length + 1) = fuel + 1 + t'.length + t.length by omega, e1, show 100 * f + o + t.length = 100 * f + (o + t.length) by omega]
      have e2' : f_X7_holds_L10 (fuel + 1 + t'.length) (nI cc) (nI p) (nI (st.length + 1)) (nI (100 * f + (o + t.length))) g1 = _ := e2
      rw [e2']
      have e' : f_X7_holds_L10 (fuel + 1) (nI cc) (nI p) (nI ((v (faQ p g) :: st).length + 1)) (nI (100 * f + (o + t.length) + t'.length)) g2 = _ := e
      rw [e', show 100 * f + (o + t.length) + t'.length + 1 = 100 * f + o + (t.length + t'.length + 1) by omega]
    have t2 : g2.1 113 (st.length + 1) = bI (v' (faQ p g)) := s2.top
    have t1 : g2.1 113 st.length = bI (v (faQ p g)) := s2.tail.top
    have n33 : ¬ -(nI op) = -33 := by rcases hop with rfl | rfl <;> decide
    have n0 : ¬ (0 : Int32) ≤ -(nI op) := by rcases hop with rfl | rfl <;> decide
    have st0 : ∀ R, f_X7_holds_L10 (fuel + 1) (nI cc) (nI p) (nI (st.length + 1 + 1)) (nI (100 * f + (o + t.length) + t'.length)) g2 = R ↔ (if -(nI op) = (-38 : Int32) then (if bI (v (faQ p g)) = 0 then f_X7_holds_L10 fuel (nI cc) (nI p) (nI (st.length + 1)) (nI (100 * f + (o + t.length) + t'.length + 1)) (si g2 113 st.length (bI false)) else (if bI (v' (faQ p g)) = 0 then f_X7_holds_L10 fuel (nI cc) (nI p) (nI (st.length + 1)) (nI (100 * f + (o + t.length) + t'.length + 1)) (si g2 113 st.length (bI false)) else f_X7_holds_L10 fuel (nI cc) (nI p) (nI (st.length + 1)) (nI (100 * f + (o + t.length) + t'.length + 1)) (si g2 113 st.length (bI true)))) else (if bI (v (faQ p g)) = 0 then (if bI (v' (faQ p g)) = 0 then f_X7_holds_L10 fuel (nI cc) (nI p) (nI (st.length + 1)) (nI (100 * f + (o + t.length) + t'.length + 1)) (si g2 113 st.length (bI false)) else f_X7_holds_L10 fuel (nI cc) (nI p) (nI (st.length + 1)) (nI (100 * f + (o + t.length) + t'.length + 1)) (si g2 113 st.length (bI true))) else f_X7_holds_L10 fuel (nI cc) (nI p) (nI (st.length + 1)) (nI (100 * f + (o + t.length) + t'.length + 1)) (si g2 113 st.length (bI true)))) = R := fun R => by
      rw [f_X7_holds_L10, gd_b icc, cn, h9'', if_neg ng, gd_b (inb_n (by omega) (by omega)), cl_n (by omega), b1, lt_e, if_neg n33, if_neg n0, o2, lt_e, o1]
      simp only [gd_b i100, gd_b j100, cl_n (show st.length < 2147483648 by omega), cl_n (show st.length + 1 < 2147483648 by omega), t1, t2, lt_e, one_n, bI_0, bI_1]
    rcases hop with rfl | rfl
    · dsimp only
      rw [if_pos rfl]
      by_cases z1 : v (faQ p g) = false
      · refine ⟨_, fin (si g2 113 st.length (bI false)) ((st0 _).mpr ?_), ?_, f1.tr (f2.tr FM.w113)⟩
        · rw [if_pos (show -(nI 38) = (-38 : Int32) from rfl), if_pos ((bI_z _).mpr z1)]
        · rw [z1]; exact s2.tail.tail.put (b := false)
      · by_cases z2 : v' (faQ p g) = false
        · refine ⟨_, fin (si g2 113 st.length (bI false)) ((st0 _).mpr ?_), ?_, f1.tr (f2.tr FM.w113)⟩
          · rw [if_pos (show -(nI 38) = (-38 : Int32) from rfl), if_neg (fun q => z1 ((bI_z _).mp q)), if_pos ((bI_z _).mpr z2)]
          · rw [z2, Bool.and_false]; exact s2.tail.tail.put (b := false)
        · refine ⟨_, fin (si g2 113 st.length (bI true)) ((st0 _).mpr ?_), ?_, f1.tr (f2.tr FM.w113)⟩
          · rw [if_pos (show -(nI 38) = (-38 : Int32) from rfl), if_neg (fun q => z1 ((bI_z _).mp q)), if_neg (fun q => z2 ((bI_z _).mp q))]
          · rw [bT_q z1, bT_q z2]; exact s2.tail.tail.put (b := true)
    · dsimp only
      rw [if_neg (show ¬ (124 : Nat) = 38 by decide)]
      by_cases z1 : v (faQ p g) = false
      · by_cases z2 : v' (faQ p g) = false
        · refine ⟨_, fin (si g2 113 st.length (bI false)) ((st0 _).mpr ?_), ?_, f1.tr (f2.tr FM.w113)⟩
          · rw [if_neg (show ¬ -(nI 124) = (-38 : Int32) by decide), if_pos ((bI_z _).mpr z1), if_pos ((bI_z _).mpr z2)]
          · rw [z1, z2]; exact s2.tail.tail.put (b := false)
        · refine ⟨_, fin (si g2 113 st.length (bI true)) ((st0 _).mpr ?_), ?_, f1.tr (f2.tr FM.w113)⟩
          · rw [if_neg (show ¬ -(nI 124) = (-38 : Int32) by decide), if_pos ((bI_z _).mpr z1), if_neg (fun q => z2 ((bI_z _).mp q))]
          · rw [z1, bT_q z2]; exact s2.tail.tail.put (b := true)
      · refine ⟨_, fin (si g2 113 st.length (bI true)) ((st0 _).mpr ?_), ?_, f1.tr (f2.tr FM.w113)⟩
        · rw [if_neg (show ¬ -(nI 124) = (-38 : Int32) by decide), if_neg (fun q => z1 ((bI_z _).mp q))]
        · rw [bT_q z1]; exact s2.tail.tail.put (b := true)
