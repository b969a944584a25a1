/-! the heart that the class tells of its steps -/
def evT : List Tq → List Int32 → List Bool → List Bool
  | [], _, st => st
  | (c, l, n) :: r, f, st => evT r f (if c = 33 then (match st with
      | b :: s => (!b) :: s
      | [] => []) else if c = 38 then (match st with
      | b :: a :: s => (a && b) :: s
      | _ => []) else if c = 124 then (match st with
      | b :: a :: s => (a || b) :: s
      | _ => []) else tstQ c (f.getD l 0) n :: st)
theorem evT_app (f : List Int32) : ∀ (t u : List Tq) (st : List Bool), evT (t ++ u) f st = evT u f (evT t f st) := by
  intro t
  induction t with
  | nil => intro u st; rfl
  | cons x t ih => intro u st; obtain ⟨c, l, n⟩ := x; exact ih u _
theorem evT_w {k : Nat} {t : List Tq} {v : List Int32 → Bool} (w : WfQ k t v) : ∀ f st, evT t f st = v f :: st := by
  refine w (fun k t v => ∀ f st, evT t f st = v f :: st) (fun k c l n hk hc hl hn f st => ?_) (fun k t v ih f st => ?_) (fun k op t t' v v' ih ih' hop f st => ?_)
  · show (if c = 33 then _ else _) = _
    rw [if_neg (by omega), if_neg (by omega), if_neg (by omega)]
  · rw [evT_app, ih]; rfl
  · rw [evT_app, evT_app, ih, ih']
    rcases hop with rfl | rfl <;> rfl
/-- at step i the class's row holds these -/
def HAt (oc i : Nat) (t : List Tq) (g : HP) : Prop := ∀ j, j < t.length → g.1 (oc + 1) (i + j) = nI (t.getD j (0, 0, 0)).1 ∧ g.1 (oc + 2) (i + j) = nI (t.getD j (0, 0, 0)).2.1 ∧ g.1 (oc + 3) (i + j) = (t.getD j (0, 0, 0)).2.2
theorem getD_apL {t u : List Tq} {j : Nat} (h : j < t.length) : (t ++ u).getD j (0, 0, 0) = t.getD j (0, 0, 0) := by
  rw [List.getD_eq_getElem?_getD, List.getD_eq_getElem?_getD, List.getElem?_append_left h]
theorem getD_apR {t u : List Tq} {j : Nat} : (t ++ u).getD (t.length + j) (0, 0, 0) = u.getD j (0, 0, 0) := by
  rw [List.getD_eq_getElem?_getD, List.getD_eq_getElem?_getD, List.getElem?_append_right (by omega), Nat.add_sub_cancel_left]
theorem HAt.l {oc i : Nat} {t u : List Tq} {g : HP} (h : HAt oc i (t ++ u) g) : HAt oc i t g := fun j hj => by
  have := h j (by rw [List.length_append]; omega)
  rw [getD_apL hj] at this
  exact this
theorem HAt.r {oc i : Nat} {t u : List Tq} {g : HP} (h : HAt oc i (t ++ u) g) : HAt oc (i + t.length) u g := fun j hj => by
  have := h (t.length + j) (by rw [List.length_append]; omega)
  rw [getD_apR, ← Nat.add_assoc] at this
  exact this
def fcQ (oc : Nat) (g : HP) : List Int32 := [g.1 (oc + 4) 0, g.1 (oc + 4) 1, g.1 (oc + 4) 2, g.1 (oc + 4) 3, g.1 (oc + 4) 4, g.1 (oc + 4) 5]
theorem fcQ_g {oc l : Nat} {g : HP} (h : l < 6) : (fcQ oc g).getD l 0 = g.1 (oc + 4) l := by
  have a1 : l = 0 ∨ l = 1 ∨ l = 2 ∨ l = 3 ∨ l = 4 ∨ l = 5 := by omega
  rcases a1 with rfl | rfl | rfl | rfl | rfl | rfl <;> rfl
/-- steps t take the row of outcomes st to v and st -/
def RN2 (oc q : Nat) (g : HP) (N k : Nat) (t : List Tq) (v : List Int32 → Bool) : Prop := ∀ (i : Nat) (x : Int32) (st : List Bool) (hs : Int32) (fuel : Nat), HAt oc i t g → i + t.length ≤ N → STK x st → st.length + k ≤ 31 → ∃ x', f_X2_heart_L83 oc q (fuel + t.length) hs x (nI i) g = f_X2_heart_L83 oc q fuel hs x' (nI (i + t.length)) g ∧ STK x' (v (fcQ oc g) :: st)
theorem E2_run {oc q N k : Nat} {g : HP} {t : List Tq} {v : List Int32 → Bool} (w : WfQ k t v) (hN : N ≤ 100) (h4 : g.1 oc 4 = nI N) : RN2 oc q g N k t v := by
  refine w (fun k t v => RN2 oc q g N k t v) (fun k c l n hk hc hl hn => ?_) (fun k t v ih => ?_) (fun k op t t' v v' ih ih' hop => ?_)
  · intro i x st hs fuel ha hi s hl2
    have hi' : i + 1 ≤ N := hi
    obtain ⟨a1, a2, a3⟩ := ha 0 (by show 0 < 1; omega)
    have b1 : g.1 (oc + 1) i = nI c := a1
    have b2 : g.1 (oc + 2) i = nI l := a2
    have b3 : g.1 (oc + 3) i = n := a3
    have i100 := inb_n (show i < 100 by omega) (show (100 : Nat) < 2147483648 by omega)
    have l6 := inb_n hl (show (6 : Nat) < 2147483648 by omega)
    have ng : ¬ nI N ≤ nI i := by rw [le_n (by omega) (by omega)]; omega
    have cne : ∀ m : Nat, m < 200 → c ≠ m → ¬ nI c = nI m := fun m hm h e => h ((eq_n (by omega) (by omega)).mp e)
    have n33 : ¬ nI c = 33 := cne 33 (by omega) (by omega)
    have n38 : ¬ nI c = 38 := cne 38 (by omega) (by omega)
    have n59 : ¬ nI c = 59 := cne 59 (by omega) (by omega)
    have n124 : ¬ nI c = 124 := cne 124 (by omega) (by omega)
    have st1 := s.push1 (by omega)
    have st0 := s.push0 (by omega)
    have fl : (fcQ oc g).getD l 0 = g.1 (oc + 4) l := fcQ_g hl
    show ∃ x', f_X2_heart_L83 oc q (fuel + 1) hs x (nI i) g = f_X2_heart_L83 oc q fuel hs x' (nI (i + 1)) g ∧ STK x' (tstQ c ((fcQ oc g).getD l 0) n :: st)
    rw [f_X2_heart_L83, h4, if_neg ng, gd_b i100, cl_n (by omega), b1, lt_e, if_neg n33, if_neg n38, if_neg n59, b2, gd_b i100, gd_b l6, gd_b i100, b3, cl_n (by omega), fl]
    rcases hc with rfl | rfl | rfl
    · rw [if_pos (show nI 60 = 60 from rfl), show tstQ 60 (g.1 (oc + 4) l) n = decide (g.1 (oc + 4) l < n) from rfl]
      by_cases z : n ≤ g.1 (oc + 4) l
      · rw [if_pos z, lt_e, one_n, lt_e, decide_eq_false (Int32.not_lt.mpr z)]
        exact ⟨_, rfl, st0⟩
      · rw [if_neg z, lt_e, one_n, lt_e, decide_eq_true (Int32.not_le.mp z)]
        exact ⟨_, rfl, st1⟩
    · rw [if_neg (show ¬ nI 61 = 60 by decide), if_pos (show nI 61 = 61 from rfl), gd_b i100, gd_b l6, gd_b i100, show tstQ 61 (g.1 (oc + 4) l) n = decide (g.1 (oc + 4) l = n) from rfl]
      by_cases z : g.1 (oc + 4) l = n
      · rw [if_pos z, lt_e, one_n, lt_e, decide_eq_true z]
        exact ⟨_, rfl, st1⟩
      · rw [if_neg z, lt_e, one_n, lt_e, decide_eq_false z]
        exact ⟨_, rfl, st0⟩
    · rw [if_neg (show ¬ nI 62 = 60 by decide), if_neg (show ¬ nI 62 = 61 by decide), if_neg n124, gd_b i100, gd_b l6, gd_b i100, show tstQ 62 (g.1 (oc + 4) l) n = decide (n < g.1 (oc + 4) l) from rfl]
      by_cases z : g.1 (oc + 4) l ≤ n
      · rw [if_pos z, lt_e, one_n, lt_e, decide_eq_false (Int32.not_lt.mpr z)]
        exact ⟨_, rfl, st0⟩
      · rw [if_neg z, lt_e, one_n, lt_e, decide_eq_true (Int32.not_le.mp z)]
        exact ⟨_, rfl, st1⟩
  · intro i x st hs fuel ha hi s hl2
    rw [List.length_append] at hi
    have hi' : i + (t.length + 1) ≤ N := hi
    obtain ⟨x1, e1, s1⟩ := ih i x st hs (fuel + 1) ha.l (by omega) s hl2
    obtain ⟨a1, -, -⟩ := ha.r 0 (by show 0 < 1; omega)
    have b1 : g.1 (oc + 1) (i + t.length) = nI 33 := a1
    refine ⟨x1 ^^^ 1, ?_, s1.not⟩
    rw [List.length_append]
    show f_X2_heart_L83 oc q (fuel + (t.length + 1)) hs x (nI i) g = f_X2_heart_L83 oc q fuel hs (x1 ^^^ 1) (nI (i + (t.length + 1))) g
    rw [show fuel + (t.length + 1) = fuel + 1 + t.length by omega, e1, f_X2_heart_L83, h4, if_neg (show ¬ nI N ≤ nI (i + t.length) by rw [le_n (by omega) (by omega)]; omega), gd_b (inb_n (by omega) (by omega)), cl_n (by omega), b1, lt_e, if_pos (show nI 33 = 33 from rfl), lt_e, one_n, lt_e, Nat.add_assoc]
  · intro i x st hs fuel ha hi s hl2
    rw [List.length_append, List.length_append] at hi
    have hi' : i + (t.length + t'.length + 1) ≤ N := hi
    obtain ⟨x1, e1, s1⟩ := ih i x st hs (fuel + 1 + t'.length) ha.l.l (by omega) s hl2
    obtain ⟨x2, e2, s2⟩ := ih' (i + t.length) x1 (v (fcQ oc g) :: st) hs (fuel + 1) ha.l.r (by omega) s1 (by simp only [List.length_cons]; omega)
    obtain ⟨a1, -, -⟩ := ha.r 0 (by show 0 < 1; omega)
    rw [List.length_append] at a1
    have b1 : g.1 (oc + 1) (i + t.length + t'.length) = nI op := by rw [Nat.add_assoc]; exact a1
    have fin : ∀ y, f_X2_heart_L83 oc q (fuel + 1) hs x2 (nI (i + t.length + t'.length)) g = f_X2_heart_L83 oc q fuel hs y (nI (i + t.length + t'.length + 1)) g → f_X2_heart_L83 oc q (fuel + (t ++ t' ++ [(op, 0, 0)]).length) hs x (nI i) g = f_X2_heart_L83 oc q fuel hs y (nI (i + (t ++ t' ++ [(op, 0, 0)]).length)) g := fun y e => by
      rw [List.length_append, List.length_append]
      show f_X2_heart_L83 oc q (fuel + (t.length + t'.length + 1)) hs x (nI i) g = f_X2_heart_L83 oc q fuel hs y (nI (i + (t.length + t'.length + 1))) g
      rw [show fuel + (t.length + t'.length + 1) = fuel + 1 + t'.length + t.length by omega, e1, e2, e]
      rw [show i + t.length + t'.length + 1 = i + (t.length + t'.length + 1) by omega]
    have ng : ¬ nI N ≤ nI (i + t.length + t'.length) := by rw [le_n (by omega) (by omega)]; omega
    rcases hop with rfl | rfl
    · refine ⟨_, fin _ ?_, s2.and⟩
      rw [f_X2_heart_L83, h4, if_neg ng, gd_b (inb_n (by omega) (by omega)), cl_n (by omega), b1, lt_e, if_neg (show ¬ nI 38 = 33 by decide), if_pos (show nI 38 = 38 from rfl), lt_e, one_n, lt_e]
    · refine ⟨_, fin _ ?_, s2.or⟩
      rw [f_X2_heart_L83, h4, if_neg ng, gd_b (inb_n (by omega) (by omega)), cl_n (by omega), b1, lt_e, if_neg (show ¬ nI 124 = 33 by decide), if_neg (show ¬ nI 124 = 38 by decide), if_neg (show ¬ nI 124 = 59 by decide), if_neg (show ¬ nI 124 = 60 by decide), if_neg (show ¬ nI 124 = 61 by decide), if_pos (show nI 124 = 124 from rfl), lt_e, one_n, lt_e]
/-- what is added, clause by clause -/
def hldQ (q : Cq) (f : List Int32) : Bool := (evT q.2.2 f []).headD false
def smF (f : List Int32) : List Cq → Int32 → Int32
  | [], a => a
  | q :: qs, a => smF f qs (if q.1 ≤ 1 then (if hldQ q f = true then (if q.1 = 0 then a + nI q.2.1 else a + -(nI q.2.1)) else a) else a)
theorem hldQ_w {q : Cq} {k : Nat} {v : List Int32 → Bool} (w : WfQ k q.2.2 v) (f : List Int32) : hldQ q f = v f := by unfold hldQ; rw [evT_w w]; rfl
theorem i32_add0 (a : Int32) : a + 0 = a := by grind
theorem E2_all {oc q N : Nat} {g : HP} (hN : N ≤ 100) (h4 : g.1 oc 4 = nI N) : ∀ (qs : List Cq) (i : Nat) (hs : Int32) (fuel : Nat), (∀ c, c ∈ qs → okC c) → HAt oc i (stpF qs) g → i + (stpF qs).length = N → ∃ x, f_X2_heart_L83 oc q (fuel + (stpF qs).length + 1) hs 0 (nI i) g = some (smF (fcQ oc g) qs hs, x) ∧ x = g := by
  intro qs
  induction qs with
  | nil =>
    intro i hs fuel _ _ hi
    have : N = i := hi.symm
    subst this
    exact ⟨g, by rw [f_X2_heart_L83, h4, if_pos (Int32.le_refl _)]; rfl, rfl⟩
  | cons c qs ih =>
    intro i hs fuel hok ha hi
    have oc1 := hok c (List.mem_cons_self ..)
    have ok2 : ∀ c, c ∈ qs → okC c := fun c h => hok c (List.mem_cons_of_mem _ h)
    have ha' : HAt oc i (stpQ c ++ stpF qs) g := ha
    have hi' : i + (stpQ c ++ stpF qs).length = N := hi
    rw [List.length_append] at hi'
    show ∃ x, f_X2_heart_L83 oc q (fuel + (stpQ c ++ stpF qs).length + 1) hs 0 (nI i) g = some (smF (fcQ oc g) qs _, x) ∧ x = g
    rw [List.length_append]
    by_cases z : c.1 ≤ 1
    · obtain ⟨v, hv⟩ := oc1.2.2 z
      have st : ∃ y, stpQ c = c.2.2 ++ [(59, 0, y)] ∧ ∀ a : Int32, (if c.1 = 0 then a + nI c.2.1 else a + -(nI c.2.1)) = a + y := by
        unfold stpQ
        by_cases z0 : c.1 = 0
        · exact ⟨nI c.2.1, by rw [if_pos z0], fun a => by rw [if_pos z0]⟩
        · exact ⟨-(nI c.2.1), by rw [if_neg z0, if_pos (by omega)], fun a => by rw [if_neg z0]⟩
      obtain ⟨y, sy, hy⟩ := st
      rw [if_pos z, hldQ_w hv, hy]
      have ln : (stpQ c).length = c.2.2.length + 1 := by rw [sy, List.length_append]; rfl
      have ha1 := ha'.l
      rw [sy] at ha1
      obtain ⟨x1, e1, s1⟩ := E2_run hv hN h4 (q := q) i 0 [] hs (fuel + (stpF qs).length + 1 + 1) ha1.l (by omega) STK_0 (by decide)
      obtain ⟨a1, -, a3⟩ := ha1.r 0 (by show 0 < 1; omega)
      have b1 : g.1 (oc + 1) (i + c.2.2.length) = nI 59 := a1
      have b3 : g.1 (oc + 3) (i + c.2.2.length) = y := a3
      obtain ⟨p1, p2⟩ := s1.pop
      have zx : (Int32.toUInt32 x1 >>> (Int32.toUInt32 1 &&& Int32.toUInt32 31)).toInt32 = 0 := bq_ext (fun i hi => by rw [p1.2 i hi, bq_0 hi]; rfl)
      have ng : ¬ nI N ≤ nI (i + c.2.2.length) := by rw [le_n (by omega) (by omega)]; omega
      have step : f_X2_heart_L83 oc q (fuel + ((stpQ c).length + (stpF qs).length) + 1) hs 0 (nI i) g = f_X2_heart_L83 oc q (fuel + (stpF qs).length + 1) (if v (fcQ oc g) = true then hs + y else hs) 0 (nI (i + (stpQ c).length)) g := by
        rw [ln, show fuel + (c.2.2.length + 1 + (stpF qs).length) + 1 = fuel + (stpF qs).length + 1 + 1 + c.2.2.length by omega, e1, f_X2_heart_L83, h4, if_neg ng, gd_b (inb_n (by omega) (by omega)), cl_n (by omega), b1, lt_e, if_neg (show ¬ nI 59 = 33 by decide), if_neg (show ¬ nI 59 = 38 by decide), if_pos (show nI 59 = 59 from rfl), zx]
        by_cases w : v (fcQ oc g) = true
        · rw [if_pos (p2.mpr w), gd_b (inb_n (by omega) (by omega)), b3, lt_e, lt_e, one_n, lt_e, if_pos w, Nat.add_assoc i]
        · rw [if_neg (fun e => w (p2.mp e)), lt_e, lt_e, one_n, lt_e, if_neg w, i32_add0, Nat.add_assoc i]
      rw [step]
      exact ih (i + (stpQ c).length) _ fuel ok2 ha'.r (by omega)
    · have st : stpQ c = [] := by unfold stpQ; rw [if_neg (by omega), if_neg (by omega)]
      rw [if_neg z]
      rw [st] at ha' hi' ⊢
      have := ih i hs fuel ok2 ha' (by rw [List.length_nil] at hi'; omega)
      rw [List.length_nil, Nat.zero_add]
      exact this
/-- the ocean that such a row of clauses tells -/
def ocQ (qs : List Cq) : OS := (lasF 2 qs 5, lasF 3 qs 2, fun f => smF f qs 20)
theorem lasF_n {w : Nat} : ∀ (qs : List Cq) (d : Int32), (∀ c, c ∈ qs → okC c) → (∃ m, m ≤ 99 ∧ d = nI m) → ∃ m, m ≤ 99 ∧ lasF w qs d = nI m := by
  intro qs
  induction qs with
  | nil => intro d _ h; exact h
  | cons c qs ih =>
    intro d hok h
    refine ih _ (fun c h => hok c (List.mem_cons_of_mem _ h)) ?_
    by_cases z : c.1 = w
    · rw [if_pos z]; exact ⟨c.2.1, (hok c (List.mem_cons_self ..)).2.1, rfl⟩
    · rw [if_neg z]; exact h
theorem HC_of {oc N : Nat} {qs : List Cq} {h : HP} (hok : ∀ c, c ∈ qs → okC c) (hN : N ≤ 100) (h4 : h.1 oc 4 = nI N) (hl : (stpF qs).length = N) (ha : HAt oc 0 (stpF qs) h) : HC oc h (fun f => smF f qs 20) := by
  intro g q hg
  have g4 : g.1 oc 4 = nI N := by rw [hg oc (by omega) (by omega)]; exact h4
  have ga : HAt oc 0 (stpF qs) g := fun j hj => by rw [hg (oc + 1) (by omega) (by omega), hg (oc + 2) (by omega) (by omega), hg (oc + 3) (by omega) (by omega)]; exact ha j hj
  obtain ⟨fu, hfu⟩ : ∃ fu, FZ = fu + (stpF qs).length + 1 := ⟨FZ - (stpF qs).length - 1, by have := FZ_ge; omega⟩
  obtain ⟨x, e, ex⟩ := E2_all hN g4 (q := q) qs 0 20 fu hok ga (by omega)
  rw [hfu]
  subst ex
  exact e
