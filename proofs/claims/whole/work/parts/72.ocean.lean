/-! ocean -/
theorem txtQ_ok {s : Nat} {X : Nat → Nat} (x : XOK s X) : ∀ (fl a : Nat) (qs : List Cq) (b : Nat), a ≤ s → txtQ X s fl a = (some qs, b) → ∀ c, c ∈ qs → okC c := by
  intro fl
  induction fl with
  | zero => intro a qs b _ e; cases e
  | succ fl ih =>
    intro a qs b ha e
    obtain ⟨y1, -⟩ := clsQ_g x ha
    rw [txtQ] at e
    cases hc : clsQ X a with
    | mk r d =>
      rw [hc] at e
      cases r with
      | none => cases e
      | some q =>
        have gb := y1 q d hc
        dsimp only at e
        by_cases z1 : d = s
        · rw [if_pos z1] at e
          obtain ⟨e1, -⟩ := Prod.mk.inj e
          have e1 := Option.some.inj e1
          subst e1
          intro c hc'
          rcases List.mem_cons.mp hc' with h | h
          · rw [h]; exact gb.1
          · cases h
        · rw [if_neg z1] at e
          by_cases z2 : fl = 0
          · rw [if_pos z2] at e; cases e
          · rw [if_neg z2] at e
            by_cases z3 : X d = 59
            · rw [if_pos z3] at e
              have h3 := x.lt (show X d ≤ 127 by omega)
              cases ht : txtQ X s fl (d + 1) with
              | mk r' c' =>
                rw [ht] at e
                cases r' with
                | none => cases e
                | some qs' =>
                  obtain ⟨e1, -⟩ := Prod.mk.inj e
                  have e1 := Option.some.inj e1
                  subst e1
                  intro c hc'
                  rcases List.mem_cons.mp hc' with h | h
                  · rw [h]; exact gb.1
                  · exact ih (d + 1) qs' c' (by omega) ht c h
            · rw [if_neg z3] at e; cases e
theorem ROWS.ag {f : Nat} {h g : HP} (a : AGq f h g) : ∀ (qs : List Cq) (n o : Nat), n + qs.length ≤ 10 → ROWS f n o qs h → ROWS f n o qs g := by
  intro qs
  induction qs with
  | nil => intro n o _ _; trivial
  | cons q qs ih =>
    intro n o hn r
    rw [List.length_cons] at hn
    have z : ∀ c, 106 ≤ c → c ≤ 109 → g.1 c (10 * f + n) = h.1 c (10 * f + n) := fun c p q => a.2.1 c p q n (by omega)
    obtain ⟨⟨r1, r2, r3⟩, r4⟩ := r
    exact ⟨⟨(z 106 (by omega) (by omega)).trans r1, (z 107 (by omega) (by omega)).trans r2, fun h => ⟨(z 108 (by omega) (by omega)).trans (r3 h).1, (z 109 (by omega) (by omega)).trans (r3 h).2⟩⟩, ih (n + 1) _ (by omega) r4⟩
theorem ROWS.fm {f : Nat} {h g : HP} (a : FM P113 NO_ h g) : ∀ (qs : List Cq) (n o : Nat), ROWS f n o qs h → ROWS f n o qs g := by
  intro qs
  induction qs with
  | nil => intro n o _; trivial
  | cons q qs ih =>
    intro n o r
    have z : ∀ c, 106 ≤ c → c ≤ 109 → g.1 c = h.1 c := fun c p q => a.1 c (by omega) (by unfold P113; omega)
    obtain ⟨⟨r1, r2, r3⟩, r4⟩ := r
    exact ⟨⟨by rw [z 106 (by omega) (by omega)]; exact r1, by rw [z 107 (by omega) (by omega)]; exact r2, fun h => ⟨by rw [z 108 (by omega) (by omega)]; exact (r3 h).1, by rw [z 109 (by omega) (by omega)]; exact (r3 h).2⟩⟩, ih (n + 1) _ r4⟩
theorem E7_begin {f : Nat} {g : HP} (hf : f < 6) (e : g.1 96 14 = nI f) : f_X7_begin g = some (nI (10 * f)) := by
  unfold f_X7_begin
  rw [e, if_pos (Int32.not_lt.mp (nI_pos (by omega))), show (10 : Int32) = nI 10 from rfl, mul_n]
theorem E7_behind {f N : Nat} {g : HP} (hf : f < 6) (e : g.1 96 14 = nI f) (e2 : g.1 105 f = nI N) : f_X7_behind g = some (nI (10 * f + N)) := by
  unfold f_X7_behind
  rw [e, if_pos (Int32.not_lt.mp (nI_pos (by omega))), gd_b (inb_n hf (by omega)), cl_n (by omega), e2, show (10 : Int32) = nI 10 from rfl, mul_n, add_n]
theorem E7_lastOf {f N w : Nat} {g : HP} (hf : f < 6) (e : g.1 96 14 = nI f) (e2 : g.1 105 f = nI N) (hN : N ≤ 10) (hw : w < 4) : ∀ (qs : List Cq) (n o fuel : Nat) (d : Int32), (∀ c, c ∈ qs → okC c) → ROWS f n o qs g → n + qs.length = N → qs.length < fuel → f_X7_lastOf_L8 g fuel (nI w) d (nI (10 * f + n)) = some (lasF w qs d) := by
  intro qs
  induction qs with
  | nil =>
    intro n o fuel d _ _ hn hfu
    obtain ⟨fu, rfl⟩ : ∃ fu, fuel = fu + 1 := ⟨fuel - 1, by omega⟩
    have : n = N := hn
    subst this
    rw [f_X7_lastOf_L8, E7_behind hf e e2, bo_s, if_pos (Int32.le_refl _)]
    rfl
  | cons q qs ih =>
    intro n o fuel d hok r hn hfu
    obtain ⟨fu, rfl⟩ : ∃ fu, fuel = fu + 1 := ⟨fuel - 1, by omega⟩
    rw [List.length_cons] at hn hfu
    have oc := hok q (List.mem_cons_self ..)
    obtain ⟨⟨r1, r2, -⟩, r4⟩ := r
    have i60 := inb_n (show 10 * f + n < 60 by omega) (show (60 : Nat) < 2147483648 by omega)
    have i := ih (n + 1) (o + q.2.2.length) fu (if q.1 = w then nI q.2.1 else d) (fun c h => hok c (List.mem_cons_of_mem _ h)) r4 (by omega) (by omega)
    rw [f_X7_lastOf_L8, E7_behind hf e e2, bo_s, if_neg (by rw [le_n (by omega) (by omega)]; omega), gd_b i60, cl_n (by omega), r1]
    by_cases z : q.1 = w
    · rw [if_pos z] at i
      rw [if_pos (by rw [z]), gd_b i60, r2, lt_e, one_n, lt_e]
      refine Eq.trans i ?_
      show _ = some (lasF w qs (if q.1 = w then nI q.2.1 else d))
      rw [if_pos z]
    · rw [if_neg z] at i
      rw [if_neg (show ¬ nI q.1 = nI w from fun y => z ((eq_n (by have := oc.1; omega) (by omega)).mp y)), one_n, lt_e]
      refine Eq.trans i ?_
      show _ = some (lasF w qs (if q.1 = w then nI q.2.1 else d))
      rw [if_neg z]
theorem E7_holds1 {f p cc o : Nat} {q : Cq} {g : HP} (hok : okC q) (h1 : q.1 ≤ 1) (hf : f < 6) (hp : p < 6) (hcc : cc < 60) (r : ROWq f cc o q g) (ga : GAt f o q.2.2 g) (hl : o + q.2.2.length ≤ 100) : ∃ g', f_X7_holds (nI cc) (nI p) g = some (bI (hldQ q (faQ p g)), g') ∧ FM P113 NO_ g g' := by
  obtain ⟨v, hv⟩ := hok.2.2 h1
  obtain ⟨r1, r2, r3⟩ := r
  obtain ⟨r4, r5⟩ := r3 h1
  have i60 := inb_n hcc (show (60 : Nat) < 2147483648 by omega)
  obtain ⟨fu, hfu⟩ : ∃ fu, FZ = fu + 1 + q.2.2.length := ⟨FZ - 1 - q.2.2.length, by have := FZ_ge; omega⟩
  obtain ⟨g', e, s, fr⟩ := E7_holds (p := p) hv hf hp hcc (show 100 * f + o + q.2.2.length ≤ 100 * f + 100 by omega) o [] g (fu + 1) ga r5 (Nat.le_refl _) (fun i hi => absurd hi (Nat.not_lt_zero i)) (by decide)
  have h9 : g'.1 109 cc = nI (100 * f + o + q.2.2.length) := by rw [fr.1 109 (by omega) (by unfold P113; omega)]; exact r5
  have tp : g'.1 113 0 = bI (v (faQ p g)) := s.top
  refine ⟨g', ?_, fr⟩
  have e' : f_X7_holds_L10 (fu + 1 + q.2.2.length) (nI cc) (nI p) 0 (nI (100 * f + o)) g = _ := e
  unfold f_X7_holds
  rw [gd_b i60, cl_n (by omega), r4, lt_e, hfu, e', f_X7_holds_L10, gd_b i60, cl_n (by omega), h9, if_pos (Int32.le_refl _), gd_b (show inb 0 100 = true by decide), show Int32.toNatClampNeg 0 = 0 by decide, tp, hldQ_w hv]
  exact gd_b (by cases v (faQ p g) <;> rfl)
theorem E7_heart {f N p : Nat} (hf : f < 6) (hp : p < 6) (hN : N ≤ 10) : ∀ (qs : List Cq) (n o fuel : Nat) (d : Int32) (g : HP), g.1 96 14 = nI f → g.1 105 f = nI N → (∀ c, c ∈ qs → okC c) → ROWS f n o qs g → GAt f o (sgF qs) g → o + (sgF qs).length ≤ 100 → n + qs.length = N → qs.length < fuel → ∃ g', f_X7_heart_L8 fuel (nI p) d (nI (10 * f + n)) g = some (smF (faQ p g) qs d, g') ∧ FM P113 NO_ g g' := by
  intro qs
  induction qs with
  | nil =>
    intro n o fuel d g e e2 _ _ _ _ hn hfu
    obtain ⟨fu, rfl⟩ : ∃ fu, fuel = fu + 1 := ⟨fuel - 1, by omega⟩
    have : n = N := hn
    subst this
    exact ⟨g, by rw [f_X7_heart_L8, E7_behind hf e e2, bo_s, if_pos (Int32.le_refl _)]; rfl, FM.rf⟩
  | cons q qs ih =>
    intro n o fuel d g e e2 hok r ga hl hn hfu
    obtain ⟨fu, rfl⟩ : ∃ fu, fuel = fu + 1 := ⟨fuel - 1, by omega⟩
    rw [List.length_cons] at hn hfu
    have sg : sgF (q :: qs) = q.2.2 ++ sgF qs := rfl
    rw [sg] at ga hl
    rw [List.length_append] at hl
    have oc := hok q (List.mem_cons_self ..)
    have ok2 : ∀ c, c ∈ qs → okC c := fun c h => hok c (List.mem_cons_of_mem _ h)
    obtain ⟨r1, r4⟩ := r
    have i60 := inb_n (show 10 * f + n < 60 by omega) (show (60 : Nat) < 2147483648 by omega)
    have q4 := oc.1
    have st : f_X7_heart_L8 (fu + 1) (nI p) d (nI (10 * f + n)) g = (if (1 : Int32) < nI q.1 then (lt (nI (10 * f + n) + 1 : Int32) fun v8 => f_X7_heart_L8 fu (nI p) d v8 g) else (bd (f_X7_holds (nI (10 * f + n)) (nI p) g) fun v12 g10 => if v12 = 0 then (lt (nI (10 * f + n) + 1 : Int32) fun v14 => f_X7_heart_L8 fu (nI p) d v14 g10) else (gd (inb (nI (10 * f + n)) 60) (if (g10.1 106 (Int32.toNatClampNeg (nI (10 * f + n)))) = 0 then (gd (inb (nI (10 * f + n)) 60) (lt ((d + (g10.1 107 (Int32.toNatClampNeg (nI (10 * f + n))))) : Int32) fun v19 => lt (nI (10 * f + n) + 1 : Int32) fun v21 => f_X7_heart_L8 fu (nI p) v19 v21 g10)) else (gd (inb (nI (10 * f + n)) 60) (lt ((d + (-(g10.1 107 (Int32.toNatClampNeg (nI (10 * f + n)))))) : Int32) fun v24 => lt (nI (10 * f + n) + 1 : Int32) fun v26 => f_X7_heart_L8 fu (nI p) v24 v26 g10)))))) := by
      rw [f_X7_heart_L8, E7_behind hf e e2, bo_s, if_neg (by rw [le_n (by omega) (by omega)]; omega), gd_b i60, cl_n (by omega), r1.1]
    show ∃ g', f_X7_heart_L8 (fu + 1) (nI p) d (nI (10 * f + n)) g = some (smF (faQ p g) qs (if q.1 ≤ 1 then (if hldQ q (faQ p g) = true then (if q.1 = 0 then d + nI q.2.1 else d + -(nI q.2.1)) else d) else d), g') ∧ FM P113 NO_ g g'
    rw [st]
    by_cases z : q.1 ≤ 1
    · obtain ⟨g1, e1, f1⟩ := E7_holds1 (p := p) oc z hf hp (show 10 * f + n < 60 by omega) r1 ga.l (by omega)
      have k106 : g1.1 106 (10 * f + n) = nI q.1 := by rw [f1.1 106 (by omega) (by unfold P113; omega)]; exact r1.1
      have k107 : g1.1 107 (10 * f + n) = nI q.2.1 := by rw [f1.1 107 (by omega) (by unfold P113; omega)]; exact r1.2.1
      have go : ∀ d', ∃ g', f_X7_heart_L8 fu (nI p) d' (nI (10 * f + n + 1)) g1 = some (smF (faQ p g) qs d', g') ∧ FM P113 NO_ g g' := fun d' => by
        obtain ⟨g', e', f'⟩ := ih (n + 1) (o + q.2.2.length) fu d' g1 ((f1.2.1 14 (fun z => z)).trans e) (by rw [f1.1 105 (by omega) (by unfold P113; omega)]; exact e2) ok2 (ROWS.fm f1 qs _ _ r4) (ga.r.fr (f1.1 110 (by omega) (by unfold P113; omega))) (by omega) (by omega) (by omega)
        rw [faQ_fr f1] at e'
        exact ⟨g', e', f1.tr f'⟩
      rw [if_neg (show ¬ (1 : Int32) < nI q.1 by rw [show (1 : Int32) = nI 1 from rfl, lt_n (by omega) (by omega)]; omega), if_pos z, e1, bd_s]
      cases hb : hldQ q (faQ p g) with
      | false =>
        rw [if_pos (show bI false = 0 from rfl), if_neg (show ¬ false = true by decide), one_n, lt_e]
        exact go d
      | true =>
        rw [if_neg (show ¬ bI true = 0 by decide), if_pos rfl, gd_b i60, cl_n (by omega), k106, k107]
        by_cases z0 : q.1 = 0
        · rw [if_pos (show nI q.1 = 0 by rw [z0]; rfl), if_pos z0, gd_b i60, lt_e, one_n, lt_e]
          exact go _
        · rw [if_neg (show ¬ nI q.1 = 0 by rw [show (0 : Int32) = nI 0 from rfl, eq_n (by omega) (by omega)]; exact z0), if_neg z0, gd_b i60, lt_e, one_n, lt_e]
          exact go _
    · rw [if_pos (show (1 : Int32) < nI q.1 by rw [show (1 : Int32) = nI 1 from rfl, lt_n (by omega) (by omega)]; omega), if_neg z, one_n, lt_e]
      exact ih (n + 1) (o + q.2.2.length) fu d g e e2 ok2 r4 ga.r (by omega) (by omega) (by omega)
theorem RFO_of {f : Nat} {qs : List Cq} {h : HP} (hf : f < 6) (hok : ∀ c, c ∈ qs → okC c) (hN : qs.length ≤ 10) (e2 : h.1 105 f = nI qs.length) (r : ROWS f 0 0 qs h) (ga : GAt f 0 (sgF qs) h) (hl : (sgF qs).length ≤ 100) : RFOq (ocQ qs) f h := by
  intro g a e
  have all : ∀ g2, AG g g2 → g2.1 96 14 = nI f ∧ g2.1 105 f = nI qs.length ∧ ROWS f 0 0 qs g2 ∧ GAt f 0 (sgF qs) g2 := fun g2 b => by
    have b2 : AGq f h g2 := ⟨by rw [b.1 105 (by omega) (by omega)]; exact a.1, fun c p q j hj => by rw [b.1 c (by omega) (by omega)]; exact a.2.1 c p q j hj, fun j hj => by rw [b.1 110 (by omega) (by omega)]; exact a.2.2 j hj⟩
    refine ⟨b.2.trans e, by rw [b2.1]; exact e2, ROWS.ag b2 qs 0 0 (by omega) r, fun j hj => ?_⟩
    have := b2.2.2 j (by omega)
    rw [show 100 * f + 0 + j = 100 * f + j by omega, this, ← ga j hj]
    rfl
  have Fz := FZ_ge
  refine ⟨fun g2 p b hp => ?_, fun g2 b => ?_, ?_⟩
  · obtain ⟨a1, a2, a3, a4⟩ := all g2 b
    obtain ⟨g', e', f'⟩ := E7_heart hf hp hN qs 0 0 FZ 20 g2 a1 a2 hok a3 a4 (by omega) (by omega) (by omega)
    refine ⟨g', ?_, f'⟩
    unfold f_X7_heart
    rw [E7_begin hf a1, bo_s]
    exact e'
  · obtain ⟨a1, a2, a3, a4⟩ := all g2 b
    have l3 := E7_lastOf (w := 3) hf a1 a2 hN (by omega) qs 0 0 FZ 2 hok a3 (by omega) (by omega)
    have l2 := E7_lastOf (w := 2) hf a1 a2 hN (by omega) qs 0 0 FZ 5 hok a3 (by omega) (by omega)
    unfold f_X7_lastOf
    rw [E7_begin hf a1, bo_s]
    exact ⟨l3, l2⟩
  · exact lasF_n qs 2 hok ⟨2, by omega, rfl⟩
