/-! the reference reads: clauses, the whole text -/
theorem T7_takesE {f s a cc : Nat} {X : Nat → Nat} {S : List Tq} {g : HP} (x : XOK s X) (hf : f < 6) (hcc : cc < 60) (k : RTq f s X a S g) : (∀ t b, anyQ X (oneQ X 4) a = (some t, b) → ∃ g', f_X7_takesE (nI cc) g = some (1, g') ∧ RTq f s X b (S ++ t) g' ∧ g'.1 108 cc = nI (100 * f + S.length) ∧ g'.1 109 cc = nI (100 * f + S.length + t.length) ∧ FKq f cc g g' ∧ g'.1 106 = g.1 106 ∧ g'.1 107 = g.1 107) ∧ ∀ b, anyQ X (oneQ X 4) a = (none, b) → ∃ g', f_X7_takesE (nI cc) g = some (0, g') ∧ g'.1 96 16 = nI b ∧ FKq f cc g g' := by
  have xs := x.1
  obtain ⟨k1, k2, k3, k4, k5, k9, k10, k11⟩ := k
  generalize hg : si (si (si g 96 27 0) 96 28 0) 108 cc (nI (100 * f + S.length)) = g1
  have r1 : RPq f s X a S [] g1 := by
    rw [← hg]
    refine ⟨?_, ?_, fun i hi => ?_, ?_, fun i hi => ?_, ?_, fun i hi => absurd hi (Nat.not_lt_zero i), ?_, (show S.length + 0 ≤ a from k9), k10, fun i hi => ?_, fun c hc => absurd hc List.not_mem_nil⟩
    · rw [si_r (by omega), si_w, up_n _ _ (by omega), si_w, up_n _ _ (by omega)]; exact k1
    · rw [si_r (by omega), si_w, up_n _ _ (by omega), si_w, up_n _ _ (by omega)]; exact k2
    · rw [si_r (by omega), si_r (by omega), si_r (by omega)]; exact k3 i hi
    · rw [si_r (by omega), si_w, up_n _ _ (by omega), si_w, up_n _ _ (by omega)]; exact k4
    · rw [si_r (by omega), si_r (by omega), si_r (by omega)]; exact k5 i hi
    · rw [si_r (by omega), si_w, up_n _ _ (by omega), si_w, up_s]; rfl
    · rw [si_r (by omega), si_w, up_s]; rfl
    · rw [si_r (by omega), si_r (by omega), si_r (by omega)]; exact k11 i hi
  have f1 : FKq f cc g g1 := by
    rw [← hg]
    exact ((FKq.pl (f := f) (cc := cc) (by omega)).trans (FKq.pl (by omega))).trans (FKq.w ⟨by omega, by omega⟩)
  have c1 : ∀ c, c ≠ 96 → c ≠ 108 → g1.1 c = g.1 c := fun c h1 h2 => by rw [← hg, si_r h2, si_r h1, si_r h1]
  have st : f_X7_takesE (nI cc) g = f_X7_takesE_L22 FZ (nI cc) 1 g1 := by
    unfold f_X7_takesE
    rw [lt_e, lt_e, gd_b (inb_n hcc (by omega)), cl_n (by omega), si_w, up_n _ _ (show (26 : Nat) ≠ 28 by omega), si_w, up_n _ _ (show (26 : Nat) ≠ 27 by omega), k4, lt_e, hg]
  have w108 : g1.1 108 cc = nI (100 * f + S.length) := by rw [← hg, si_w, up_s]
  have gE := anyQ_g x (oneQ_g x 4)
  obtain ⟨p1, p2⟩ := S7_any (cc := cc) x hf (oneQ_g x 4) (S7_one x hf hcc 4 (by omega)) a S [] g1 r1 rfl (fun c w e => by cases e)
  have Fz := FZ_ge
  refine ⟨fun t b e => ?_, fun b e => ?_⟩
  · have gl := gE.s k10 e
    obtain ⟨n, g2, S2, pa, hn, r2, a1, a2, k2, f2, x1, x2⟩ := p1 t b e
    obtain ⟨cl, -⟩ := S7_close (cc := cc) x hf hcc k2 a1 x1 x2
    obtain ⟨g3, e3, k3, f3, w9⟩ := cl rfl
    rw [a2] at k3 w9
    have ff := f2.trans f3
    obtain ⟨fu, hfu⟩ : ∃ fu, FZ = fu + 1 + n := ⟨FZ - 1 - n, by omega⟩
    refine ⟨g3, by rw [st, hfu, r2, e3], k3.t, by rw [ff.1 108 (by omega) (by omega)]; exact w108, by rw [w9, List.length_append]; congr 1; omega, f1.trans ff.k, by rw [ff.1 106 (by omega) (by omega), c1 _ (by omega) (by omega)], by rw [ff.1 107 (by omega) (by omega), c1 _ (by omega) (by omega)]⟩
  · have gl := gE.n k10 e
    obtain ⟨n, g2, hn, r2, k2, f2⟩ := p2 b e
    obtain ⟨fu, hfu⟩ : ∃ fu, FZ = fu + n := ⟨FZ - n, by omega⟩
    exact ⟨g2, by rw [st, hfu, r2], k2, f1.trans f2.k⟩
/-- what the reference keeps of a clause -/
def ROWq (f cc o : Nat) (q : Cq) (g : HP) : Prop := g.1 106 cc = nI q.1 ∧ g.1 107 cc = nI q.2.1 ∧ (q.1 ≤ 1 → g.1 108 cc = nI (100 * f + o) ∧ g.1 109 cc = nI (100 * f + o + q.2.2.length))
theorem T7_clause {f s a cc : Nat} {X : Nat → Nat} {S : List Tq} {g : HP} (x : XOK s X) (hf : f < 6) (hcc : cc < 60) (k : RTq f s X a S g) : (∀ q b, clsQ X a = (some q, b) → ∃ g', f_X7_takesClause (nI cc) g = some (1, g') ∧ RTq f s X b (S ++ q.2.2) g' ∧ ROWq f cc S.length q g' ∧ FKq f cc g g') ∧ ∀ b, clsQ X a = (none, b) → ∃ g', f_X7_takesClause (nI cc) g = some (0, g') ∧ g'.1 96 16 = nI b ∧ FKq f cc g g' := by
  have xs := x.1
  have i60 := inb_n hcc (show (60 : Nat) < 2147483648 by omega)
  have cn : (nI cc).toNatClampNeg = cc := cl_n (by omega)
  obtain ⟨h1, h2, h3⟩ := T7_head (cc := cc) x hcc k
  have w1 : ∀ w b, wordQ X a = (some w, b) → w < 4 ∧ a + 4 = b := fun w b e => by
    unfold wordQ at e
    by_cases z : preQ X a (selQ X a) 4 0 = 4
    · rw [if_pos z] at e
      obtain ⟨e1, e2⟩ := Prod.mk.inj e
      have e1 := Option.some.inj e1
      exact ⟨by rw [← e1]; exact (sel_max X a).1, e2⟩
    · rw [if_neg z] at e; cases e
  unfold clsQ f_X7_takesClause
  cases hw : wordQ X a with
  | mk r b =>
    cases r with
    | none =>
      obtain ⟨g1, e1, k1, f1⟩ := h3 b hw
      dsimp only
      rw [e1, bd_s, if_pos rfl]
      refine ⟨fun q b e => (by cases e), fun b e => ?_⟩
      obtain ⟨-, q2⟩ := Prod.mk.inj e
      subst q2
      exact ⟨g1, rfl, k1, f1⟩
    | some w =>
      obtain ⟨hw4, hb⟩ := w1 w b hw
      dsimp only
      by_cases z1 : X b = 32
      · have hbs := x.lt (show X b ≤ 127 by omega)
        obtain ⟨g1, e1, k1, o106, f1⟩ := h1 w b hw z1
        rw [if_pos z1, e1, bd_s, if_neg one_ne]
        obtain ⟨n1, n2⟩ := T7_num x k1
        rcases numQ_g x (show b + 1 ≤ s by omega) with ⟨n, c, e, hn, e2, e3⟩ | e
        · obtain ⟨g2, e4, k2, o17, f2⟩ := n1 n c e
          obtain ⟨k3, f3⟩ := k2.wr (cc := cc) (c := 107) (v := nI n) ⟨by omega, by omega⟩
          have p106 : (si g2 107 cc (nI n)).1 106 cc = nI w := by rw [si_r (by omega), f2.1 106 (by omega)]; exact o106
          have p107 : (si g2 107 cc (nI n)).1 107 cc = nI n := by rw [si_w, up_s]
          have ff := f1.trans (f2.k.trans f3)
          rw [e, e4, bd_s, if_neg one_ne, gd_b i60, cn, o17, lt_e, gd_b i60, p106]
          dsimp only
          by_cases z2 : 2 ≤ w
          · rw [if_pos z2, if_pos (by rw [show (2 : Int32) = nI 2 from rfl, le_n (by omega) (by omega)]; exact z2)]
            refine ⟨fun q b e => ?_, fun b e => (by cases e)⟩
            obtain ⟨q1, q2⟩ := Prod.mk.inj e
            have q1 := Option.some.inj q1
            subst q1; subst q2
            exact ⟨_, rfl, by rw [List.append_nil]; exact k3, ⟨p106, p107, fun h => by dsimp only at h; omega⟩, ff⟩
          · rw [if_neg z2, if_neg (show ¬ (2 : Int32) ≤ nI w by rw [show (2 : Int32) = nI 2 from rfl, le_n (by omega) (by omega)]; exact z2)]
            have t32 := T7_takes (c := 32) x k3 (by omega)
            have t32' : f_X7_takes 32 (si g2 107 cc (nI n)) = _ := t32
            rw [t32']
            by_cases z3 : X c = 32
            · have hcs := x.lt (show X c ≤ 127 by omega)
              obtain ⟨k4, f4⟩ := k3.at (show c ≤ c + 1 by omega) (by omega)
              obtain ⟨u1, u2⟩ := T7_takesE (cc := cc) x hf hcc k4
              rw [if_pos z3, if_pos z3, bd_s, if_neg one_ne]
              cases q : anyQ X (oneQ X 4) (c + 1) with
              | mk r d =>
                cases r with
                | none =>
                  obtain ⟨g5, e5, k5, f5⟩ := u2 d q
                  rw [e5, bd_s, if_pos rfl]
                  refine ⟨fun q b e => (by cases e), fun b e => ?_⟩
                  obtain ⟨-, q2⟩ := Prod.mk.inj e
                  subst q2
                  exact ⟨g5, rfl, k5, ff.trans (f4.k.trans f5)⟩
                | some t =>
                  obtain ⟨g5, e5, k5, o8, o9, f5, y6, y7⟩ := u1 t d q
                  rw [e5, bd_s, if_neg one_ne]
                  refine ⟨fun q b e => ?_, fun b e => (by cases e)⟩
                  obtain ⟨q1, q2⟩ := Prod.mk.inj e
                  have q1 := Option.some.inj q1
                  subst q1; subst q2
                  exact ⟨g5, rfl, k5, ⟨by rw [y6, f4.1 106 (by omega)]; exact p106, by rw [y7, f4.1 107 (by omega)]; exact p107, fun _ => ⟨o8, o9⟩⟩, ff.trans (f4.k.trans f5)⟩
            · rw [if_neg z3, if_neg z3, bd_s, if_pos rfl]
              refine ⟨fun q b e => (by cases e), fun b e => ?_⟩
              obtain ⟨-, q2⟩ := Prod.mk.inj e
              subst q2
              exact ⟨_, rfl, k3.2.1, ff⟩
        · rw [e, n2 e, bd_s, if_pos rfl]
          refine ⟨fun q b e => (by cases e), fun b e => ?_⟩
          obtain ⟨-, q2⟩ := Prod.mk.inj e
          subst q2
          exact ⟨g1, rfl, k1.2.1, f1⟩
      · obtain ⟨g1, e1, k1, f1⟩ := h2 w b hw z1
        rw [if_neg z1, e1, bd_s, if_pos rfl]
        refine ⟨fun q b e => (by cases e), fun b e => ?_⟩
        obtain ⟨-, q2⟩ := Prod.mk.inj e
        subst q2
        exact ⟨g1, rfl, k1, f1⟩
def sgF : List Cq → List Tq
  | [] => []
  | q :: qs => q.2.2 ++ sgF qs
def ROWS (f : Nat) : Nat → Nat → List Cq → HP → Prop
  | _, _, [], _ => True
  | n, o, q :: qs, g => ROWq f (10 * f + n) o q g ∧ ROWS f (n + 1) (o + q.2.2.length) qs g
/-- rows of clauses from the n-th on, of one ocean -/
def FGq (f n : Nat) (g g' : HP) : Prop := (∀ c, c ≠ 96 → ¬ (105 ≤ c ∧ c ≤ 111) → g'.1 c = g.1 c) ∧ (∀ j, ¬ (j = 16 ∨ j = 17 ∨ j = 26 ∨ j = 27 ∨ j = 28) → g'.1 96 j = g.1 96 j) ∧ (∀ j, j ≠ f → g'.1 105 j = g.1 105 j) ∧ (∀ c, 106 ≤ c → c ≤ 109 → ∀ j, ¬ (10 * f + n ≤ j ∧ j < 10 * f + 10) → g'.1 c j = g.1 c j) ∧ (∀ j, ¬ (100 * f ≤ j ∧ j < 100 * f + 100) → g'.1 110 j = g.1 110 j) ∧ g'.2 = g.2
theorem FGq.trans {f n : Nat} {g g1 g2 : HP} (a : FGq f n g g1) (b : FGq f n g1 g2) : FGq f n g g2 := ⟨fun c x y => (b.1 c x y).trans (a.1 c x y), fun j x => (b.2.1 j x).trans (a.2.1 j x), fun j x => (b.2.2.1 j x).trans (a.2.2.1 j x), fun c p q j x => (b.2.2.2.1 c p q j x).trans (a.2.2.2.1 c p q j x), fun j x => (b.2.2.2.2.1 j x).trans (a.2.2.2.2.1 j x), b.2.2.2.2.2.trans a.2.2.2.2.2⟩
theorem FGq.mono {f n m : Nat} {g g1 : HP} (a : FGq f n g g1) (h : m ≤ n) : FGq f m g g1 := ⟨a.1, a.2.1, a.2.2.1, fun c p q j x => a.2.2.2.1 c p q j (by omega), a.2.2.2.2.1, a.2.2.2.2.2⟩
theorem FKq.g {f n : Nat} {g g1 : HP} (a : FKq f (10 * f + n) g g1) (h : n < 10) : FGq f n g g1 := ⟨fun c x y => a.1 c x (by omega), a.2.1, fun j _ => by rw [a.1 105 (by omega) (by omega)], fun c p q j x => a.2.2.1 c p q j (by omega), a.2.2.2.1, a.2.2.2.2⟩
theorem ROWq.fr {f n o m : Nat} {q : Cq} {g g1 : HP} (r : ROWq f (10 * f + n) o q g) (a : FGq f m g g1) (h : n < m) : ROWq f (10 * f + n) o q g1 := by
  have z : ∀ c, 106 ≤ c → c ≤ 109 → g1.1 c (10 * f + n) = g.1 c (10 * f + n) := fun c p q => a.2.2.2.1 c p q _ (by omega)
  obtain ⟨r1, r2, r3⟩ := r
  exact ⟨(z 106 (by omega) (by omega)).trans r1, (z 107 (by omega) (by omega)).trans r2, fun h => ⟨(z 108 (by omega) (by omega)).trans (r3 h).1, (z 109 (by omega) (by omega)).trans (r3 h).2⟩⟩
theorem T7_L15 {f s : Nat} {X : Nat → Nat} (x : XOK s X) (hf : f < 6) : ∀ (fl n a : Nat) (S : List Tq) (g : HP) (fuel : Nat), n + fl = 10 → fl < fuel → 0 < fl → RTq f s X a S g → (∀ qs b, txtQ X s fl a = (some qs, b) → ∃ g', f_X7_goesText_L15 fuel (nI f) (nI n) g = some (1, g') ∧ RTq f s X b (S ++ sgF qs) g' ∧ ROWS f n S.length qs g' ∧ g'.1 105 f = nI (n + qs.length) ∧ n + qs.length ≤ 10 ∧ FGq f n g g') ∧ ∀ b, txtQ X s fl a = (none, b) → ∃ g', f_X7_goesText_L15 fuel (nI f) (nI n) g = some (0, g') ∧ g'.1 96 16 = nI b ∧ FGq f n g g' := by
  intro fl
  induction fl with
  | zero => intro n a S g fuel _ _ h; omega
  | succ fl ih =>
    intro n a S g fuel hn hfu _ k
    obtain ⟨fu, rfl⟩ : ∃ fu, fuel = fu + 1 := ⟨fuel - 1, by omega⟩
    have xs := x.1
    have k10 := k.2.2.2.2.2.2.1
    obtain ⟨c1, c2⟩ := T7_clause (cc := 10 * f + n) x hf (by omega) k
    obtain ⟨y1, y2⟩ := clsQ_g x k10
    have ix : (10 : Int32) * nI f + nI n = nI (10 * f + n) := by rw [show (10 : Int32) = nI 10 from rfl, mul_n, add_n]
    rw [txtQ, f_X7_goesText_L15, ix]
    cases hc : clsQ X a with
    | mk r b =>
      cases r with
      | none =>
        obtain ⟨g1, e1, k1, f1⟩ := c2 b hc
        rw [e1, bd_s, if_pos rfl]
        refine ⟨fun qs b e => (by cases e), fun b' e => ?_⟩
        obtain ⟨-, q2⟩ := Prod.mk.inj e
        subst q2
        exact ⟨g1, rfl, k1, f1.g (by omega)⟩
      | some q =>
        obtain ⟨g1, e1, k1, r1, f1⟩ := c1 q b hc
        have gb := y1 q b hc
        -- the number of clauses is written
        have k2 : RTq f s X b (S ++ q.2.2) (si g1 105 f (nI (n + 1))) := by
          obtain ⟨j1, j2, j3, j4, j5, j9, j10, j11⟩ := k1
          exact ⟨by rw [si_r (by omega)]; exact j1, by rw [si_r (by omega)]; exact j2, fun i hi => by rw [si_r (by omega)]; exact j3 i hi, by rw [si_r (by omega)]; exact j4, fun i hi => by rw [si_r (by omega)]; exact j5 i hi, j9, j10, fun i hi => by rw [si_r (by omega)]; exact j11 i hi⟩
        have f2 : FGq f n g (si g1 105 f (nI (n + 1))) := (f1.g (by omega)).trans ⟨fun c h1 h2 => si_r (by omega), fun j _ => by rw [si_r (by omega)], fun j hj => by rw [si_w, up_n _ _ hj], fun c p q j _ => by rw [si_r (by omega)], fun j _ => by rw [si_r (by omega)], rfl⟩
        have r2 : ROWq f (10 * f + n) S.length q (si g1 105 f (nI (n + 1))) := by
          obtain ⟨s1, s2, s3⟩ := r1
          exact ⟨by rw [si_r (by omega)]; exact s1, by rw [si_r (by omega)]; exact s2, fun h => ⟨by rw [si_r (by omega)]; exact (s3 h).1, by rw [si_r (by omega)]; exact (s3 h).2⟩⟩
        have w105 : (si g1 105 f (nI (n + 1))).1 105 f = nI (n + 1) := by rw [si_w, up_s]
        dsimp only
        rw [e1, bd_s, if_neg one_ne, one_n, lt_e, gd_b (inb_n (show f < 6 by omega) (by omega)), cl_n (by omega), lt_e, k2.2.1, k2.1]
        by_cases z1 : b = s
        · subst z1
          rw [if_pos rfl, if_pos rfl]
          refine ⟨fun qs b' e => ?_, fun b e => (by cases e)⟩
          obtain ⟨q1, q2⟩ := Prod.mk.inj e
          have q1 := Option.some.inj q1
          subst q1; subst q2
          refine ⟨_, rfl, ?_, ⟨r2, trivial⟩, w105, by show n + 1 ≤ 10; omega, f2⟩
          show RTq f b X b (S ++ (q.2.2 ++ [])) _
          rw [List.append_nil]; exact k2
        · rw [if_neg z1, if_neg (show ¬ nI b = nI s from fun q => z1 ((eq_n (by omega) (by omega)).mp q))]
          by_cases z2 : fl = 0
          · subst z2
            rw [if_pos rfl, if_pos (show nI (n + 1) = 10 by rw [show (10 : Int32) = nI 10 from rfl, eq_n (by omega) (by omega)]; omega)]
            refine ⟨fun qs b e => (by cases e), fun b' e => ?_⟩
            obtain ⟨-, q2⟩ := Prod.mk.inj e
            subst q2
            exact ⟨_, rfl, k2.2.1, f2⟩
          · rw [if_neg z2, if_neg (show ¬ nI (n + 1) = 10 by rw [show (10 : Int32) = nI 10 from rfl, eq_n (by omega) (by omega)]; omega)]
            have t59 := T7_takes (c := 59) x k2 (by omega)
            have t59' : f_X7_takes 59 (si g1 105 f (nI (n + 1))) = _ := t59
            rw [t59']
            by_cases z3 : X b = 59
            · have h3 := x.lt (show X b ≤ 127 by omega)
              obtain ⟨k3, f3⟩ := k2.at (show b ≤ b + 1 by omega) (by omega)
              obtain ⟨i1, i2⟩ := ih (n + 1) (b + 1) (S ++ q.2.2) _ fu (by omega) (by omega) (by omega) k3
              rw [if_pos z3, if_pos z3, bd_s, if_neg one_ne]
              have f3g : FGq f n (si g1 105 f (nI (n + 1))) (si (si g1 105 f (nI (n + 1))) 96 16 (nI (b + 1))) := (f3.k (f := f) (cc := 10 * f + n)).g (by omega)
              cases ht : txtQ X s fl (b + 1) with
              | mk r c =>
                cases r with
                | none =>
                  obtain ⟨h2, e2, k4, f4⟩ := i2 c ht
                  refine ⟨fun qs b e => (by cases e), fun b' e => ?_⟩
                  obtain ⟨-, q2⟩ := Prod.mk.inj e
                  subst q2
                  exact ⟨h2, e2, k4, f2.trans (f3g.trans (f4.mono (by omega)))⟩
                | some qs =>
                  obtain ⟨h2, e2, k4, r4, w4, l4, f4⟩ := i1 qs c ht
                  refine ⟨fun qs' b' e => ?_, fun b e => (by cases e)⟩
                  obtain ⟨q1, q2⟩ := Prod.mk.inj e
                  have q1 := Option.some.inj q1
                  subst q1; subst q2
                  have r3 : ROWq f (10 * f + n) S.length q (si (si g1 105 f (nI (n + 1))) 96 16 (nI (b + 1))) := by
                    obtain ⟨s1, s2, s3⟩ := r2
                    exact ⟨by rw [si_r (by omega)]; exact s1, by rw [si_r (by omega)]; exact s2, fun h => ⟨by rw [si_r (by omega)]; exact (s3 h).1, by rw [si_r (by omega)]; exact (s3 h).2⟩⟩
                  refine ⟨h2, e2, ?_, ⟨r3.fr f4 (by omega), ?_⟩, ?_, ?_, f2.trans (f3g.trans (f4.mono (by omega)))⟩
                  · rw [List.append_assoc] at k4; exact k4
                  · rw [List.length_append] at r4; exact r4
                  · rw [w4, List.length_cons]; congr 1; omega
                  · rw [List.length_cons]; omega
            · rw [if_neg z3, if_neg z3, bd_s, if_pos rfl]
              refine ⟨fun qs b e => (by cases e), fun b' e => ?_⟩
              obtain ⟨-, q2⟩ := Prod.mk.inj e
              subst q2
              exact ⟨_, rfl, k2.2.1, f2⟩
