/-! the reference reads: F, T, E -/
def RCH (cc n : Nat) (w w' : Int32) (g g' : HP) : Prop := ∀ fuel, f_X7_takesE_L22 (fuel + n) (nI cc) w g = f_X7_takesE_L22 fuel (nI cc) w' g'
def RFL (cc n : Nat) (w : Int32) (g g' : HP) : Prop := ∀ fuel, f_X7_takesE_L22 (fuel + n) (nI cc) w g = some (0, g')
theorem RCH.tr {cc n m : Nat} {w w1 w2 : Int32} {g g1 g2 : HP} (a : RCH cc n w w1 g g1) (b : RCH cc m w1 w2 g1 g2) : RCH cc (n + m) w w2 g g2 := fun fuel => by
  rw [show fuel + (n + m) = fuel + m + n by omega, a, b]
theorem RCH.fl {cc n m : Nat} {w w1 : Int32} {g g1 g2 : HP} (a : RCH cc n w w1 g g1) (b : RFL cc m w1 g1 g2) : RFL cc (n + m) w g g2 := fun fuel => by
  rw [show fuel + (n + m) = fuel + m + n by omega, a, b]
/-- F: told with the ! that wait for it -/
def SFq (f s : Nat) (X : Nat → Nat) (cc e : Nat) (p : Nat → Rq) : Prop := ∀ a S W g, RPq f s X a S W g → opQ W + e = 4 → (∀ t b, p a = (some t, b) → ∃ n g', n ≤ b - a ∧ RCH cc n 1 0 g g' ∧ RPq f s X b (S ++ t ++ List.replicate (bngQ W) (tkO 33)) (W.drop (bngQ W)) g' ∧ FLq f cc g g') ∧ ∀ b, p a = (none, b) → ∃ n g', n ≤ b - a + 1 ∧ RFL cc n 1 g g' ∧ g'.1 96 16 = nI b ∧ FLq f cc g g'
/-- T: & may wait behind it -/
def STq2 (f s : Nat) (X : Nat → Nat) (cc e : Nat) (p : Nat → Rq) : Prop := ∀ a S W g, RPq f s X a S W g → opQ W + e = 4 → (∀ c w, W = c :: w → c = 40 ∨ c = 124) → (∀ t b, p a = (some t, b) → ∃ n g' S' pa, n ≤ b - a ∧ RCH cc n 1 0 g g' ∧ (∀ c, c ∈ pa → c = 38) ∧ S' ++ pa.map tkO = S ++ t ∧ RPq f s X b S' (pa ++ W) g' ∧ FLq f cc g g' ∧ X b ≠ 38) ∧ ∀ b, p a = (none, b) → ∃ n g', n ≤ b - a + 1 ∧ RFL cc n 1 g g' ∧ g'.1 96 16 = nI b ∧ FLq f cc g g'
/-- E: & and | may wait behind it -/
def SEq2 (f s : Nat) (X : Nat → Nat) (cc e : Nat) (p : Nat → Rq) : Prop := ∀ a S W g, RPq f s X a S W g → opQ W + e = 4 → (∀ c w, W = c :: w → c = 40) → (∀ t b, p a = (some t, b) → ∃ n g' S' pa, n ≤ b - a ∧ RCH cc n 1 0 g g' ∧ (∀ c, c ∈ pa → c = 38 ∨ c = 124) ∧ S' ++ pa.map tkO = S ++ t ∧ RPq f s X b S' (pa ++ W) g' ∧ FLq f cc g g' ∧ X b ≠ 38 ∧ X b ≠ 124) ∧ ∀ b, p a = (none, b) → ∃ n g', n ≤ b - a + 1 ∧ RFL cc n 1 g g' ∧ g'.1 96 16 = nI b ∧ FLq f cc g g'
theorem one_ne0 : ¬ (1 : Int32) = 0 := by decide
theorem L22_next {f s a : Nat} {X : Nat → Nat} {S : List Tq} {W : List Nat} {g : HP} (x : XOK s X) (k : RPq f s X a S W g) (fu : Nat) (x1 w : Int32) : f_X7_takesE_L22 (fu + 1) x1 w g = (if w = 0 then (if chI s X a = 38 then (f_X7_takesE_J122 (fun z0 z1 z2 => f_X7_takesE_L22 fu z0 z1 z2) x1 (chI s X a) g) else (if chI s X a = 124 then (f_X7_takesE_J122 (fun z0 z1 z2 => f_X7_takesE_L22 fu z0 z1 z2) x1 (chI s X a) g) else (bo (f_X7_settle 124 g) fun g22 => gd (inb x1 60) (lt (si g22 109 (Int32.toNatClampNeg x1) (g22.1 96 26)) fun g25 => if (g25.1 96 27) = 0 then (some (1, g25)) else (if chI s X a = 41 then (lt (si g25 96 27 ((g25.1 96 27) - 1)) fun g29 => lt (si g29 96 28 ((g29.1 96 28) - 1)) fun g31 => lt (si g31 96 16 ((g31.1 96 16) + 1)) fun g33 => bo (f_X7_whole g33) fun g35 => f_X7_takesE_L22 fu x1 w g35) else (some (0, g25))))))) else (if chI s X a = 33 then (f_X7_takesE_J43 (fun z0 z1 z2 => f_X7_takesE_L22 fu z0 z1 z2) x1 w (chI s X a) g) else (if chI s X a = 40 then (f_X7_takesE_J43 (fun z0 z1 z2 => f_X7_takesE_L22 fu z0 z1 z2) x1 w (chI s X a) g) else (bd (f_X7_takesTest g) fun v51 g49 => if v51 = 0 then (some (0, g49)) else (f_X7_takesE_L22 fu x1 0 g49))))) := by
  rw [f_X7_takesE_L22, E7_next x k, bo_s]
theorem S7_test {f s cc : Nat} {X : Nat → Nat} {S : List Tq} {W : List Nat} {g : HP} {a : Nat} (x : XOK s X) (hf : f < 6) (k : RPq f s X a S W g) (h1 : X a ≠ 33) (h2 : X a ≠ 40) : (∀ t b, testQ X a = (some t, b) → ∃ n g', n ≤ b - a ∧ RCH cc n 1 0 g g' ∧ RPq f s X b (S ++ t ++ List.replicate (bngQ W) (tkO 33)) (W.drop (bngQ W)) g' ∧ FLq f cc g g') ∧ ∀ b, testQ X a = (none, b) → ∃ n g', n ≤ b - a + 1 ∧ RFL cc n 1 g g' ∧ g'.1 96 16 = nI b ∧ FLq f cc g g' := by
  obtain ⟨t1, t2⟩ := E7_test (cc := cc) x hf k
  have gq := testQ_g x a k.2.2.2.2.2.2.2.2.2.1
  have n33 : ¬ chI s X a = 33 := fun q => h1 ((chI_e (c := 33) x (by omega)).mp q)
  have n40 : ¬ chI s X a = 40 := fun q => h2 ((chI_e (c := 40) x (by omega)).mp q)
  refine ⟨fun t b e => ?_, fun b e => ?_⟩
  · obtain ⟨g', e1, k1, f1⟩ := t1 t b e
    rw [e] at gq
    refine ⟨1, g', by have : a + t.length + 2 ≤ b := gq.1; omega, fun fuel => ?_, k1, f1⟩
    rw [L22_next x k, if_neg one_ne0, if_neg n33, if_neg n40, e1, bd_s, if_neg one_ne0]
  · obtain ⟨g', e1, k1, f1⟩ := t2 b e
    refine ⟨1, g', by omega, fun fuel => ?_, k1, f1⟩
    rw [L22_next x k, if_neg one_ne0, if_neg n33, if_neg n40, e1, bd_s, if_pos rfl]
/-- & or | is met: what waits is told, and it waits itself -/
theorem S7_op {f s cc z a : Nat} {X : Nat → Nat} {S : List Tq} {P R : List Nat} {g : HP} (x : XOK s X) (hf : f < 6) (k : RPq f s X a S (P ++ R) g) (hz : z = 38 ∨ z = 124) (hX : X a = z) (hR : ∀ c w, R = c :: w → c ≠ 38 ∧ (c = 124 → z = 38)) (hP : ∀ c, c ∈ P → c = 38 ∨ (c = 124 ∧ z = 124)) : ∃ g', RCH cc 1 0 1 g g' ∧ RPq f s X (a + 1) (S ++ P.map tkO) (z :: R) g' ∧ FLq f cc g g' := by
  have ha := x.lt (show X a ≤ 127 by omega)
  have xs := x.1
  obtain ⟨g1, e1, k1, f1⟩ := E7_settle (cc := cc) x hf hz hR hP k
  obtain ⟨k2, f2⟩ := k1.pu1 (cc := cc) hz (show a + 1 ≤ s by omega)
  have k9 := k1.2.2.2.2.2.2.2.2.1
  have ch : chI s X a = nI z := (chI_e x (by omega)).mpr hX
  refine ⟨_, fun fuel => ?_, k2, f1.trans f2⟩
  have j : f_X7_takesE_J122 (fun z0 z1 z2 => f_X7_takesE_L22 fuel z0 z1 z2) (nI cc) (nI z) g = f_X7_takesE_L22 fuel (nI cc) 1 (si (si (si g1 111 R.length (nI z)) 96 27 (nI (R.length + 1))) 96 16 (nI (a + 1))) := by
    unfold f_X7_takesE_J122
    rw [e1, bo_s, k1.2.2.2.2.2.1, gd_b (inb_n (by omega) (by omega)), cl_n (by omega), lt_e, si_r (show (96 : Nat) ≠ 111 by omega), k1.2.2.2.2.2.1, one_n, lt_e, si_w, up_n _ _ (show (16 : Nat) ≠ 27 by omega), si_r (show (96 : Nat) ≠ 111 by omega), k1.2.1, one_n, lt_e]
  rw [L22_next x k, if_pos rfl, ch]
  rcases hz with rfl | rfl
  · rw [if_pos (show nI 38 = 38 from rfl)]; exact j
  · rw [if_neg (show ¬ nI 124 = 38 by decide), if_pos (show nI 124 = 124 from rfl)]; exact j
/-- ! or ( is met -/
theorem S7_open {f s cc z a : Nat} {X : Nat → Nat} {S : List Tq} {W : List Nat} {g : HP} (x : XOK s X) (k : RPq f s X a S W g) (hz : z = 33 ∨ z = 40) (hX : X a = z) : (opQ W ≤ 3 → ∃ g', RCH cc 1 1 1 g g' ∧ RPq f s X (a + 1) S (z :: W) g' ∧ FLq f cc g g') ∧ (opQ W = 4 → RFL cc 1 1 g g) := by
  have ha := x.lt (show X a ≤ 127 by omega)
  have xs := x.1
  have k9 := k.2.2.2.2.2.2.2.2.1
  have ch : chI s X a = nI z := (chI_e x (by omega)).mpr hX
  have k8 := k.2.2.2.2.2.2.2.1
  refine ⟨fun ho => ?_, fun ho fuel => ?_⟩
  · obtain ⟨k2, f2⟩ := k.pu2 (cc := cc) hz (show a + 1 ≤ s by omega)
    refine ⟨_, fun fuel => ?_, k2, f2⟩
    have j : f_X7_takesE_J43 (fun z0 z1 z2 => f_X7_takesE_L22 fuel z0 z1 z2) (nI cc) 1 (nI z) g = f_X7_takesE_L22 fuel (nI cc) 1 (si (si (si (si g 96 28 (nI (opQ W + 1))) 111 W.length (nI z)) 96 27 (nI (W.length + 1))) 96 16 (nI (a + 1))) := by
      unfold f_X7_takesE_J43
      rw [k8, if_neg (show ¬ nI (opQ W) = 4 by rw [show (4 : Int32) = nI 4 from rfl, eq_n (by omega) (by omega)]; omega), one_n, lt_e, si_w, up_n _ _ (show (27 : Nat) ≠ 28 by omega), k.2.2.2.2.2.1, gd_b (inb_n (by omega) (by omega)), cl_n (by omega), lt_e, si_r (show (96 : Nat) ≠ 111 by omega), si_w, up_n _ _ (show (27 : Nat) ≠ 28 by omega), k.2.2.2.2.2.1, one_n, lt_e, si_w, up_n _ _ (show (16 : Nat) ≠ 27 by omega), si_r (show (96 : Nat) ≠ 111 by omega), si_w, up_n _ _ (show (16 : Nat) ≠ 28 by omega), k.2.1, one_n, lt_e]
    rw [L22_next x k, if_neg one_ne0, ch]
    rcases hz with rfl | rfl
    · rw [if_pos (show nI 33 = 33 from rfl)]; exact j
    · rw [if_neg (show ¬ nI 40 = 33 by decide), if_pos (show nI 40 = 40 from rfl)]; exact j
  · have j : f_X7_takesE_J43 (fun z0 z1 z2 => f_X7_takesE_L22 fuel z0 z1 z2) (nI cc) 1 (nI z) g = some (0, g) := by
      unfold f_X7_takesE_J43
      rw [k8, ho, if_pos (show nI 4 = 4 from rfl)]
    rw [L22_next x k, if_neg one_ne0, ch]
    rcases hz with rfl | rfl
    · rw [if_pos (show nI 33 = 33 from rfl)]; exact j
    · rw [if_neg (show ¬ nI 40 = 33 by decide), if_pos (show nI 40 = 40 from rfl)]; exact j
theorem S7_tloop {f s cc e : Nat} {X : Nat → Nat} {p : Nat → Rq} (x : XOK s X) (hf : f < 6) (gq : GQ s p) (hp : SFq f s X cc e p) {W : List Nat} (hW : ∀ c w, W = c :: w → c = 40 ∨ c = 124) (ho : opQ W + e = 4) : ∀ (fl i a : Nat) (S0 S : List Tq) (pa : List Nat) (t : List Tq) (g : HP), i + fl = 100 → 2 * i ≤ a → (∀ c, c ∈ pa → c = 38) → S ++ pa.map tkO = S0 ++ t → RPq f s X a S (pa ++ W) g → (∀ t' b, loopQ X p 38 fl a t = (some t', b) → ∃ n g' S' pa', n ≤ b - a ∧ RCH cc n 0 0 g g' ∧ (∀ c, c ∈ pa' → c = 38) ∧ S' ++ pa'.map tkO = S0 ++ t' ∧ RPq f s X b S' (pa' ++ W) g' ∧ FLq f cc g g' ∧ X b ≠ 38) ∧ ∀ b, loopQ X p 38 fl a t = (none, b) → ∃ n g', n ≤ b - a + 1 ∧ RFL cc n 0 g g' ∧ g'.1 96 16 = nI b ∧ FLq f cc g g' := by
  intro fl
  induction fl with
  | zero =>
    intro i a S0 S pa t g hi h2 hpa hS k
    have xs := x.1
    have as := k.2.2.2.2.2.2.2.2.2.1
    omega
  | succ fl ih =>
    intro i a S0 S pa t g hi h2 hpa hS k
    rw [loopQ]
    by_cases z : X a = 38
    · rw [if_pos z]
      have ha := x.lt (show X a ≤ 127 by omega)
      obtain ⟨g1, r1, k1, f1⟩ := S7_op (cc := cc) (z := 38) x hf k (Or.inl rfl) z (fun c w e => by have := hW c w e; omega) (fun c hc => Or.inl (hpa c hc))
      have o1 : opQ (38 :: W) + e = 4 := by rw [opQ, if_neg (by decide)]; exact ho
      obtain ⟨p1, p2⟩ := hp (a + 1) _ _ g1 k1 o1
      cases q : p (a + 1) with
      | mk r b' =>
        cases r with
        | none =>
          have gl := gq.n (by omega) q
          obtain ⟨n, g2, hn, r2, k2, f2⟩ := p2 b' q
          refine ⟨fun t' b e => (by cases e), fun b e => ?_⟩
          obtain ⟨-, e3⟩ := Prod.mk.inj e
          subst e3
          exact ⟨1 + n, g2, by omega, r1.fl r2, k2, f1.trans f2⟩
        | some u =>
          have gl := gq.s (by omega) q
          obtain ⟨n, g2, hn, r2, k2, f2⟩ := p1 u b' q
          have b0 : bngQ (38 :: W) = 0 := by rw [bngQ, if_neg (by decide)]
          rw [b0] at k2
          have k2' : RPq f s X b' (S ++ pa.map tkO ++ u) ([38] ++ W) g2 := by
            have : S ++ pa.map tkO ++ u ++ List.replicate 0 (tkO 33) = S ++ pa.map tkO ++ u := List.append_nil _
            rw [this] at k2
            exact k2
          obtain ⟨i1, i2⟩ := ih (i + 1) b' S0 (S ++ pa.map tkO ++ u) [38] (t ++ u ++ [(38, 0, 0)]) g2 (by omega) (by omega) (fun c hc => by simpa using hc) (by rw [hS]; simp only [List.map_cons, List.map_nil, List.append_assoc]; rfl) k2'
          dsimp only
          refine ⟨fun t' b e => ?_, fun b e => ?_⟩
          · obtain ⟨m, g3, S', pa', hm, r3, q1, q2, q3, q4, q5⟩ := i1 t' b e
            have gl2 := k2'.2.2.2.2.2.2.2.2.2.1
            have hb : b' ≤ b := by
              have := loopQ_g x gq (show 38 ≤ 127 by omega) (a0 := b' - (t ++ u ++ [(38, 0, 0)]).length - 2) fl b' (t ++ u ++ [(38, 0, 0)]) gl.2
              by_cases y : b' ≤ b
              · exact y
              · exfalso
                have lb : ∀ (fl a : Nat) (t : List Tq) (t' : List Tq) (b : Nat), a ≤ s → loopQ X p 38 fl a t = (some t', b) → a ≤ b := by
                  intro fl
                  induction fl with
                  | zero => intro a t t' b _ e; obtain ⟨-, e2⟩ := Prod.mk.inj e; omega
                  | succ fl ih2 =>
                    intro a t t' b has e
                    rw [loopQ] at e
                    by_cases z : X a = 38
                    · rw [if_pos z] at e
                      have ha := x.lt (show X a ≤ 127 by omega)
                      cases q : p (a + 1) with
                      | mk r c =>
                        rw [q] at e
                        cases r with
                        | none => cases e
                        | some v =>
                          have := gq.s (by omega) q
                          have := ih2 c _ t' b this.2 e
                          omega
                    · rw [if_neg z] at e; obtain ⟨-, e2⟩ := Prod.mk.inj e; omega
                exact y (lb fl b' _ t' b gl.2 e)
            exact ⟨1 + n + m, g3, S', pa', by omega, (r1.tr r2).tr r3, q1, q2, q3, f1.trans (f2.trans q4), q5⟩
          · obtain ⟨m, g3, hm, r3, q3, q4⟩ := i2 b e
            have hb : b' ≤ b := by
              have lb : ∀ (fl a : Nat) (t : List Tq) (b : Nat), a ≤ s → loopQ X p 38 fl a t = (none, b) → a ≤ b := by
                intro fl
                induction fl with
                | zero => intro a t b _ e; cases e
                | succ fl ih2 =>
                  intro a t b has e
                  rw [loopQ] at e
                  by_cases z : X a = 38
                  · rw [if_pos z] at e
                    have ha := x.lt (show X a ≤ 127 by omega)
                    cases q : p (a + 1) with
                    | mk r c =>
                      rw [q] at e
                      cases r with
                      | none => have := gq.n (by omega) q; obtain ⟨-, e2⟩ := Prod.mk.inj e; omega
                      | some v =>
                        have := gq.s (by omega) q
                        have := ih2 c _ b this.2 e
                        omega
                  · rw [if_neg z] at e; cases e
              exact lb fl b' _ b gl.2 e
            exact ⟨1 + n + m, g3, by omega, (r1.tr r2).fl r3, q3, f1.trans (f2.trans q4)⟩
    · rw [if_neg z]
      refine ⟨fun t' b e => ?_, fun b e => (by cases e)⟩
      obtain ⟨e1, e2⟩ := Prod.mk.inj e
      have e1 := Option.some.inj e1
      subst e1; subst e2
      exact ⟨0, g, S, pa, by omega, fun fuel => rfl, hpa, hS, k, FLq.rf, z⟩
