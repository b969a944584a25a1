/-! the reference reads: E, F by depth -/
theorem loop_b {s op : Nat} {X : Nat → Nat} {p : Nat → Rq} (x : XOK s X) (gq : GQ s p) (hop : op ≤ 127) : ∀ (fl a : Nat) (t : List Tq) (r : Option (List Tq)) (b : Nat), a ≤ s → loopQ X p op fl a t = (r, b) → a ≤ b := by
  intro fl
  induction fl with
  | zero => intro a t r b _ e; obtain ⟨-, e2⟩ := Prod.mk.inj e; omega
  | succ fl ih2 =>
    intro a t r b has e
    rw [loopQ] at e
    by_cases z : X a = op
    · rw [if_pos z] at e
      have ha := x.lt (show X a ≤ 127 by omega)
      cases q : p (a + 1) with
      | mk r' c =>
        rw [q] at e
        cases r' with
        | none => have := gq.n (by omega) q; obtain ⟨-, e2⟩ := Prod.mk.inj e; omega
        | some v =>
          have := gq.s (by omega) q
          have := ih2 c _ r b this.2 e
          omega
    · rw [if_neg z] at e; obtain ⟨-, e2⟩ := Prod.mk.inj e; omega
theorem S7_all {f s cc e : Nat} {X : Nat → Nat} {p : Nat → Rq} (x : XOK s X) (hf : f < 6) (gq : GQ s p) (hp : SFq f s X cc e p) : STq2 f s X cc e (allQ X p) := by
  intro a S W g k ho hW
  have as := k.2.2.2.2.2.2.2.2.2.1
  obtain ⟨p1, p2⟩ := hp a S W g k ho
  have b0 : bngQ W = 0 := by
    cases W with
    | nil => rfl
    | cons c w => have := hW c w rfl; rw [bngQ, if_neg (by omega)]
  unfold allQ
  cases q : p a with
  | mk r b' =>
    cases r with
    | none =>
      obtain ⟨n, g2, hn, r2, k2, f2⟩ := p2 b' q
      refine ⟨fun t' b e => (by cases e), fun b e => ?_⟩
      obtain ⟨-, e3⟩ := Prod.mk.inj e
      subst e3
      exact ⟨n, g2, hn, r2, k2, f2⟩
    | some u =>
      have gl := gq.s as q
      obtain ⟨n, g2, hn, r2, k2, f2⟩ := p1 u b' q
      rw [b0] at k2
      have k2' : RPq f s X b' (S ++ u) ([] ++ W) g2 := by
        have : S ++ u ++ List.replicate 0 (tkO 33) = S ++ u := List.append_nil _
        rw [this] at k2
        exact k2
      obtain ⟨i1, i2⟩ := S7_tloop x hf gq hp hW ho 100 0 b' S (S ++ u) [] u g2 (by omega) (by omega) (fun c hc => by cases hc) (List.append_nil _) k2'
      dsimp only
      refine ⟨fun t' b e => ?_, fun b e => ?_⟩
      · obtain ⟨m, g3, S', pa', hm, r3, q1, q2, q3, q4, q5⟩ := i1 t' b e
        have hb := loop_b x gq (show 38 ≤ 127 by omega) 100 b' u _ b gl.2 e
        exact ⟨n + m, g3, S', pa', by omega, r2.tr r3, q1, q2, q3, f2.trans q4, q5⟩
      · obtain ⟨m, g3, hm, r3, q3, q4⟩ := i2 b e
        have hb := loop_b x gq (show 38 ≤ 127 by omega) 100 b' u _ b gl.2 e
        exact ⟨n + m, g3, by omega, r2.fl r3, q3, f2.trans q4⟩
theorem S7_eloop {f s cc e : Nat} {X : Nat → Nat} {p : Nat → Rq} (x : XOK s X) (hf : f < 6) (gq : GQ s p) (hp : STq2 f s X cc e p) {W : List Nat} (hW : ∀ c w, W = c :: w → c = 40) (ho : opQ W + e = 4) : ∀ (fl i a : Nat) (S0 S : List Tq) (pa : List Nat) (t : List Tq) (g : HP), i + fl = 100 → 2 * i ≤ a → (∀ c, c ∈ pa → c = 38 ∨ c = 124) → S ++ pa.map tkO = S0 ++ t → RPq f s X a S (pa ++ W) g → X a ≠ 38 → (∀ t' b, loopQ X p 124 fl a t = (some t', b) → ∃ n g' S' pa', n ≤ b - a ∧ RCH cc n 0 0 g g' ∧ (∀ c, c ∈ pa' → c = 38 ∨ c = 124) ∧ S' ++ pa'.map tkO = S0 ++ t' ∧ RPq f s X b S' (pa' ++ W) g' ∧ FLq f cc g g' ∧ X b ≠ 38 ∧ X b ≠ 124) ∧ ∀ b, loopQ X p 124 fl a t = (none, b) → ∃ n g', n ≤ b - a + 1 ∧ RFL cc n 0 g g' ∧ g'.1 96 16 = nI b ∧ FLq f cc g g' := by
  intro fl
  induction fl with
  | zero =>
    intro i a S0 S pa t g hi h2 hpa hS k hx
    have xs := x.1
    have as := k.2.2.2.2.2.2.2.2.2.1
    omega
  | succ fl ih =>
    intro i a S0 S pa t g hi h2 hpa hS k hx
    rw [loopQ]
    by_cases z : X a = 124
    · rw [if_pos z]
      have ha := x.lt (show X a ≤ 127 by omega)
      obtain ⟨g1, r1, k1, f1⟩ := S7_op (cc := cc) (z := 124) x hf k (Or.inr rfl) z (fun c w e => by have := hW c w e; omega) (fun c hc => by have := hpa c hc; omega)
      have o1 : opQ (124 :: W) + e = 4 := by rw [opQ, if_neg (by decide)]; exact ho
      obtain ⟨p1, p2⟩ := hp (a + 1) _ _ g1 k1 o1 (fun c w e => Or.inr (by have := (List.cons.inj e).1; omega))
      cases q : p (a + 1) with
      | mk r b' =>
        cases r with
        | none =>
          have gl := gq.n (by omega) q
          obtain ⟨n, g2, hn, r2, k2, f2⟩ := p2 b' q
          refine ⟨fun t' b e => (by cases e), fun b e => ?_⟩
          obtain ⟨-, e3⟩ := Prod.mk.inj e
          subst e3
          exact ⟨1 + n, g2, by omega, r1.fl r2, k2, f1.trans f2⟩
        | some u =>
          have gl := gq.s (by omega) q
          obtain ⟨n, g2, S2, pa2, hn, r2, a1, a2, k2, f2, x2⟩ := p1 u b' q
          have k2' : RPq f s X b' S2 ((pa2 ++ [124]) ++ W) g2 := by rw [List.append_assoc]; exact k2
          obtain ⟨i1, i2⟩ := ih (i + 1) b' S0 S2 (pa2 ++ [124]) (t ++ u ++ [(124, 0, 0)]) g2 (by omega) (by omega) (fun c hc => by
            rcases List.mem_append.mp hc with h | h
            · exact Or.inl (a1 c h)
            · exact Or.inr (by simpa using h)) (by rw [List.map_append, ← List.append_assoc, a2, hS]; simp only [List.map_cons, List.map_nil, List.append_assoc]; rfl) k2' x2
          dsimp only
          refine ⟨fun t' b e => ?_, fun b e => ?_⟩
          · obtain ⟨m, g3, S', pa', hm, r3, q1, q2, q3, q4, q5⟩ := i1 t' b e
            have hb := loop_b x gq (show 124 ≤ 127 by omega) fl b' _ _ b gl.2 e
            exact ⟨1 + n + m, g3, S', pa', by omega, (r1.tr r2).tr r3, q1, q2, q3, f1.trans (f2.trans q4), q5⟩
          · obtain ⟨m, g3, hm, r3, q3, q4⟩ := i2 b e
            have hb := loop_b x gq (show 124 ≤ 127 by omega) fl b' _ _ b gl.2 e
            exact ⟨1 + n + m, g3, by omega, (r1.tr r2).fl r3, q3, f1.trans (f2.trans q4)⟩
    · rw [if_neg z]
      refine ⟨fun t' b e => ?_, fun b e => (by cases e)⟩
      obtain ⟨e1, e2⟩ := Prod.mk.inj e
      have e1 := Option.some.inj e1
      subst e1; subst e2
      exact ⟨0, g, S, pa, by omega, fun fuel => rfl, hpa, hS, k, FLq.rf, hx, z⟩
theorem S7_any {f s cc e : Nat} {X : Nat → Nat} {p : Nat → Rq} (x : XOK s X) (hf : f < 6) (gq : GQ s p) (hp : SFq f s X cc e p) : SEq2 f s X cc e (anyQ X p) := by
  intro a S W g k ho hW
  have as := k.2.2.2.2.2.2.2.2.2.1
  have hT := S7_all x hf gq hp
  have gT := allQ_g x gq
  obtain ⟨p1, p2⟩ := hT a S W g k ho (fun c w e => Or.inl (hW c w e))
  unfold anyQ
  cases q : allQ X p a with
  | mk r b' =>
    cases r with
    | none =>
      obtain ⟨n, g2, hn, r2, k2, f2⟩ := p2 b' q
      refine ⟨fun t' b e => (by cases e), fun b e => ?_⟩
      obtain ⟨-, e3⟩ := Prod.mk.inj e
      subst e3
      exact ⟨n, g2, hn, r2, k2, f2⟩
    | some u =>
      have gl := gT.s as q
      obtain ⟨n, g2, S2, pa2, hn, r2, a1, a2, k2, f2, x2⟩ := p1 u b' q
      obtain ⟨i1, i2⟩ := S7_eloop x hf gT hT hW ho 100 0 b' S S2 pa2 u g2 (by omega) (by omega) (fun c hc => Or.inl (a1 c hc)) a2 k2 x2
      dsimp only
      refine ⟨fun t' b e => ?_, fun b e => ?_⟩
      · obtain ⟨m, g3, S', pa', hm, r3, q1, q2, q3, q4, q5⟩ := i1 t' b e
        have hb := loop_b x gT (show 124 ≤ 127 by omega) 100 b' u _ b gl.2 e
        exact ⟨n + m, g3, S', pa', by omega, r2.tr r3, q1, q2, q3, f2.trans q4, q5⟩
      · obtain ⟨m, g3, hm, r3, q3, q4⟩ := i2 b e
        have hb := loop_b x gT (show 124 ≤ 127 by omega) 100 b' u _ b gl.2 e
        exact ⟨n + m, g3, by omega, r2.fl r3, q3, f2.trans q4⟩
theorem RPq.w109 {f s a cc : Nat} {v : Int32} {X : Nat → Nat} {S : List Tq} {W : List Nat} {g : HP} (k : RPq f s X a S W g) : RPq f s X a S W (si g 109 cc v) ∧ FLq f cc g (si g 109 cc v) := by
  obtain ⟨k1, k2, k3, k4, k5, k6, k7, k8, k9, k10, k11, k12⟩ := k
  exact ⟨⟨by rw [si_r (by omega)]; exact k1, by rw [si_r (by omega)]; exact k2, fun i hi => by rw [si_r (by omega)]; exact k3 i hi, by rw [si_r (by omega)]; exact k4, fun i hi => by rw [si_r (by omega)]; exact k5 i hi, by rw [si_r (by omega)]; exact k6, fun i hi => by rw [si_r (by omega)]; exact k7 i hi, by rw [si_r (by omega)]; exact k8, k9, k10, fun i hi => by rw [si_r (by omega)]; exact k11 i hi, k12⟩, fun c h1 h2 => si_r (by omega), fun j _ => by rw [si_r (by omega)], fun j hj => by rw [si_w, up_n _ _ hj], fun j _ => by rw [si_r (by omega)], rfl⟩
/-- a ( that waits goes, with the places of the writes -/
theorem RPq.pop40 {f s a cc : Nat} {X : Nat → Nat} {S : List Tq} {W : List Nat} {g : HP} (k : RPq f s X a S (40 :: W) g) (ha : a + 1 ≤ s) : RPq f s X (a + 1) S W (si (si (si g 96 27 (nI W.length)) 96 28 (nI (opQ W))) 96 16 (nI (a + 1))) ∧ FLq f cc g (si (si (si g 96 27 (nI W.length)) 96 28 (nI (opQ W))) 96 16 (nI (a + 1))) := by
  obtain ⟨k1, k2, k3, k4, k5, k6, k7, k8, k9, k10, k11, k12⟩ := k
  have lw : (40 :: W).length = W.length + 1 := List.length_cons
  rw [lw] at k9
  refine ⟨⟨?_, by rw [si_w, up_s], fun i hi => by rw [si_r (by omega), si_r (by omega), si_r (by omega)]; exact k3 i hi, ?_, fun i hi => by rw [si_r (by omega), si_r (by omega), si_r (by omega)]; exact k5 i hi, ?_, fun i hi => ?_, ?_, by omega, ha, fun i hi => by rw [si_r (by omega), si_r (by omega), si_r (by omega)]; exact k11 i hi, fun c hc => k12 c (List.mem_cons_of_mem _ hc)⟩, ((FLq.pl (f := f) (cc := cc) (by omega)).trans (FLq.pl (by omega))).trans (FLq.pl (by omega))⟩
  · rw [si_w, up_n _ _ (by omega), si_w, up_n _ _ (by omega), si_w, up_n _ _ (by omega)]; exact k1
  · rw [si_w, up_n _ _ (by omega), si_w, up_n _ _ (by omega), si_w, up_n _ _ (by omega)]; exact k4
  · rw [si_w, up_n _ _ (by omega), si_w, up_n _ _ (by omega), si_w, up_s]
  · rw [si_r (by omega), si_r (by omega), si_r (by omega), k7 i (by rw [lw]; omega), gdc hi]
  · rw [si_w, up_n _ _ (by omega), si_w, up_s]
/-- E is at its end: the outermost; one in ( ) -/
theorem S7_close {f s cc a : Nat} {X : Nat → Nat} {S : List Tq} {P R : List Nat} {g : HP} (x : XOK s X) (hf : f < 6) (hcc : cc < 60) (k : RPq f s X a S (P ++ R) g) (hP : ∀ c, c ∈ P → c = 38 ∨ c = 124) (h1 : X a ≠ 38) (h2 : X a ≠ 124) : (R = [] → ∃ g', (∀ fuel, f_X7_takesE_L22 (fuel + 1) (nI cc) 0 g = some (1, g')) ∧ RPq f s X a (S ++ P.map tkO) [] g' ∧ FLq f cc g g' ∧ g'.1 109 cc = nI (100 * f + (S ++ P.map tkO).length)) ∧ ∀ W, R = 40 :: W → (X a = 41 → ∃ g', RCH cc 1 0 0 g g' ∧ RPq f s X (a + 1) (S ++ P.map tkO ++ List.replicate (bngQ W) (tkO 33)) (W.drop (bngQ W)) g' ∧ FLq f cc g g') ∧ (X a ≠ 41 → ∃ g', RFL cc 1 0 g g' ∧ g'.1 96 16 = nI a ∧ FLq f cc g g') := by
  have n38 : ¬ chI s X a = 38 := fun q => h1 ((chI_e (c := 38) x (by omega)).mp q)
  have n124 : ¬ chI s X a = 124 := fun q => h2 ((chI_e (c := 124) x (by omega)).mp q)
  have i60 := inb_n hcc (show (60 : Nat) < 2147483648 by omega)
  have xs := x.1
  have body : ∀ fuel g1, f_X7_settle 124 g = some g1 → f_X7_takesE_L22 (fuel + 1) (nI cc) 0 g = (if (si g1 109 cc (g1.1 96 26)).1 96 27 = 0 then some (1, si g1 109 cc (g1.1 96 26)) else if chI s X a = 41 then (lt (si (si g1 109 cc (g1.1 96 26)) 96 27 (((si g1 109 cc (g1.1 96 26)).1 96 27) - 1)) fun g29 => lt (si g29 96 28 ((g29.1 96 28) - 1)) fun g31 => lt (si g31 96 16 ((g31.1 96 16) + 1)) fun g33 => bo (f_X7_whole g33) fun g35 => f_X7_takesE_L22 fuel (nI cc) 0 g35) else some (0, si g1 109 cc (g1.1 96 26))) := fun fuel g1 e => by
    rw [L22_next x k, if_pos rfl, if_neg n38, if_neg n124, e, bo_s, gd_b i60, cl_n (by omega), lt_e]
  refine ⟨fun hR => ?_, fun W hR => ?_⟩
  · subst hR
    obtain ⟨g1, e1, k1, f1⟩ := E7_settle (cc := cc) (z := 124) x hf (Or.inr rfl) (fun c w e => by cases e) (fun c hc => by have := hP c hc; omega) k
    obtain ⟨k2, f2⟩ := k1.w109 (cc := cc) (v := g1.1 96 26)
    refine ⟨si g1 109 cc (g1.1 96 26), fun fuel => ?_, k2, f1.trans f2, ?_⟩
    · rw [body fuel g1 e1, k2.2.2.2.2.2.1, if_pos (show nI ([] : List Nat).length = 0 from rfl)]
    · rw [si_w, up_s]; exact k1.2.2.2.1
  · subst hR
    obtain ⟨g1, e1, k1, f1⟩ := E7_settle (cc := cc) (z := 124) x hf (Or.inr rfl) (fun c w e => by have := (List.cons.inj e).1; omega) (fun c hc => by have := hP c hc; omega) k
    obtain ⟨k2, f2⟩ := k1.w109 (cc := cc) (v := g1.1 96 26)
    have k9 := k2.2.2.2.2.2.2.2.2.1
    have k10 := k2.2.2.2.2.2.2.2.2.2.1
    have lw : (40 :: W).length = W.length + 1 := List.length_cons
    rw [lw] at k9
    have ow := opQ_le W
    have w27 : (si g1 109 cc (g1.1 96 26)).1 96 27 = nI (W.length + 1) := by rw [← lw]; exact k2.2.2.2.2.2.1
    have nz : ¬ nI (W.length + 1) = 0 := by rw [show (0 : Int32) = nI 0 from rfl, eq_n (by omega) (by omega)]; omega
    refine ⟨fun h41 => ?_, fun h41 => ?_⟩
    · have ha := x.lt (show X a ≤ 127 by omega)
      obtain ⟨k3, f3⟩ := k2.pop40 (cc := cc) (by omega)
      obtain ⟨g4, e4, k4, f4⟩ := E7_whole (cc := cc) x hf k3
      have w28 : (si g1 109 cc (g1.1 96 26)).1 96 28 = nI (opQ W + 1) := by
        have := k2.2.2.2.2.2.2.2.1
        rw [opQ, if_pos (Or.inr rfl)] at this
        exact this
      have o1 : nI (W.length + 1) - 1 = nI W.length := by rw [show (1 : Int32) = nI 1 from rfl, sub_n (by omega), Nat.add_sub_cancel]
      have o2 : nI (opQ W + 1) - 1 = nI (opQ W) := by rw [show (1 : Int32) = nI 1 from rfl, sub_n (by omega), Nat.add_sub_cancel]
      refine ⟨g4, fun fuel => ?_, k4, f1.trans (f2.trans (f3.trans f4))⟩
      rw [body fuel g1 e1, w27, if_neg nz, if_pos (show chI s X a = 41 from (chI_e (c := 41) x (by omega)).mpr h41), o1, lt_e, si_w, up_n _ _ (show (28 : Nat) ≠ 27 by omega), w28, o2, lt_e, si_w, up_n _ _ (show (16 : Nat) ≠ 28 by omega), si_w, up_n _ _ (show (16 : Nat) ≠ 27 by omega), k2.2.1, one_n, lt_e, e4, bo_s]
    · refine ⟨_, fun fuel => ?_, k2.2.1, f1.trans f2⟩
      rw [body fuel g1 e1, w27, if_neg nz, if_neg (show ¬ chI s X a = 41 from fun q => h41 ((chI_e (c := 41) x (by omega)).mp q))]
theorem S7_one {f s cc : Nat} {X : Nat → Nat} (x : XOK s X) (hf : f < 6) (hcc : cc < 60) : ∀ e, e ≤ 4 → SFq f s X cc e (oneQ X e) := by
  intro e
  induction e with
  | zero =>
    intro _ a S W g k ho
    by_cases z : X a = 33 ∨ X a = 40
    · have o := (S7_open (cc := cc) x k z rfl).2 (by omega)
      have tn : oneQ X 0 a = (none, a) := by
        rw [oneQ]; unfold testQ
        have : letQ (X a) = none := by rcases z with e | e <;> rw [e] <;> rfl
        rw [this]
      rw [tn]
      refine ⟨fun t' b e => (by cases e), fun b e => ?_⟩
      obtain ⟨-, e3⟩ := Prod.mk.inj e
      subst e3
      exact ⟨1, g, by omega, o, k.2.1, FLq.rf⟩
    · exact S7_test x hf k (by omega) (by omega)
  | succ e ih =>
    intro he a S W g k ho
    have hF := ih (by omega)
    have gF := oneQ_g x e
    have as := k.2.2.2.2.2.2.2.2.2.1
    rw [oneQ]
    by_cases z : X a = 33
    · rw [if_pos z]
      have ha := x.lt (show X a ≤ 127 by omega)
      obtain ⟨g1, r1, k1, f1⟩ := (S7_open (cc := cc) (z := 33) x k (Or.inl rfl) z).1 (by omega)
      obtain ⟨p1, p2⟩ := hF (a + 1) S (33 :: W) g1 k1 (by rw [opQ, if_pos (Or.inl rfl)]; omega)
      cases q : oneQ X e (a + 1) with
      | mk r b' =>
        cases r with
        | none =>
          have gl := gF.n (by omega) q
          obtain ⟨n, g2, hn, r2, k2, f2⟩ := p2 b' q
          refine ⟨fun t' b e => (by cases e), fun b e => ?_⟩
          obtain ⟨-, e3⟩ := Prod.mk.inj e
          subst e3
          exact ⟨1 + n, g2, by omega, r1.fl r2, k2, f1.trans f2⟩
        | some u =>
          have gl := gF.s (by omega) q
          obtain ⟨n, g2, hn, r2, k2, f2⟩ := p1 u b' q
          refine ⟨fun t' b e => ?_, fun b e => (by cases e)⟩
          obtain ⟨q1, q2⟩ := Prod.mk.inj e
          have q1 := Option.some.inj q1
          subst q1; subst q2
          refine ⟨1 + n, g2, by omega, r1.tr r2, ?_, f1.trans f2⟩
          have bq : bngQ (33 :: W) = bngQ W + 1 := by rw [bngQ, if_pos rfl]
          rw [bq] at k2
          have : S ++ (u ++ [(33, 0, 0)]) ++ List.replicate (bngQ W) (tkO 33) = S ++ u ++ List.replicate (bngQ W + 1) (tkO 33) := by
            rw [List.replicate_succ]
            simp only [List.append_assoc]
            rfl
          rw [this]
          exact k2
    · rw [if_neg z]
      by_cases z2 : X a = 40
      · rw [if_pos z2]
        have ha := x.lt (show X a ≤ 127 by omega)
        obtain ⟨g1, r1, k1, f1⟩ := (S7_open (cc := cc) (z := 40) x k (Or.inr rfl) z2).1 (by omega)
        have hE := S7_any x hf gF hF
        have gE := anyQ_g x gF
        obtain ⟨p1, p2⟩ := hE (a + 1) S (40 :: W) g1 k1 (by rw [opQ, if_pos (Or.inr rfl)]; omega) (fun c w e => by have := (List.cons.inj e).1; omega)
        cases q : anyQ X (oneQ X e) (a + 1) with
        | mk r b' =>
          cases r with
          | none =>
            have gl := gE.n (by omega) q
            obtain ⟨n, g2, hn, r2, k2, f2⟩ := p2 b' q
            refine ⟨fun t' b e => (by cases e), fun b e => ?_⟩
            obtain ⟨-, e3⟩ := Prod.mk.inj e
            subst e3
            exact ⟨1 + n, g2, by omega, r1.fl r2, k2, f1.trans f2⟩
          | some u =>
            have gl := gE.s (by omega) q
            obtain ⟨n, g2, S2, pa2, hn, r2, a1, a2, k2, f2, x2, x3⟩ := p1 u b' q
            obtain ⟨-, cl2⟩ := S7_close (cc := cc) x hf hcc k2 a1 x2 x3
            obtain ⟨c1, c2⟩ := cl2 W rfl
            dsimp only
            by_cases z3 : X b' = 41
            · rw [if_pos z3]
              have hb := x.lt (show X b' ≤ 127 by omega)
              obtain ⟨g3, r3, k3, f3⟩ := c1 z3
              refine ⟨fun t' b e => ?_, fun b e => (by cases e)⟩
              obtain ⟨q1, q2⟩ := Prod.mk.inj e
              have q1 := Option.some.inj q1
              subst q1; subst q2
              exact ⟨1 + n + 1, g3, by omega, (r1.tr r2).tr r3, by rw [a2] at k3; exact k3, f1.trans (f2.trans f3)⟩
            · rw [if_neg z3]
              obtain ⟨g3, r3, k3, f3⟩ := c2 z3
              refine ⟨fun t' b e => (by cases e), fun b e => ?_⟩
              obtain ⟨-, e3⟩ := Prod.mk.inj e
              subst e3
              exact ⟨1 + n + 1, g3, by omega, (r1.tr r2).fl r3, k3, f1.trans (f2.trans f3)⟩
      · rw [if_neg z2]
        exact S7_test x hf k z z2
