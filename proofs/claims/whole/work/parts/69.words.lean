/-! the reference reads: words, clauses -/
def RTq (f s : Nat) (X : Nat → Nat) (a : Nat) (S : List Tq) (g : HP) : Prop := g.1 96 15 = nI s ∧ g.1 96 16 = nI a ∧ (∀ i, i < s → g.1 104 i = nI (X i)) ∧ g.1 96 26 = nI (100 * f + S.length) ∧ (∀ i, i < S.length → g.1 110 (100 * f + i) = cdQ (S.getD i (0, 0, 0))) ∧ S.length ≤ a ∧ a ≤ s ∧ ∀ i, i < 16 → g.1 112 i = nI (wordL i)
def FKq (f cc : Nat) (g g' : HP) : Prop := (∀ c, c ≠ 96 → ¬ (106 ≤ c ∧ c ≤ 111) → g'.1 c = g.1 c) ∧ (∀ j, ¬ (j = 16 ∨ j = 17 ∨ j = 26 ∨ j = 27 ∨ j = 28) → g'.1 96 j = g.1 96 j) ∧ (∀ c, 106 ≤ c → c ≤ 109 → ∀ j, j ≠ cc → g'.1 c j = g.1 c j) ∧ (∀ j, ¬ (100 * f ≤ j ∧ j < 100 * f + 100) → g'.1 110 j = g.1 110 j) ∧ g'.2 = g.2
theorem FKq.rf {f cc : Nat} {g : HP} : FKq f cc g g := ⟨fun _ _ _ => rfl, fun _ _ => rfl, fun _ _ _ _ _ => rfl, fun _ _ => rfl, rfl⟩
theorem FKq.trans {f cc : Nat} {g g1 g2 : HP} (a : FKq f cc g g1) (b : FKq f cc g1 g2) : FKq f cc g g2 := ⟨fun c x y => (b.1 c x y).trans (a.1 c x y), fun j x => (b.2.1 j x).trans (a.2.1 j x), fun c p q j x => (b.2.2.1 c p q j x).trans (a.2.2.1 c p q j x), fun j x => (b.2.2.2.1 j x).trans (a.2.2.2.1 j x), b.2.2.2.2.trans a.2.2.2.2⟩
theorem FLq.k {f cc : Nat} {g g1 : HP} (a : FLq f cc g g1) : FKq f cc g g1 := ⟨fun c x y => a.1 c x (by omega), a.2.1, fun c p q j x => by
  by_cases z : c = 109
  · subst z; exact a.2.2.1 j x
  · rw [a.1 c (by omega) (by omega)], a.2.2.2.1, a.2.2.2.2⟩
theorem FKq.pl {f cc j : Nat} {v : Int32} {g : HP} (h : j = 16 ∨ j = 17 ∨ j = 26 ∨ j = 27 ∨ j = 28) : FKq f cc g (si g 96 j v) := (FLq.pl h).k
theorem FKq.w {f cc c : Nat} {v : Int32} {g : HP} (h : 106 ≤ c ∧ c ≤ 109) : FKq f cc g (si g c cc v) := ⟨fun c' h1 h2 => si_r (by omega), fun j' h2 => by rw [si_r (by omega)], fun c' p q j x => by
  by_cases z : c' = c
  · subst z; rw [si_w, up_n _ _ x]
  · rw [si_r z], fun j _ => by rw [si_r (by omega)], rfl⟩
theorem RPq.t {f s a : Nat} {X : Nat → Nat} {S : List Tq} {W : List Nat} {g : HP} (k : RPq f s X a S W g) : RTq f s X a S g := ⟨k.1, k.2.1, k.2.2.1, k.2.2.2.1, k.2.2.2.2.1, by have := k.2.2.2.2.2.2.2.2.1; omega, k.2.2.2.2.2.2.2.2.2.1, k.2.2.2.2.2.2.2.2.2.2.1⟩
def FNq (g g' : HP) : Prop := (∀ c, c ≠ 96 → g'.1 c = g.1 c) ∧ (∀ j, ¬ (j = 16 ∨ j = 17) → g'.1 96 j = g.1 96 j) ∧ g'.2 = g.2
theorem FNq.rf {g : HP} : FNq g g := ⟨fun _ _ => rfl, fun _ _ => rfl, rfl⟩
theorem FNq.trans {g g1 g2 : HP} (a : FNq g g1) (b : FNq g1 g2) : FNq g g2 := ⟨fun c x => (b.1 c x).trans (a.1 c x), fun j x => (b.2.1 j x).trans (a.2.1 j x), b.2.2.trans a.2.2⟩
theorem FNq.k {f cc : Nat} {g g1 : HP} (a : FNq g g1) : FKq f cc g g1 := ⟨fun c x _ => a.1 c x, fun j h => a.2.1 j (by omega), fun c p q j _ => by rw [a.1 c (by omega)], fun j _ => by rw [a.1 110 (by omega)], a.2.2⟩
theorem FNq.pl {j : Nat} {v : Int32} {g : HP} (h : j = 16 ∨ j = 17) : FNq g (si g 96 j v) := ⟨fun c h1 => si_r h1, fun j' h2 => by rw [si_w, up_n _ _ (by omega)], rfl⟩
theorem RTq.at {f s a b : Nat} {X : Nat → Nat} {S : List Tq} {g : HP} (k : RTq f s X a S g) (h1 : a ≤ b) (h2 : b ≤ s) : RTq f s X b S (si g 96 16 (nI b)) ∧ FNq g (si g 96 16 (nI b)) := by
  obtain ⟨k1, k2, k3, k4, k5, k9, k10, k11⟩ := k
  exact ⟨⟨by rw [si_w, up_n _ _ (by omega)]; exact k1, by rw [si_w, up_s], fun i hi => by rw [si_r (by omega)]; exact k3 i hi, by rw [si_w, up_n _ _ (by omega)]; exact k4, fun i hi => by rw [si_r (by omega)]; exact k5 i hi, by omega, h2, fun i hi => by rw [si_r (by omega)]; exact k11 i hi⟩, FNq.pl (by omega)⟩
theorem RTq.dg {f s a : Nat} {v : Int32} {X : Nat → Nat} {S : List Tq} {g : HP} (k : RTq f s X a S g) : RTq f s X a S (si g 96 17 v) ∧ FNq g (si g 96 17 v) := by
  obtain ⟨k1, k2, k3, k4, k5, k9, k10, k11⟩ := k
  exact ⟨⟨by rw [si_w, up_n _ _ (by omega)]; exact k1, by rw [si_w, up_n _ _ (by omega)]; exact k2, fun i hi => by rw [si_r (by omega)]; exact k3 i hi, by rw [si_w, up_n _ _ (by omega)]; exact k4, fun i hi => by rw [si_r (by omega)]; exact k5 i hi, k9, k10, fun i hi => by rw [si_r (by omega)]; exact k11 i hi⟩, FNq.pl (by omega)⟩
theorem RTq.wr {f s a cc c : Nat} {v : Int32} {X : Nat → Nat} {S : List Tq} {g : HP} (k : RTq f s X a S g) (h : 106 ≤ c ∧ c ≤ 109) : RTq f s X a S (si g c cc v) ∧ FKq f cc g (si g c cc v) := by
  obtain ⟨k1, k2, k3, k4, k5, k9, k10, k11⟩ := k
  exact ⟨⟨by rw [si_r (by omega)]; exact k1, by rw [si_r (by omega)]; exact k2, fun i hi => by rw [si_r (by omega)]; exact k3 i hi, by rw [si_r (by omega)]; exact k4, fun i hi => by rw [si_r (by omega)]; exact k5 i hi, k9, k10, fun i hi => by rw [si_r (by omega)]; exact k11 i hi⟩, FKq.w h⟩
theorem T7_next {f s a : Nat} {X : Nat → Nat} {S : List Tq} {g : HP} (x : XOK s X) (k : RTq f s X a S g) : f_X7_next g = some (chI s X a) := by
  have x1 := x.1
  have k10 := k.2.2.2.2.2.2.1
  unfold f_X7_next chI
  rw [k.1, k.2.1]
  by_cases z : s ≤ a
  · rw [if_pos ((le_n (by omega) (by omega)).mpr z), if_pos z]
  · rw [if_neg (fun q => z ((le_n (by omega) (by omega)).mp q)), if_neg z, gd_b (inb_n (by omega) (by omega)), cl_n (by omega), k.2.2.1 a (by omega)]
theorem T7_takes {f s a c : Nat} {X : Nat → Nat} {S : List Tq} {g : HP} (x : XOK s X) (k : RTq f s X a S g) (hc : c ≤ 127) : f_X7_takes (nI c) g = if X a = c then some (1, si g 96 16 (nI (a + 1))) else some (0, g) := by
  unfold f_X7_takes
  rw [T7_next x k, bo_s]
  by_cases z : X a = c
  · rw [if_pos ((chI_e x hc).mpr z), if_pos z, k.2.1, one_n, lt_e]
  · rw [if_neg (fun q => z ((chI_e x hc).mp q)), if_neg z]
theorem T7_isDigit {f s a : Nat} {X : Nat → Nat} {S : List Tq} {g : HP} (x : XOK s X) (k : RTq f s X a S g) : f_X7_isDigit g = some (if digQ (X a) then 1 else 0) := by
  unfold f_X7_isDigit
  rw [T7_next x k, bo_s, E_in, bo_s, rng_d x]
  by_cases z : digQ (X a)
  · rw [if_pos z]; rfl
  · rw [if_neg z]; rfl
theorem T7_num {f s a : Nat} {X : Nat → Nat} {S : List Tq} {g : HP} (x : XOK s X) (k : RTq f s X a S g) : (∀ n b, numQ X a = (some n, b) → ∃ g', f_X7_takesNumber g = some (1, g') ∧ RTq f s X b S g' ∧ g'.1 96 17 = nI n ∧ FNq g g') ∧ (numQ X a = (none, a) → f_X7_takesNumber g = some (0, g)) := by
  have xs := x.1
  obtain ⟨fu, hfu⟩ : ∃ fu, FZ = fu + 3 := ⟨FZ - 3, by have := FZ_ge; omega⟩
  have stop : ∀ (g : HP) (a : Nat) (fu : Nat) (i : Nat), i < 2 → RTq f s X a S g → ¬ digQ (X a) → f_X7_takesNumber_L16 (fu + 1) (nI i) g = some (1, g) := fun g a fu i hi kk z => by
    rw [f_X7_takesNumber_L16, if_neg (by rw [show (2 : Int32) = nI 2 from rfl, le_n (by omega) (by omega)]; omega), T7_isDigit x kk, if_neg z, bo_s, if_pos rfl]
  have go : ∀ (g : HP) (a : Nat) (fu : Nat) (m : Nat) (i : Nat), i < 2 → m ≤ 9 → g.1 96 17 = nI m → RTq f s X a S g → digQ (X a) → f_X7_takesNumber_L16 (fu + 1) (nI i) g = f_X7_takesNumber_L16 fu (nI (i + 1)) (si (si g 96 17 (nI (10 * m + (X a - 48)))) 96 16 (nI (a + 1))) := fun g a fu m i hi hm hv kk z => by
    obtain ⟨d1, d2⟩ := chI_d x z
    have z1 := z.1
    have z2 := z.2
    have e16 : (si g 96 17 (nI (10 * m + (X a - 48)))).1 96 16 = nI a := by rw [si_w, up_n _ _ (by omega)]; exact kk.2.1
    rw [f_X7_takesNumber_L16, if_neg (by rw [show (2 : Int32) = nI 2 from rfl, le_n (by omega) (by omega)]; omega), T7_isDigit x kk, if_pos z, bo_s, if_neg one_ne, T7_next x kk, bo_s, d1, hv, show (10 : Int32) = nI 10 from rfl, mul_n, add_n, show (48 : Int32) = nI 48 from rfl, sub_n (by omega), show 10 * m + X a - 48 = 10 * m + (X a - 48) by omega, lt_e, e16, one_n, lt_e, one_n, lt_e]
  refine ⟨fun n b e => ?_, fun e => ?_⟩
  · unfold numQ at e
    by_cases z : digQ (X a)
    · rw [if_pos z] at e
      obtain ⟨k1, f1⟩ := k.dg (v := 0)
      have d := (chI_d x z).2
      have zz := z
      have z1 := z.1
      have z2 := z.2
      have g1 := go (si g 96 17 0) a (fu + 2) 0 0 (by omega) (by omega) (by rw [si_w, up_s]; rfl) k1 z
      obtain ⟨k2, f2⟩ := k1.dg (v := nI (10 * 0 + (X a - 48)))
      obtain ⟨k3, f3⟩ := k2.at (show a ≤ a + 1 by omega) (by omega)
      have st : f_X7_takesNumber g = f_X7_takesNumber_L16 FZ 0 (si g 96 17 0) := by
        unfold f_X7_takesNumber; rw [T7_isDigit x k, if_pos z, bo_s, if_neg one_ne, lt_e]
      have e17 : (si (si (si g 96 17 0) 96 17 (nI (10 * 0 + (X a - 48)))) 96 16 (nI (a + 1))).1 96 17 = nI (X a - 48) := by rw [si_w, up_n _ _ (by omega), si_w, up_s]; congr 1; omega
      by_cases y : digQ (X (a + 1))
      · rw [if_pos y] at e
        obtain ⟨e1, e2⟩ := Prod.mk.inj e
        have e1 := Option.some.inj e1
        subst e1; subst e2
        have d2 := (chI_d x y).2
        have g2 := go _ (a + 1) (fu + 1) (X a - 48) 1 (by omega) (by omega) e17 k3 y
        obtain ⟨k4, f4⟩ := k3.dg (v := nI (10 * (X a - 48) + (X (a + 1) - 48)))
        obtain ⟨k5, f5⟩ := k4.at (show a + 1 ≤ a + 1 + 1 by omega) (by omega)
        refine ⟨_, ?_, k5, by rw [si_w, up_n _ _ (by omega), si_w, up_s], f1.trans (f2.trans (f3.trans (f4.trans f5)))⟩
        rw [st, hfu]
        refine Eq.trans g1 (Eq.trans g2 ?_)
        rw [f_X7_takesNumber_L16, if_pos (by decide)]
      · rw [if_neg y] at e
        obtain ⟨e1, e2⟩ := Prod.mk.inj e
        have e1 := Option.some.inj e1
        subst e1; subst e2
        refine ⟨_, ?_, k3, e17, f1.trans (f2.trans f3)⟩
        rw [st, hfu]
        exact Eq.trans g1 (stop _ (a + 1) (fu + 1) 1 (by omega) k3 y)
    · rw [if_neg z] at e; cases e
  · have z : ¬ digQ (X a) := fun z => by
      unfold numQ at e
      rw [if_pos z] at e
      split at e <;> cases e
    unfold f_X7_takesNumber
    rw [T7_isDigit x k, if_neg z, bo_s, if_pos rfl]
/-- how a word of the reference is taken -/
theorem T7_takesWord_L2 {f s a w : Nat} {X : Nat → Nat} {S : List Tq} (x : XOK s X) (hw : w < 4) : ∀ (fl j : Nat) (g : HP) (fuel : Nat), j + fl = 4 → fl < fuel → RTq f s X (a + j) S g → (preQ X a w fl j = 4 → X (a + 4) = 32 → ∃ g', f_X7_takesWord_L2 fuel (nI (4 * w)) 4 (nI j) g = some (1, g') ∧ RTq f s X (a + 5) S g' ∧ FNq g g') ∧ (preQ X a w fl j = 4 → X (a + 4) ≠ 32 → ∃ g', f_X7_takesWord_L2 fuel (nI (4 * w)) 4 (nI j) g = some (0, g') ∧ g'.1 96 16 = nI (a + 4) ∧ FNq g g') ∧ (preQ X a w fl j ≠ 4 → ∃ g', f_X7_takesWord_L2 fuel (nI (4 * w)) 4 (nI j) g = some (0, g') ∧ g'.1 96 16 = nI (a + preQ X a w fl j) ∧ FNq g g') := by
  intro fl
  induction fl with
  | zero =>
    intro j g fuel hj hf k
    obtain ⟨fu, rfl⟩ : ∃ fu, fuel = fu + 1 := ⟨fuel - 1, by omega⟩
    have j4 : j = 4 := by omega
    subst j4
    have t32 := T7_takes (c := 32) x k (by omega)
    have t32' : f_X7_takes 32 g = _ := t32
    have st : f_X7_takesWord_L2 (fu + 1) (nI (4 * w)) 4 (nI 4) g = (bd (f_X7_takes 32 g) fun v4 g2 => gd (zok v4) (some (v4, g2))) := by
      rw [f_X7_takesWord_L2, if_pos (by decide)]
    rw [st, t32']
    refine ⟨fun _ h => ?_, fun _ h => ?_, fun h => absurd rfl h⟩
    · have h1 := x.lt (show X (a + 4) ≤ 127 by omega)
      obtain ⟨k1, f1⟩ := k.at (show a + 4 ≤ a + 4 + 1 by omega) (by omega)
      rw [if_pos h, bd_s]
      exact ⟨_, rfl, k1, f1⟩
    · rw [if_neg h, bd_s]
      exact ⟨g, rfl, k.2.1, FNq.rf⟩
  | succ fl ih =>
    intro j g fuel hj hf k
    obtain ⟨fu, rfl⟩ : ∃ fu, fuel = fu + 1 := ⟨fuel - 1, by omega⟩
    have tk := T7_takes (c := wordL (4 * w + j)) x k (wordL_le _)
    have ix : nI (4 * w) + nI j = nI (4 * w + j) := add_n _ _
    have st : f_X7_takesWord_L2 (fu + 1) (nI (4 * w)) 4 (nI j) g = (bd (f_X7_takes (nI (wordL (4 * w + j))) g) fun v9 g7 => if v9 = 0 then (some (0, g7)) else (lt (nI j + 1 : Int32) fun v11 => f_X7_takesWord_L2 fu (nI (4 * w)) 4 v11 g7)) := by
      rw [f_X7_takesWord_L2, if_neg (by rw [show (4 : Int32) = nI 4 from rfl, le_n (by omega) (by omega)]; omega), ix, gd_b (inb_n (by omega) (by omega)), cl_n (by omega), k.2.2.2.2.2.2.2 _ (by omega)]
    rw [preQ]
    by_cases z : X (a + j) = wordL (4 * w + j)
    · have h1 := x.lt (show X (a + j) ≤ 127 by rw [z]; exact wordL_le _)
      obtain ⟨k1, f1⟩ := k.at (show a + j ≤ a + j + 1 by omega) (by omega)
      obtain ⟨i1, i2, i3⟩ := ih (j + 1) _ fu (by omega) (by omega) k1
      have st2 : f_X7_takesWord_L2 (fu + 1) (nI (4 * w)) 4 (nI j) g = f_X7_takesWord_L2 fu (nI (4 * w)) 4 (nI (j + 1)) (si g 96 16 (nI (a + j + 1))) := by
        rw [st, tk, if_pos z, bd_s, if_neg one_ne, one_n, lt_e]
      rw [if_pos z, st2]
      refine ⟨fun p q => ?_, fun p q => ?_, fun p => ?_⟩
      · obtain ⟨g', e, k2, f2⟩ := i1 p q
        exact ⟨g', e, k2, f1.trans f2⟩
      · obtain ⟨g', e, k2, f2⟩ := i2 p q
        exact ⟨g', e, k2, f1.trans f2⟩
      · obtain ⟨g', e, k2, f2⟩ := i3 p
        exact ⟨g', e, k2, f1.trans f2⟩
    · rw [if_neg z, st, tk, if_neg z, bd_s, if_pos rfl]
      refine ⟨fun p => by omega, fun p => by omega, fun p => ⟨g, rfl, k.2.1, FNq.rf⟩⟩
/-- the head of a clause: its word and the space -/
theorem T7_head {f s a cc : Nat} {X : Nat → Nat} {S : List Tq} {g : HP} (x : XOK s X) (hcc : cc < 60) (k : RTq f s X a S g) : (∀ w b, wordQ X a = (some w, b) → X b = 32 → ∃ g', f_X7_takesHead (nI cc) g = some (1, g') ∧ RTq f s X (b + 1) S g' ∧ g'.1 106 cc = nI w ∧ FKq f cc g g') ∧ (∀ w b, wordQ X a = (some w, b) → X b ≠ 32 → ∃ g', f_X7_takesHead (nI cc) g = some (0, g') ∧ g'.1 96 16 = nI b ∧ FKq f cc g g') ∧ ∀ b, wordQ X a = (none, b) → ∃ g', f_X7_takesHead (nI cc) g = some (0, g') ∧ g'.1 96 16 = nI b ∧ FKq f cc g g' := by
  have i60 := inb_n hcc (show (60 : Nat) < 2147483648 by omega)
  have cn : (nI cc).toNatClampNeg = cc := cl_n (by omega)
  have sl := (sel_max X a).1
  have kk := k
  have xs := x.1
  have k10 := k.2.2.2.2.2.2.1
  -- which word is tried
  have key : ∃ w, w = selQ X a ∧ f_X7_takesHead (nI cc) g = (bd (f_X7_takesWord (nI (4 * w)) 4 (si g 106 cc (nI w))) fun v9 g7 => gd (zok v9) (some (v9, g7))) := by
    refine ⟨selQ X a, rfl, ?_⟩
    unfold f_X7_takesHead
    rw [T7_next x k, bo_s]
    unfold selQ
    by_cases h1 : X a = 102
    · rw [if_pos (show chI s X a = 102 from (chI_e (c := 102) x (by omega)).mpr h1), if_pos h1, gd_b i60, cn, lt_e]; rfl
    · rw [if_neg (show ¬ chI s X a = 102 from fun q => h1 ((chI_e (c := 102) x (by omega)).mp q)), if_neg h1]
      by_cases h2 : X a = 108
      · rw [if_pos (show chI s X a = 108 from (chI_e (c := 108) x (by omega)).mpr h2), if_pos h2, gd_b i60, cn, lt_e]; rfl
      · rw [if_neg (show ¬ chI s X a = 108 from fun q => h2 ((chI_e (c := 108) x (by omega)).mp q)), if_neg h2]
        have sc : f_X7_second g = some (chI s X (a + 1)) := by
          unfold f_X7_second chI
          rw [k.1, k.2.1, one_n]
          by_cases z : s ≤ a + 1
          · rw [if_pos ((le_n (by omega) (by omega)).mpr z), if_pos z]
          · rw [if_neg (fun q => z ((le_n (by omega) (by omega)).mp q)), if_neg z, gd_b (inb_n (by omega) (by omega)), cl_n (by omega), k.2.2.1 _ (by omega)]
        rw [sc, bo_s]
        unfold f_X7_takesHead_J80
        by_cases h3 : X (a + 1) = 105
        · rw [if_pos (show chI s X (a + 1) = 105 from (chI_e (c := 105) x (by omega)).mpr h3), if_pos h3, gd_b i60, cn, lt_e, gd_b i60, si_w, up_s, if_pos rfl]; rfl
        · rw [if_neg (show ¬ chI s X (a + 1) = 105 from fun q => h3 ((chI_e (c := 105) x (by omega)).mp q)), if_neg h3, gd_b i60, cn, lt_e, gd_b i60, si_w, up_s, if_neg (by decide)]; rfl
  obtain ⟨w, hw, ek⟩ := key
  obtain ⟨k1, f1⟩ := k.wr (cc := cc) (c := 106) (v := nI w) ⟨by omega, by omega⟩
  obtain ⟨i1, i2, i3⟩ := T7_takesWord_L2 (w := w) x (by omega) 4 0 _ FZ (by omega) (by have := FZ_ge; omega) k1
  unfold wordQ
  rw [← hw]
  by_cases z : preQ X a w 4 0 = 4
  · rw [if_pos z]
    refine ⟨fun w' b e h => ?_, fun w' b e h => ?_, fun b e => (by cases e)⟩
    · obtain ⟨e1, e2⟩ := Prod.mk.inj e
      have e1 := Option.some.inj e1
      subst e1; subst e2
      have cell : ∃ g', f_X7_takesWord (nI (4 * w)) 4 (si g 106 cc (nI w)) = some (1, g') ∧ RTq f s X (a + 5) S g' ∧ FNq (si g 106 cc (nI w)) g' := i1 z h
      obtain ⟨g', e, k2, f2⟩ := cell
      exact ⟨g', by rw [ek, e, bd_s]; rfl, k2, by rw [f2.1 106 (by omega), si_w, up_s], f1.trans f2.k⟩
    · obtain ⟨e1, e2⟩ := Prod.mk.inj e
      have e1 := Option.some.inj e1
      subst e1; subst e2
      obtain ⟨g', e, k2, f2⟩ := i2 z h
      have e' : f_X7_takesWord (nI (4 * w)) 4 (si g 106 cc (nI w)) = some (0, g') := e
      exact ⟨g', by rw [ek, e', bd_s]; rfl, k2, f1.trans f2.k⟩
  · rw [if_neg z]
    refine ⟨fun w' b e h => (by cases e), fun w' b e h => (by cases e), fun b e => ?_⟩
    obtain ⟨-, e2⟩ := Prod.mk.inj e
    subst e2
    obtain ⟨g', e, k2, f2⟩ := i3 z
    have e' : f_X7_takesWord (nI (4 * w)) 4 (si g 106 cc (nI w)) = some (0, g') := e
    exact ⟨g', by rw [ek, e', bd_s]; rfl, k2, f1.trans f2.k⟩
