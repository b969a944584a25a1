/-! the reference reads: its state -/
def cdQ (t : Tq) : Int32 := if t.1 = 33 ∨ t.1 = 38 ∨ t.1 = 124 then -(nI t.1) else 1000 * nI t.2.1 + 100 * (nI t.1 - 60) + t.2.2
def tkO (c : Nat) : Tq := (c, 0, 0)
def opQ : List Nat → Nat
  | [] => 0
  | c :: w => if c = 33 ∨ c = 40 then opQ w + 1 else opQ w
def RPq (f s : Nat) (X : Nat → Nat) (a : Nat) (S : List Tq) (W : List Nat) (g : HP) : Prop := g.1 96 15 = nI s ∧ g.1 96 16 = nI a ∧ (∀ i, i < s → g.1 104 i = nI (X i)) ∧ g.1 96 26 = nI (100 * f + S.length) ∧ (∀ i, i < S.length → g.1 110 (100 * f + i) = cdQ (S.getD i (0, 0, 0))) ∧ g.1 96 27 = nI W.length ∧ (∀ i, i < W.length → g.1 111 i = nI (W.getD (W.length - 1 - i) 0)) ∧ g.1 96 28 = nI (opQ W) ∧ S.length + W.length ≤ a ∧ a ≤ s ∧ (∀ i, i < 16 → g.1 112 i = nI (wordL i)) ∧ ∀ c, c ∈ W → c ≤ 127
def FLq (f cc : Nat) (g g' : HP) : Prop := (∀ c, c ≠ 96 → ¬ (109 ≤ c ∧ c ≤ 111) → g'.1 c = g.1 c) ∧ (∀ j, ¬ (j = 16 ∨ j = 17 ∨ j = 26 ∨ j = 27 ∨ j = 28) → g'.1 96 j = g.1 96 j) ∧ (∀ j, j ≠ cc → g'.1 109 j = g.1 109 j) ∧ (∀ j, ¬ (100 * f ≤ j ∧ j < 100 * f + 100) → g'.1 110 j = g.1 110 j) ∧ g'.2 = g.2
theorem FLq.rf {f cc : Nat} {g : HP} : FLq f cc g g := ⟨fun _ _ _ => rfl, fun _ _ => rfl, fun _ _ => rfl, fun _ _ => rfl, rfl⟩
theorem FLq.trans {f cc : Nat} {g g1 g2 : HP} (a : FLq f cc g g1) (b : FLq f cc g1 g2) : FLq f cc g g2 := ⟨fun c x y => (b.1 c x y).trans (a.1 c x y), fun j x => (b.2.1 j x).trans (a.2.1 j x), fun j x => (b.2.2.1 j x).trans (a.2.2.1 j x), fun j x => (b.2.2.2.1 j x).trans (a.2.2.2.1 j x), b.2.2.2.2.trans a.2.2.2.2⟩
theorem FLq.pl {f cc j : Nat} {v : Int32} {g : HP} (h : j = 16 ∨ j = 17 ∨ j = 26 ∨ j = 27 ∨ j = 28) : FLq f cc g (si g 96 j v) := ⟨fun c h1 _ => si_r h1, fun j' h2 => by rw [si_w, up_n _ _ (by omega)], fun j _ => by rw [si_r (by omega)], fun j _ => by rw [si_r (by omega)], rfl⟩
theorem FLq.w111 {f cc j : Nat} {v : Int32} {g : HP} : FLq f cc g (si g 111 j v) := ⟨fun c h1 h2 => si_r (by omega), fun j' h2 => by rw [si_r (by omega)], fun j _ => by rw [si_r (by omega)], fun j _ => by rw [si_r (by omega)], rfl⟩
def chI (s : Nat) (X : Nat → Nat) (a : Nat) : Int32 := if s ≤ a then -1 else nI (X a)
theorem chI_e {s : Nat} {X : Nat → Nat} (x : XOK s X) {a c : Nat} (hc : c ≤ 127) : (chI s X a = nI c) ↔ X a = c := by
  unfold chI
  by_cases z : s ≤ a
  · rw [if_pos z]
    constructor
    · intro e
      have := congrArg Int32.toInt e
      rw [nI_toInt (by omega)] at this
      have e2 : (-1 : Int32).toInt = -1 := by decide
      omega
    · intro e; exact absurd e (X_ne x z hc)
  · rw [if_neg z]
    have := x.2.1 a (by omega)
    exact eq_n (by omega) (by omega)
theorem E7_next {f s a : Nat} {X : Nat → Nat} {S : List Tq} {W : List Nat} {g : HP} (x : XOK s X) (k : RPq f s X a S W g) : f_X7_next g = some (chI s X a) := by
  have x1 := x.1
  have k10 := k.2.2.2.2.2.2.2.2.2.1
  unfold f_X7_next chI
  rw [k.1, k.2.1]
  by_cases z : s ≤ a
  · rw [if_pos ((le_n (by omega) (by omega)).mpr z), if_pos z]
  · rw [if_neg (fun q => z ((le_n (by omega) (by omega)).mp q)), if_neg z, gd_b (inb_n (by omega) (by omega)), cl_n (by omega), k.2.2.1 a (by omega)]
theorem RPq.at {f s a b cc : Nat} {X : Nat → Nat} {S : List Tq} {W : List Nat} {g : HP} (k : RPq f s X a S W g) (h1 : a ≤ b) (h2 : b ≤ s) : RPq f s X b S W (si g 96 16 (nI b)) ∧ FLq f cc g (si g 96 16 (nI b)) := by
  obtain ⟨k1, k2, k3, k4, k5, k6, k7, k8, k9, k10, k11, k12⟩ := k
  exact ⟨⟨by rw [si_w, up_n _ _ (by omega)]; exact k1, by rw [si_w, up_s], fun i hi => by rw [si_r (by omega)]; exact k3 i hi, by rw [si_w, up_n _ _ (by omega)]; exact k4, fun i hi => by rw [si_r (by omega)]; exact k5 i hi, by rw [si_w, up_n _ _ (by omega)]; exact k6, fun i hi => by rw [si_r (by omega)]; exact k7 i hi, by rw [si_w, up_n _ _ (by omega)]; exact k8, by omega, h2, fun i hi => by rw [si_r (by omega)]; exact k11 i hi, k12⟩, FLq.pl (by omega)⟩
theorem RPq.dg {f s a cc : Nat} {v : Int32} {X : Nat → Nat} {S : List Tq} {W : List Nat} {g : HP} (k : RPq f s X a S W g) : RPq f s X a S W (si g 96 17 v) ∧ FLq f cc g (si g 96 17 v) := by
  obtain ⟨k1, k2, k3, k4, k5, k6, k7, k8, k9, k10, k11, k12⟩ := k
  exact ⟨⟨by rw [si_w, up_n _ _ (by omega)]; exact k1, by rw [si_w, up_n _ _ (by omega)]; exact k2, fun i hi => by rw [si_r (by omega)]; exact k3 i hi, by rw [si_w, up_n _ _ (by omega)]; exact k4, fun i hi => by rw [si_r (by omega)]; exact k5 i hi, by rw [si_w, up_n _ _ (by omega)]; exact k6, fun i hi => by rw [si_r (by omega)]; exact k7 i hi, by rw [si_w, up_n _ _ (by omega)]; exact k8, k9, k10, fun i hi => by rw [si_r (by omega)]; exact k11 i hi, k12⟩, FLq.pl (by omega)⟩
theorem E7_takes {f s a c cc : Nat} {X : Nat → Nat} {S : List Tq} {W : List Nat} {g : HP} (x : XOK s X) (k : RPq f s X a S W g) (hc : c ≤ 127) : f_X7_takes (nI c) g = if X a = c then some (1, si g 96 16 (nI (a + 1))) else some (0, g) := by
  unfold f_X7_takes
  rw [E7_next x k, bo_s]
  by_cases z : X a = c
  · rw [if_pos ((chI_e x hc).mpr z), if_pos z, k.2.1, one_n, lt_e]
  · rw [if_neg (fun q => z ((chI_e x hc).mp q)), if_neg z]
theorem E7_emits {f s a b cc : Nat} {X : Nat → Nat} {S : List Tq} {W : List Nat} {g : HP} (x : XOK s X) (hf : f < 6) (k : RPq f s X a S W g) (t : Tq) (hs : S.length + 1 + W.length ≤ b) (h1 : S.length < 100) : ∃ g', f_X7_emits (cdQ t) g = some g' ∧ FLq f cc g g' ∧ (∀ (v : Int32) (hb : b ≤ s) (hv : v = nI b), RPq f s X b (S ++ [t]) W (si g' 96 16 v)) ∧ (a = b → RPq f s X b (S ++ [t]) W g') ∧ g'.1 111 = g.1 111 ∧ (∀ j, j ≠ 26 → g'.1 96 j = g.1 96 j) := by
  obtain ⟨k1, k2, k3, k4, k5, k6, k7, k8, k9, k10, k11, k12⟩ := k
  have len : (S ++ [t]).length = S.length + 1 := List.length_append
  have base : ∀ i, i < (S ++ [t]).length → (si (si g 110 (100 * f + S.length) (cdQ t)) 96 26 (nI (100 * f + S.length + 1))).1 110 (100 * f + i) = cdQ ((S ++ [t]).getD i (0, 0, 0)) := fun i hi => by
    rw [len] at hi
    rw [si_r (by omega), si_w, getD_apT]
    by_cases e : i = S.length
    · subst e; rw [up_s, if_neg (by omega), if_pos rfl]
    · rw [up_n _ _ (by omega), if_pos (by omega)]; exact k5 i (by omega)
  refine ⟨si (si g 110 (100 * f + S.length) (cdQ t)) 96 26 (nI (100 * f + S.length + 1)), ?_, ⟨fun c h1 h2 => ?_, fun j hj => ?_, fun j _ => ?_, fun j hj => ?_, rfl⟩, fun v hb hv => ?_, fun e => ?_, ?_, fun j hj => ?_⟩
  · unfold f_X7_emits
    rw [k4, gd_b (inb_n (by omega) (by omega)), cl_n (by omega), lt_e, si_r (show (96 : Nat) ≠ 110 by omega), k4, one_n, lt_e]
  · rw [si_r h1, si_r (by omega)]
  · rw [si_w, up_n _ _ (by omega), si_r (by omega)]
  · rw [si_r (by omega), si_r (by omega)]
  · rw [si_r (by omega), si_w, up_n _ _ (by omega)]
  · subst hv
    refine ⟨?_, by rw [si_w, up_s], fun i hi => ?_, ?_, fun i hi => by rw [si_r (by omega)]; exact base i hi, ?_, fun i hi => ?_, ?_, by rw [len]; exact hs, hb, fun i hi => ?_, k12⟩
    · rw [si_w, up_n _ _ (by omega), si_w, up_n _ _ (by omega), si_r (by omega)]; exact k1
    · rw [si_r (by omega), si_r (by omega), si_r (by omega)]; exact k3 i hi
    · rw [si_w, up_n _ _ (by omega), si_w, up_s, len]; rfl
    · rw [si_w, up_n _ _ (by omega), si_w, up_n _ _ (by omega), si_r (by omega)]; exact k6
    · rw [si_r (by omega), si_r (by omega), si_r (by omega)]; exact k7 i hi
    · rw [si_w, up_n _ _ (by omega), si_w, up_n _ _ (by omega), si_r (by omega)]; exact k8
    · rw [si_r (by omega), si_r (by omega), si_r (by omega)]; exact k11 i hi
  · subst e
    refine ⟨?_, ?_, fun i hi => ?_, ?_, base, ?_, fun i hi => ?_, ?_, by rw [len]; exact hs, k10, fun i hi => ?_, k12⟩
    · rw [si_w, up_n _ _ (by omega), si_r (by omega)]; exact k1
    · rw [si_w, up_n _ _ (by omega), si_r (by omega)]; exact k2
    · rw [si_r (by omega), si_r (by omega)]; exact k3 i hi
    · rw [si_w, up_s, len]; rfl
    · rw [si_w, up_n _ _ (by omega), si_r (by omega)]; exact k6
    · rw [si_r (by omega), si_r (by omega)]; exact k7 i hi
    · rw [si_w, up_n _ _ (by omega), si_r (by omega)]; exact k8
    · rw [si_r (by omega), si_r (by omega)]; exact k11 i hi
  · rw [si_r (by omega), si_r (by omega)]
  · rw [si_w, up_n _ _ hj, si_r (by omega)]
