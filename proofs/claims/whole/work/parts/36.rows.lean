/-! all rows: folds over numbers, digits to the base 7 -/
def fo {α : Type} (st : Nat → α → α) : Nat → Nat → α → α
  | 0, _, s => s
  | c + 1, i, s => fo st c (i + 1) (st i s)
theorem fo_add {α : Type} {st : Nat → α → α} : ∀ (c d i : Nat) (s : α), fo st (c + d) i s = fo st d (i + c) (fo st c i s) := by
  intro c
  induction c with
  | zero => intro d i s; rw [Nat.zero_add]; rfl
  | succ c ih =>
    intro d i s
    rw [show c + 1 + d = (c + d) + 1 by omega]
    show fo st (c + d) (i + 1) (st i s) = fo st d (i + (c + 1)) (fo st c (i + 1) (st i s))
    rw [ih d (i + 1) (st i s), show i + 1 + c = i + (c + 1) by omega]
theorem fo_id {α : Type} {st : Nat → α → α} : ∀ (c i : Nat) (s : α), (∀ j, i ≤ j → j < i + c → ∀ s, st j s = s) → fo st c i s = s := by
  intro c
  induction c with
  | zero => intro i s _; rfl
  | succ c ih =>
    intro i s h
    show fo st c (i + 1) (st i s) = s
    rw [h i (Nat.le_refl _) (by omega)]
    exact ih (i + 1) s (fun j a b => h j (by omega) (by omega))
theorem fo_str {α : Type} {st st2 : Nat → α → α} {w w2 i i2 : Nat} : ∀ (c : Nat) (s : α), (∀ j, j < c → ∀ s, fo st w (i + w * j) s = fo st2 w2 (i2 + w2 * j) s) → fo st (w * c) i s = fo st2 (w2 * c) i2 s := by
  intro c
  induction c with
  | zero => intro s _; rfl
  | succ c ih =>
    intro s h
    rw [Nat.mul_succ, Nat.mul_succ, fo_add, fo_add, ih s (fun j a => h j (by omega))]
    exact h c (by omega) _
def rA (i : Nat) : Nat := i / 49
def rM (i : Nat) : Nat := i / 7 % 7
def rT (i : Nat) : Nat := i % 7
def rK (i : Nat) : Nat := if rM i = 0 then 1 else if rT i = 0 then 2 else 3
theorem dig {a m t : Nat} (hm : m < 7) (ht : t < 7) : rA (49 * a + 7 * m + t) = a ∧ rM (49 * a + 7 * m + t) = m ∧ rT (49 * a + 7 * m + t) = t := by
  unfold rA rM rT; omega
/-- a row that is one, of n pieces -/
def vd (n i : Nat) : Prop := rA i < n ∧ (rM i = 0 → rT i = 0) ∧ rM i ≠ rA i + 1 ∧ rT i ≠ rA i + 1 ∧ (rM i = 0 ∨ rM i ≠ rT i) ∧ rM i ≤ n ∧ rT i ≤ n
theorem vd_dec (n i : Nat) : vd n i ∨ ¬ vd n i := Classical.em _
theorem rK_le (i : Nat) : 1 ≤ rK i ∧ rK i ≤ 3 := by unfold rK; split <;> (try split) <;> omega
def rE (i j : Nat) : Nat := if j = 0 then rA i else if j = 1 then rM i - 1 else rT i - 1
theorem vd_lt {n i j : Nat} (h : vd n i) (hj : j < rK i) : rE i j < n := by
  obtain ⟨h1, h2, h3, h4, h5, h6, h7⟩ := h
  unfold rE
  unfold rK at hj
  by_cases z : j = 0
  · rw [if_pos z]; exact h1
  · rw [if_neg z]
    by_cases y : rM i = 0
    · rw [if_pos y] at hj; omega
    · rw [if_neg y] at hj
      by_cases x : rT i = 0
      · rw [if_pos x] at hj; rw [if_pos (by omega)]; omega
      · by_cases w : j = 1
        · rw [if_pos w]; omega
        · rw [if_neg w]; omega
def sLash (a : AS) (i : Nat) : AS := (va_up a.1 1 (nI (rK i)), va_up a.2 6 (fun j => if j < rK i then nI (rE i j) else 0))
theorem sLash_1 (a : AS) (i : Nat) : (sLash a i).1 1 = nI (rK i) := up_s a.1 1 _
theorem sLash_s (a : AS) (i : Nat) {j : Nat} (h : j ≠ 1) : (sLash a i).1 j = a.1 j := up_n a.1 _ h
theorem sLash_m (a : AS) (i : Nat) : (sLash a i).2 6 = fun j => if j < rK i then nI (rE i j) else 0 := up_s a.2 6 _
theorem sLash_r (a : AS) (i : Nat) {j : Nat} (h : j ≠ 6) : (sLash a i).2 j = a.2 j := up_n a.2 _ h
theorem sLash_set (a : AS) (i : Nat) {j : Nat} {v : Int32} (h : j ≠ 1) : sSet (sLash a i) j v = sLash (sSet a j v) i := by
  refine Prod.ext (funext fun x => ?_) rfl
  show va_up (va_up a.1 1 _) j v x = va_up (va_up a.1 j v) 1 _ x
  simp only [va_up]
  by_cases h1 : x = j
  · simp [h1, h]
  · simp [h1]
theorem WFG_lash {a : AS} {i n : Nat} (w : WFG a) (hn : n ≤ 6) (h : vd n i) : WFG (sLash a i) := by
  obtain ⟨⟨-, w2, d, w3, w4⟩, s, hs, es⟩ := w
  have e2 : (sLash a i).2 2 = a.2 2 := sLash_r a i (by omega)
  refine ⟨⟨⟨rK i, (rK_le i).2, sLash_1 a i, fun j hj => ?_⟩, by rw [e2]; exact w2, d, w3, (sLash_s a i (by omega)).trans w4⟩, s, hs, (sLash_s a i (by omega)).trans es⟩
  rw [sLash_m]
  refine ⟨rE i j, by have := vd_lt h hj; omega, ?_⟩
  show (if j < rK i then nI (rE i j) else 0) = _
  rw [if_pos hj]
theorem core_lash (a : AS) (i : Nat) : core (sLash a i) = sLash (core a) i := by
  refine Prod.ext (funext fun x => ?_) (funext fun x => ?_)
  · show va_up (va_up a.1 1 _) 4 0 x = va_up (va_up a.1 4 0) 1 _ x
    simp only [va_up]
    by_cases h1 : x = 4
    · simp [h1]
    · simp [h1]
  · show va_up (va_up a.2 6 _) 4 _ x = va_up (va_up a.2 4 _) 6 _ x
    simp only [va_up]
    by_cases h1 : x = 4
    · simp [h1]
    · simp [h1]
theorem dv_lash {g g' : HP} {i : Nat} (h8 : g'.1 22 8 = nI (rK i)) (hs : ∀ j, j < 6 → j ≠ 1 → g'.1 22 (7 + j) = g.1 22 (7 + j)) (hm : ∀ j, j < rK i → g'.1 29 j = nI (rE i j)) (hc : ∀ c, 23 ≤ c → c ≤ 28 → g'.1 c = g.1 c) : dv 22 g' = sLash (dv 22 g) i := by
  refine Prod.ext (funext fun x => ?_) (funext fun y => funext fun x => ?_)
  · show (if x < 6 then g'.1 22 (7 + x) else 0) = va_up (fun j => if j < 6 then g.1 22 (7 + j) else 0) 1 (nI (rK i)) x
    by_cases hx : x = 1
    · subst hx; rw [up_s, if_pos (by omega)]; exact h8
    · rw [up_n _ _ hx]
      by_cases h6 : x < 6
      · rw [if_pos h6, if_pos h6]; exact hs x h6 hx
      · rw [if_neg h6, if_neg h6]
  · show (if x < wdt (g'.1 22 8) y then g'.1 (22 + (y + 1)) x else 0) = va_up (fun i j => if j < wdt (g.1 22 8) i then g.1 (22 + (i + 1)) j else 0) 6 (fun j => if j < rK i then nI (rE i j) else 0) y x
    rw [h8]
    by_cases hy : y = 6
    · subst hy
      rw [up_s, wdt6 (rK_le i).2 rfl]
      by_cases hx : x < rK i
      · rw [if_pos hx]; show g'.1 29 x = (if x < rK i then _ else _); rw [if_pos hx]; exact hm x hx
      · rw [if_neg hx]; show (0 : Int32) = (if x < rK i then _ else _); rw [if_neg hx]
    · rw [up_n _ _ hy, wdt_ne (t := g.1 22 8) hy]
      by_cases hx : x < wdt (g.1 22 8) y
      · rw [if_pos hx, if_pos hx]
        have hy7 : y < 6 := by
          unfold wdt at hx
          by_cases q : y < 6
          · exact q
          · rw [if_neg (by omega), if_neg (by omega), if_neg (by omega)] at hx; omega
        rw [hc (22 + (y + 1)) (by omega) (by omega)]
      · rw [if_neg hx, if_neg hx]
theorem mv_lash {g g' : HP} {i : Nat} (h8 : g'.1 96 1 = nI (rK i)) (hs : ∀ j, j < 6 → j ≠ 1 → g'.1 96 j = g.1 96 j) (hm : ∀ j, j < rK i → g'.1 103 j = nI (rE i j)) (hc : ∀ c, 97 ≤ c → c ≤ 102 → g'.1 c = g.1 c) : mv g' = sLash (mv g) i := by
  refine Prod.ext (funext fun x => ?_) (funext fun y => funext fun x => ?_)
  · show (if x < 6 then g'.1 96 x else 0) = va_up (fun j => if j < 6 then g.1 96 j else 0) 1 (nI (rK i)) x
    by_cases hx : x = 1
    · subst hx; rw [up_s, if_pos (by omega)]; exact h8
    · rw [up_n _ _ hx]
      by_cases h6 : x < 6
      · rw [if_pos h6, if_pos h6]; exact hs x h6 hx
      · rw [if_neg h6, if_neg h6]
  · show (if x < wdt (g'.1 96 1) y then g'.1 (97 + y) x else 0) = va_up (fun i j => if j < wdt (g.1 96 1) i then g.1 (97 + i) j else 0) 6 (fun j => if j < rK i then nI (rE i j) else 0) y x
    rw [h8]
    by_cases hy : y = 6
    · subst hy
      rw [up_s, wdt6 (rK_le i).2 rfl]
      by_cases hx : x < rK i
      · rw [if_pos hx]; show g'.1 103 x = (if x < rK i then _ else _); rw [if_pos hx]; exact hm x hx
      · rw [if_neg hx]; show (0 : Int32) = (if x < rK i then _ else _); rw [if_neg hx]
    · rw [up_n _ _ hy, wdt_ne (t := g.1 96 1) hy]
      by_cases hx : x < wdt (g.1 96 1) y
      · rw [if_pos hx, if_pos hx]
        have hy7 : y < 6 := by
          unfold wdt at hx
          by_cases q : y < 6
          · exact q
          · rw [if_neg (by omega), if_neg (by omega), if_neg (by omega)] at hx; omega
        rw [hc (97 + y) (by omega) (by omega)]
      · rw [if_neg hx, if_neg hx]
/-! lashing a row, in the class -/
def dD (m : Nat) : Int32 := if m = 0 then -1 else nI (m - 1)
theorem dD_e (m : Nat) : nI m - 1 = dD m := by
  unfold dD
  by_cases z : m = 0
  · subst z; rw [if_pos rfl]; decide
  · rw [if_neg z, show (1 : Int32) = nI 1 from rfl, sub_n (by omega)]
theorem dD_neg {m : Nat} (hm : m < 100) : dD m < 0 ↔ m = 0 := by
  unfold dD
  by_cases z : m = 0
  · rw [if_pos z]; exact iff_of_true (by decide) z
  · rw [if_neg z]; exact iff_of_false (nI_pos (by omega)) z
theorem dD_nn {m : Nat} (hm : m < 100) : 0 ≤ dD m ↔ ¬ m = 0 := by
  rw [← dD_neg hm, Int32.not_lt]
theorem dD_eq {m t : Nat} (hm : m < 100) (ht : t < 100) : dD m = dD t ↔ m = t := by
  refine ⟨fun h => ?_, fun h => by rw [h]⟩
  by_cases z : m = 0
  · have := (dD_neg hm).mpr z
    rw [h] at this
    rw [z, (dD_neg ht).mp this]
  · by_cases y : t = 0
    · have := (dD_neg ht).mpr y
      rw [← h] at this
      exact absurd ((dD_neg hm).mp this) z
    · unfold dD at h
      rw [if_neg z, if_neg y] at h
      have := (eq_n (by omega) (by omega)).mp h; omega
theorem nI_dD {a m : Nat} (ha : a < 100) (hm : m < 100) : nI a = dD m ↔ m = a + 1 := by
  by_cases z : m = 0
  · refine iff_of_false (fun h => ?_) (by omega)
    have := (dD_neg hm).mpr z
    rw [← h] at this; exact nI_pos (by omega) this
  · unfold dD
    rw [if_neg z, eq_n (by omega) (by omega)]; omega
theorem n_dD {n m : Nat} (hn : n < 100) (hm : m < 100) : nI n ≤ dD m ↔ n + 1 ≤ m := by
  by_cases z : m = 0
  · refine iff_of_false (fun h => ?_) (by omega)
    have := (dD_neg hm).mpr z
    exact nI_pos (show n < 2 ^ 31 by omega) (Int32.lt_of_le_of_lt h this)
  · unfold dD
    rw [if_neg z, le_n (by omega) (by omega)]; omega
theorem lash_J122 {n a m t : Nat} {g : HP} (hn : n ≤ 6) (ha : a < 6) (hm : m < 7) (ht : t < 7) (h7 : g.1 22 7 = nI n) (x s : Int32) : f_X1_lashRow_J122 22 (nI a) (dD m) (dD t) x s g = some ((if x = 0 ∧ s = 0 ∧ a < n ∧ m ≤ n ∧ t ≤ n then 1 else 0), g) := by
  unfold f_X1_lashRow_J122
  rw [h7]
  by_cases z : x = 0
  · rw [if_pos z]
    by_cases y : s = 0
    · rw [if_pos y]
      by_cases c1 : n ≤ a
      · rw [if_pos ((le_n (by omega) (by omega)).mpr c1), if_neg (by omega)]
      · rw [if_neg (fun w => c1 ((le_n (by omega) (by omega)).mp w))]
        by_cases c2 : n + 1 ≤ m
        · rw [if_pos ((n_dD (by omega) (by omega)).mpr c2), if_neg (by omega)]
        · rw [if_neg (fun w => c2 ((n_dD (by omega) (by omega)).mp w))]
          by_cases c3 : n + 1 ≤ t
          · rw [if_pos ((n_dD (by omega) (by omega)).mpr c3), if_neg (by omega)]
          · rw [if_neg (fun w => c3 ((n_dD (by omega) (by omega)).mp w)), if_pos ⟨z, y, by omega, by omega, by omega⟩]
    · rw [if_neg y, if_neg (fun w => y w.2.1)]
  · rw [if_neg z, if_neg (fun w => z w.1)]
theorem lash_J94 {n a m t : Nat} {g : HP} (hn : n ≤ 6) (ha : a < 6) (hm : m < 7) (ht : t < 7) (h7 : g.1 22 7 = nI n) (x : Int32) : f_X1_lashRow_J94 22 (nI a) (dD m) (dD t) x g = some ((if x = 0 ∧ m ≠ a + 1 ∧ t ≠ a + 1 ∧ (m = 0 ∨ m ≠ t) ∧ a < n ∧ m ≤ n ∧ t ≤ n then 1 else 0), g) := by
  unfold f_X1_lashRow_J94
  rw [lash_J122 hn ha hm ht h7, lash_J122 hn ha hm ht h7]
  have n1 : ¬ (1 : Int32) = 0 := by decide
  by_cases c1 : m = a + 1
  · rw [if_pos ((nI_dD (by omega) (by omega)).mpr c1), if_neg (fun w => n1 w.2.1), if_neg (fun w => w.2.1 c1)]
  · rw [if_neg (fun w => c1 ((nI_dD (by omega) (by omega)).mp w))]
    by_cases c2 : t = a + 1
    · rw [if_pos ((nI_dD (by omega) (by omega)).mpr c2), if_neg (fun w => n1 w.2.1), if_neg (fun w => w.2.2.1 c2)]
    · rw [if_neg (fun w => c2 ((nI_dD (by omega) (by omega)).mp w))]
      by_cases c3 : m = 0
      · rw [if_pos ((dD_neg (by omega)).mpr c3)]
        by_cases q : x = 0 ∧ a < n ∧ m ≤ n ∧ t ≤ n
        · rw [if_pos ⟨q.1, rfl, q.2⟩, if_pos ⟨q.1, c1, c2, Or.inl c3, q.2⟩]
        · rw [if_neg (fun w => q ⟨w.1, w.2.2⟩), if_neg (fun w => q ⟨w.1, w.2.2.2.2⟩)]
      · rw [if_neg (fun w => c3 ((dD_neg (by omega)).mp w))]
        by_cases c4 : m = t
        · rw [if_pos ((dD_eq (by omega) (by omega)).mpr c4), if_neg (fun w => n1 w.2.1), if_neg (fun w => by rcases w.2.2.2.1 with q | q; exact c3 q; exact q c4)]
        · rw [if_neg (fun w => c4 ((dD_eq (by omega) (by omega)).mp w))]
          by_cases q : x = 0 ∧ a < n ∧ m ≤ n ∧ t ≤ n
          · rw [if_pos ⟨q.1, rfl, q.2⟩, if_pos ⟨q.1, c1, c2, Or.inr c4, q.2⟩]
          · rw [if_neg (fun w => q ⟨w.1, w.2.2⟩), if_neg (fun w => q ⟨w.1, w.2.2.2.2⟩)]
theorem B1_lash {n i : Nat} {g : HP} (hn : n ≤ 6) (hi : i < 294) (h7 : g.1 22 7 = nI n) : ∃ v g', f_X1_lashRow 22 (nI i) g = some (v, g') ∧ (vd n i → v = 1) ∧ (¬ vd n i → v = 0) ∧ dv 22 g' = sLash (dv 22 g) i ∧ g'.1 22 7 = nI n ∧ g'.1 22 8 = nI (rK i) ∧ (∀ j, j < rK i → g'.1 29 j = nI (rE i j)) ∧ Fc (SD 22) g g' := by
  have ha : rA i < 6 := by unfold rA; omega
  have hm : rM i < 7 := by unfold rM; omega
  have ht : rT i < 7 := by unfold rT; omega
  have e7 : nI i / 7 = nI (i / 7) := div_n (b := 7) (by omega) (by omega) (by omega)
  have eA : nI i / 49 = nI (rA i) := div_n (b := 49) (by omega) (by omega) (by omega)
  have eM : nI (i / 7) - nI (i / 7) / 7 * 7 - 1 = dD (rM i) := by
    rw [← dD_e]; congr 1
    exact rem_n (a := i / 7) (b := 7) (by omega) (by omega) (by omega)
  have eT : nI i - nI (i / 7) * 7 - 1 = dD (rT i) := by
    rw [← dD_e, ← e7]; congr 1
    exact rem_n (a := i) (b := 7) (by omega) (by omega) (by omega)
  have c0 : Int32.toNatClampNeg 0 = 0 := by decide
  have c1 : Int32.toNatClampNeg 1 = 1 := by decide
  have c2 : Int32.toNatClampNeg 2 = 2 := by decide
  unfold f_X1_lashRow
  rw [if_neg (nI_pos (show i < 2 ^ 31 by omega)), if_pos (show nI i < 294 from (lt_n (b := 294) (by omega) (by omega)).mpr hi), eA, e7, eM, eT, lt_e, lt_e, lt_e, gd_b (show inb 0 3 = true by decide), lt_e, gd_b (show inb 1 3 = true by decide), lt_e, gd_b (show inb 2 3 = true by decide), lt_e, c0, c1, c2]
  generalize hG : si (si (si g (22 + 7) 0 (nI (rA i))) (22 + 7) 1 (dD (rM i))) (22 + 7) 2 (dD (rT i)) = G
  have S0 : SD 22 22 := Or.inl ⟨by omega, by omega⟩
  have S7 : SD 22 (22 + 7) := Or.inl ⟨by omega, by omega⟩
  have frG : Fc (SD 22) g G := by rw [← hG]; exact ((Fc.si S7).trans (Fc.si S7) (fun _ z => z) (fun _ z => z)).trans (Fc.si S7) (fun _ z => z) (fun _ z => z)
  have G22 : G.1 22 = g.1 22 := by rw [← hG]; rw [si_r (by omega), si_r (by omega), si_r (by omega)]
  have G29 : G.1 29 0 = nI (rA i) ∧ G.1 29 1 = dD (rM i) ∧ G.1 29 2 = dD (rT i) := by
    rw [← hG]; refine ⟨?_, ?_, ?_⟩ <;> simp [si_1]
  have Gc : ∀ c, 23 ≤ c → c ≤ 28 → G.1 c = g.1 c := fun c a b => by rw [← hG, si_r (by omega), si_r (by omega), si_r (by omega)]
  have fin : ∀ x : Int32, (x = 0 ↔ (rM i = 0 → rT i = 0)) → ∃ v g', f_X1_lashRow_J94 22 (nI (rA i)) (dD (rM i)) (dD (rT i)) x (si G 22 8 (nI (rK i))) = some (v, g') ∧ (vd n i → v = 1) ∧ (¬ vd n i → v = 0) ∧ dv 22 g' = sLash (dv 22 g) i ∧ g'.1 22 7 = nI n ∧ g'.1 22 8 = nI (rK i) ∧ (∀ j, j < rK i → g'.1 29 j = nI (rE i j)) ∧ Fc (SD 22) g g' := by
    intro x hx
    have h7' : (si G 22 8 (nI (rK i))).1 22 7 = nI n := by rw [si_w, up_n _ _ (by omega), G22]; exact h7
    have h8' : (si G 22 8 (nI (rK i))).1 22 8 = nI (rK i) := by rw [si_w, up_s]
    have hm' : ∀ j, j < rK i → (si G 22 8 (nI (rK i))).1 29 j = nI (rE i j) := by
      intro j hj
      rw [si_r (by omega)]
      have k3 := (rK_le i).2
      unfold rE
      unfold rK at hj
      by_cases y0 : j = 0
      · rw [if_pos y0, y0]; exact G29.1
      · rw [if_neg y0]
        by_cases y : rM i = 0
        · rw [if_pos y] at hj; omega
        · rw [if_neg y] at hj
          by_cases y1 : j = 1
          · rw [if_pos y1, y1, G29.2.1]; unfold dD; rw [if_neg y]
          · by_cases w : rT i = 0
            · rw [if_pos w] at hj; omega
            · rw [if_neg w] at hj
              rw [if_neg y1, show j = 2 by omega, G29.2.2]; unfold dD; rw [if_neg w]
    refine ⟨_, _, lash_J94 hn ha hm ht h7' x, fun h => ?_, fun h => ?_, dv_lash h8' (fun j hj h1 => by rw [si_w, up_n _ _ (by omega), G22]) hm' (fun c a b => by rw [si_r (by omega)]; exact Gc c a b), h7', h8', hm', frG.trans (Fc.si S0) (fun _ z => z) (fun _ z => z)⟩
    · obtain ⟨a1, a2, a3, a4, a5, a6, a7⟩ := h
      rw [if_pos ⟨hx.mpr a2, a3, a4, a5, a1, a6, a7⟩]
    · rw [if_neg (fun w => h ⟨w.2.2.2.2.1, hx.mp w.1, w.2.1, w.2.2.1, w.2.2.2.1, w.2.2.2.2.2.1, w.2.2.2.2.2.2⟩)]
  by_cases y : rM i = 0
  · have k : rK i = 1 := by unfold rK; rw [if_pos y]
    rw [k] at fin
    rw [if_neg (fun w => (dD_nn (by omega)).mp w y), lt_e, if_neg (fun w => (dD_nn (by omega)).mp w y)]
    by_cases w : rT i = 0
    · rw [if_pos ((dD_neg (by omega)).mpr w), k]
      exact fin 0 (iff_of_true rfl (fun _ => w))
    · rw [if_neg (fun v => w ((dD_neg (by omega)).mp v)), k]
      exact fin 1 (iff_of_false (by decide) (fun v => w (v y)))
  · rw [if_pos ((dD_nn (by omega)).mpr y)]
    by_cases w : rT i = 0
    · have k : rK i = 2 := by unfold rK; rw [if_neg y, if_pos w]
      rw [k] at fin
      rw [if_neg (fun v => (dD_nn (by omega)).mp v w), lt_e, if_pos ((dD_nn (by omega)).mpr y), k]
      exact fin 0 (iff_of_true rfl (fun v => absurd v y))
    · have k : rK i = 3 := by unfold rK; rw [if_neg y, if_neg w]
      rw [k] at fin
      rw [if_pos ((dD_nn (by omega)).mpr w), lt_e, if_pos ((dD_nn (by omega)).mpr y), k]
      exact fin 0 (iff_of_true rfl (fun v => absurd v y))
