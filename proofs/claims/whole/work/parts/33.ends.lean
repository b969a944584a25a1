/-! places, hoisting -/
def sPlF (a : AS) (p : Int32) : Nat → Nat → Option Nat
  | 0, _ => none
  | c + 1, i => if a.2 6 i = p then some i else sPlF a p c (i + 1)
def sPl (a : AS) (p : Int32) : Option Nat := sPlF a p (sK a) 0
theorem sPlF_lt {a : AS} {p : Int32} : ∀ {c i j : Nat}, sPlF a p c i = some j → i ≤ j ∧ j < i + c ∧ a.2 6 j = p := by
  intro c
  induction c with
  | zero => intro i j h; cases h
  | succ c ih =>
    intro i j h
    simp only [sPlF] at h
    split at h
    · rename_i q; cases h; exact ⟨Nat.le_refl _, by omega, q⟩
    · have := ih h; exact ⟨by omega, by omega, this.2.2⟩
theorem sPlF_none {a : AS} {p : Int32} : ∀ {c i : Nat}, sPlF a p c i = none → ∀ j, i ≤ j → j < i + c → a.2 6 j ≠ p := by
  intro c
  induction c with
  | zero => intro i h j h1 h2; omega
  | succ c ih =>
    intro i h j h1 h2
    simp only [sPlF] at h
    split at h
    · cases h
    · rename_i q
      by_cases z : j = i
      · subst z; exact q
      · exact ih h j (by omega) (by omega)
theorem sPl_lt {a : AS} {p : Int32} {j : Nat} (h : sPl a p = some j) : j < sK a ∧ a.2 6 j = p := by
  have := sPlF_lt h; exact ⟨by omega, this.2.2⟩
theorem B1_placeOf {o : Nat} {h : HP} {k : Nat} (hk3 : k ≤ 3) (hk : h.1 o 8 = nI k) (p : Int32) : f_X1_placeOf o p h = some (rD (sPl (dv o h) p) (-1)) := by
  have key : ∀ (c i fuel : Nat), i + c = k → c < fuel → f_X1_placeOf_L2 o h fuel p (nI i) = some (rD (sPlF (dv o h) p c i) (-1)) := by
    intro c
    induction c with
    | zero =>
      intro i fuel hi hf
      obtain ⟨f, rfl⟩ : ∃ f, fuel = f + 1 := ⟨fuel - 1, by omega⟩
      rw [f_X1_placeOf_L2, hk, if_pos (by rw [le_n (by omega) (by omega)]; omega)]
      rfl
    | succ c ih =>
      intro i fuel hi hf
      obtain ⟨f, rfl⟩ : ∃ f, fuel = f + 1 := ⟨fuel - 1, by omega⟩
      rw [f_X1_placeOf_L2, hk, if_neg (by rw [le_n (by omega) (by omega)]; omega), gd_b (inb_n (by omega) (by omega)), cl_n (by omega), ← dv_m o h hk3 hk (show i < k by omega)]
      simp only [sPlF]
      by_cases z : (dv o h).2 6 i = p
      · rw [if_pos z, if_pos z]; rfl
      · rw [if_neg z, if_neg z, lt_e, one_n]; exact ih (i + 1) f (by omega) (by omega)
  have e : sK (dv o h) = k := by unfold sK; rw [dv_s o h (show 1 < 6 by omega)]; show (h.1 o 8).toNatClampNeg = k; rw [hk, cl_n (by omega)]
  unfold f_X1_placeOf sPl
  rw [e]
  exact key k 0 FZ (by omega) (by have := FZ_ge; omega)
theorem B7_placeOf {h : HP} {k : Nat} (hk3 : k ≤ 3) (hk : h.1 96 1 = nI k) (p : Int32) : f_X7_placeOf p h = some (rD (sPl (mv h) p) (-5)) := by
  have key : ∀ (c i fuel : Nat), i + c = k → c < fuel → f_X7_placeOf_L2 h fuel p (nI i) = some (rD (sPlF (mv h) p c i) (-5)) := by
    intro c
    induction c with
    | zero =>
      intro i fuel hi hf
      obtain ⟨f, rfl⟩ : ∃ f, fuel = f + 1 := ⟨fuel - 1, by omega⟩
      rw [f_X7_placeOf_L2, hk, if_pos (by rw [le_n (by omega) (by omega)]; omega)]
      rfl
    | succ c ih =>
      intro i fuel hi hf
      obtain ⟨f, rfl⟩ : ∃ f, fuel = f + 1 := ⟨fuel - 1, by omega⟩
      rw [f_X7_placeOf_L2, hk, if_neg (by rw [le_n (by omega) (by omega)]; omega), gd_b (inb_n (by omega) (by omega)), cl_n (by omega), ← mv_m h hk3 hk (show i < k by omega)]
      simp only [sPlF]
      by_cases z : (mv h).2 6 i = p
      · rw [if_pos z, if_pos z]; rfl
      · rw [if_neg z, if_neg z, lt_e, one_n]; exact ih (i + 1) f (by omega) (by omega)
  have e : sK (mv h) = k := by unfold sK; rw [mv_s h (show 1 < 6 by omega), hk, cl_n (by omega)]
  unfold f_X7_placeOf sPl
  rw [e]
  exact key k 0 FZ (by omega) (by have := FZ_ge; omega)
def sHo (a : AS) (p : Int32) : AS := (va_up a.1 1 (nI (sK a + 1)), va_up a.2 6 (va_up (a.2 6) (sK a) p))
theorem sHo_n (a : AS) (p : Int32) {j : Nat} (hj : j ≠ 1) : (sHo a p).1 j = a.1 j := up_n a.1 (nI (sK a + 1)) hj
theorem sHo_r (a : AS) (p : Int32) {j : Nat} (hj : j ≠ 6) : (sHo a p).2 j = a.2 j := up_n a.2 (va_up (a.2 6) (sK a) p) hj
theorem wdt_ne {s t : Int32} {y : Nat} (hy : y ≠ 6) : wdt s y = wdt t y := by unfold wdt; simp only [if_neg hy]
theorem dv_ho {o : Nat} {h : HP} {k : Nat} {p : Int32} (hk : k < 3) (hs : h.1 o 8 = nI k) : dv o (si (si h (o + 7) k p) o 8 (nI (k + 1))) = sHo (dv o h) p := by
  have e : sK (dv o h) = k := by unfold sK; rw [dv_s o h (show 1 < 6 by omega)]; show (h.1 o 8).toNatClampNeg = k; rw [hs, cl_n (by omega)]
  have e8 : (si (si h (o + 7) k p) o 8 (nI (k + 1))).1 o 8 = nI (k + 1) := by rw [si_w, up_s]
  refine Prod.ext (funext fun x => ?_) (funext fun y => funext fun x => ?_)
  · show (if x < 6 then (si (si h (o + 7) k p) o 8 (nI (k + 1))).1 o (7 + x) else 0) = va_up (dv o h).1 1 (nI (sK (dv o h) + 1)) x
    rw [e]
    by_cases hx : x = 1
    · subst hx; rw [up_s, if_pos (by omega)]; exact e8
    · rw [up_n _ _ hx, si_w, up_n _ _ (by omega), si_r (by omega)]
      rfl
  · show (if x < wdt ((si (si h (o + 7) k p) o 8 (nI (k + 1))).1 o 8) y then (si (si h (o + 7) k p) o 8 (nI (k + 1))).1 (o + (y + 1)) x else 0) = va_up (dv o h).2 6 (va_up ((dv o h).2 6) (sK (dv o h)) p) y x
    rw [e8, e, si_r (show o + (y + 1) ≠ o by omega)]
    by_cases hy : y = 6
    · subst hy
      rw [up_s, wdt6 (show k + 1 ≤ 3 by omega) rfl, show o + (6 + 1) = o + 7 from rfl, si_w]
      by_cases hx : x = k
      · subst hx; rw [if_pos (by omega), up_s, up_s]
      · rw [up_n _ _ hx, up_n _ _ hx]
        show _ = (if x < wdt (h.1 o 8) 6 then h.1 (o + (6 + 1)) x else 0)
        rw [wdt6 (show k ≤ 3 by omega) hs]
        by_cases hx2 : x < k
        · rw [if_pos (by omega), if_pos hx2]
        · rw [if_neg (by omega), if_neg hx2]
    · rw [up_n _ _ hy, si_r (show o + (y + 1) ≠ o + 7 by omega), wdt_ne (t := h.1 o 8) hy]
      rfl
theorem mv_ho {h : HP} {k : Nat} {p : Int32} (hk : k < 3) (hs : h.1 96 1 = nI k) : mv (si (si h 103 k p) 96 1 (nI (k + 1))) = sHo (mv h) p := by
  have e : sK (mv h) = k := by unfold sK; rw [mv_s h (show 1 < 6 by omega), hs, cl_n (by omega)]
  have e8 : (si (si h 103 k p) 96 1 (nI (k + 1))).1 96 1 = nI (k + 1) := by rw [si_w, up_s]
  refine Prod.ext (funext fun x => ?_) (funext fun y => funext fun x => ?_)
  · show (if x < 6 then (si (si h 103 k p) 96 1 (nI (k + 1))).1 96 x else 0) = va_up (mv h).1 1 (nI (sK (mv h) + 1)) x
    rw [e]
    by_cases hx : x = 1
    · subst hx; rw [up_s, if_pos (by omega)]; exact e8
    · rw [up_n _ _ hx, si_w, up_n _ _ hx, si_r (by omega)]
      rfl
  · show (if x < wdt ((si (si h 103 k p) 96 1 (nI (k + 1))).1 96 1) y then (si (si h 103 k p) 96 1 (nI (k + 1))).1 (97 + y) x else 0) = va_up (mv h).2 6 (va_up ((mv h).2 6) (sK (mv h)) p) y x
    rw [e8, e, si_r (show 97 + y ≠ 96 by omega)]
    by_cases hy : y = 6
    · subst hy
      rw [up_s, wdt6 (show k + 1 ≤ 3 by omega) rfl, show 97 + 6 = 103 from rfl, si_w]
      by_cases hx : x = k
      · subst hx; rw [if_pos (by omega), up_s, up_s]
      · rw [up_n _ _ hx, up_n _ _ hx]
        show _ = (if x < wdt (h.1 96 1) 6 then h.1 (97 + 6) x else 0)
        rw [wdt6 (show k ≤ 3 by omega) hs]
        by_cases hx2 : x < k
        · rw [if_pos (by omega), if_pos hx2]
        · rw [if_neg (by omega), if_neg hx2]
    · rw [up_n _ _ hy, si_r (show 97 + y ≠ 103 by omega), wdt_ne (t := h.1 96 1) hy]
      rfl
theorem B1_putUpon {o : Nat} {h : HP} {k : Nat} {p : Int32} (hk3 : k ≤ 3) (hk : h.1 o 8 = nI k) : f_X1_putUpon o p h = some (if k < 3 then si (si h (o + 7) k p) o 8 (nI (k + 1)) else h) := by
  unfold f_X1_putUpon
  rw [hk]
  by_cases z : k < 3
  · rw [if_neg (by rw [show (3 : Int32) = nI 3 from rfl, le_n (by omega) (by omega)]; omega), gd_b (inb_n z (by omega)), lt_e, cl_n (by omega), if_pos z, si_r (show o ≠ o + 7 by omega), hk, one_n, lt_e]
  · rw [if_pos (by rw [show (3 : Int32) = nI 3 from rfl, le_n (by omega) (by omega)]; omega), if_neg z]
theorem B7_hoists {h : HP} {k : Nat} {p : Int32} (hk3 : k < 3) (hk : h.1 96 1 = nI k) : f_X7_hoists p h = some (si (si h 103 k p) 96 1 (nI (k + 1))) := by
  unfold f_X7_hoists
  rw [hk, gd_b (inb_n hk3 (by omega)), lt_e, cl_n (by omega), si_r (show (96 : Nat) ≠ 103 by omega), hk, one_n, lt_e]
theorem WFG_ho {a : AS} {m : Nat} (w : WFG a) (hk : sK a < 3) (hm : m < 6) : WFG (sHo a (nI m)) := by
  obtain ⟨w1, s, hs, es⟩ := w
  obtain ⟨k, q1, q2, qK, q3⟩ := w1.k
  obtain ⟨-, q4, d, q5, q6⟩ := w1
  have s6 : (sHo a (nI m)).2 6 = va_up (a.2 6) (sK a) (nI m) := up_s a.2 6 _
  have s2 : (sHo a (nI m)).2 2 = a.2 2 := sHo_r a _ (by omega)
  refine ⟨⟨⟨k + 1, by omega, ?_, fun j hj => ?_⟩, by rw [s2]; exact q4, d, q5, (sHo_n a _ (by omega)).trans q6⟩, s, hs, (sHo_n a _ (by omega)).trans es⟩
  · show va_up a.1 1 (nI (sK a + 1)) 1 = _
    rw [up_s, qK]
  · rw [s6, qK]
    by_cases z : j = k
    · subst z; exact ⟨m, hm, up_s _ _ _⟩
    · rw [up_n _ _ z]; exact q3 j (by omega)
theorem core_ho (a : AS) (p : Int32) : core (sHo a p) = sHo (core a) p := by
  refine Prod.ext (funext fun x => ?_) (funext fun x => ?_)
  · show va_up (va_up a.1 1 (nI (sK a + 1))) 4 0 x = va_up (va_up a.1 4 0) 1 (nI (sK (core a) + 1)) x
    rw [sK_core]
    simp only [va_up]
    by_cases h1 : x = 4
    · simp [h1]
    · simp [h1]
  · show va_up (va_up a.2 6 _) 4 _ x = va_up (va_up a.2 4 _) 6 _ x
    rw [core_r a (show 6 ≠ 4 by omega), sK_core]
    simp only [va_up]
    by_cases h1 : x = 4
    · simp [h1]
    · simp [h1]
theorem sPlF_cong {a b : AS} (h : a.2 6 = b.2 6) (p : Int32) : ∀ c i, sPlF a p c i = sPlF b p c i := by
  intro c
  induction c with
  | zero => intro i; rfl
  | succ c ih => intro i; simp only [sPlF, h, ih]
theorem sPl_core (a : AS) (p : Int32) : sPl (core a) p = sPl a p := by unfold sPl; rw [sK_core, sPlF_cong (core_r a (by omega))]
/-! the plan: how all ends -/
def eS (O : OS) (x y : Int32) (s : AS × Nat) : AS × Nat := if x = 0 then (cStep O s.1, s.2 + cGain O s.1) else if x = 1 then (sSet s.1 2 y, s.2) else if x = 2 then (sSet s.1 3 y, s.2) else if x = 3 then (if sPl s.1 y = none then (if sK s.1 < 3 then (sHo s.1 y, s.2) else s) else s) else (sCut s.1 0, s.2)
def eF (O : OS) (r : Nat → Int32 × Int32) : Nat → Nat → AS × Nat → AS × Nat
  | 0, _, s => s
  | c + 1, i, s => eF O r c (i + 1) (eS O (r i).1 (r i).2 s)
/-- what a row of the plan may say, with so many pieces -/
def PRw (n : Nat) (x y : Int32) : Prop := x = 0 ∨ (x = 1 ∧ ∃ m, m ≤ 9 ∧ y = nI m) ∨ (x = 2 ∧ ∃ m, m ≤ 9 ∧ y = nI m) ∨ (x = 3 ∧ ∃ m, m < n ∧ y = nI m) ∨ x = 4
def CT (O : OS) (n : Nat) (s : AS × Nat) (d : Nat) (g : HP) : Prop := CD O 22 g ∧ WFG (dv 22 g) ∧ core (dv 22 g) = s.1 ∧ (dv 22 g).1 4 = nI s.2 ∧ (dv 22 g).1 5 = nI d ∧ (dv 22 g).1 0 = nI n
def MT (O : OS) (h0 : HP) (w0 : Nat) (s : AS × Nat) (d : Nat) (g : HP) : Prop := MD_ O g ∧ g.1 96 31 = 2000000000 ∧ WFG (mv g) ∧ core (mv g) = s.1 ∧ (mv g).1 4 = nI (w0 + s.2) ∧ (mv g).1 5 = nI d ∧ KP h0 g ∧ FM AC AJ h0 g
theorem E_hasT {o n m : Nat} {h : HP} (hn : n ≤ 6) (hm : m < n) (e : h.1 o 7 = nI n) : f_X1_has o (nI m) h = some 1 := by
  rw [E_has, e, if_neg (nI_pos (by omega)), if_neg (by rw [le_n (by omega) (by omega)]; omega)]
theorem CT_step {O : OS} {n d : Nat} {s : AS × Nat} {g : HP} {x y : Int32} (hn : n ≤ 6) (hr : PRw n x y) (c : CT O n s d g) (h1 : d + 1 < 1000000) (h2 : s.2 + 267 ≤ 99999) : ∃ g' d', f_X6_followPlan x y g = some g' ∧ CT O n (eS O x y s) d' g' ∧ d' ≤ d + 1 ∧ (eS O x y s).2 ≤ s.2 + 267 ∧ Fc (SD 22) g g' := by
  obtain ⟨hC, w, hco, hw, hd, hp⟩ := c
  have S0 : SD 22 22 := Or.inl ⟨by omega, by omega⟩
  have hl : ∃ la, la ≤ 99 ∧ O.2.1 = nI la := by obtain ⟨_, oc, _, hO⟩ := hC; exact hO.2.2.2.1
  obtain ⟨k, hk3, hk, hK, hm⟩ := w.1.k
  have hk8 : g.1 22 8 = nI k := by rw [← dv_s 22 g (show 1 < 6 by omega)]; exact hk
  unfold f_X6_followPlan eS
  rcases hr with rfl | ⟨rfl, m, hm9, rfl⟩ | ⟨rfl, m, hm9, rfl⟩ | ⟨rfl, m, hmn, rfl⟩ | rfl
  · rw [if_pos rfl, if_pos rfl]
    obtain ⟨g', e, ev, fr⟩ := B1_day hC w.1 hd h1
    obtain ⟨q1, q2, q3, q4⟩ := day_more (cm := 99999) (cb := 9999) (cmn := 99999) rfl (by omega) (w0 := s.2) (d0 := d) (j := 0) (c0 := s.1) hl w hco hw hd h1 h2
    have hg : cGain O s.1 ≤ 267 := cGain_le hl w hco
    refine ⟨g', d + 1, by rw [e, bd_s], ⟨hC.fr fr, by rw [ev]; exact q1, by rw [ev]; exact q2, ?_, by rw [ev]; exact q4, ?_⟩, Nat.le_refl _, by show s.2 + cGain O s.1 ≤ _; omega, fr⟩
    · rw [ev, q3]
      simp only [gN, Nat.zero_add]; rfl
    · rw [ev, day_sc _ _ _ _ (by omega) (by omega) (by omega)]; exact hp
  · rw [if_neg one_ne, if_pos rfl, if_neg one_ne, if_pos rfl, lt_e]
    have hv := dv_set (o := 22) (h := g) (j := 2) (v := nI m) (by omega) (by omega)
    refine ⟨_, d, rfl, ⟨hC.fr (Fc.si S0), ?_, ?_, ?_, ?_, ?_⟩, by omega, by show s.2 ≤ _; omega, Fc.si S0⟩
    · rw [show dv 22 (si g 22 9 (nI m)) = _ from hv]; exact WFG_set w (by omega) (by omega) (fun _ => ⟨m, hm9, rfl⟩)
    · rw [show dv 22 (si g 22 9 (nI m)) = _ from hv, core_set _ (by omega), hco]
    · rw [show dv 22 (si g 22 9 (nI m)) = _ from hv]; exact (sSet_n _ _ (by omega)).trans hw
    · rw [show dv 22 (si g 22 9 (nI m)) = _ from hv]; exact (sSet_n _ _ (by omega)).trans hd
    · rw [show dv 22 (si g 22 9 (nI m)) = _ from hv]; exact (sSet_n _ _ (by omega)).trans hp
  · rw [if_neg (by decide), if_neg (by decide), if_pos rfl, if_neg (by decide), if_neg (by decide), if_pos rfl, lt_e]
    have hv := dv_set (o := 22) (h := g) (j := 3) (v := nI m) (by omega) (by omega)
    refine ⟨_, d, rfl, ⟨hC.fr (Fc.si S0), ?_, ?_, ?_, ?_, ?_⟩, by omega, by show s.2 ≤ _; omega, Fc.si S0⟩
    · rw [show dv 22 (si g 22 10 (nI m)) = _ from hv]; exact WFG_set w (by omega) (by omega) (by omega)
    · rw [show dv 22 (si g 22 10 (nI m)) = _ from hv, core_set _ (by omega), hco]
    · rw [show dv 22 (si g 22 10 (nI m)) = _ from hv]; exact (sSet_n _ _ (by omega)).trans hw
    · rw [show dv 22 (si g 22 10 (nI m)) = _ from hv]; exact (sSet_n _ _ (by omega)).trans hd
    · rw [show dv 22 (si g 22 10 (nI m)) = _ from hv]; exact (sSet_n _ _ (by omega)).trans hp
  · rw [if_neg (by decide), if_neg (by decide), if_neg (by decide), if_pos rfl, if_neg (by decide), if_neg (by decide), if_neg (by decide), if_pos rfl]
    have hp7 : g.1 22 7 = nI n := by rw [← dv_s 22 g (show 0 < 6 by omega)]; exact hp
    rw [E_hasT hn hmn hp7, bo_s, if_neg one_ne, B1_placeOf hk3 hk8, bo_s, ← hco, sPl_core, sK_core, hK]
    cases hpl : sPl (dv 22 g) (nI m) with
    | some i =>
      have hi := (sPl_lt hpl).1
      rw [if_pos (show (0 : Int32) ≤ rD (some i) (-1) by show nI 0 ≤ nI i; rw [le_n (by omega) (by omega)]; omega), if_neg (by simp)]
      exact ⟨g, d, rfl, ⟨hC, w, hco, hw, hd, hp⟩, by omega, by omega, Fc.rf⟩
    | none =>
      rw [if_neg (show ¬ (0 : Int32) ≤ rD none (-1) by decide), if_pos rfl, B1_putUpon hk3 hk8, bo_s]
      by_cases z : k < 3
      · rw [if_pos z, if_pos z]
        have hv := dv_ho (o := 22) (h := g) (k := k) (p := nI m) z hk8
        have fr : Fc (SD 22) g (si (si g (22 + 7) k (nI m)) 22 8 (nI (k + 1))) := (Fc.si (S := SD 22) (Or.inl ⟨by omega, by omega⟩)).trans (Fc.si (S := SD 22) S0) (fun _ q => q) (fun _ q => q)
        refine ⟨_, d, rfl, ⟨hC.fr fr, ?_, ?_, ?_, ?_, ?_⟩, by omega, by show s.2 ≤ _; omega, fr⟩
        · rw [hv]; exact WFG_ho w (by omega) (by omega)
        · rw [hv, core_ho]
        · rw [hv]; exact (sHo_n _ _ (by omega)).trans hw
        · rw [hv]; exact (sHo_n _ _ (by omega)).trans hd
        · rw [hv]; exact (sHo_n _ _ (by omega)).trans hp
      · rw [if_neg z, if_neg z]
        exact ⟨g, d, rfl, ⟨hC, w, hco, hw, hd, hp⟩, by omega, by omega, Fc.rf⟩
  · rw [if_neg (by decide), if_neg (by decide), if_neg (by decide), if_neg (by decide), if_neg (by decide), if_neg (by decide), if_neg (by decide), if_neg (by decide), lt_e]
    have hv := dv_cut (o := 22) (h := g) (k := k) (i := 0) hk3 hk8 (by omega)
    obtain ⟨t, ht, et⟩ := w.2
    refine ⟨_, d, rfl, ⟨hC.fr (Fc.si S0), ?_, ?_, ?_, ?_, ?_⟩, by omega, by show s.2 ≤ _; omega, Fc.si S0⟩
    · rw [show dv 22 (si g 22 8 0) = _ from hv]; exact ⟨WFE_cut w.1 (Nat.zero_le _), t, ht, (sCut_n _ (by omega)).trans et⟩
    · rw [show dv 22 (si g 22 8 0) = _ from hv, core_cut, hco]
    · rw [show dv 22 (si g 22 8 0) = _ from hv]; exact (sCut_n _ (by omega)).trans hw
    · rw [show dv 22 (si g 22 8 0) = _ from hv]; exact (sCut_n _ (by omega)).trans hd
    · rw [show dv 22 (si g 22 8 0) = _ from hv]; exact (sCut_n _ (by omega)).trans hp

theorem MT_step {O : OS} {h0 : HP} {w0 n d : Nat} {s : AS × Nat} {g : HP} {x y : Int32} (hn : n ≤ 6) (hr : PRw n x y) (c : MT O h0 w0 s d g) (h1 : d + 1 < 1000000) (hw0 : w0 ≤ 99999) (h2 : s.2 + 267 ≤ 99999) : ∃ g' d', f_X7_goPlan x y g = some g' ∧ MT O h0 w0 (eS O x y s) d' g' ∧ d' ≤ d + 1 := by
  obtain ⟨hC, h31, w, hco, hw, hd, kp, f0⟩ := c
  obtain ⟨k, hk3, hk, hK, hm⟩ := w.1.k
  have hk8 : g.1 96 1 = nI k := by rw [← mv_s g (show 1 < 6 by omega)]; exact hk
  have frame : ∀ {S J : Nat → Prop} {g' : HP}, FM S J g g' → (∀ c, S c → c = 103) → (∀ j, J j → 1 ≤ j ∧ j ≤ 3) → MD_ O g' ∧ g'.1 96 31 = 2000000000 ∧ KP h0 g' ∧ FM AC AJ h0 g' := fun f hS hJ =>
    ⟨hC.fm f (fun c a b q => by have := hS c q; omega) (fun q => by have := hJ _ q; omega), (f.2.1 31 (fun q => by have := hJ _ q; omega)).trans h31, kp.fm f (fun c a b q => by have := hS c q; omega) (fun j a b q => by have := hJ j q; omega), f0.trans f (fun _ z => z) (fun c z => show AC c by have := hS c z; unfold AC; omega) (fun _ z => z) (fun j z => show AJ j by have := hJ j z; unfold AJ; omega)⟩
  unfold f_X7_goPlan eS
  rcases hr with rfl | ⟨rfl, m, hm9, rfl⟩ | ⟨rfl, m, hm9, rfl⟩ | ⟨rfl, m, hmn, rfl⟩ | rfl
  · rw [if_pos rfl, if_pos rfl]
    obtain ⟨g', e, ev, fr⟩ := B7_goDay hC w.1 hd h1
    obtain ⟨q1, q2, q3, q4⟩ := day_more (cm := g.1 96 31) (cb := g.1 96 32) (cmn := 2000000000) h31 (by omega) (w0 := w0 + s.2) (d0 := d) (j := 0) (c0 := s.1) hC.2.2 w hco hw hd h1 (by simp only [gN]; omega)
    refine ⟨g', d + 1, ?_, ⟨hC.fm fr (fun c a b q => by unfold DS at q; omega) (by unfold DJ; omega), (fr.2.1 31 (by unfold DJ; omega)).trans h31, by rw [ev]; exact q1, by rw [ev]; exact q2, ?_, by rw [ev]; exact q4, kp.fm fr (fun c a b z => by unfold DS at z; omega) (fun j a b z => by unfold DJ at z; omega), f0.trans fr (fun _ z => z) (fun c z => show AC c by unfold DS at z; unfold AC; omega) (fun _ z => z) (fun j z => show AJ j by unfold DJ at z; unfold AJ; omega)⟩, Nat.le_refl _⟩
    · rw [e, bd_s]
      unfold f_X7_goPlan_J9 f_X7_goPlan_J29
      rw [if_neg (by decide), if_neg (by decide), if_neg (by decide), if_neg (by decide)]
    · rw [ev, q3]
      simp only [gN, Nat.zero_add, cN, Nat.add_assoc]
  · rw [if_neg one_ne, if_neg one_ne, if_pos rfl]
    unfold f_X7_goPlan_J9 f_X7_goPlan_J29
    rw [if_pos rfl, lt_e, if_neg (by decide), if_neg (by decide), if_neg (by decide)]
    have hv := mv_set (h := g) (j := 2) (v := nI m) (by omega) (by omega)
    obtain ⟨p1, p2, p3, p4⟩ := frame (S := NO_) (J := fun j => j = 2) (g' := si g 96 2 (nI m)) (FM.place rfl) (fun _ z => z.elim) (fun j z => by omega)
    refine ⟨_, d, rfl, ⟨p1, p2, ?_, ?_, ?_, ?_, p3, p4⟩, by omega⟩
    · rw [hv]; exact WFG_set w (by omega) (by omega) (fun _ => ⟨m, hm9, rfl⟩)
    · rw [hv, core_set _ (by omega), hco]
    · rw [hv]; exact (sSet_n _ _ (by omega)).trans hw
    · rw [hv]; exact (sSet_n _ _ (by omega)).trans hd
  · rw [if_neg (by decide), if_neg (by decide), if_neg (by decide), if_pos rfl]
    unfold f_X7_goPlan_J9 f_X7_goPlan_J29
    rw [if_neg (by decide), if_pos rfl, lt_e, if_neg (by decide), if_neg (by decide)]
    have hv := mv_set (h := g) (j := 3) (v := nI m) (by omega) (by omega)
    obtain ⟨p1, p2, p3, p4⟩ := frame (S := NO_) (J := fun j => j = 3) (g' := si g 96 3 (nI m)) (FM.place rfl) (fun _ z => z.elim) (fun j z => by omega)
    refine ⟨_, d, rfl, ⟨p1, p2, ?_, ?_, ?_, ?_, p3, p4⟩, by omega⟩
    · rw [hv]; exact WFG_set w (by omega) (by omega) (by omega)
    · rw [hv, core_set _ (by omega), hco]
    · rw [hv]; exact (sSet_n _ _ (by omega)).trans hw
    · rw [hv]; exact (sSet_n _ _ (by omega)).trans hd
  · rw [if_neg (by decide), if_neg (by decide), if_neg (by decide), if_neg (by decide), if_pos rfl]
    unfold f_X7_goPlan_J9 f_X7_goPlan_J29
    rw [if_neg (by decide), if_neg (by decide), if_pos rfl, B7_placeOf hk3 hk8, bo_s, ← hco, sPl_core, sK_core, hK]
    cases hpl : sPl (mv g) (nI m) with
    | some i =>
      have hi := (sPl_lt hpl).1
      rw [if_pos (show (0 : Int32) ≤ rD (some i) (-5) by show nI 0 ≤ nI i; rw [le_n (by omega) (by omega)]; omega), if_neg (by decide), if_neg (by simp)]
      exact ⟨g, d, rfl, ⟨hC, h31, w, hco, hw, hd, kp, f0⟩, by omega⟩
    | none =>
      rw [if_neg (show ¬ (0 : Int32) ≤ rD none (-5) by decide), if_pos rfl, hk8]
      by_cases z : k < 3
      · rw [if_neg (by rw [show (3 : Int32) = nI 3 from rfl, le_n (by omega) (by omega)]; omega), B7_hoists z hk8, bo_s, if_neg (by decide), if_pos z]
        have hv := mv_ho (h := g) (k := k) (p := nI m) z hk8
        have fr : FM (fun c => c = 103) (fun j => j = 1) g (si (si g 103 k (nI m)) 96 1 (nI (k + 1))) := (FM.cell (S := fun c => c = 103) (J := fun j => j = 1) (by omega) rfl).trans (FM.place (S := fun c => c = 103) (J := fun j => j = 1) rfl) (fun _ q => q) (fun _ q => q) (fun _ q => q) (fun _ q => q)
        obtain ⟨p1, p2, p3, p4⟩ := frame fr (fun _ z => z) (fun j z => by omega)
        refine ⟨_, d, rfl, ⟨p1, p2, ?_, ?_, ?_, ?_, p3, p4⟩, by omega⟩
        · rw [hv]; exact WFG_ho w (by omega) (by omega)
        · rw [hv, core_ho]
        · rw [hv]; exact (sHo_n _ _ (by omega)).trans hw
        · rw [hv]; exact (sHo_n _ _ (by omega)).trans hd
      · rw [if_pos (by rw [show (3 : Int32) = nI 3 from rfl, le_n (by omega) (by omega)]; omega), if_neg (by decide), if_neg z]
        exact ⟨g, d, rfl, ⟨hC, h31, w, hco, hw, hd, kp, f0⟩, by omega⟩
  · rw [if_neg (by decide), if_neg (by decide), if_neg (by decide), if_neg (by decide), if_neg (by decide)]
    unfold f_X7_goPlan_J9 f_X7_goPlan_J29
    rw [if_neg (by decide), if_neg (by decide), if_neg (by decide), if_pos rfl, lt_e]
    have hv := mv_cut (h := g) (k := k) (i := 0) hk3 hk8 (by omega)
    obtain ⟨t, ht, et⟩ := w.2
    obtain ⟨p1, p2, p3, p4⟩ := frame (S := NO_) (J := fun j => j = 1) (g' := si g 96 1 0) (FM.place rfl) (fun _ z => z.elim) (fun j z => by omega)
    refine ⟨_, d, rfl, ⟨p1, p2, ?_, ?_, ?_, ?_, p3, p4⟩, by omega⟩
    · rw [show mv (si g 96 1 0) = _ from hv]; exact ⟨WFE_cut w.1 (Nat.zero_le _), t, ht, (sCut_n _ (by omega)).trans et⟩
    · rw [show mv (si g 96 1 0) = _ from hv, core_cut, hco]
    · rw [show mv (si g 96 1 0) = _ from hv]; exact (sCut_n _ (by omega)).trans hw
    · rw [show mv (si g 96 1 0) = _ from hv]; exact (sCut_n _ (by omega)).trans hd
/-- the rows of a plan, as both hold them -/
def PLN (n np : Nat) (r : Nat → Int32 × Int32) (h : HP) : Prop := np ≤ 10 ∧ h.1 33 2 = nI np ∧ h.1 96 51 = nI np ∧ ∀ i, i < np → h.1 34 i = (r i).1 ∧ h.1 35 i = (r i).2 ∧ h.1 123 i = (r i).1 ∧ h.1 124 i = (r i).2 ∧ PRw n (r i).1 (r i).2
def eR (O : OS) (x : Int32) (s : AS × Nat) : Int32 := if x = 0 then nI s.2 else sHeight O s.1
theorem B1_ends_L24 {O : OS} {n np : Nat} {r : Nat → Int32 × Int32} (hn : n ≤ 6) (x1 : Int32) : ∀ (c i d : Nat) (s : AS × Nat) (g : HP) (fuel : Nat), i + c = np → c < fuel → d + c < 900000 → s.2 ≤ 267 * i → np ≤ 10 → g.1 33 2 = nI np → (∀ i, i < np → g.1 34 i = (r i).1 ∧ g.1 35 i = (r i).2 ∧ PRw n (r i).1 (r i).2) → CT O n s d g → ∃ g', f_X6_ends_L24 fuel x1 (nI i) g = some (eR O x1 (eF O r c i s), g') ∧ Fc (SD 22) g g' := by
  intro c
  induction c with
  | zero =>
    intro i d s g fuel hi hf hd hs hnp h33 hr ct
    obtain ⟨f, rfl⟩ : ∃ f, fuel = f + 1 := ⟨fuel - 1, by omega⟩
    refine ⟨g, ?_, Fc.rf⟩
    rw [f_X6_ends_L24, h33, if_pos (by rw [le_n (by omega) (by omega)]; omega)]
    obtain ⟨hC, w, hco, hw, hd, hp⟩ := ct
    simp only [eF, eR]
    by_cases z : x1 = 0
    · rw [if_pos z, if_pos z, ← hw, dv_s 22 g (by omega)]
    · rw [if_neg z, if_neg z, B1_height hC w.1, bo_s, ← hco, sHeight_core]
  | succ c ih =>
    intro i d s g fuel hi hf hd hs hnp h33 hr ct
    obtain ⟨f, rfl⟩ : ∃ f, fuel = f + 1 := ⟨fuel - 1, by omega⟩
    obtain ⟨r1, r2, r3⟩ := hr i (by omega)
    obtain ⟨g1, d1, e1, ct1, hd1, hs1, fr1⟩ := CT_step hn r3 ct (by omega) (by omega)
    have cc : ∀ c, 30 ≤ c → c ≤ 47 → g1.1 c = g.1 c := fun c a b => fr1.1 c (by unfold SD isF; omega)
    obtain ⟨g2, e2, fr2⟩ := ih (i + 1) d1 (eS O (r i).1 (r i).2 s) g1 f (by omega) (by omega) (by omega) (by omega) hnp (by rw [cc 33 (by omega) (by omega)]; exact h33) (by rw [cc 34 (by omega) (by omega), cc 35 (by omega) (by omega)]; exact hr) ct1
    refine ⟨g2, ?_, fr1.trans fr2 (fun _ q => q) (fun _ q => q)⟩
    rw [f_X6_ends_L24, h33, if_neg (by rw [le_n (by omega) (by omega)]; omega), gd_b (inb_n (by omega) (by omega)), gd_b (inb_n (by omega) (by omega)), cl_n (by omega), r1, r2, e1, bo_s, lt_e, one_n]
    exact e2
theorem B7_ends_L18 {O : OS} {h0 : HP} {w0 n np : Nat} {r : Nat → Int32 × Int32} (hn : n ≤ 6) (hw0 : w0 ≤ 99999) (h37 : h0.1 96 4 = nI w0) (hnp : np ≤ 10) (h51 : h0.1 96 51 = nI np) (hr : ∀ i, i < np → h0.1 123 i = (r i).1 ∧ h0.1 124 i = (r i).2 ∧ PRw n (r i).1 (r i).2) (x1 : Int32) : ∀ (c i d : Nat) (s : AS × Nat) (g : HP) (fuel : Nat), i + c = np → c < fuel → d + c < 900000 → s.2 ≤ 267 * i → MT O h0 w0 s d g → ∃ g', f_X7_ends_L18 fuel x1 (nI i) g = some (eR O x1 (eF O r c i s), g') ∧ BZ h0 g' := by
  intro c
  induction c with
  | zero =>
    intro i d s g fuel hi hf hd hs ct
    obtain ⟨f, rfl⟩ : ∃ f, fuel = f + 1 := ⟨fuel - 1, by omega⟩
    obtain ⟨hC, h31, w, hco, hw, hd, kp, f0⟩ := ct
    obtain ⟨g1, e1, b1, b2, b3, b4⟩ := B7_putBack kp f0
    have b : BZ h0 g1 := BK.z ⟨b1, b2, b3, f0.trans b4 (fun _ z => z) (fun c z => show AC c by unfold BC at z; unfold AC; omega) (fun _ z => z) (fun j z => show AJ j by unfold BJ at z; unfold AJ; omega)⟩
    have e51 : g.1 96 51 = nI np := (f0.2.1 51 (by unfold AJ; omega)).trans h51
    have hw4 : g.1 96 4 = nI (w0 + s.2) := (mv_s g (show 4 < 6 by omega)).symm.trans hw
    have hk : g.1 96 37 = nI w0 := (kp.1 3 (by omega)).trans h37
    rw [f_X7_ends_L18, e51, if_pos (by rw [le_n (by omega) (by omega)]; omega)]
    simp only [eF, eR]
    refine ⟨g1, ?_, b⟩
    by_cases z : x1 = 0
    · rw [if_pos z, if_pos z, lt_e, e1, bo_s, hw4, hk, sub_n (by omega), Nat.add_sub_cancel_left]
    · rw [if_neg z, if_neg z, B7_height hC w.1, bo_s, e1, bo_s, ← hco, sHeight_core]
  | succ c ih =>
    intro i d s g fuel hi hf hd hs ct
    obtain ⟨f, rfl⟩ : ∃ f, fuel = f + 1 := ⟨fuel - 1, by omega⟩
    obtain ⟨r1, r2, r3⟩ := hr i (by omega)
    have f0 := ct.2.2.2.2.2.2.2
    have hg := cGain_le ct.1.2.2 ct.2.2.1 ct.2.2.2.1
    have e51 : g.1 96 51 = nI np := (f0.2.1 51 (by unfold AJ; omega)).trans h51
    have e123 : g.1 123 i = (r i).1 := by rw [f0.1 123 (by omega) (by unfold AC; omega)]; exact r1
    have e124 : g.1 124 i = (r i).2 := by rw [f0.1 124 (by omega) (by unfold AC; omega)]; exact r2
    obtain ⟨g1, d1, e1, ct1, hd1⟩ := MT_step hn r3 ct (by omega) hw0 (by omega)
    have hs1 : (eS O (r i).1 (r i).2 s).2 ≤ s.2 + 267 := by
      unfold eS
      split
      · show s.2 + cGain O s.1 ≤ _; omega
      · split
        · show s.2 ≤ _; omega
        · split
          · show s.2 ≤ _; omega
          · split
            · split
              · split
                · show s.2 ≤ _; omega
                · omega
              · omega
            · show s.2 ≤ _; omega
    obtain ⟨g2, e2, fr2⟩ := ih (i + 1) d1 (eS O (r i).1 (r i).2 s) g1 f (by omega) (by omega) (by omega) (by omega) ct1
    refine ⟨g2, ?_, fr2⟩
    rw [f_X7_ends_L18, e51, if_neg (by rw [le_n (by omega) (by omega)]; omega), gd_b (inb_n (by omega) (by omega)), gd_b (inb_n (by omega) (by omega)), cl_n (by omega), e123, e124, e1, bo_s, lt_e, one_n]
    exact e2
theorem C_ends {O : OS} {h : HP} {n np : Nat} {r : Nat → Int32 × Int32} (q : AQ O h) (hn : h.1 6 7 = nI n) (hn6 : n ≤ 6) (p : PLN n np r h) (x1 : Int32) : ∃ r h1 h2, f_X6_ends x1 h = some (r, h1) ∧ f_X7_ends x1 h1 = some (r, h2) ∧ AZ h h2 := by
  rcases rngc x1 (lo := 0) (hi := 1) 0 1 rfl rfl (by omega) (by omega) with ⟨hz, -⟩ | ⟨j, -, hj, rfl, ho⟩
  · refine halves q (fun _ => -1) (fun _ => ⟨h, ?_, FC.rf⟩) (fun g qm => ⟨g, ?_, qm.rf⟩)
    · unfold f_X6_ends; rw [E_within, bo_s, hz, if_pos rfl]
    · unfold f_X7_ends; rw [E_in, bo_s, hz, if_pos rfl]
  · obtain ⟨p1, p2, p3, p4⟩ := p
    obtain ⟨w0, d0, g, hw0, hd0, ew, ed, e, hC, ev, cs, fc⟩ := ask6 q.qc
    have cc : ∀ c, 30 ≤ c → c ≤ 47 → g.1 c = h.1 c := fun c a b => fc.1.1 c (by unfold SD isF; omega)
    have ct : CT O n (core (dv 6 h), 0) d0 g := ⟨hC, cs.2.1, cs.2.2.1, cs.2.2.2.1, cs.2.2.2.2.1, by rw [ev]; exact (sSet_n _ _ (by omega)).trans ((dv_s 6 h (show 0 < 6 by omega)).trans hn)⟩
    obtain ⟨g1, e1, fr1⟩ := B1_ends_L24 (O := O) (np := np) (r := r) hn6 (nI j) np 0 d0 (core (dv 6 h), 0) g FZ (by omega) (by have := FZ_ge; omega) (by omega) (by omega) p1 (by rw [cc 33 (by omega) (by omega)]; exact p2) (fun i hi => by rw [cc 34 (by omega) (by omega), cc 35 (by omega) (by omega)]; exact ⟨(p4 i hi).1, (p4 i hi).2.1, (p4 i hi).2.2.2.2⟩) ct
    have fc1 := fc.trans (FC.fc fr1)
    obtain ⟨qm, em⟩ := q.qm fc1
    obtain ⟨w1, d1, g2, hw1, hd1, ew1, ed1, e2, ev2, ma⟩ := ask7 qm
    have mt : MT O g1 w1 (core (dv 6 h), 0) d1 g2 := ⟨ma.1.1, ma.1.2.1, ma.1.2.2.1, by rw [ev2, em], by rw [ev2]; exact ew1, by rw [ev2]; exact ed1, ma.2.1, ma.2.2⟩
    have c9 : ∀ c, 96 ≤ c → g1.1 c = h.1 c := fun c a => fc1.1.1 c (SD22_big a)
    obtain ⟨g3, e3, b3⟩ := B7_ends_L18 (O := O) (h0 := g1) (w0 := w1) (np := np) (r := r) hn6 hw1 ((mv_s g1 (show 4 < 6 by omega)).symm.trans ew1) p1 (by rw [c9 96 (by omega)]; exact p3) (fun i hi => by rw [c9 123 (by omega), c9 124 (by omega)]; exact (p4 i hi).2.2) (nI j) np 0 d1 (core (dv 6 h), 0) g2 FZ (by omega) (by have := FZ_ge; omega) (by omega) (by omega) mt
    refine ⟨eR O (nI j) (eF O r np 0 (core (dv 6 h), 0)), g1, g3, ?_, ?_, g1, fc1, b3⟩
    · unfold f_X6_ends; rw [E_within, bo_s, ho, if_neg one_ne, e, bo_s]; exact e1
    · unfold f_X7_ends; rw [E_in, bo_s, ho, if_neg one_ne, e2, bo_s]; exact e3
