/-! a deck as numbers alone: scalars (pieces, stands, sail, stays, went, day), rows (kind, v, length, wear, broke, rows, mast) -/
abbrev AS : Type := (Nat → Int32) × (Nat → Nat → Int32)
abbrev OS : Type := Int32 × Int32 × (List Int32 → Int32)
def wdt (s : Int32) (i : Nat) : Nat := if i < 5 then 6 else if i = 5 then 24 else if i = 6 then min 3 s.toNatClampNeg else 0
def dv (o : Nat) (h : HP) : AS := (fun j => if j < 6 then h.1 o (7 + j) else 0, fun i j => if j < wdt (h.1 o 8) i then h.1 (o + (i + 1)) j else 0)
def mv (h : HP) : AS := (fun j => if j < 6 then h.1 96 j else 0, fun i j => if j < wdt (h.1 96 1) i then h.1 (97 + i) j else 0)
def mx0 (x : Int32) : Int32 := if 0 < x then x else 0
def mn (x c : Int32) : Int32 := if x < c then x else c
/-- the facts of a piece that a heart asks for -/
def sFacts (a : AS) (p : Nat) : List Int32 := [nI p, a.2 0 p, a.2 1 p, a.2 2 p / 10, a.2 3 p / 10, a.1 5 - a.1 5 / 10 * 10]
def sStr (O : OS) (a : AS) (p : Nat) : Int32 :=
  let t := O.2.2 (sFacts a p)
  mx0 (if a.2 0 p = 1 then t / 2 - a.2 3 p else if a.2 0 p = 2 then t - a.2 3 p + 10 else if a.2 0 p = 3 then t - a.2 3 p + a.2 1 p else if a.2 0 p = 4 then t / 2 - a.2 3 p + 2 * a.1 3 else if a.2 0 p = 5 then t - a.2 3 p + (10 - a.2 3 p) else if a.2 0 p = 6 then t - a.2 3 p + (a.2 1 p + a.2 5 (4 * p + (a.1 5).toNatClampNeg % 4)) else t - a.2 3 p)
def sSum (a : AS) : Nat → Nat → Int32 → Int32
  | 0, _, s => s
  | c + 1, i, s => sSum a c (i + 1) (s + a.2 2 (a.2 6 i).toNatClampNeg)
def sK (a : AS) : Nat := (a.1 1).toNatClampNeg
def sAbove (O : OS) (a : AS) (i : Nat) : Int32 := if sSum a (sK a - i) i 0 ≤ O.2.1 * (a.1 1 - 1 - nI i) then 0 else sSum a (sK a - i) i 0 - O.2.1 * (a.1 1 - 1 - nI i)
def sHeight (O : OS) (a : AS) : Int32 := if a.1 1 = 0 then 0 else sAbove O a 0
def sLoad (O : OS) (a : AS) (i : Nat) : Int32 := mx0 (sAbove O a i * a.1 2 / 5 + O.1 - 3 * a.1 3)
def sMiles (O : OS) (a : AS) : Int32 := sHeight O a * a.1 2 / 10
def sBrkF (O : OS) (a : AS) : Nat → Nat → Option Nat
  | 0, _ => none
  | c + 1, i => if sLoad O a i ≤ sStr O a (a.2 6 i).toNatClampNeg then sBrkF O a c (i + 1) else some i
def sBrk (O : OS) (a : AS) : Option Nat := sBrkF O a (sK a) 0
def sSet (a : AS) (j : Nat) (v : Int32) : AS := (va_up a.1 j v, a.2)
def sPut (a : AS) (i j : Nat) (v : Int32) : AS := (a.1, va_up a.2 i (va_up (a.2 i) j v))
def sCut (a : AS) (k : Nat) : AS := (va_up a.1 1 (nI k), va_up a.2 6 (fun j => if j < k then a.2 6 j else 0))
def sWearF (O : OS) : Nat → Nat → AS → AS
  | 0, _, a => a
  | c + 1, i, a => sWearF O c (i + 1) (sPut a 3 (a.2 6 i).toNatClampNeg (mn (a.2 3 (a.2 6 i).toNatClampNeg + sLoad O a i / 10) 99))
/-- a day: which piece breaks, and how all is then; cm, cb: the most miles, the most times -/
def sDay (cm cb : Int32) (O : OS) (a : AS) : Option Nat × AS :=
  match sBrk O a with
  | none => (none, sWearF O (sK a) 0 (sSet (sSet a 5 (a.1 5 + 1)) 4 (mn (a.1 4 + sMiles O a) cm)))
  | some i =>
    let p := (a.2 6 i).toNatClampNeg
    (some p, sCut (sPut (sPut (sPut (sSet a 5 (a.1 5 + 1)) 2 p (a.2 2 p / 2)) 3 p 0) 4 p (mn (a.2 4 p + 1) cb)) i)
/-- what the engine needs of a deck -/
def WFE (a : AS) : Prop := (∃ k, k ≤ 3 ∧ a.1 1 = nI k ∧ ∀ j, j < k → ∃ m, m < 6 ∧ a.2 6 j = nI m) ∧ (∀ p, p < 6 → ∃ l, l ≤ 99 ∧ a.2 2 p = nI l) ∧ (∃ d, d < 1000000 ∧ a.1 5 = nI d)
def isD (o : Nat) : Prop := o = 6 ∨ o = 14 ∨ o = 22
theorem dv_s (o : Nat) (h : HP) {j : Nat} (hj : j < 6) : (dv o h).1 j = h.1 o (7 + j) := if_pos hj
theorem dv_a (o : Nat) (h : HP) {i j : Nat} (hi : i < 5) (hj : j < 6) : (dv o h).2 i j = h.1 (o + (i + 1)) j := by
  show (if j < wdt _ i then _ else _) = _
  rw [if_pos (by unfold wdt; rw [if_pos hi]; exact hj)]
theorem dv_r (o : Nat) (h : HP) {j : Nat} (hj : j < 24) : (dv o h).2 5 j = h.1 (o + 6) j := if_pos hj
theorem wdt6 {s : Int32} {k : Nat} (hk : k ≤ 3) (hs : s = nI k) : wdt s 6 = k := by
  subst hs
  show min 3 (nI k).toNatClampNeg = k
  rw [cl_n (by omega)]
  omega
theorem dv_m (o : Nat) (h : HP) {k j : Nat} (hk : k ≤ 3) (hs : h.1 o 8 = nI k) (hj : j < k) : (dv o h).2 6 j = h.1 (o + 7) j := by
  show (if j < wdt _ 6 then _ else _) = _
  rw [wdt6 hk hs, if_pos hj]
theorem mv_s (h : HP) {j : Nat} (hj : j < 6) : (mv h).1 j = h.1 96 j := if_pos hj
theorem mv_a (h : HP) {i j : Nat} (hi : i < 5) (hj : j < 6) : (mv h).2 i j = h.1 (97 + i) j := by
  show (if j < wdt _ i then _ else _) = _
  rw [if_pos (by unfold wdt; rw [if_pos hi]; exact hj)]
theorem mv_r (h : HP) {j : Nat} (hj : j < 24) : (mv h).2 5 j = h.1 102 j := if_pos hj
theorem mv_m (h : HP) {k j : Nat} (hk : k ≤ 3) (hs : h.1 96 1 = nI k) (hj : j < k) : (mv h).2 6 j = h.1 103 j := by
  show (if j < wdt _ 6 then _ else _) = _
  rw [wdt6 hk hs, if_pos hj]
theorem dv_fr {o : Nat} {h h' : HP} (hc : ∀ c, o ≤ c → c ≤ o + 7 → h'.1 c = h.1 c) : dv o h' = dv o h := by
  unfold dv
  congr 1
  · funext j; rw [hc o (by omega) (by omega)]
  · funext i j
    rw [hc o (by omega) (by omega)]
    by_cases hj : j < wdt (h.1 o 8) i
    · rw [if_pos hj, if_pos hj]
      have hi : i < 7 := by
        unfold wdt at hj
        by_cases q : i < 7
        · exact q
        · rw [if_neg (by omega), if_neg (by omega), if_neg (by omega)] at hj; omega
      rw [hc (o + (i + 1)) (by omega) (by omega)]
    · rw [if_neg hj, if_neg hj]
theorem mv_fr {h h' : HP} (h0 : ∀ j, j < 6 → h'.1 96 j = h.1 96 j) (hc : ∀ c, 97 ≤ c → c ≤ 103 → h'.1 c = h.1 c) : mv h' = mv h := by
  unfold mv
  congr 1
  · funext j
    by_cases hj : j < 6
    · rw [if_pos hj, if_pos hj, h0 j hj]
    · rw [if_neg hj, if_neg hj]
  · funext i j
    rw [h0 1 (by omega)]
    by_cases hj : j < wdt (h.1 96 1) i
    · rw [if_pos hj, if_pos hj]
      have hi : i < 7 := by
        unfold wdt at hj
        by_cases q : i < 7
        · exact q
        · rw [if_neg (by omega), if_neg (by omega), if_neg (by omega)] at hj; omega
      rw [hc (97 + i) (by omega) (by omega)]
    · rw [if_neg hj, if_neg hj]
/-- writing into a deck -/
theorem dv_set {o : Nat} {h : HP} {j : Nat} {v : Int32} (hj : j < 6) (h1 : j ≠ 1) : dv o (si h o (7 + j) v) = sSet (dv o h) j v := by
  have e8 : (si h o (7 + j) v).1 o 8 = h.1 o 8 := by rw [si_w, up_n _ _ (by omega)]
  refine Prod.ext (funext fun x => ?_) (funext fun i => funext fun x => ?_)
  · show (if x < 6 then (si h o (7 + j) v).1 o (7 + x) else 0) = va_up (fun j => if j < 6 then h.1 o (7 + j) else 0) j v x
    rw [si_w]
    by_cases hxj : x = j
    · subst hxj; rw [up_s, up_s, if_pos hj]
    · rw [up_n _ _ (by omega), up_n _ _ hxj]
  · show (if x < wdt ((si h o (7 + j) v).1 o 8) i then (si h o (7 + j) v).1 (o + (i + 1)) x else 0) = (if x < wdt (h.1 o 8) i then h.1 (o + (i + 1)) x else 0)
    rw [e8, si_r (by omega)]
theorem dv_put {o : Nat} {h : HP} {i j : Nat} {v : Int32} (hi : i < 5) (hj : j < 6) : dv o (si h (o + (i + 1)) j v) = sPut (dv o h) i j v := by
  have e0 : (si h (o + (i + 1)) j v).1 o = h.1 o := si_r (by omega)
  refine Prod.ext (funext fun x => ?_) (funext fun y => funext fun x => ?_)
  · show (if x < 6 then (si h (o + (i + 1)) j v).1 o (7 + x) else 0) = (if x < 6 then h.1 o (7 + x) else 0)
    rw [e0]
  · show (if x < wdt ((si h (o + (i + 1)) j v).1 o 8) y then (si h (o + (i + 1)) j v).1 (o + (y + 1)) x else 0) = va_up (dv o h).2 i (va_up ((dv o h).2 i) j v) y x
    rw [e0]
    by_cases hy : y = i
    · subst hy
      have w6 : wdt (h.1 o 8) y = 6 := by unfold wdt; rw [if_pos hi]
      rw [w6, si_w, up_s]
      by_cases hx : x = j
      · subst hx; rw [up_s, up_s, if_pos hj]
      · rw [up_n _ _ hx, up_n _ _ hx]
        show _ = (if x < wdt (h.1 o 8) y then h.1 (o + (y + 1)) x else 0)
        rw [w6]
    · rw [si_r (by omega), up_n _ _ hy]
      rfl
theorem dv_cut {o : Nat} {h : HP} {k i : Nat} (hk : k ≤ 3) (hs : h.1 o 8 = nI k) (hi : i ≤ k) : dv o (si h o 8 (nI i)) = sCut (dv o h) i := by
  have e8 : (si h o 8 (nI i)).1 o 8 = nI i := by rw [si_w, up_s]
  refine Prod.ext (funext fun x => ?_) (funext fun y => funext fun x => ?_)
  · show (if x < 6 then (si h o 8 (nI i)).1 o (7 + x) else 0) = va_up (dv o h).1 1 (nI i) x
    by_cases hx : x = 1
    · subst hx; rw [up_s, if_pos (by omega)]; exact e8
    · rw [up_n _ _ hx, si_w, up_n _ _ (by omega)]
      rfl
  · show (if x < wdt ((si h o 8 (nI i)).1 o 8) y then (si h o 8 (nI i)).1 (o + (y + 1)) x else 0) = va_up (dv o h).2 6 (fun j => if j < i then (dv o h).2 6 j else 0) y x
    rw [e8, si_r (by omega)]
    by_cases hy : y = 6
    · subst hy
      rw [up_s, wdt6 (by omega) rfl]
      by_cases hx : x < i
      · rw [if_pos hx, if_pos hx, dv_m o h hk hs (by omega)]
      · rw [if_neg hx, if_neg hx]
    · rw [up_n _ _ hy]
      have hw : wdt (nI i) y = wdt (h.1 o 8) y := by unfold wdt; simp only [if_neg hy]
      rw [hw]
      rfl

theorem mv_set {h : HP} {j : Nat} {v : Int32} (hj : j < 6) (h1 : j ≠ 1) : mv (si h 96 j v) = sSet (mv h) j v := by
  have e8 : (si h 96 j v).1 96 1 = h.1 96 1 := by rw [si_w, up_n _ _ (by omega)]
  refine Prod.ext (funext fun x => ?_) (funext fun i => funext fun x => ?_)
  · show (if x < 6 then (si h 96 j v).1 96 x else 0) = va_up (fun j => if j < 6 then h.1 96 j else 0) j v x
    rw [si_w]
    by_cases hxj : x = j
    · subst hxj; rw [up_s, up_s, if_pos hj]
    · rw [up_n _ _ (by omega), up_n _ _ hxj]
  · show (if x < wdt ((si h 96 j v).1 96 1) i then (si h 96 j v).1 (97 + i) x else 0) = (if x < wdt (h.1 96 1) i then h.1 (97 + i) x else 0)
    rw [e8, si_r (by omega)]
theorem mv_put {h : HP} {i j : Nat} {v : Int32} (hi : i < 5) (hj : j < 6) : mv (si h (97 + i) j v) = sPut (mv h) i j v := by
  have e0 : (si h (97 + i) j v).1 96 = h.1 96 := si_r (by omega)
  refine Prod.ext (funext fun x => ?_) (funext fun y => funext fun x => ?_)
  · show (if x < 6 then (si h (97 + i) j v).1 96 x else 0) = (if x < 6 then h.1 96 x else 0)
    rw [e0]
  · show (if x < wdt ((si h (97 + i) j v).1 96 1) y then (si h (97 + i) j v).1 (97 + y) x else 0) = va_up (mv h).2 i (va_up ((mv h).2 i) j v) y x
    rw [e0]
    by_cases hy : y = i
    · subst hy
      have w6 : wdt (h.1 96 1) y = 6 := by unfold wdt; rw [if_pos hi]
      rw [w6, si_w, up_s]
      by_cases hx : x = j
      · subst hx; rw [up_s, up_s, if_pos hj]
      · rw [up_n _ _ hx, up_n _ _ hx]
        show _ = (if x < wdt (h.1 96 1) y then h.1 (97 + y) x else 0)
        rw [w6]
    · rw [si_r (by omega), up_n _ _ hy]
      rfl
theorem mv_cut {h : HP} {k i : Nat} (hk : k ≤ 3) (hs : h.1 96 1 = nI k) (hi : i ≤ k) : mv (si h 96 1 (nI i)) = sCut (mv h) i := by
  have e8 : (si h 96 1 (nI i)).1 96 1 = nI i := by rw [si_w, up_s]
  refine Prod.ext (funext fun x => ?_) (funext fun y => funext fun x => ?_)
  · show (if x < 6 then (si h 96 1 (nI i)).1 96 x else 0) = va_up (mv h).1 1 (nI i) x
    by_cases hx : x = 1
    · subst hx; rw [up_s, if_pos (by omega)]; exact e8
    · rw [up_n _ _ hx, si_w, up_n _ _ (by omega)]
      rfl
  · show (if x < wdt ((si h 96 1 (nI i)).1 96 1) y then (si h 96 1 (nI i)).1 (97 + y) x else 0) = va_up (mv h).2 6 (fun j => if j < i then (mv h).2 6 j else 0) y x
    rw [e8, si_r (by omega)]
    by_cases hy : y = 6
    · subst hy
      rw [up_s, wdt6 (by omega) rfl]
      by_cases hx : x < i
      · rw [if_pos hx, if_pos hx, mv_m h hk hs (by omega)]
      · rw [if_neg hx, if_neg hx]
    · rw [up_n _ _ hy]
      have hw : wdt (nI i) y = wdt (h.1 96 1) y := by unfold wdt; simp only [if_neg hy]
      rw [hw]
      rfl
