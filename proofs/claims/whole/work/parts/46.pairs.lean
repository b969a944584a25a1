/-! see, plan, book, looked -/
def SPq (c : Nat) : Prop := 30 ≤ c ∧ c ≤ 38 ∨ 121 ≤ c ∧ c ≤ 126
def JPq (j : Nat) : Prop := j = 48 ∨ j = 51 ∨ j = 52
theorem IVq.prs {O : OS} {n m : Nat} {T : Nat → OS} {h h' : HP} (v : IVq O n m T h) (f : Kq SPq JPq N_q N_q h h') (s : PRq 30 48 121 5 PSn h') (p : PRq 33 51 123 10 (PRw n) h') (b : PRq 36 52 125 8 (PBk n) h') : IVq O n m T h' := by
  obtain ⟨d, o, -, -, -, i, t, a, tp⟩ := v
  have c2 : ∀ c, ¬ (30 ≤ c ∧ c ≤ 38) → ¬ (121 ≤ c ∧ c ≤ 126) → ¬ SPq c := fun c a1 a2 z => by unfold SPq at z; omega
  have jj : ∀ j, j ≠ 48 → j ≠ 51 → j ≠ 52 → ¬ JPq j := fun j a1 a2 a3 z => by unfold JPq at z; omega
  exact ⟨d.kp f (fun c _ _ => c2 c (by omega) (by omega)) (fun c _ _ => c2 c (by omega) (by omega)) (fun j _ => jj j (by omega) (by omega) (by omega)) (jj _ (by omega) (by omega) (by omega)) (jj _ (by omega) (by omega) (by omega)),
    o.kp f (c2 _ (by omega) (by omega)) (fun c z => c2 c (by unfold OCcq at z; omega) (by unfold OCcq at z; omega)) (fun c _ _ => c2 c (by omega) (by omega)) (jj _ (by omega) (by omega) (by omega)) (jj _ (by omega) (by omega) (by omega)) (fun z => z),
    s, p, b,
    i.kp f (c2 _ (by omega) (by omega)) (fun c _ _ => c2 c (by omega) (by omega)) (fun c _ _ => c2 c (by omega) (by omega)) (fun c _ _ => c2 c (by omega) (by omega)) (fun j _ _ => jj j (by omega) (by omega) (by omega)) (fun z => z),
    t.kp f (c2 _ (by omega) (by omega)) (c2 _ (by omega) (by omega)) (c2 _ (by omega) (by omega)) (c2 _ (by omega) (by omega)) (jj _ (by omega) (by omega) (by omega)),
    a.kp f (c2 _ (by omega) (by omega)) (c2 _ (by omega) (by omega)) (c2 _ (by omega) (by omega)) (jj _ (by omega) (by omega) (by omega)),
    tp.kp f (fun c _ _ => ⟨c2 c (by omega) (by omega), fun z => z⟩) (fun c _ _ => ⟨c2 c (by omega) (by omega), fun z => z⟩)⟩
def ad6 (cs k : Nat) (x y : Int32) (h : HP) : HP := si (si (si h (cs + 1) k x) (cs + 2) k y) cs 2 (nI (k + 1))
def ad7 (pl ra k : Nat) (x y : Int32) (h : HP) : HP := si (si (si h ra k x) (ra + 1) k y) 96 pl (nI (k + 1))
theorem E_addq {o mx k : Nat} {h : HP} {x y : Int32} (ha : aln (o + 1) = mx) (hb : aln (o + 2) = mx) (hmx : mx ≤ 10) (e : h.1 o 2 = nI k) (hk : k ≤ mx) : f_X3_add o x y h = if k < mx then some (1, ad6 o k x y h) else some (0, h) := by
  unfold f_X3_add
  rw [ha, hb, e]
  by_cases z : k < mx
  · rw [if_pos z, if_pos (show nI k < Int32.ofNat mx from (lt_n (by omega) (by omega)).mpr z), gd_b (inb_n z (by omega)), cl_n (by omega), lt_e, si_r (show o ≠ o + 1 by omega), e, gd_b (inb_n z (by omega)), cl_n (by omega), lt_e, si_r (show o ≠ o + 2 by omega), si_r (show o ≠ o + 1 by omega), e, one_n, lt_e]
    rfl
  · rw [if_neg z, if_neg (show ¬ nI k < Int32.ofNat mx from fun q => z ((lt_n (a := k) (b := mx) (by omega) (by omega)).mp q))]
theorem PRq.add {cs pl ra mx k : Nat} {P : Int32 → Int32 → Prop} {h : HP} {x y : Int32} (p : PRq cs pl ra mx P h) (e : h.1 cs 2 = nI k) (hk : k < mx) (hmx : mx ≤ 10) (hc : cs + 2 < 96) (hr : 96 < ra) (hP : P x y) : PRq cs pl ra mx P (ad7 pl ra k x y (ad6 cs k x y h)) := by
  obtain ⟨k', p1, p2, p3, p4⟩ := p
  have ek : k' = k := (eq_n (by omega) (by omega)).mp (p2.symm.trans e)
  subst ek
  unfold ad7 ad6
  refine ⟨k' + 1, by omega, ?_, ?_, fun i hi => ?_⟩
  · simp only [si_r (show cs ≠ 96 by omega), si_r (show cs ≠ ra + 1 by omega), si_r (show cs ≠ ra by omega), si_w, up_s]
  · simp only [si_w, up_s]
  · simp only [si_r (show cs + 1 ≠ 96 by omega), si_r (show cs + 1 ≠ ra + 1 by omega), si_r (show cs + 1 ≠ ra by omega), si_r (show cs + 1 ≠ cs by omega), si_r (show cs + 1 ≠ cs + 2 by omega), si_r (show cs + 2 ≠ 96 by omega), si_r (show cs + 2 ≠ ra + 1 by omega), si_r (show cs + 2 ≠ ra by omega), si_r (show cs + 2 ≠ cs by omega), si_r (show ra ≠ 96 by omega), si_r (show ra ≠ ra + 1 by omega), si_r (show ra + 1 ≠ 96 by omega), si_w]
    simp only [si_r (show ra ≠ cs by omega), si_r (show ra ≠ cs + 2 by omega), si_r (show ra ≠ cs + 1 by omega), si_r (show ra + 1 ≠ ra by omega), si_r (show ra + 1 ≠ cs by omega), si_r (show ra + 1 ≠ cs + 2 by omega), si_r (show ra + 1 ≠ cs + 1 by omega), si_r (show cs + 2 ≠ cs + 1 by omega)]
    by_cases z : i = k'
    · subst z
      simp only [up_s]
      exact ⟨trivial, trivial, hP⟩
    · simp only [up_n _ _ z]
      exact p4 i (by omega)
theorem ad_kq {cs pl ra k : Nat} {x y : Int32} {h : HP} (h1 : 30 ≤ cs ∧ cs ≤ 36) (h2 : 121 ≤ ra ∧ ra ≤ 125) (hJ : JPq pl) : Kq SPq JPq N_q N_q h (ad7 pl ra k x y (ad6 cs k x y h)) := by
  unfold ad7 ad6
  exact (((((Kq.rf.wr (by omega) (by unfold SPq; omega)).wr (by omega) (by unfold SPq; omega)).wr (by omega) (by unfold SPq; omega)).wr (by omega) (by unfold SPq; omega)).wr (by omega) (by unfold SPq; omega)).pl hJ
/-- the same frame, cell by cell -/
theorem ad_k1 {cs pl ra k : Nat} {x y : Int32} {h : HP} : Kq (fun c => (cs ≤ c ∧ c ≤ cs + 2) ∨ ra ≤ c ∧ c ≤ ra + 1) (fun j => j = pl) N_q N_q h (ad7 pl ra k x y (ad6 cs k x y h)) ∨ cs + 2 ≥ 96 ∨ ra ≤ 96 := by
  by_cases z : cs + 2 < 96 ∧ 96 < ra
  · left
    unfold ad7 ad6
    exact (((((Kq.rf.wr (by omega) (by omega)).wr (by omega) (by omega)).wr (by omega) (by omega)).wr (by omega) (by omega)).wr (by omega) (by omega)).pl rfl
  · right; omega
theorem PRq.clear {cs pl ra mx : Nat} {P : Int32 → Int32 → Prop} {h : HP} (hc : cs < 96) : PRq cs pl ra mx P (si (si h cs 2 0) 96 pl 0) :=
  ⟨0, by omega, by rw [si_r (by omega), si_w, up_s]; rfl, by rw [si_w, up_s]; rfl, fun i hi => by omega⟩
theorem IVq.ads {O : OS} {n m : Nat} {T : Nat → OS} {h : HP} {k : Nat} {x y : Int32} (v : IVq O n m T h) (e : h.1 30 2 = nI k) (hk : k < 5) (hP : PSn x y) : IVq O n m T (ad7 48 121 k x y (ad6 30 k x y h)) := by
  rcases ad_k1 (cs := 30) (pl := 48) (ra := 121) (k := k) (x := x) (y := y) (h := h) with f | f
  · exact v.prs (ad_kq ⟨by omega, by omega⟩ ⟨by omega, by omega⟩ (Or.inl rfl)) (v.2.2.1.add e hk (by omega) (by omega) (by omega) hP) (v.2.2.2.1.kp f (by omega) (by omega) (fun c _ _ => by omega) (fun c _ _ => by omega) (by omega)) (v.2.2.2.2.1.kp f (by omega) (by omega) (fun c _ _ => by omega) (fun c _ _ => by omega) (by omega))
  · omega
theorem IVq.adp {O : OS} {n m : Nat} {T : Nat → OS} {h : HP} {k : Nat} {x y : Int32} (v : IVq O n m T h) (e : h.1 33 2 = nI k) (hk : k < 10) (hP : PRw n x y) : IVq O n m T (ad7 51 123 k x y (ad6 33 k x y h)) := by
  rcases ad_k1 (cs := 33) (pl := 51) (ra := 123) (k := k) (x := x) (y := y) (h := h) with f | f
  · exact v.prs (ad_kq ⟨by omega, by omega⟩ ⟨by omega, by omega⟩ (Or.inr (Or.inl rfl))) (v.2.2.1.kp f (by omega) (by omega) (fun c _ _ => by omega) (fun c _ _ => by omega) (by omega)) (v.2.2.2.1.add e hk (by omega) (by omega) (by omega) hP) (v.2.2.2.2.1.kp f (by omega) (by omega) (fun c _ _ => by omega) (fun c _ _ => by omega) (by omega))
  · omega
theorem IVq.adb {O : OS} {n m : Nat} {T : Nat → OS} {h : HP} {k : Nat} {x y : Int32} (v : IVq O n m T h) (e : h.1 36 2 = nI k) (hk : k < 8) (hP : PBk n x y) : IVq O n m T (ad7 52 125 k x y (ad6 36 k x y h)) := by
  rcases ad_k1 (cs := 36) (pl := 52) (ra := 125) (k := k) (x := x) (y := y) (h := h) with f | f
  · exact v.prs (ad_kq ⟨by omega, by omega⟩ ⟨by omega, by omega⟩ (Or.inr (Or.inr rfl))) (v.2.2.1.kp f (by omega) (by omega) (fun c _ _ => by omega) (fun c _ _ => by omega) (by omega)) (v.2.2.2.1.kp f (by omega) (by omega) (fun c _ _ => by omega) (fun c _ _ => by omega) (by omega)) (v.2.2.2.2.1.add e hk (by omega) (by omega) (by omega) hP)
  · omega
theorem IVq.cls {O : OS} {n m : Nat} {T : Nat → OS} {h : HP} {cs pl : Nat} (v : IVq O n m T h) (z : cs = 30 ∧ pl = 48 ∨ cs = 33 ∧ pl = 51 ∨ cs = 36 ∧ pl = 52) : IVq O n m T (si (si h cs 2 0) 96 pl 0) := by
  have f : Kq (fun c => c = cs) (fun j => j = pl) N_q N_q h (si (si h cs 2 0) 96 pl 0) := Kq.pl (Kq.wr Kq.rf (show cs ≠ 96 by omega) (show cs = cs from rfl)) (show pl = pl from rfl)
  have f2 : Kq SPq JPq N_q N_q h (si (si h cs 2 0) 96 pl 0) := (Kq.rf.wr (by omega) (by unfold SPq; omega)).pl (by unfold JPq; omega)
  refine v.prs f2 ?_ ?_ ?_
  · by_cases q : cs = 30
    · have : pl = 48 := by omega
      subst q; subst this; exact PRq.clear (by omega)
    · exact v.2.2.1.kp f (by omega) (by omega) (fun c _ _ => by omega) (fun c _ _ => by omega) (by omega)
  · by_cases q : cs = 33
    · have : pl = 51 := by omega
      subst q; subst this; exact PRq.clear (by omega)
    · exact v.2.2.2.1.kp f (by omega) (by omega) (fun c _ _ => by omega) (fun c _ _ => by omega) (by omega)
  · by_cases q : cs = 36
    · have : pl = 52 := by omega
      subst q; subst this; exact PRq.clear (by omega)
    · exact v.2.2.2.2.1.kp f (by omega) (by omega) (fun c _ _ => by omega) (fun c _ _ => by omega) (by omega)
theorem E_clearq (o : Nat) (h : HP) : f_X3_clear o h = some (0, si h o 2 0) := rfl
theorem ad6_c {cs k c : Nat} {x y : Int32} {h : HP} (hc : ¬ (cs ≤ c ∧ c ≤ cs + 2)) : (ad6 cs k x y h).1 c = h.1 c := by
  unfold ad6; rw [si_r (by omega), si_r (by omega), si_r (by omega)]
theorem ad6_s {cs k : Nat} {x y : Int32} {h : HP} : (ad6 cs k x y h).1 cs 2 = nI (k + 1) := by unfold ad6; rw [si_w, up_s]
theorem C_see {O : OS} {n m : Nat} {T : Nat → OS} {h : HP} (w : IVq O n m T h) (x1 x2 : Int32) : ∃ r h1 h2, f_X6_see x1 x2 h = some (r, h1) ∧ f_X7_see x1 x2 h1 = some (r, h2) ∧ IVxq h2 := by
  have stay : ∀ r, f_X6_see x1 x2 h = some (r, h) → f_X7_see x1 x2 h = some (r, h) → ∃ r h1 h2, f_X6_see x1 x2 h = some (r, h1) ∧ f_X7_see x1 x2 h1 = some (r, h2) ∧ IVxq h2 := fun r a b => ⟨r, h, h, a, b, O, n, m, T, w⟩
  by_cases z : x1 = -1
  · refine ⟨0, si h 30 2 0, si (si h 30 2 0) 96 48 0, ?_, ?_, O, n, m, T, w.cls (Or.inl ⟨rfl, rfl⟩)⟩
    · unfold f_X6_see; rw [if_pos z, E_clearq, bd_s]
    · unfold f_X7_see; rw [if_pos z, lt_e]
  · rcases rngc x1 (lo := 0) (hi := 3) 0 3 rfl rfl (by omega) (by omega) with ⟨q1, -⟩ | ⟨a, -, ha, rfl, q1⟩
    · refine stay (-2) ?_ ?_
      · unfold f_X6_see; rw [if_neg z, E_within, q1, bo_s, if_pos rfl]
      · unfold f_X7_see; rw [if_neg z, E_in, q1, bo_s, if_pos rfl]
    · rcases rngc x2 (lo := 0) (hi := 20) 0 20 rfl rfl (by omega) (by omega) with ⟨q2, -⟩ | ⟨b, -, hb, rfl, q2⟩
      · refine stay (-2) ?_ ?_
        · unfold f_X6_see; rw [if_neg z, E_within, q1, bo_s, if_neg one_ne, E_within, q2, bo_s, if_pos rfl]
        · unfold f_X7_see; rw [if_neg z, E_in, q1, bo_s, if_neg one_ne, E_in, q2, bo_s, if_pos rfl]
      · obtain ⟨k, hk, e6, e7, -⟩ := w.2.2.1
        have ea := E_addq (o := 30) (mx := 5) (k := k) (h := h) (x := nI a) (y := nI b) rfl rfl (by omega) e6 hk
        by_cases y : k < 5
        · rw [if_pos y] at ea
          have i5 := inb_n y (show (5 : Nat) < 2147483648 by omega)
          have e7' : (ad6 30 k (nI a) (nI b) h).1 96 48 = nI k := by rw [ad6_c (by omega)]; exact e7
          refine ⟨nI (k + 1), ad6 30 k (nI a) (nI b) h, ad7 48 121 k (nI a) (nI b) (ad6 30 k (nI a) (nI b) h), ?_, ?_, O, n, m, T, w.ads e6 y ⟨b, hb, rfl⟩⟩
          · unfold f_X6_see; rw [if_neg z, E_within, q1, bo_s, if_neg one_ne, E_within, q2, bo_s, if_neg one_ne, ea, bd_s, if_neg one_ne, ad6_s]
          · unfold f_X7_see; rw [if_neg z, E_in, q1, bo_s, if_neg one_ne, E_in, q2, bo_s, if_neg one_ne, e7', if_neg (by rw [show (5 : Int32) = nI 5 from rfl, eq_n (by omega) (by omega)]; omega), gd_b i5, cl_n (by omega), lt_e, si_r (show (96 : Nat) ≠ 121 by omega), e7', gd_b i5, cl_n (by omega), lt_e, si_r (show (96 : Nat) ≠ 122 by omega), si_r (show (96 : Nat) ≠ 121 by omega), e7', one_n, lt_e, si_w, up_s]; rfl
        · rw [if_neg y] at ea
          have e5 : k = 5 := by omega
          subst e5
          refine stay (-4) ?_ ?_
          · unfold f_X6_see; rw [if_neg z, E_within, q1, bo_s, if_neg one_ne, E_within, q2, bo_s, if_neg one_ne, ea, bd_s, if_pos rfl]
          · unfold f_X7_see; rw [if_neg z, E_in, q1, bo_s, if_neg one_ne, E_in, q2, bo_s, if_neg one_ne, e7, if_pos (show nI 5 = 5 from rfl)]
theorem C_book {O : OS} {n m : Nat} {T : Nat → OS} {h : HP} (w : IVq O n m T h) (x1 x2 : Int32) : ∃ r h1 h2, f_X6_book x1 x2 h = some (r, h1) ∧ f_X7_book x1 x2 h1 = some (r, h2) ∧ IVxq h2 := by
  have d := w.1
  have n6 := d.2.2.2.2.2.1
  have e0 := d.2.2.2.2.2.2
  have e9 := d.mv0
  have stay : ∀ r, f_X6_book x1 x2 h = some (r, h) → f_X7_book x1 x2 h = some (r, h) → ∃ r h1 h2, f_X6_book x1 x2 h = some (r, h1) ∧ f_X7_book x1 x2 h1 = some (r, h2) ∧ IVxq h2 := fun r a b => ⟨r, h, h, a, b, O, n, m, T, w⟩
  by_cases z : x1 = -1
  · refine ⟨0, si h 36 2 0, si (si h 36 2 0) 96 52 0, ?_, ?_, O, n, m, T, w.cls (Or.inr (Or.inr ⟨rfl, rfl⟩))⟩
    · unfold f_X6_book; rw [if_pos z, E_clearq, bd_s]
    · unfold f_X7_book; rw [if_pos z, lt_e]
  · rcases piecec x1 n6 with ⟨p1, p2, -⟩ | ⟨p, hp, rfl, p1, p2⟩
    · refine stay (-1) ?_ ?_
      · unfold f_X6_book; rw [if_neg z, E_hasq n h e0, p1, bo_s, if_pos rfl]
      · unfold f_X7_book; rw [if_neg z, E_isPq n h e9, p2, bo_s, if_pos rfl]
    · rcases rngc x2 (lo := 0) (hi := 99) 0 99 rfl rfl (by omega) (by omega) with ⟨q2, -⟩ | ⟨b, -, hb, rfl, q2⟩
      · refine stay (-2) ?_ ?_
        · unfold f_X6_book; rw [if_neg z, E_hasq n h e0, p1, bo_s, if_neg one_ne, E_within, q2, bo_s, if_pos rfl]
        · unfold f_X7_book; rw [if_neg z, E_isPq n h e9, p2, bo_s, if_neg one_ne, E_isFeet, q2, bo_s, if_pos rfl]
      · obtain ⟨k, hk, e6, e7, -⟩ := w.2.2.2.2.1
        have ea := E_addq (o := 36) (mx := 8) (k := k) (h := h) (x := nI p) (y := nI b) rfl rfl (by omega) e6 hk
        by_cases y : k < 8
        · rw [if_pos y] at ea
          have i5 := inb_n y (show (8 : Nat) < 2147483648 by omega)
          have e96 : (ad6 36 k (nI p) (nI b) h).1 96 = h.1 96 := ad6_c (by omega)
          have e7' : (ad6 36 k (nI p) (nI b) h).1 96 52 = nI k := by rw [e96]; exact e7
          refine ⟨nI (k + 1), ad6 36 k (nI p) (nI b) h, ad7 52 125 k (nI p) (nI b) (ad6 36 k (nI p) (nI b) h), ?_, ?_, O, n, m, T, w.adb e6 y ⟨⟨p, hp, rfl⟩, b, hb, rfl⟩⟩
          · unfold f_X6_book; rw [if_neg z, E_hasq n h e0, p1, bo_s, if_neg one_ne, E_within, q2, bo_s, if_neg one_ne, ea, bd_s, if_neg one_ne, ad6_s]
          · unfold f_X7_book; rw [if_neg z, E_isPq n _ ((congrFun e96 0).trans e9), p2, bo_s, if_neg one_ne, E_isFeet, q2, bo_s, if_neg one_ne, e7', if_neg (by rw [show (8 : Int32) = nI 8 from rfl, eq_n (by omega) (by omega)]; omega), gd_b i5, cl_n (by omega), lt_e, si_r (show (96 : Nat) ≠ 125 by omega), e7', gd_b i5, cl_n (by omega), lt_e, si_r (show (96 : Nat) ≠ 126 by omega), si_r (show (96 : Nat) ≠ 125 by omega), e7', one_n, lt_e, si_w, up_s]; rfl
        · rw [if_neg y] at ea
          have e5 : k = 8 := by omega
          subst e5
          refine stay (-4) ?_ ?_
          · unfold f_X6_book; rw [if_neg z, E_hasq n h e0, p1, bo_s, if_neg one_ne, E_within, q2, bo_s, if_neg one_ne, ea, bd_s, if_pos rfl]
          · unfold f_X7_book; rw [if_neg z, E_isPq n h e9, p2, bo_s, if_neg one_ne, E_isFeet, q2, bo_s, if_neg one_ne, e7, if_pos (show nI 8 = 8 from rfl)]
/-- the last part of plan, on both sides -/
theorem C_plan_go {O : OS} {n m : Nat} {T : Nat → OS} {h : HP} (w : IVq O n m T h) {x y : Int32} (hP : PRw n x y) {F G : HP → Option (Int32 × HP)} (hF : F h = bd (f_X3_add 33 x y h) fun v g => if v = 0 then some (-4, g) else some (g.1 33 2, g)) (hG : ∀ g : HP, g.1 96 0 = h.1 96 0 → G g = f_X7_plan_J58 x y g) : ∃ r h1 h2, F h = some (r, h1) ∧ G h1 = some (r, h2) ∧ IVxq h2 := by
  obtain ⟨k, hk, e6, e7, -⟩ := w.2.2.2.1
  have ea := E_addq (o := 33) (mx := 10) (k := k) (h := h) (x := x) (y := y) rfl rfl (by omega) e6 hk
  by_cases z : k < 10
  · rw [if_pos z] at ea
    have i5 := inb_n z (show (10 : Nat) < 2147483648 by omega)
    have e96 : (ad6 33 k x y h).1 96 = h.1 96 := ad6_c (by omega)
    have e7' : (ad6 33 k x y h).1 96 51 = nI k := by rw [e96]; exact e7
    refine ⟨nI (k + 1), ad6 33 k x y h, ad7 51 123 k x y (ad6 33 k x y h), ?_, ?_, O, n, m, T, w.adp e6 z hP⟩
    · rw [hF, ea, bd_s, if_neg one_ne, ad6_s]
    · rw [hG _ (congrFun e96 0)]
      unfold f_X7_plan_J58
      rw [e7', if_neg (by rw [show (10 : Int32) = nI 10 from rfl, eq_n (by omega) (by omega)]; omega), gd_b i5, cl_n (by omega), lt_e, si_r (show (96 : Nat) ≠ 123 by omega), e7', gd_b i5, cl_n (by omega), lt_e, si_r (show (96 : Nat) ≠ 124 by omega), si_r (show (96 : Nat) ≠ 123 by omega), e7', one_n, lt_e, si_w, up_s]; rfl
  · rw [if_neg z] at ea
    have e5 : k = 10 := by omega
    subst e5
    refine ⟨-4, h, h, ?_, ?_, O, n, m, T, w⟩
    · rw [hF, ea, bd_s, if_pos rfl]
    · rw [hG _ rfl]; unfold f_X7_plan_J58; rw [e7, if_pos (show nI 10 = 10 from rfl)]
theorem C_plan {O : OS} {n m : Nat} {T : Nat → OS} {h : HP} (w : IVq O n m T h) (x1 x2 : Int32) : ∃ r h1 h2, f_X6_plan x1 x2 h = some (r, h1) ∧ f_X7_plan x1 x2 h1 = some (r, h2) ∧ IVxq h2 := by
  have d := w.1
  have n6 := d.2.2.2.2.2.1
  have e0 := d.2.2.2.2.2.2
  have e9 := d.mv0
  have stay : ∀ r, f_X6_plan x1 x2 h = some (r, h) → f_X7_plan x1 x2 h = some (r, h) → ∃ r h1 h2, f_X6_plan x1 x2 h = some (r, h1) ∧ f_X7_plan x1 x2 h1 = some (r, h2) ∧ IVxq h2 := fun r a b => ⟨r, h, h, a, b, O, n, m, T, w⟩
  by_cases z : x1 = -1
  · refine ⟨0, si h 33 2 0, si (si h 33 2 0) 96 51 0, ?_, ?_, O, n, m, T, w.cls (Or.inr (Or.inl ⟨rfl, rfl⟩))⟩
    · unfold f_X6_plan; rw [if_pos z, E_clearq, bd_s]
    · unfold f_X7_plan; rw [if_pos z, lt_e]
  · rcases rngc x1 (lo := 0) (hi := 4) 0 4 rfl rfl (by omega) (by omega) with ⟨q1, -⟩ | ⟨a, -, ha, rfl, q1⟩
    · refine stay (-1) ?_ ?_
      · unfold f_X6_plan; rw [if_neg z, E_within, q1, bo_s, if_pos rfl]
      · unfold f_X7_plan; rw [if_neg z, E_in, q1, bo_s, if_pos rfl]
    · have r12 : f_X7_in (nI a) 1 2 = some (if a = 1 ∨ a = 2 then 1 else 0) := by
        rw [E_in]
        match a, ha with
        | 0, _ => rfl
        | 1, _ => rfl
        | 2, _ => rfl
        | 3, _ => rfl
        | 4, _ => rfl
      by_cases a3 : a = 3
      · subst a3
        have t3 : nI 3 = (3 : Int32) := rfl
        rcases piecec x2 n6 with ⟨p1, p2, -⟩ | ⟨p, hp, rfl, p1, p2⟩
        · refine stay (-1) ?_ ?_
          · unfold f_X6_plan; rw [if_neg z, E_within, q1, bo_s, if_neg one_ne, if_pos t3, E_hasq n h e0, p1, bo_s, if_pos rfl]
          · unfold f_X7_plan; rw [if_neg z, E_in, q1, bo_s, if_neg one_ne, if_pos t3, E_isPq n h e9, p2, bo_s, if_pos rfl]
        · refine C_plan_go w (x := nI 3) (y := nI p) (Or.inr (Or.inr (Or.inr (Or.inl ⟨rfl, p, hp, rfl⟩)))) ?_ (fun g eg => ?_)
          · unfold f_X6_plan f_X6_plan_J40; rw [if_neg z, E_within, q1, bo_s, if_neg one_ne, if_pos t3, E_hasq n h e0, p1, bo_s, if_neg one_ne, if_neg (show ¬ nI 3 = 1 by decide), if_neg (show ¬ nI 3 = 2 by decide)]
          · unfold f_X7_plan; rw [if_neg z, E_in, q1, bo_s, if_neg one_ne, if_pos t3, E_isPq n g (eg.trans e9), p2, bo_s, if_neg one_ne, r12, if_neg (by omega), bo_s, if_pos rfl]
      · have t3 : ¬ nI a = (3 : Int32) := by rw [show (3 : Int32) = nI 3 from rfl, eq_n (by omega) (by omega)]; exact a3
        by_cases a12 : a = 1 ∨ a = 2
        · rcases rngc x2 (lo := 0) (hi := 9) 0 9 rfl rfl (by omega) (by omega) with ⟨q2, -⟩ | ⟨b, -, hb, rfl, q2⟩
          · refine stay (-2) ?_ ?_
            · unfold f_X6_plan f_X6_plan_J40 f_X6_plan_J50
              rw [if_neg z, E_within, q1, bo_s, if_neg one_ne, if_neg t3]
              rcases a12 with rfl | rfl
              · rw [if_pos (show nI 1 = 1 from rfl), E_within, q2, bo_s, if_pos rfl]
              · rw [if_neg (show ¬ nI 2 = 1 by decide), if_pos (show nI 2 = 2 from rfl), E_within, q2, bo_s, if_pos rfl]
            · unfold f_X7_plan; rw [if_neg z, E_in, q1, bo_s, if_neg one_ne, if_neg t3, r12, if_pos a12, bo_s, if_neg one_ne, E_isTrim, q2, bo_s, if_pos rfl]
          · refine C_plan_go w (x := nI a) (y := nI b) ?_ ?_ (fun g eg => ?_)
            · rcases a12 with rfl | rfl
              · exact Or.inr (Or.inl ⟨rfl, b, hb, rfl⟩)
              · exact Or.inr (Or.inr (Or.inl ⟨rfl, b, hb, rfl⟩))
            · unfold f_X6_plan f_X6_plan_J40 f_X6_plan_J50
              rw [if_neg z, E_within, q1, bo_s, if_neg one_ne, if_neg t3]
              rcases a12 with rfl | rfl
              · rw [if_pos (show nI 1 = 1 from rfl), E_within, q2, bo_s, if_neg one_ne]
              · rw [if_neg (show ¬ nI 2 = 1 by decide), if_pos (show nI 2 = 2 from rfl), E_within, q2, bo_s, if_neg one_ne]
            · unfold f_X7_plan; rw [if_neg z, E_in, q1, bo_s, if_neg one_ne, if_neg t3, r12, if_pos a12, bo_s, if_neg one_ne, E_isTrim, q2, bo_s, if_neg one_ne]
        · refine C_plan_go w (x := nI a) (y := x2) ?_ ?_ (fun g eg => ?_)
          · have : a = 0 ∨ a = 4 := by omega
            rcases this with rfl | rfl
            · exact Or.inl rfl
            · exact Or.inr (Or.inr (Or.inr (Or.inr rfl)))
          · unfold f_X6_plan f_X6_plan_J40
            rw [if_neg z, E_within, q1, bo_s, if_neg one_ne, if_neg t3, if_neg (by rw [show (1 : Int32) = nI 1 from rfl, eq_n (by omega) (by omega)]; omega), if_neg (by rw [show (2 : Int32) = nI 2 from rfl, eq_n (by omega) (by omega)]; omega)]
          · unfold f_X7_plan; rw [if_neg z, E_in, q1, bo_s, if_neg one_ne, if_neg t3, r12, if_neg a12, bo_s, if_pos rfl]
theorem C_looked {O : OS} {n m : Nat} {T : Nat → OS} {h : HP} (w : IVq O n m T h) : ∃ r, f_X6_looked h = some r ∧ f_X7_looked h = some r := by
  have d := w.1
  have n6 := d.2.2.2.2.2.1
  have e0 := d.2.2.2.2.2.2
  obtain ⟨k, hk, e6, e7, pr⟩ := w.2.2.2.2.1
  have key : ∀ (c i fuel : Nat), i + c = k → c < fuel → ∃ r, f_X6_looked_L2 h fuel (nI i) = some r ∧ f_X7_looked_L2 h fuel (nI i) = some r := by
    intro c
    induction c with
    | zero =>
      intro i fuel hi hf
      obtain ⟨f, rfl⟩ : ∃ f, fuel = f + 1 := ⟨fuel - 1, by omega⟩
      have z : nI k ≤ nI i := by rw [le_n (by omega) (by omega)]; omega
      exact ⟨-5, by rw [f_X6_looked_L2, e6, if_pos z], by rw [f_X7_looked_L2, e7, if_pos z]⟩
    | succ c ih =>
      intro i fuel hi hf
      obtain ⟨f, rfl⟩ : ∃ f, fuel = f + 1 := ⟨fuel - 1, by omega⟩
      have z : ¬ nI k ≤ nI i := by rw [le_n (by omega) (by omega)]; omega
      obtain ⟨a1, a2, ⟨p, hp, a3⟩, -⟩ := pr i (by omega)
      have b3 : h.1 37 i = nI p := a3
      have b1 : h.1 125 i = nI p := by rw [← a1]; exact a3
      have b2 : h.1 126 i = h.1 38 i := a2.symm
      have i8 := inb_n (show i < 8 by omega) (show (8 : Nat) < 2147483648 by omega)
      have i6 := inb_n (show p < 6 by omega) (show (6 : Nat) < 2147483648 by omega)
      have al : h.1 99 p = h.1 9 p := d.al (i := 2) (by omega) (by omega)
      by_cases y : h.1 9 p = h.1 38 i
      · obtain ⟨r, r1, r2⟩ := ih (i + 1) f (by omega) (by omega)
        refine ⟨r, ?_, ?_⟩
        · rw [f_X6_looked_L2, e6, if_neg z, gd_b i8, cl_n (by omega), b3, lt_e, E_hasT n6 hp e0, bo_s, if_neg one_ne, gd_b i6, gd_b i8, cl_n (by omega), if_pos y, lt_e, one_n]; exact r1
        · rw [f_X7_looked_L2, e7, if_neg z, gd_b i8, cl_n (by omega), b1, gd_b i6, gd_b i8, cl_n (by omega), al, b2, if_pos y, lt_e, one_n]; exact r2
      · refine ⟨nI i, ?_, ?_⟩
        · rw [f_X6_looked_L2, e6, if_neg z, gd_b i8, cl_n (by omega), b3, lt_e, E_hasT n6 hp e0, bo_s, if_neg one_ne, gd_b i6, gd_b i8, cl_n (by omega), if_neg y]
        · rw [f_X7_looked_L2, e7, if_neg z, gd_b i8, cl_n (by omega), b1, gd_b i6, gd_b i8, cl_n (by omega), al, b2, if_neg y]
  exact key k 0 FZ (by omega) (by have := FZ_ge; omega)
