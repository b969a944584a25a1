/-! on, port, fewest, spread -/
theorem rngd (x : Int32) {lo hi : Int32} (l m : Nat) (hl : lo = nI l) (hh : hi = nI m) (hl1 : l < 1000000) (hm : m < 1000000) : rng x lo hi = 0 ∧ (∀ j, l ≤ j → j ≤ m → x ≠ nI j) ∨ ∃ j, l ≤ j ∧ j ≤ m ∧ x = nI j ∧ rng x lo hi = 1 := by
  by_cases q : l ≤ m
  · exact rngc x l m hl hh hm q
  · left
    refine ⟨?_, fun j h1 h2 => by omega⟩
    subst hl; subst hh
    unfold rng
    by_cases z : x < nI l
    · rw [if_pos z]
    · rw [if_neg z, if_pos]
      rw [Int32.lt_iff_toInt_lt] at z ⊢
      rw [nI_toInt (by omega)] at z ⊢
      omega
theorem zok_rng (x lo hi : Int32) : zok (rng x lo hi) = true := by
  unfold rng
  split
  · rfl
  · split <;> rfl
theorem E_isDays (x : Int32) : f_X7_isDays x = some (rng x 0 60) := by unfold f_X7_isDays; rw [E_in, bo_s, gd_b (zok_rng _ _ _)]
theorem E_isFeet (x : Int32) : f_X7_isFeet x = some (rng x 0 99) := by unfold f_X7_isFeet; rw [E_in, bo_s, gd_b (zok_rng _ _ _)]
theorem E_isTrim (x : Int32) : f_X7_isTrim x = some (rng x 0 9) := by unfold f_X7_isTrim; rw [E_in, bo_s, gd_b (zok_rng _ _ _)]
theorem E_isTape (x : Int32) : f_X7_isTape x = some (rng x 0 5) := by unfold f_X7_isTape; rw [E_in, bo_s, gd_b (zok_rng _ _ _)]
theorem E_isPiece (x : Int32) (h : HP) : f_X7_isPiece x h = some (rng x 0 (h.1 96 0 - 1)) := by unfold f_X7_isPiece; rw [E_in, bo_s, gd_b (zok_rng _ _ _)]
theorem E_has (o : Nat) (x : Int32) (h : HP) : f_X1_has o x h = some (if x < 0 then 0 else if h.1 o 7 ≤ x then 0 else 1) := by
  unfold f_X1_has
  by_cases q : x < 0
  · rw [if_pos q, if_pos q]
  · rw [if_neg q, if_neg q]
    by_cases q2 : h.1 o 7 ≤ x
    · rw [if_pos q2, if_pos q2]
    · rw [if_neg q2, if_neg q2]
/-- whether there is such a piece: both ways of looking -/
theorem piecec (x : Int32) {n : Nat} (hn : n ≤ 6) : ((if x < 0 then (0 : Int32) else if nI n ≤ x then 0 else 1) = 0 ∧ rng x 0 (nI n - 1) = 0 ∧ ∀ j, j < n → x ≠ nI j) ∨ ∃ j, j < n ∧ x = nI j ∧ (if x < 0 then (0 : Int32) else if nI n ≤ x then 0 else 1) = 1 ∧ rng x 0 (nI n - 1) = 1 := by
  by_cases q : x < 0
  · left
    refine ⟨if_pos q, if_pos q, fun j hj e => ?_⟩
    subst e; exact nI_pos (by omega) q
  · obtain ⟨j, hj, rfl⟩ := nI_of q
    have key : nI n - 1 < nI j ↔ n ≤ j := by
      by_cases h0 : n = 0
      · subst h0
        have e : nI 0 - 1 = (-1 : Int32) := by decide
        rw [e, Int32.lt_iff_toInt_lt, nI_toInt hj]
        have : (-1 : Int32).toInt = -1 := by decide
        omega
      · rw [show (1 : Int32) = nI 1 from rfl, sub_n (by omega), lt_n (by omega) (by omega)]; omega
    by_cases q1 : n ≤ j
    · left
      refine ⟨by rw [if_neg q, if_pos ((le_n (by omega) (by omega)).mpr q1)], ?_, fun j' h1 e => ?_⟩
      · unfold rng; rw [if_neg q, if_pos (key.mpr q1)]
      · have := (eq_n (by omega) (by omega)).mp e; omega
    · right
      refine ⟨j, by omega, rfl, by rw [if_neg q, if_neg (fun z => q1 ((le_n (by omega) (by omega)).mp z))], ?_⟩
      unfold rng; rw [if_neg q, if_neg (fun z => q1 (key.mp z))]
theorem B1_on_L82 {O : OS} {c0 : AS} {d0 N : Nat} (hN : N < 300) (hd0 : d0 < 900000) (x2 x3 x4 : Int32) : ∀ (c j : Nat) (g : HP) (fuel : Nat), j + c = N → c < fuel → CS O 22 c0 d0 j g → ∃ g', f_X6_on_L82 fuel (nI N) x2 x3 x4 (nI j) g = f_X6_on_L82 1 (nI N) x2 x3 x4 (nI N) g' ∧ CS O 22 c0 d0 N g' ∧ Fc (SD 22) g g' := by
  intro c
  induction c with
  | zero =>
    intro j g fuel hd hf s
    obtain ⟨f, rfl⟩ : ∃ f, fuel = f + 1 := ⟨fuel - 1, by omega⟩
    have : j = N := by omega
    subst this
    refine ⟨g, ?_, s, Fc.rf⟩
    rw [f_X6_on_L82, f_X6_on_L82, if_pos (Int32.le_refl (nI j)), if_pos (Int32.le_refl (nI j))]
  | succ c ih =>
    intro j g fuel hd hf s
    obtain ⟨f, rfl⟩ : ∃ f, fuel = f + 1 := ⟨fuel - 1, by omega⟩
    obtain ⟨g1, e1, s1, fr1⟩ := CS_step s (by omega) (by omega)
    obtain ⟨g2, e2, s2, fr2⟩ := ih (j + 1) g1 f (by omega) (by omega) s1
    refine ⟨g2, ?_, s2, fr1.trans fr2 (fun _ q => q) (fun _ q => q)⟩
    rw [f_X6_on_L82, if_neg (by rw [le_n (by omega) (by omega)]; omega), e1, bd_s, lt_e, one_n, e2]
/-- what the class and the reference have alike after so many days -/
theorem CS_MA {O : OS} {h0 : HP} {c0 : AS} {w0 d0 j : Nat} {g g' : HP} (s : CS O 22 c0 d0 j g) (m : MA O h0 c0 w0 d0 j g') (hw : w0 < 1000000000) (h37 : h0.1 96 4 = nI w0) (hj : j < 350) : g.1 22 11 = g'.1 96 4 - g'.1 96 37 ∧ g.1 22 8 = g'.1 96 1 ∧ (∀ p, p < 6 → g.1 25 p = g'.1 99 p ∧ g.1 26 p = g'.1 100 p) ∧ f_X1_height 22 g = f_X7_height g' := by
  obtain ⟨hC, w, hco, hwe, hd, hg⟩ := s
  obtain ⟨⟨m1, m2, m3, m4, m5, m6, m7⟩, k, f⟩ := m
  have e : core (dv 22 g) = core (mv g') := hco.trans m4.symm
  have es : ∀ j, j ≠ 4 → (dv 22 g).1 j = (mv g').1 j := fun j hj => by rw [← core_s (dv 22 g) hj, e, core_s _ hj]
  have er : ∀ j, j ≠ 4 → (dv 22 g).2 j = (mv g').2 j := fun j hj => by rw [← core_r (dv 22 g) hj, e, core_r _ hj]
  refine ⟨?_, ?_, fun p hp => ⟨?_, ?_⟩, ?_⟩
  · have k37 : g'.1 96 37 = nI w0 := (k.1 3 (by omega)).trans h37
    rw [k37, show g'.1 96 4 = (mv g').1 4 from (mv_s g' (by omega)).symm, m5, sub_n (by omega), Nat.add_sub_cancel_left]
    exact (dv_s 22 g (show 4 < 6 by omega)).symm.trans hwe
  · have := es 1 (by omega)
    rw [dv_s 22 g (by omega), mv_s g' (by omega)] at this; exact this
  · have := congrFun (er 2 (by omega)) p
    rw [dv_a 22 g (by omega) hp, mv_a g' (by omega) hp] at this; exact this
  · have := congrFun (er 3 (by omega)) p
    rw [dv_a 22 g (by omega) hp, mv_a g' (by omega) hp] at this; exact this
  · rw [B1_height hC w.1, B7_height m1 m3.1, ← sHeight_core, e, sHeight_core]
/-- an asking call: how it begins on both sides -/
theorem ask_begin {O : OS} {h : HP} (q : AQ O h) : ∃ w0 d0 g, w0 ≤ 99999 ∧ d0 ≤ 9999 ∧ (dv 6 h).1 4 = nI w0 ∧ (dv 6 h).1 5 = nI d0 ∧ f_X1_startFrom 22 6 h = some g ∧ CS O 22 (core (dv 6 h)) d0 0 g ∧ F2 (OD 22) h g ∧ dv 22 g = sSet (dv 6 h) 4 0 := by
  obtain ⟨q1, q2, q3, q4, q5, q6⟩ := q
  obtain ⟨wg, w0, d0, hw0, hd0, ew, ed⟩ := q6.g
  obtain ⟨g, e, ev, cs, fr⟩ := B1_start q1 wg ed
  exact ⟨w0, d0, g, hw0, hd0, ew, ed, e, cs, fr, ev⟩
theorem ask_ref {O : OS} {h h1 : HP} {w0 d0 : Nat} (q : AQ O h) (ew : (dv 6 h).1 4 = nI w0) (ed : (dv 6 h).1 5 = nI d0) (frr : F2 (SD 22) h h1) : ∃ g2, f_X7_save h1 = some g2 ∧ mv g2 = dv 6 h ∧ MA O h1 (core (dv 6 h)) w0 d0 0 g2 ∧ h1.1 96 4 = nI w0 := by
  obtain ⟨m1, m2, m3⟩ := q.c frr
  obtain ⟨g2, e2, hm2, ma⟩ := B7_start m1 m2 (by rw [m3]; exact ew) (by rw [m3]; exact ed)
  rw [m3] at ma hm2
  refine ⟨g2, e2, hm2, ma, ?_⟩
  rw [← mv_s h1 (show 4 < 6 by omega), m3]; exact ew
theorem C_on_go {O : OS} {h : HP} (q : AQ O h) (x1 x2 a b : Int32) (hx : (a = 0 ∧ b = 0 ∧ (x2 = 0 ∨ x2 = 1 ∨ x2 = 2)) ∨ (∃ p, p < 6 ∧ x2 = nI (10 + p) ∧ a = 1 ∧ b = 0) ∨ (∃ p, p < 6 ∧ x2 = nI (20 + p) ∧ a = 0 ∧ b = 1)) : ∃ r h1 h2, f_X6_on_J55 x1 x2 a b h = some (r, h1) ∧ f_X7_on_J46 x1 x2 h1 = some (r, h2) ∧ AF h h2 := by
  rcases rngc x1 (lo := 0) (hi := 60) 0 60 rfl rfl (by omega) (by omega) with ⟨hz, -⟩ | ⟨N, -, hN, rfl, ho⟩
  · refine ⟨-2, h, h, ?_, ?_, AF.none q.2.2.2.1 q.2.2.2.2.1 F2.rf (fun _ _ => rfl)⟩
    · unfold f_X6_on_J55; rw [E_within, bo_s, hz, if_pos rfl]
    · unfold f_X7_on_J46; rw [E_isDays, bo_s, hz, if_pos rfl]
  · obtain ⟨w0, d0, g, hw0, hd0, ew, ed, e, cs, fr, -⟩ := ask_begin q
    obtain ⟨g1, e1, s1, fr1⟩ := B1_on_L82 (O := O) (c0 := core (dv 6 h)) (N := N) (by omega) (show d0 < 900000 by omega) x2 a b N 0 g FZ (by omega) (by have := FZ_ge; omega) cs
    have e1' : f_X6_on_L82 FZ (nI N) x2 a b 0 g = f_X6_on_L82 1 (nI N) x2 a b (nI N) g1 := e1
    rw [show f_X6_on_L82 1 (nI N) x2 a b (nI N) g1 = _ from by rw [f_X6_on_L82, if_pos (Int32.le_refl (nI N))]] at e1'
    have frr : F2 (SD 22) h g1 := fr.trans fr1.F2 (fun _ z => Or.inl z) (fun _ z => z)
    have fo : ∀ c, ¬ OD 22 c → g1.2.2 c = h.2.2 c := fun c z => by rw [fr1.2]; exact fr.2.2 c z
    obtain ⟨g2, e2, hm2, ma, h14⟩ := ask_ref q ew ed frr
    obtain ⟨g3, e3, ma3⟩ := B7_goDays (n := N) (by omega) ma (by omega) (by omega)
    obtain ⟨g4, e4, b1, b2, b3, b4, b5⟩ := MA_back ma3
    obtain ⟨k1, k2, k3, k4⟩ := CS_MA s1 ma3 (by omega) h14 (by omega)
    have hh : f_X1_height 22 g1 = some (sHeight O (dv 22 g1)) := B1_height s1.1 s1.2.1.1
    have x6 : f_X6_on_J55 (nI N) x2 a b h = f_X6_on_L82 FZ (nI N) x2 a b 0 g := by unfold f_X6_on_J55; rw [E_within, bo_s, ho, if_neg one_ne, e, bo_s]
    have AFh : AF h g4 := AF.of frr fo ⟨b1, b2, b3, b4⟩
    rcases hx with ⟨rfl, rfl, rfl | rfl | rfl⟩ | ⟨p, hp, rfl, rfl, rfl⟩ | ⟨p, hp, rfl, rfl, rfl⟩
    · refine ⟨g1.1 22 11, g1, g4, by rw [x6, e1', if_pos rfl, if_pos rfl, if_pos rfl], ?_, AFh⟩
      unfold f_X7_on_J46
      rw [E_isDays, bo_s, ho, if_neg one_ne, e2, bo_s, e3, bo_s, if_pos rfl, lt_e, e4, bo_s, k1]
    · refine ⟨sHeight O (dv 22 g1), g1, g4, by rw [x6, e1', if_pos rfl, if_pos rfl, if_neg one_ne, if_pos rfl, hh, bo_s], ?_, AFh⟩
      unfold f_X7_on_J46
      rw [E_isDays, bo_s, ho, if_neg one_ne, e2, bo_s, e3, bo_s, if_neg one_ne, if_pos rfl, ← k4, hh, bo_s, e4, bo_s]
    · refine ⟨g1.1 22 8, g1, g4, by rw [x6, e1', if_pos rfl, if_pos rfl, if_neg (by decide), if_neg (by decide)], ?_, AFh⟩
      unfold f_X7_on_J46
      rw [E_isDays, bo_s, ho, if_neg one_ne, e2, bo_s, e3, bo_s, if_neg (by decide), if_neg (by decide), if_pos rfl, lt_e, e4, bo_s, k2]
    · have ex : nI (10 + p) - 10 = nI p := by rw [show (10 : Int32) = nI 10 from rfl, sub_n (by omega), Nat.add_sub_cancel_left]
      have nx : ∀ m : Nat, m < 10 → ¬ nI (10 + p) = nI m := fun m hm z => by have := (eq_n (by omega) (by omega)).mp z; omega
      refine ⟨g1.1 25 p, g1, g4, ?_, ?_, AFh⟩
      · rw [x6, e1', if_neg one_ne, ex, gd_b (inb_n hp (by omega)), cl_n (by omega)]
      · unfold f_X7_on_J46
        rw [E_isDays, bo_s, ho, if_neg one_ne, e2, bo_s, e3, bo_s, if_neg (show ¬ nI (10 + p) = 0 from nx 0 (by omega)), if_neg (show ¬ nI (10 + p) = 1 from nx 1 (by omega)), if_neg (show ¬ nI (10 + p) = 2 from nx 2 (by omega)), if_neg (show ¬ (20 : Int32) ≤ nI (10 + p) from fun z => by have := (le_n (a := 20) (by omega) (by omega)).mp z; omega), ex, gd_b (inb_n hp (by omega)), cl_n (by omega), lt_e, e4, bo_s, (k3 p hp).1]
    · have ex : nI (20 + p) - 20 = nI p := by rw [show (20 : Int32) = nI 20 from rfl, sub_n (by omega), Nat.add_sub_cancel_left]
      have nx : ∀ m : Nat, m < 10 → ¬ nI (20 + p) = nI m := fun m hm z => by have := (eq_n (by omega) (by omega)).mp z; omega
      refine ⟨g1.1 26 p, g1, g4, ?_, ?_, AFh⟩
      · rw [x6, e1', if_pos rfl, if_neg one_ne, ex, gd_b (inb_n hp (by omega)), cl_n (by omega)]
      · unfold f_X7_on_J46
        rw [E_isDays, bo_s, ho, if_neg one_ne, e2, bo_s, e3, bo_s, if_neg (show ¬ nI (20 + p) = 0 from nx 0 (by omega)), if_neg (show ¬ nI (20 + p) = 1 from nx 1 (by omega)), if_neg (show ¬ nI (20 + p) = 2 from nx 2 (by omega)), if_pos (show (20 : Int32) ≤ nI (20 + p) from (le_n (a := 20) (by omega) (by omega)).mpr (by omega)), ex, gd_b (inb_n hp (by omega)), cl_n (by omega), lt_e, e4, bo_s, (k3 p hp).2]
theorem AQ.pieces {O : OS} {h : HP} (q : AQ O h) : ∃ n, n ≤ 6 ∧ h.1 6 7 = nI n ∧ h.1 96 0 = nI n := by
  obtain ⟨q1, q2, q3, q4, q5, n, k, h1, h2, h3, -⟩ := q
  refine ⟨n, h1, (dv_s 6 h (show 0 < 6 by omega)).symm.trans h3, ?_⟩
  rw [← mv_s h (show 0 < 6 by omega), ← q3]; exact h3
theorem C_on {O : OS} {h : HP} (q : AQ O h) (x1 x2 : Int32) : ∃ r h1 h2, f_X6_on x1 x2 h = some (r, h1) ∧ f_X7_on x1 x2 h1 = some (r, h2) ∧ AF h h2 := by
  obtain ⟨n, hn, e6, e96⟩ := q.pieces
  have a9 : (9 : Int32) + nI n = nI (9 + n) := add_n 9 n
  have a19 : (19 : Int32) + nI n = nI (19 + n) := add_n 19 n
  have f6 : f_X6_on x1 x2 h = if rng x2 0 2 = 0 then (if rng x2 10 (nI (9 + n)) = 0 then (if rng x2 20 (nI (19 + n)) = 0 then some (-1, h) else f_X6_on_J55 x1 x2 (rng x2 10 (nI (9 + n))) (rng x2 20 (nI (19 + n))) h) else f_X6_on_J55 x1 x2 (rng x2 10 (nI (9 + n))) (rng x2 20 (nI (19 + n))) h) else f_X6_on_J55 x1 x2 (rng x2 10 (nI (9 + n))) (rng x2 20 (nI (19 + n))) h := by
    unfold f_X6_on; rw [e6, a9, a19, E_within, bo_s, E_within, bo_s, E_within, bo_s]
  have f7 : ∀ g : HP, g.1 96 0 = nI n → f_X7_on x1 x2 g = if rng x2 0 2 = 0 then (if rng x2 10 (nI (9 + n)) = 0 then (if rng x2 20 (nI (19 + n)) = 0 then some (-1, g) else f_X7_on_J46 x1 x2 g) else f_X7_on_J46 x1 x2 g) else f_X7_on_J46 x1 x2 g := by
    intro g hg
    unfold f_X7_on; rw [hg, a9, a19, E_in, bo_s]
    by_cases z : rng x2 0 2 = 0
    · rw [if_pos z, if_pos z, E_in, bo_s]
      by_cases z2 : rng x2 10 (nI (9 + n)) = 0
      · rw [if_pos z2, if_pos z2, E_in, bo_s]
      · rw [if_neg z2, if_neg z2]
    · rw [if_neg z, if_neg z]
  have fin : ∀ a b : Int32, ((a = 0 ∧ b = 0 ∧ (x2 = 0 ∨ x2 = 1 ∨ x2 = 2)) ∨ (∃ p, p < 6 ∧ x2 = nI (10 + p) ∧ a = 1 ∧ b = 0) ∨ (∃ p, p < 6 ∧ x2 = nI (20 + p) ∧ a = 0 ∧ b = 1)) → f_X6_on x1 x2 h = f_X6_on_J55 x1 x2 a b h → (∀ g : HP, g.1 96 0 = nI n → f_X7_on x1 x2 g = f_X7_on_J46 x1 x2 g) → ∃ r h1 h2, f_X6_on x1 x2 h = some (r, h1) ∧ f_X7_on x1 x2 h1 = some (r, h2) ∧ AF h h2 := by
    intro a b hx h6 h7
    obtain ⟨r, g1, g2, p1, p2, p3⟩ := C_on_go q x1 x2 a b hx
    have : g1.1 96 0 = nI n := by
      rcases rngc x1 (lo := 0) (hi := 60) 0 60 rfl rfl (by omega) (by omega) with ⟨hz, -⟩ | ⟨N, -, hN, rfl, ho⟩
      · unfold f_X6_on_J55 at p1; rw [E_within, bo_s, hz, if_pos rfl] at p1
        obtain ⟨-, rfl⟩ := so2 p1; exact e96
      · obtain ⟨w0, d0, g, hw0, hd0, ew, ed, e, cs, fr, -⟩ := ask_begin q
        obtain ⟨g3, e3, s3, fr3⟩ := B1_on_L82 (O := O) (c0 := core (dv 6 h)) (N := N) (by omega) (show d0 < 900000 by omega) x2 a b N 0 g FZ (by omega) (by have := FZ_ge; omega) cs
        have e3' : f_X6_on_L82 FZ (nI N) x2 a b 0 g = f_X6_on_L82 1 (nI N) x2 a b (nI N) g3 := e3
        unfold f_X6_on_J55 at p1
        rw [E_within, bo_s, ho, if_neg one_ne, e, bo_s, e3', f_X6_on_L82, if_pos (Int32.le_refl (nI N))] at p1
        have hg : g3.1 96 0 = nI n := by rw [fr3.1 96 (SD22_big (by omega)), fr.1 96 (fun z => SD22_big (by omega) (OD_SD z))]; exact e96
        have key : g1 = g3 := by
          split at p1
          · split at p1
            · split at p1
              · exact (so2 p1).2
              · split at p1
                · rw [B1_height s3.1 s3.2.1.1, bo_s] at p1; exact (so2 p1).2
                · exact (so2 p1).2
            · exact (so2 (gd_so p1).2).2
          · exact (so2 (gd_so p1).2).2
        rw [key]; exact hg
    exact ⟨r, g1, g2, h6.trans p1, (h7 g1 this).trans p2, p3⟩
  rcases rngc x2 (lo := 0) (hi := 2) 0 2 rfl rfl (by omega) (by omega) with ⟨z0, n0⟩ | ⟨j, -, hj, ej, o0⟩
  · rcases rngd x2 (lo := 10) (hi := nI (9 + n)) 10 (9 + n) rfl rfl (by omega) (by omega) with ⟨z1, n1⟩ | ⟨j, hj1, hj2, ej, o1⟩
    · rcases rngd x2 (lo := 20) (hi := nI (19 + n)) 20 (19 + n) rfl rfl (by omega) (by omega) with ⟨z2, n2⟩ | ⟨j, hj1, hj2, ej, o2⟩
      · exact ⟨-1, h, h, by rw [f6, if_pos z0, if_pos z1, if_pos z2], by rw [f7 h e96, if_pos z0, if_pos z1, if_pos z2], AF.none q.2.2.2.1 q.2.2.2.2.1 F2.rf (fun _ _ => rfl)⟩
      · exact fin 0 1 (Or.inr (Or.inr ⟨j - 20, by omega, by rw [ej]; congr 1; omega, rfl, rfl⟩)) (by rw [f6, if_pos z0, if_pos z1, if_neg (by rw [o2]; decide), z1, o2]) (fun g hg => by rw [f7 g hg, if_pos z0, if_pos z1, if_neg (by rw [o2]; decide)])
    · have z2 : rng x2 20 (nI (19 + n)) = 0 := by
        rcases rngd x2 (lo := 20) (hi := nI (19 + n)) 20 (19 + n) rfl rfl (by omega) (by omega) with ⟨z2, -⟩ | ⟨j', h1, h2, e', -⟩
        · exact z2
        · have := (eq_n (by omega) (by omega)).mp (ej.symm.trans e'); omega
      exact fin 1 0 (Or.inr (Or.inl ⟨j - 10, by omega, by rw [ej]; congr 1; omega, rfl, rfl⟩)) (by rw [f6, if_pos z0, if_neg (by rw [o1]; decide), o1, z2]) (fun g hg => by rw [f7 g hg, if_pos z0, if_neg (by rw [o1]; decide)])
  · have z1 : rng x2 10 (nI (9 + n)) = 0 := by
      rcases rngd x2 (lo := 10) (hi := nI (9 + n)) 10 (9 + n) rfl rfl (by omega) (by omega) with ⟨z2, -⟩ | ⟨j', h1, h2, e', -⟩
      · exact z2
      · have := (eq_n (by omega) (by omega)).mp (ej.symm.trans e'); omega
    have z2 : rng x2 20 (nI (19 + n)) = 0 := by
      rcases rngd x2 (lo := 20) (hi := nI (19 + n)) 20 (19 + n) rfl rfl (by omega) (by omega) with ⟨z2, -⟩ | ⟨j', h1, h2, e', -⟩
      · exact z2
      · have := (eq_n (by omega) (by omega)).mp (ej.symm.trans e'); omega
    refine fin 0 0 (Or.inl ⟨rfl, rfl, ?_⟩) (by rw [f6, if_neg (by rw [o0]; decide), z1, z2]) (fun g hg => by rw [f7 g hg, if_neg (by rw [o0]; decide)])
    have : j = 0 ∨ j = 1 ∨ j = 2 := by omega
    rcases this with rfl | rfl | rfl
    · exact Or.inl ej
    · exact Or.inr (Or.inl ej)
    · exact Or.inr (Or.inr ej)
