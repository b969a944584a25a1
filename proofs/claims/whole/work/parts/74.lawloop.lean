/-! the law's loop -/
theorem lgs (v : Int64) : lg_cmp v v = 0 := by
  unfold lg_cmp
  rw [if_neg (show ¬ v > v from Int64.lt_irrefl), if_pos rfl]
theorem ixb {i k L : Nat} (h : i + k < L) (hL : L ≤ 3072) : inb (nI i + nI k) L = true := by rw [add_n]; exact inb_n h (by omega)
theorem IVq.z {O : OS} {n m : Nat} {T : Nat → OS} {h h2 : HP} (w : IVq O n m T h) (z : AZ h h2) : IVxq h2 := ⟨O, n, m, T, w.ask z.kq⟩
theorem IVq.f {O : OS} {n m : Nat} {T : Nat → OS} {h h2 : HP} (w : IVq O n m T h) (z : AF h h2) : IVxq h2 := ⟨O, n, m, T, w.ask z.kq⟩
def NXq (L : Nat) (xs : Nat → Int32) (i : Nat) (rc : Int32 → HP → Option (Int32 × HP)) : Prop := ∀ h2, IVxq h2 → ∃ h', rc (nI i + 6) h2 = some (1, h')

theorem LJ_200 {L i : Nat} {xs : Nat → Int32} {h : HP} {rc : Int32 → HP → Option (Int32 × HP)} (hL : L ≤ 3072) (hi : i + 6 ≤ L) (v : IVxq h) (k : NXq L xs i rc) : ∃ h', f_L_law_J200 L xs rc (nI i) h = some (1, h') := by
  obtain ⟨O, n, m, T, w⟩ := v
  obtain ⟨q, ow, dm, n6, en, en7⟩ := w.aq
  have b1 : inb (nI i + 1) L = true := ixb (k := 1) (by omega) hL
  have b2 : inb (nI i + 2) L = true := ixb (k := 2) (by omega) hL
  have b3 : inb (nI i + 3) L = true := ixb (k := 3) (by omega) hL
  obtain ⟨r, h1, h2, e1, e2, iv⟩ := C_piece w (xs (Int32.toNatClampNeg (nI i + 1))) (xs (Int32.toNatClampNeg (nI i + 2))) (xs (Int32.toNatClampNeg (nI i + 3)))
  obtain ⟨h', e⟩ := k h2 iv
  refine ⟨h', ?_⟩
  unfold f_L_law_J200
  rw [gd_b b1, gd_b b2, gd_b b3, e1, bd_s, gd_b b1, gd_b b2, gd_b b3, e2, bd_s, if_pos rfl, lt_e]
  exact e
theorem LJ_243 {L i : Nat} {xs : Nat → Int32} {h : HP} {rc : Int32 → HP → Option (Int32 × HP)} (hL : L ≤ 3072) (hi : i + 6 ≤ L) (v : IVxq h) (k : NXq L xs i rc) : ∃ h', f_L_law_J243 L xs rc (nI i) h = some (1, h') := by
  obtain ⟨O, n, m, T, w⟩ := v
  obtain ⟨q, ow, dm, n6, en, en7⟩ := w.aq
  have b1 : inb (nI i + 1) L = true := ixb (k := 1) (by omega) hL
  have b2 : inb (nI i + 2) L = true := ixb (k := 2) (by omega) hL
  obtain ⟨r, h1, h2, e1, e2, z⟩ := C_of q (xs (Int32.toNatClampNeg (nI i + 1))) (xs (Int32.toNatClampNeg (nI i + 2)))
  have iv := w.z z
  obtain ⟨h', e⟩ := k h2 iv
  refine ⟨h', ?_⟩
  unfold f_L_law_J243
  rw [gd_b b1, gd_b b2, e1, bd_s, gd_b b1, gd_b b2, e2, bd_s, if_pos rfl, lt_e]
  exact e
theorem LJ_276 {L i : Nat} {xs : Nat → Int32} {h : HP} {rc : Int32 → HP → Option (Int32 × HP)} (hL : L ≤ 3072) (hi : i + 6 ≤ L) (v : IVxq h) (k : NXq L xs i rc) : ∃ h', f_L_law_J276 L xs rc (nI i) h = some (1, h') := by
  obtain ⟨O, n, m, T, w⟩ := v
  obtain ⟨q, ow, dm, n6, en, en7⟩ := w.aq
  have b1 : inb (nI i + 1) L = true := ixb (k := 1) (by omega) hL
  have b2 : inb (nI i + 2) L = true := ixb (k := 2) (by omega) hL
  have b3 : inb (nI i + 3) L = true := ixb (k := 3) (by omega) hL
  obtain ⟨r, h1, h2, e1, e2, iv⟩ := C_set w (xs (Int32.toNatClampNeg (nI i + 1))) (xs (Int32.toNatClampNeg (nI i + 2))) (xs (Int32.toNatClampNeg (nI i + 3)))
  obtain ⟨h', e⟩ := k h2 iv
  refine ⟨h', ?_⟩
  unfold f_L_law_J276
  rw [gd_b b1, gd_b b2, gd_b b3, e1, bd_s, gd_b b1, gd_b b2, gd_b b3, e2, bd_s, if_pos rfl, lt_e]
  exact e
theorem LJ_319 {L i : Nat} {xs : Nat → Int32} {h : HP} {rc : Int32 → HP → Option (Int32 × HP)} (hL : L ≤ 3072) (hi : i + 6 ≤ L) (v : IVxq h) (k : NXq L xs i rc) : ∃ h', f_L_law_J319 L xs rc (nI i) h = some (1, h') := by
  obtain ⟨O, n, m, T, w⟩ := v
  obtain ⟨q, ow, dm, n6, en, en7⟩ := w.aq
  have b1 : inb (nI i + 1) L = true := ixb (k := 1) (by omega) hL
  have b2 : inb (nI i + 2) L = true := ixb (k := 2) (by omega) hL
  have b3 : inb (nI i + 3) L = true := ixb (k := 3) (by omega) hL
  obtain ⟨r, h1, h2, e1, e2, iv⟩ := C_row w (xs (Int32.toNatClampNeg (nI i + 1))) (xs (Int32.toNatClampNeg (nI i + 2))) (xs (Int32.toNatClampNeg (nI i + 3)))
  obtain ⟨h', e⟩ := k h2 iv
  refine ⟨h', ?_⟩
  unfold f_L_law_J319
  rw [gd_b b1, gd_b b2, gd_b b3, e1, bd_s, gd_b b1, gd_b b2, gd_b b3, e2, bd_s, if_pos rfl, lt_e]
  exact e
theorem LJ_362 {L i : Nat} {xs : Nat → Int32} {h : HP} {rc : Int32 → HP → Option (Int32 × HP)} (hL : L ≤ 3072) (hi : i + 6 ≤ L) (v : IVxq h) (k : NXq L xs i rc) : ∃ h', f_L_law_J362 L xs rc (nI i) h = some (1, h') := by
  obtain ⟨O, n, m, T, w⟩ := v
  obtain ⟨q, ow, dm, n6, en, en7⟩ := w.aq
  have b1 : inb (nI i + 1) L = true := ixb (k := 1) (by omega) hL
  obtain ⟨r, h1, h2, e1, e2, iv⟩ := C_hoist w (xs (Int32.toNatClampNeg (nI i + 1)))
  obtain ⟨h', e⟩ := k h2 iv
  refine ⟨h', ?_⟩
  unfold f_L_law_J362
  rw [gd_b b1, e1, bd_s, gd_b b1, e2, bd_s, if_pos rfl, lt_e]
  exact e
theorem LJ_385 {L i : Nat} {xs : Nat → Int32} {h : HP} {rc : Int32 → HP → Option (Int32 × HP)} (hL : L ≤ 3072) (hi : i + 6 ≤ L) (v : IVxq h) (k : NXq L xs i rc) : ∃ h', f_L_law_J385 L xs rc (nI i) h = some (1, h') := by
  obtain ⟨O, n, m, T, w⟩ := v
  obtain ⟨q, ow, dm, n6, en, en7⟩ := w.aq
  have b1 : inb (nI i + 1) L = true := ixb (k := 1) (by omega) hL
  obtain ⟨r, h1, h2, e1, e2, iv⟩ := C_lower w (xs (Int32.toNatClampNeg (nI i + 1)))
  obtain ⟨h', e⟩ := k h2 iv
  refine ⟨h', ?_⟩
  unfold f_L_law_J385
  rw [gd_b b1, e1, bd_s, gd_b b1, e2, bd_s, if_pos rfl, lt_e]
  exact e
theorem LJ_408 {L i : Nat} {xs : Nat → Int32} {h : HP} {rc : Int32 → HP → Option (Int32 × HP)} (hL : L ≤ 3072) (hi : i + 6 ≤ L) (v : IVxq h) (k : NXq L xs i rc) : ∃ h', f_L_law_J408 L xs rc (nI i) h = some (1, h') := by
  obtain ⟨O, n, m, T, w⟩ := v
  obtain ⟨q, ow, dm, n6, en, en7⟩ := w.aq
  have b1 : inb (nI i + 1) L = true := ixb (k := 1) (by omega) hL
  have b2 : inb (nI i + 2) L = true := ixb (k := 2) (by omega) hL
  obtain ⟨r, h1, h2, e1, e2, iv⟩ := C_trim w (xs (Int32.toNatClampNeg (nI i + 1))) (xs (Int32.toNatClampNeg (nI i + 2)))
  obtain ⟨h', e⟩ := k h2 iv
  refine ⟨h', ?_⟩
  unfold f_L_law_J408
  rw [gd_b b1, gd_b b2, e1, bd_s, gd_b b1, gd_b b2, e2, bd_s, if_pos rfl, lt_e]
  exact e
theorem LJ_441 {L i : Nat} {xs : Nat → Int32} {h : HP} {rc : Int32 → HP → Option (Int32 × HP)} (hL : L ≤ 3072) (hi : i + 6 ≤ L) (v : IVxq h) (k : NXq L xs i rc) : ∃ h', f_L_law_J441 L xs rc (nI i) h = some (1, h') := by
  obtain ⟨O, n, m, T, w⟩ := v
  obtain ⟨q, ow, dm, n6, en, en7⟩ := w.aq
  have b1 : inb (nI i + 1) L = true := ixb (k := 1) (by omega) hL
  obtain ⟨r, h1, h2, e1, e2, iv⟩ := C_feed w (xs (Int32.toNatClampNeg (nI i + 1)))
  obtain ⟨h', e⟩ := k h2 iv
  refine ⟨h', ?_⟩
  unfold f_L_law_J441
  rw [gd_b b1, e1, bd_s, gd_b b1, e2, bd_s, if_pos rfl, lt_e]
  exact e
theorem LJ_464 {L i : Nat} {xs : Nat → Int32} {h : HP} {rc : Int32 → HP → Option (Int32 × HP)} (hL : L ≤ 3072) (hi : i + 6 ≤ L) (v : IVxq h) (k : NXq L xs i rc) : ∃ h', f_L_law_J464 L xs rc (nI i) h = some (1, h') := by
  obtain ⟨O, n, m, T, w⟩ := v
  obtain ⟨q, ow, dm, n6, en, en7⟩ := w.aq
  skip
  obtain ⟨r, h1, h2, e1, e2, iv⟩ := C_ocean w 
  obtain ⟨h', e⟩ := k h2 iv
  refine ⟨h', ?_⟩
  unfold f_L_law_J464
  rw [e1, bd_s, e2, bd_s, if_pos rfl, lt_e]
  exact e
theorem LJ_477 {L i : Nat} {xs : Nat → Int32} {h : HP} {rc : Int32 → HP → Option (Int32 × HP)} (hL : L ≤ 3072) (hi : i + 6 ≤ L) (v : IVxq h) (k : NXq L xs i rc) : ∃ h', f_L_law_J477 L xs rc (nI i) h = some (1, h') := by
  obtain ⟨O, n, m, T, w⟩ := v
  obtain ⟨q, ow, dm, n6, en, en7⟩ := w.aq
  have b1 : inb (nI i + 1) L = true := ixb (k := 1) (by omega) hL
  obtain ⟨r, e1, e2⟩ := C_told q (xs (Int32.toNatClampNeg (nI i + 1)))
  obtain ⟨h', e⟩ := k h ⟨O, n, m, T, w⟩
  refine ⟨h', ?_⟩
  unfold f_L_law_J477
  rw [gd_b b1, e1, bo_s, gd_b b1, e2, bo_s, if_pos rfl, lt_e]
  exact e
theorem LJ_500 {L i : Nat} {xs : Nat → Int32} {h : HP} {rc : Int32 → HP → Option (Int32 × HP)} (hL : L ≤ 3072) (hi : i + 6 ≤ L) (v : IVxq h) (k : NXq L xs i rc) : ∃ h', f_L_law_J500 L xs rc (nI i) h = some (1, h') := by
  obtain ⟨O, n, m, T, w⟩ := v
  obtain ⟨q, ow, dm, n6, en, en7⟩ := w.aq
  have b1 : inb (nI i + 1) L = true := ixb (k := 1) (by omega) hL
  obtain ⟨r, h1, h2, e1, e2, z⟩ := C_pass q ow (xs (Int32.toNatClampNeg (nI i + 1)))
  have iv : IVxq h2 := ⟨O, n, m, T, w.pass z⟩
  obtain ⟨h', e⟩ := k h2 iv
  refine ⟨h', ?_⟩
  unfold f_L_law_J500
  rw [gd_b b1, e1, bd_s, gd_b b1, e2, bd_s, if_pos rfl, lt_e]
  exact e
theorem LJ_523 {L i : Nat} {xs : Nat → Int32} {h : HP} {rc : Int32 → HP → Option (Int32 × HP)} (hL : L ≤ 3072) (hi : i + 6 ≤ L) (v : IVxq h) (k : NXq L xs i rc) : ∃ h', f_L_law_J523 L xs rc (nI i) h = some (1, h') := by
  obtain ⟨O, n, m, T, w⟩ := v
  obtain ⟨q, ow, dm, n6, en, en7⟩ := w.aq
  have b1 : inb (nI i + 1) L = true := ixb (k := 1) (by omega) hL
  have b2 : inb (nI i + 2) L = true := ixb (k := 2) (by omega) hL
  obtain ⟨r, h1, h2, e1, e2, z⟩ := C_on q (xs (Int32.toNatClampNeg (nI i + 1))) (xs (Int32.toNatClampNeg (nI i + 2)))
  have iv := w.f z
  obtain ⟨h', e⟩ := k h2 iv
  refine ⟨h', ?_⟩
  unfold f_L_law_J523
  rw [gd_b b1, gd_b b2, e1, bd_s, gd_b b1, gd_b b2, e2, bd_s, if_pos rfl, lt_e]
  exact e
theorem LJ_556 {L i : Nat} {xs : Nat → Int32} {h : HP} {rc : Int32 → HP → Option (Int32 × HP)} (hL : L ≤ 3072) (hi : i + 6 ≤ L) (v : IVxq h) (k : NXq L xs i rc) : ∃ h', f_L_law_J556 L xs rc (nI i) h = some (1, h') := by
  obtain ⟨O, n, m, T, w⟩ := v
  obtain ⟨q, ow, dm, n6, en, en7⟩ := w.aq
  have b1 : inb (nI i + 1) L = true := ixb (k := 1) (by omega) hL
  obtain ⟨r, h1, h2, e1, e2, z⟩ := C_first q (xs (Int32.toNatClampNeg (nI i + 1)))
  have iv := w.f z
  obtain ⟨h', e⟩ := k h2 iv
  refine ⟨h', ?_⟩
  unfold f_L_law_J556
  rw [gd_b b1, e1, bd_s, gd_b b1, e2, bd_s, if_pos rfl, lt_e]
  exact e
theorem LJ_579 {L i : Nat} {xs : Nat → Int32} {h : HP} {rc : Int32 → HP → Option (Int32 × HP)} (hL : L ≤ 3072) (hi : i + 6 ≤ L) (v : IVxq h) (k : NXq L xs i rc) : ∃ h', f_L_law_J579 L xs rc (nI i) h = some (1, h') := by
  obtain ⟨O, n, m, T, w⟩ := v
  obtain ⟨q, ow, dm, n6, en, en7⟩ := w.aq
  have b1 : inb (nI i + 1) L = true := ixb (k := 1) (by omega) hL
  obtain ⟨r, h1, h2, e1, e2, z⟩ := C_port q (xs (Int32.toNatClampNeg (nI i + 1)))
  have iv := w.z z
  obtain ⟨h', e⟩ := k h2 iv
  refine ⟨h', ?_⟩
  unfold f_L_law_J579
  rw [gd_b b1, e1, bd_s, gd_b b1, e2, bd_s, if_pos rfl, lt_e]
  exact e
theorem LJ_602 {L i : Nat} {xs : Nat → Int32} {h : HP} {rc : Int32 → HP → Option (Int32 × HP)} (hL : L ≤ 3072) (hi : i + 6 ≤ L) (v : IVxq h) (k : NXq L xs i rc) : ∃ h', f_L_law_J602 L xs rc (nI i) h = some (1, h') := by
  obtain ⟨O, n, m, T, w⟩ := v
  obtain ⟨q, ow, dm, n6, en, en7⟩ := w.aq
  skip
  obtain ⟨r, h1, h2, e1, e2, z⟩ := C_spread q 
  have iv := w.z z
  obtain ⟨h', e⟩ := k h2 iv
  refine ⟨h', ?_⟩
  unfold f_L_law_J602
  rw [e1, bd_s, e2, bd_s, if_pos rfl, lt_e]
  exact e
theorem LJ_615 {L i : Nat} {xs : Nat → Int32} {h : HP} {rc : Int32 → HP → Option (Int32 × HP)} (hL : L ≤ 3072) (hi : i + 6 ≤ L) (v : IVxq h) (k : NXq L xs i rc) : ∃ h', f_L_law_J615 L xs rc (nI i) h = some (1, h') := by
  obtain ⟨O, n, m, T, w⟩ := v
  obtain ⟨q, ow, dm, n6, en, en7⟩ := w.aq
  have b1 : inb (nI i + 1) L = true := ixb (k := 1) (by omega) hL
  obtain ⟨r, h1, h2, e1, e2, z⟩ := C_fewest q (xs (Int32.toNatClampNeg (nI i + 1)))
  have iv := w.z z
  obtain ⟨h', e⟩ := k h2 iv
  refine ⟨h', ?_⟩
  unfold f_L_law_J615
  rw [gd_b b1, e1, bd_s, gd_b b1, e2, bd_s, if_pos rfl, lt_e]
  exact e
theorem LJ_638 {L i : Nat} {xs : Nat → Int32} {h : HP} {rc : Int32 → HP → Option (Int32 × HP)} (hL : L ≤ 3072) (hi : i + 6 ≤ L) (v : IVxq h) (k : NXq L xs i rc) : ∃ h', f_L_law_J638 L xs rc (nI i) h = some (1, h') := by
  obtain ⟨O, n, m, T, w⟩ := v
  obtain ⟨q, ow, dm, n6, en, en7⟩ := w.aq
  have b1 : inb (nI i + 1) L = true := ixb (k := 1) (by omega) hL
  have b2 : inb (nI i + 2) L = true := ixb (k := 2) (by omega) hL
  obtain ⟨r, h1, h2, e1, e2, z⟩ := C_best q (xs (Int32.toNatClampNeg (nI i + 1))) (xs (Int32.toNatClampNeg (nI i + 2)))
  have iv := w.z z
  obtain ⟨h', e⟩ := k h2 iv
  refine ⟨h', ?_⟩
  unfold f_L_law_J638
  rw [gd_b b1, gd_b b2, e1, bd_s, gd_b b1, gd_b b2, e2, bd_s, if_pos rfl, lt_e]
  exact e
theorem LJ_671 {L i : Nat} {xs : Nat → Int32} {h : HP} {rc : Int32 → HP → Option (Int32 × HP)} (hL : L ≤ 3072) (hi : i + 6 ≤ L) (v : IVxq h) (k : NXq L xs i rc) : ∃ h', f_L_law_J671 L xs rc (nI i) h = some (1, h') := by
  obtain ⟨O, n, m, T, w⟩ := v
  obtain ⟨q, ow, dm, n6, en, en7⟩ := w.aq
  have b1 : inb (nI i + 1) L = true := ixb (k := 1) (by omega) hL
  obtain ⟨r, h1, h2, e1, e2, z⟩ := C_longest q dm (xs (Int32.toNatClampNeg (nI i + 1)))
  have iv := w.z z
  obtain ⟨h', e⟩ := k h2 iv
  refine ⟨h', ?_⟩
  unfold f_L_law_J671
  rw [gd_b b1, e1, bd_s, gd_b b1, e2, bd_s, if_pos rfl, lt_e]
  exact e
theorem LJ_694 {L i : Nat} {xs : Nat → Int32} {h : HP} {rc : Int32 → HP → Option (Int32 × HP)} (hL : L ≤ 3072) (hi : i + 6 ≤ L) (v : IVxq h) (k : NXq L xs i rc) : ∃ h', f_L_law_J694 L xs rc (nI i) h = some (1, h') := by
  obtain ⟨O, n, m, T, w⟩ := v
  obtain ⟨q, ow, dm, n6, en, en7⟩ := w.aq
  have b1 : inb (nI i + 1) L = true := ixb (k := 1) (by omega) hL
  have b2 : inb (nI i + 2) L = true := ixb (k := 2) (by omega) hL
  obtain ⟨r, h1, h2, e1, e2, iv⟩ := C_see w (xs (Int32.toNatClampNeg (nI i + 1))) (xs (Int32.toNatClampNeg (nI i + 2)))
  obtain ⟨h', e⟩ := k h2 iv
  refine ⟨h', ?_⟩
  unfold f_L_law_J694
  rw [gd_b b1, gd_b b2, e1, bd_s, gd_b b1, gd_b b2, e2, bd_s, if_pos rfl, lt_e]
  exact e
theorem LJ_727 {L i : Nat} {xs : Nat → Int32} {h : HP} {rc : Int32 → HP → Option (Int32 × HP)} (hL : L ≤ 3072) (hi : i + 6 ≤ L) (v : IVxq h) (k : NXq L xs i rc) : ∃ h', f_L_law_J727 L xs rc (nI i) h = some (1, h') := by
  obtain ⟨O, n, m, T, w⟩ := v
  obtain ⟨q, ow, dm, n6, en, en7⟩ := w.aq
  have b1 : inb (nI i + 1) L = true := ixb (k := 1) (by omega) hL
  have b2 : inb (nI i + 2) L = true := ixb (k := 2) (by omega) hL
  obtain ⟨ns, rr, se⟩ := w.sen
  obtain ⟨r, h1, h2, e1, e2, z⟩ := C_worn q se (xs (Int32.toNatClampNeg (nI i + 1))) (xs (Int32.toNatClampNeg (nI i + 2)))
  have iv := w.z z
  obtain ⟨h', e⟩ := k h2 iv
  refine ⟨h', ?_⟩
  unfold f_L_law_J727
  rw [gd_b b1, gd_b b2, e1, bd_s, gd_b b1, gd_b b2, e2, bd_s, if_pos rfl, lt_e]
  exact e
theorem LJ_760 {L i : Nat} {xs : Nat → Int32} {h : HP} {rc : Int32 → HP → Option (Int32 × HP)} (hL : L ≤ 3072) (hi : i + 6 ≤ L) (v : IVxq h) (k : NXq L xs i rc) : ∃ h', f_L_law_J760 L xs rc (nI i) h = some (1, h') := by
  obtain ⟨O, n, m, T, w⟩ := v
  obtain ⟨q, ow, dm, n6, en, en7⟩ := w.aq
  have b1 : inb (nI i + 1) L = true := ixb (k := 1) (by omega) hL
  have b2 : inb (nI i + 2) L = true := ixb (k := 2) (by omega) hL
  obtain ⟨ns, rr, se⟩ := w.sen
  obtain ⟨r, h1, h2, e1, e2, z⟩ := C_can q se (xs (Int32.toNatClampNeg (nI i + 1))) (xs (Int32.toNatClampNeg (nI i + 2)))
  have iv := w.z z
  obtain ⟨h', e⟩ := k h2 iv
  refine ⟨h', ?_⟩
  unfold f_L_law_J760
  rw [gd_b b1, gd_b b2, e1, bd_s, gd_b b1, gd_b b2, e2, bd_s, if_pos rfl, lt_e]
  exact e
theorem LJ_793 {L i : Nat} {xs : Nat → Int32} {h : HP} {rc : Int32 → HP → Option (Int32 × HP)} (hL : L ≤ 3072) (hi : i + 6 ≤ L) (v : IVxq h) (k : NXq L xs i rc) : ∃ h', f_L_law_J793 L xs rc (nI i) h = some (1, h') := by
  obtain ⟨O, n, m, T, w⟩ := v
  obtain ⟨q, ow, dm, n6, en, en7⟩ := w.aq
  have b1 : inb (nI i + 1) L = true := ixb (k := 1) (by omega) hL
  have b2 : inb (nI i + 2) L = true := ixb (k := 2) (by omega) hL
  obtain ⟨r, h1, h2, e1, e2, z⟩ := C_odds q (xs (Int32.toNatClampNeg (nI i + 1))) (xs (Int32.toNatClampNeg (nI i + 2)))
  have iv := w.z z
  obtain ⟨h', e⟩ := k h2 iv
  refine ⟨h', ?_⟩
  unfold f_L_law_J793
  rw [gd_b b1, gd_b b2, e1, bd_s, gd_b b1, gd_b b2, e2, bd_s, if_pos (lgs r), lt_e]
  exact e
theorem LJ_827 {L i : Nat} {xs : Nat → Int32} {h : HP} {rc : Int32 → HP → Option (Int32 × HP)} (hL : L ≤ 3072) (hi : i + 6 ≤ L) (v : IVxq h) (k : NXq L xs i rc) : ∃ h', f_L_law_J827 L xs rc (nI i) h = some (1, h') := by
  obtain ⟨O, n, m, T, w⟩ := v
  obtain ⟨q, ow, dm, n6, en, en7⟩ := w.aq
  have b1 : inb (nI i + 1) L = true := ixb (k := 1) (by omega) hL
  obtain ⟨r, e1, e2⟩ := C_mean q ow (xs (Int32.toNatClampNeg (nI i + 1)))
  obtain ⟨h', e⟩ := k h ⟨O, n, m, T, w⟩
  refine ⟨h', ?_⟩
  unfold f_L_law_J827
  rw [gd_b b1, e1, bo_s, gd_b b1, e2, bo_s, if_pos (lgs r), lt_e]
  exact e
theorem LJ_851 {L i : Nat} {xs : Nat → Int32} {h : HP} {rc : Int32 → HP → Option (Int32 × HP)} (hL : L ≤ 3072) (hi : i + 6 ≤ L) (v : IVxq h) (k : NXq L xs i rc) : ∃ h', f_L_law_J851 L xs rc (nI i) h = some (1, h') := by
  obtain ⟨O, n, m, T, w⟩ := v
  obtain ⟨q, ow, dm, n6, en, en7⟩ := w.aq
  have b1 : inb (nI i + 1) L = true := ixb (k := 1) (by omega) hL
  have b2 : inb (nI i + 2) L = true := ixb (k := 2) (by omega) hL
  obtain ⟨r, h1, h2, e1, e2, iv⟩ := C_plan w (xs (Int32.toNatClampNeg (nI i + 1))) (xs (Int32.toNatClampNeg (nI i + 2)))
  obtain ⟨h', e⟩ := k h2 iv
  refine ⟨h', ?_⟩
  unfold f_L_law_J851
  rw [gd_b b1, gd_b b2, e1, bd_s, gd_b b1, gd_b b2, e2, bd_s, if_pos rfl, lt_e]
  exact e
theorem LJ_884 {L i : Nat} {xs : Nat → Int32} {h : HP} {rc : Int32 → HP → Option (Int32 × HP)} (hL : L ≤ 3072) (hi : i + 6 ≤ L) (v : IVxq h) (k : NXq L xs i rc) : ∃ h', f_L_law_J884 L xs rc (nI i) h = some (1, h') := by
  obtain ⟨O, n, m, T, w⟩ := v
  obtain ⟨q, ow, dm, n6, en, en7⟩ := w.aq
  have b1 : inb (nI i + 1) L = true := ixb (k := 1) (by omega) hL
  obtain ⟨np, rr, pl⟩ := w.pln
  obtain ⟨r, h1, h2, e1, e2, z⟩ := C_ends q en n6 pl (xs (Int32.toNatClampNeg (nI i + 1)))
  have iv := w.z z
  obtain ⟨h', e⟩ := k h2 iv
  refine ⟨h', ?_⟩
  unfold f_L_law_J884
  rw [gd_b b1, e1, bd_s, gd_b b1, e2, bd_s, if_pos rfl, lt_e]
  exact e
theorem LJ_907 {L i : Nat} {xs : Nat → Int32} {h : HP} {rc : Int32 → HP → Option (Int32 × HP)} (hL : L ≤ 3072) (hi : i + 6 ≤ L) (v : IVxq h) (k : NXq L xs i rc) : ∃ h', f_L_law_J907 L xs rc (nI i) h = some (1, h') := by
  obtain ⟨O, n, m, T, w⟩ := v
  obtain ⟨q, ow, dm, n6, en, en7⟩ := w.aq
  have b1 : inb (nI i + 1) L = true := ixb (k := 1) (by omega) hL
  have b2 : inb (nI i + 2) L = true := ixb (k := 2) (by omega) hL
  obtain ⟨r, h1, h2, e1, e2, iv⟩ := C_book w (xs (Int32.toNatClampNeg (nI i + 1))) (xs (Int32.toNatClampNeg (nI i + 2)))
  obtain ⟨h', e⟩ := k h2 iv
  refine ⟨h', ?_⟩
  unfold f_L_law_J907
  rw [gd_b b1, gd_b b2, e1, bd_s, gd_b b1, gd_b b2, e2, bd_s, if_pos rfl, lt_e]
  exact e
theorem LJ_940 {L i : Nat} {xs : Nat → Int32} {h : HP} {rc : Int32 → HP → Option (Int32 × HP)} (hL : L ≤ 3072) (hi : i + 6 ≤ L) (v : IVxq h) (k : NXq L xs i rc) : ∃ h', f_L_law_J940 L xs rc (nI i) h = some (1, h') := by
  obtain ⟨O, n, m, T, w⟩ := v
  obtain ⟨q, ow, dm, n6, en, en7⟩ := w.aq
  skip
  obtain ⟨r, e1, e2⟩ := C_looked w 
  obtain ⟨h', e⟩ := k h ⟨O, n, m, T, w⟩
  refine ⟨h', ?_⟩
  unfold f_L_law_J940
  rw [e1, bo_s, e2, bo_s, if_pos rfl, lt_e]
  exact e
theorem LJ_953 {L i : Nat} {xs : Nat → Int32} {h : HP} {rc : Int32 → HP → Option (Int32 × HP)} (hL : L ≤ 3072) (hi : i + 6 ≤ L) (v : IVxq h) (k : NXq L xs i rc) : ∃ h', f_L_law_J953 L xs rc (nI i) h = some (1, h') := by
  obtain ⟨O, n, m, T, w⟩ := v
  obtain ⟨q, ow, dm, n6, en, en7⟩ := w.aq
  have b1 : inb (nI i + 1) L = true := ixb (k := 1) (by omega) hL
  have b2 : inb (nI i + 2) L = true := ixb (k := 2) (by omega) hL
  obtain ⟨r, e1, e2⟩ := C_judge w (xs (Int32.toNatClampNeg (nI i + 1))) (xs (Int32.toNatClampNeg (nI i + 2)))
  obtain ⟨h', e⟩ := k h ⟨O, n, m, T, w⟩
  refine ⟨h', ?_⟩
  unfold f_L_law_J953
  rw [gd_b b1, gd_b b2, e1, bo_s, gd_b b1, gd_b b2, e2, bo_s, if_pos rfl, lt_e]
  exact e
theorem LJ_986 {L i : Nat} {xs : Nat → Int32} {h : HP} {rc : Int32 → HP → Option (Int32 × HP)} (hL : L ≤ 3072) (hi : i + 6 ≤ L) (v : IVxq h) (k : NXq L xs i rc) : ∃ h', f_L_law_J986 L xs rc (nI i) h = some (1, h') := by
  obtain ⟨O, n, m, T, w⟩ := v
  obtain ⟨q, ow, dm, n6, en, en7⟩ := w.aq
  skip
  obtain ⟨r, h1, h2, e1, e2, iv⟩ := C_image w 
  obtain ⟨h', e⟩ := k h2 iv
  refine ⟨h', ?_⟩
  unfold f_L_law_J986
  rw [e1, bd_s, e2, bd_s, if_pos rfl, lt_e]
  exact e
theorem LJ_999 {L i : Nat} {xs : Nat → Int32} {h : HP} {rc : Int32 → HP → Option (Int32 × HP)} (hL : L ≤ 3072) (hi : i + 6 ≤ L) (v : IVxq h) (k : NXq L xs i rc) : ∃ h', f_L_law_J999 L xs rc (nI i) h = some (1, h') := by
  obtain ⟨O, n, m, T, w⟩ := v
  obtain ⟨q, ow, dm, n6, en, en7⟩ := w.aq
  skip
  obtain ⟨r, h1, h2, e1, e2, iv⟩ := C_undo w 
  obtain ⟨h', e⟩ := k h2 iv
  refine ⟨h', ?_⟩
  unfold f_L_law_J999
  rw [e1, bd_s, e2, bd_s, if_pos rfl, lt_e]
  exact e
theorem LJ_1012 {L i : Nat} {xs : Nat → Int32} {h : HP} {rc : Int32 → HP → Option (Int32 × HP)} (hL : L ≤ 3072) (hi : i + 6 ≤ L) (v : IVxq h) (k : NXq L xs i rc) : ∃ h', f_L_law_J1012 L xs rc (nI i) h = some (1, h') := by
  obtain ⟨O, n, m, T, w⟩ := v
  obtain ⟨q, ow, dm, n6, en, en7⟩ := w.aq
  have b1 : inb (nI i + 1) L = true := ixb (k := 1) (by omega) hL
  have b2 : inb (nI i + 2) L = true := ixb (k := 2) (by omega) hL
  have b3 : inb (nI i + 3) L = true := ixb (k := 3) (by omega) hL
  obtain ⟨r, h1, h2, e1, e2, iv⟩ := C_act w (xs (Int32.toNatClampNeg (nI i + 1))) (xs (Int32.toNatClampNeg (nI i + 2))) (xs (Int32.toNatClampNeg (nI i + 3)))
  obtain ⟨h', e⟩ := k h2 iv
  refine ⟨h', ?_⟩
  unfold f_L_law_J1012
  rw [gd_b b1, gd_b b2, gd_b b3, e1, bd_s, gd_b b1, gd_b b2, gd_b b3, e2, bd_s, if_pos rfl, lt_e]
  exact e
theorem LJ_1055 {L i : Nat} {xs : Nat → Int32} {h : HP} {rc : Int32 → HP → Option (Int32 × HP)} (hL : L ≤ 3072) (hi : i + 6 ≤ L) (v : IVxq h) (k : NXq L xs i rc) : ∃ h', f_L_law_J1055 L xs rc (nI i) h = some (1, h') := by
  obtain ⟨O, n, m, T, w⟩ := v
  obtain ⟨q, ow, dm, n6, en, en7⟩ := w.aq
  have b1 : inb (nI i + 1) L = true := ixb (k := 1) (by omega) hL
  obtain ⟨r, e1, e2⟩ := C_trace w (xs (Int32.toNatClampNeg (nI i + 1)))
  obtain ⟨h', e⟩ := k h ⟨O, n, m, T, w⟩
  refine ⟨h', ?_⟩
  unfold f_L_law_J1055
  rw [gd_b b1, e1, bo_s, gd_b b1, e2, bo_s, if_pos rfl, lt_e]
  exact e
theorem LJ_1078 {L i : Nat} {xs : Nat → Int32} {h : HP} {rc : Int32 → HP → Option (Int32 × HP)} (hL : L ≤ 3072) (hi : i + 6 ≤ L) (v : IVxq h) (k : NXq L xs i rc) : ∃ h', f_L_law_J1078 L xs rc (nI i) h = some (1, h') := by
  obtain ⟨O, n, m, T, w⟩ := v
  obtain ⟨q, ow, dm, n6, en, en7⟩ := w.aq
  have b1 : inb (nI i + 1) L = true := ixb (k := 1) (by omega) hL
  have b2 : inb (nI i + 2) L = true := ixb (k := 2) (by omega) hL
  obtain ⟨r, e1, e2⟩ := C_taken w (xs (Int32.toNatClampNeg (nI i + 1))) (xs (Int32.toNatClampNeg (nI i + 2)))
  obtain ⟨h', e⟩ := k h ⟨O, n, m, T, w⟩
  refine ⟨h', ?_⟩
  unfold f_L_law_J1078
  rw [gd_b b1, gd_b b2, e1, bo_s, gd_b b1, gd_b b2, e2, bo_s, if_pos rfl, lt_e]
  exact e
theorem LJ_1111 {L i : Nat} {xs : Nat → Int32} {h : HP} {rc : Int32 → HP → Option (Int32 × HP)} (hL : L ≤ 3072) (hi : i + 6 ≤ L) (v : IVxq h) (k : NXq L xs i rc) : ∃ h', f_L_law_J1111 L xs rc (nI i) h = some (1, h') := by
  obtain ⟨O, n, m, T, w⟩ := v
  obtain ⟨q, ow, dm, n6, en, en7⟩ := w.aq
  have b1 : inb (nI i + 1) L = true := ixb (k := 1) (by omega) hL
  obtain ⟨r, e1, e2⟩ := C_count w (xs (Int32.toNatClampNeg (nI i + 1)))
  obtain ⟨h', e⟩ := k h ⟨O, n, m, T, w⟩
  refine ⟨h', ?_⟩
  unfold f_L_law_J1111
  rw [gd_b b1, e1, bo_s, gd_b b1, e2, bo_s, if_pos rfl, lt_e]
  exact e
theorem LJ_1134 {L i : Nat} {xs : Nat → Int32} {h : HP} {rc : Int32 → HP → Option (Int32 × HP)} (hL : L ≤ 3072) (hi : i + 6 ≤ L) (v : IVxq h) (k : NXq L xs i rc) : ∃ h', f_L_law_J1134 L xs rc (nI i) h = some (1, h') := by
  obtain ⟨O, n, m, T, w⟩ := v
  obtain ⟨q, ow, dm, n6, en, en7⟩ := w.aq
  have b1 : inb (nI i + 1) L = true := ixb (k := 1) (by omega) hL
  have b2 : inb (nI i + 2) L = true := ixb (k := 2) (by omega) hL
  have b3 : inb (nI i + 3) L = true := ixb (k := 3) (by omega) hL
  obtain ⟨r, h1, h2, e1, e2, iv⟩ := C_tape w (xs (Int32.toNatClampNeg (nI i + 1))) (xs (Int32.toNatClampNeg (nI i + 2))) (xs (Int32.toNatClampNeg (nI i + 3)))
  obtain ⟨h', e⟩ := k h2 iv
  refine ⟨h', ?_⟩
  unfold f_L_law_J1134
  rw [gd_b b1, gd_b b2, gd_b b3, e1, bd_s, gd_b b1, gd_b b2, gd_b b3, e2, bd_s, if_pos rfl, lt_e]
  exact e
theorem LJ_1177 {L i : Nat} {xs : Nat → Int32} {h : HP} {rc : Int32 → HP → Option (Int32 × HP)} (hL : L ≤ 3072) (hi : i + 6 ≤ L) (v : IVxq h) (k : NXq L xs i rc) : ∃ h', f_L_law_J1177 L xs rc (nI i) h = some (1, h') := by
  obtain ⟨O, n, m, T, w⟩ := v
  obtain ⟨q, ow, dm, n6, en, en7⟩ := w.aq
  have b1 : inb (nI i + 1) L = true := ixb (k := 1) (by omega) hL
  have b2 : inb (nI i + 2) L = true := ixb (k := 2) (by omega) hL
  have b3 : inb (nI i + 3) L = true := ixb (k := 3) (by omega) hL
  have b4 : inb (nI i + 4) L = true := ixb (k := 4) (by omega) hL
  obtain ⟨r, h1, h2, e1, e2, iv⟩ := C_item w (xs (Int32.toNatClampNeg (nI i + 1))) (xs (Int32.toNatClampNeg (nI i + 2))) (((Int32.toInt64 (xs (Int32.toNatClampNeg (nI i + 3)))) <<< ((Int32.toInt64 32) &&& 63)) ||| ((Int32.toInt64 (xs (Int32.toNatClampNeg (nI i + 4)))) &&& 4294967295))
  obtain ⟨h', e⟩ := k h2 iv
  refine ⟨h', ?_⟩
  unfold f_L_law_J1177
  rw [gd_b b1, gd_b b2, gd_b b3, gd_b b4, e1, bd_s, gd_b b1, gd_b b2, gd_b b3, gd_b b4, e2, bd_s, if_pos rfl, lt_e]
  exact e
theorem LJ_1250 {L i : Nat} {xs : Nat → Int32} {h : HP} {rc : Int32 → HP → Option (Int32 × HP)} (hL : L ≤ 3072) (hi : i + 6 ≤ L) (v : IVxq h) (k : NXq L xs i rc) : ∃ h', f_L_law_J1250 L xs rc (nI i) h = some (1, h') := by
  obtain ⟨O, n, m, T, w⟩ := v
  obtain ⟨q, ow, dm, n6, en, en7⟩ := w.aq
  have b1 : inb (nI i + 1) L = true := ixb (k := 1) (by omega) hL
  have b2 : inb (nI i + 2) L = true := ixb (k := 2) (by omega) hL
  obtain ⟨r, e1, e2⟩ := C_read w (xs (Int32.toNatClampNeg (nI i + 1))) (xs (Int32.toNatClampNeg (nI i + 2)))
  obtain ⟨h', e⟩ := k h ⟨O, n, m, T, w⟩
  refine ⟨h', ?_⟩
  unfold f_L_law_J1250
  rw [gd_b b1, gd_b b2, e1, bo_s, gd_b b1, gd_b b2, e2, bo_s, if_pos (lgs r), lt_e]
  exact e
theorem LJ_1284 {L i : Nat} {xs : Nat → Int32} {h : HP} {rc : Int32 → HP → Option (Int32 × HP)} (hL : L ≤ 3072) (hi : i + 6 ≤ L) (v : IVxq h) (k : NXq L xs i rc) : ∃ h', f_L_law_J1284 L xs rc (nI i) h = some (1, h') := by
  obtain ⟨O, n, m, T, w⟩ := v
  obtain ⟨q, ow, dm, n6, en, en7⟩ := w.aq
  have b1 : inb (nI i + 1) L = true := ixb (k := 1) (by omega) hL
  have b2 : inb (nI i + 2) L = true := ixb (k := 2) (by omega) hL
  have b3 : inb (nI i + 3) L = true := ixb (k := 3) (by omega) hL
  have b4 : inb (nI i + 4) L = true := ixb (k := 4) (by omega) hL
  have b5 : inb (nI i + 5) L = true := ixb (k := 5) (by omega) hL
  obtain ⟨r, h1, h2, e1, e2, iv⟩ := C_shift w (xs (Int32.toNatClampNeg (nI i + 1))) (xs (Int32.toNatClampNeg (nI i + 2))) (xs (Int32.toNatClampNeg (nI i + 3))) (xs (Int32.toNatClampNeg (nI i + 4))) (xs (Int32.toNatClampNeg (nI i + 5)))
  obtain ⟨h', e⟩ := k h2 iv
  refine ⟨h', ?_⟩
  unfold f_L_law_J1284
  rw [gd_b b1, gd_b b2, gd_b b3, gd_b b4, gd_b b5, e1, bd_s, gd_b b1, gd_b b2, gd_b b3, gd_b b4, gd_b b5, e2, bd_s, if_pos rfl, lt_e]
  exact e
theorem law_go {L : Nat} {xs : Nat → Int32} (hL : L ≤ 3072) : ∀ (c i fuel : Nat) (h : HP), i + 6 * c ≤ L + 6 → L < i + 6 * c → c < fuel → IVxq h → ∃ h', f_L_law_L18 L xs fuel (nI i) h = some (1, h') := by
  intro c
  induction c with
  | zero => 
    intro i fuel h h1 h2 hf v
    obtain ⟨f, rfl⟩ : ∃ f, fuel = f + 1 := ⟨fuel - 1, by omega⟩
    refine ⟨h, ?_⟩
    rw [f_L_law_L18, if_pos]
    show nI L - nI 6 < nI i
    rw [Int32.lt_iff_toInt_lt, subI (by omega) (by omega), nI_toInt (by omega)]
    omega
  | succ c ih =>
    intro i fuel h h1 h2 hf v
    obtain ⟨f, rfl⟩ : ∃ f, fuel = f + 1 := ⟨fuel - 1, by omega⟩
    by_cases z : L < i + 6
    · refine ⟨h, ?_⟩
      rw [f_L_law_L18, if_pos]
      show nI L - nI 6 < nI i
      rw [Int32.lt_iff_toInt_lt, subI (by omega) (by omega), nI_toInt (by omega)]
      omega
    · have hi : i + 6 ≤ L := by omega
      have k : NXq L xs i (fun z0 z1 => f_L_law_L18 L xs f z0 z1) := fun h2 v2 => by
        have := ih (i + 6) f h2 (by omega) (by omega) (by omega) v2
        rw [show nI i + 6 = nI (i + 6) from add_n i 6]
        exact this
      rw [f_L_law_L18, if_neg (by
        show ¬ nI L - nI 6 < nI i
        rw [Int32.lt_iff_toInt_lt, subI (by omega) (by omega), nI_toInt (by omega)]
        omega), gd_b (inb_n (by omega) (by omega)), lt_e]
      generalize xs (nI i).toNatClampNeg &&& 63 = y
      by_cases z0 : y = 0
      · rw [if_pos z0]; exact LJ_200 hL hi v k
      rw [if_neg z0]
      by_cases z1 : y = 1
      · rw [if_pos z1]; exact LJ_243 hL hi v k
      rw [if_neg z1]
      by_cases z2 : y = 2
      · rw [if_pos z2]; exact LJ_276 hL hi v k
      rw [if_neg z2]
      by_cases z3 : y = 3
      · rw [if_pos z3]; exact LJ_319 hL hi v k
      rw [if_neg z3]
      by_cases z4 : y = 4
      · rw [if_pos z4]; exact LJ_362 hL hi v k
      rw [if_neg z4]
      by_cases z5 : y = 5
      · rw [if_pos z5]; exact LJ_385 hL hi v k
      rw [if_neg z5]
      by_cases z6 : y = 6
      · rw [if_pos z6]; exact LJ_408 hL hi v k
      rw [if_neg z6]
      by_cases z7 : y = 7
      · rw [if_pos z7]; exact LJ_441 hL hi v k
      rw [if_neg z7]
      by_cases z8 : y = 8
      · rw [if_pos z8]; exact LJ_464 hL hi v k
      rw [if_neg z8]
      by_cases z9 : y = 9
      · rw [if_pos z9]; exact LJ_477 hL hi v k
      rw [if_neg z9]
      by_cases z10 : y = 10
      · rw [if_pos z10]; exact LJ_500 hL hi v k
      rw [if_neg z10]
      by_cases z11 : y = 11
      · rw [if_pos z11]; exact LJ_523 hL hi v k
      rw [if_neg z11]
      by_cases z12 : y = 12
      · rw [if_pos z12]; exact LJ_556 hL hi v k
      rw [if_neg z12]
      by_cases z13 : y = 13
      · rw [if_pos z13]; exact LJ_579 hL hi v k
      rw [if_neg z13]
      by_cases z14 : y = 14
      · rw [if_pos z14]; exact LJ_602 hL hi v k
      rw [if_neg z14]
      by_cases z15 : y = 15
      · rw [if_pos z15]; exact LJ_615 hL hi v k
      rw [if_neg z15]
      by_cases z16 : y = 16
      · rw [if_pos z16]; exact LJ_638 hL hi v k
      rw [if_neg z16]
      by_cases z17 : y = 17
      · rw [if_pos z17]; exact LJ_671 hL hi v k
      rw [if_neg z17]
      by_cases z18 : y = 18
      · rw [if_pos z18]; exact LJ_694 hL hi v k
      rw [if_neg z18]
      by_cases z19 : y = 19
      · rw [if_pos z19]; exact LJ_727 hL hi v k
      rw [if_neg z19]
      by_cases z20 : y = 20
      · rw [if_pos z20]; exact LJ_760 hL hi v k
      rw [if_neg z20]
      by_cases z21 : y = 21
      · rw [if_pos z21]; exact LJ_793 hL hi v k
      rw [if_neg z21]
      by_cases z22 : y = 22
      · rw [if_pos z22]; exact LJ_827 hL hi v k
      rw [if_neg z22]
      by_cases z23 : y = 23
      · rw [if_pos z23]; exact LJ_851 hL hi v k
      rw [if_neg z23]
      by_cases z24 : y = 24
      · rw [if_pos z24]; exact LJ_884 hL hi v k
      rw [if_neg z24]
      by_cases z25 : y = 25
      · rw [if_pos z25]; exact LJ_907 hL hi v k
      rw [if_neg z25]
      by_cases z26 : y = 26
      · rw [if_pos z26]; exact LJ_940 hL hi v k
      rw [if_neg z26]
      by_cases z27 : y = 27
      · rw [if_pos z27]; exact LJ_953 hL hi v k
      rw [if_neg z27]
      by_cases z28 : y = 28
      · rw [if_pos z28]; exact LJ_986 hL hi v k
      rw [if_neg z28]
      by_cases z29 : y = 29
      · rw [if_pos z29]; exact LJ_999 hL hi v k
      rw [if_neg z29]
      by_cases z30 : y = 30
      · rw [if_pos z30]; exact LJ_1012 hL hi v k
      rw [if_neg z30]
      by_cases z31 : y = 31
      · rw [if_pos z31]; exact LJ_1055 hL hi v k
      rw [if_neg z31]
      by_cases z32 : y = 32
      · rw [if_pos z32]; exact LJ_1078 hL hi v k
      rw [if_neg z32]
      by_cases z33 : y = 33
      · rw [if_pos z33]; exact LJ_1111 hL hi v k
      rw [if_neg z33]
      by_cases z34 : y = 34
      · rw [if_pos z34]; exact LJ_1134 hL hi v k
      rw [if_neg z34]
      by_cases z35 : y = 35
      · rw [if_pos z35]; exact LJ_1177 hL hi v k
      rw [if_neg z35]
      by_cases z36 : y = 36
      · rw [if_pos z36]; exact LJ_1250 hL hi v k
      rw [if_neg z36]
      by_cases z37 : y = 37
      · rw [if_pos z37]; exact LJ_1284 hL hi v k
      rw [if_neg z37]
      rw [lt_e]
      exact k h v
theorem law_loop {L : Nat} {xs : Nat → Int32} {h : HP} (hL : L ≤ 3072) (v : IVxq h) : ∃ h', f_L_law_L18 L xs FZ 0 h = some (1, h') :=
  law_go hL (L / 6 + 1) 0 FZ h (by omega) (by omega) (by have := FZ_ge; omega) v
