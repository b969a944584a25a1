/-! longest, in the reference -/
def dgt : Nat → Nat → Nat → Nat
  | 0, _, _ => 0
  | c + 1, r, j => if j = c then r % 6 else dgt c (r / 6) j
theorem dgt_s {c r : Nat} : dgt (c + 1) r c = r % 6 := if_pos rfl
theorem dgt_n {c r j : Nat} (h : j ≠ c) : dgt (c + 1) r j = dgt c (r / 6) j := if_neg h
theorem lo_L9 : ∀ (c r : Nat) (g : HP) (fuel : Nat) (x : Int32), c < fuel → c ≤ 3 → r < 1000 → x = (if c = 0 then -1 else nI (c - 1)) → ∃ g', f_X7_layOrder_L9 fuel (nI r) x g = f_X7_layOrder_L36 FZ 0 g' ∧ (∀ j, j < c → g'.1 103 j = nI (dgt c r j)) ∧ (∀ j, c ≤ j → g'.1 103 j = g.1 103 j) ∧ FM K103 NO_ g g' := by
  intro c
  induction c with
  | zero =>
    intro r g fuel x hf hc hr hx
    obtain ⟨f, rfl⟩ : ∃ f, fuel = f + 1 := ⟨fuel - 1, by omega⟩
    rw [if_pos rfl] at hx
    subst hx
    refine ⟨g, ?_, fun j hj => by omega, fun _ _ => rfl, FM.rf⟩
    rw [f_X7_layOrder_L9, if_pos neg1_lt]
  | succ c ih =>
    intro r g fuel x hf hc hr hx
    obtain ⟨f, rfl⟩ : ∃ f, fuel = f + 1 := ⟨fuel - 1, by omega⟩
    rw [if_neg (by omega), Nat.add_sub_cancel] at hx
    subst hx
    have e6 : nI r - nI r / 6 * 6 = nI (r % 6) := rem_n (b := 6) (by omega) (by omega) (by omega)
    have d6 : nI r / 6 = nI (r / 6) := div_n (b := 6) (by omega) (by omega) (by omega)
    have hnx : nI c + -1 = if c = 0 then -1 else nI (c - 1) := by
      by_cases z : c = 0
      · subst z; rw [if_pos rfl]; exact dn_0
      · rw [if_neg z]
        obtain ⟨d, rfl⟩ : ∃ d, c = d + 1 := ⟨c - 1, by omega⟩
        exact dn_n d
    obtain ⟨g', e, p1, p2, fr⟩ := ih (r / 6) (si g 103 c (nI (r % 6))) f (nI c + -1) (by omega) (by omega) (by omega) hnx
    refine ⟨g', ?_, fun j hj => ?_, fun j hj => ?_, (FM.cell (by omega) (show K103 103 from rfl)).trans fr (fun _ z => z) (fun _ z => z) (fun _ z => z) (fun _ z => z)⟩
    · rw [f_X7_layOrder_L9, if_neg (nI_pos (by omega)), gd_b (inb_n (by omega) (by omega)), cl_n (by omega), e6, d6, lt_e, lt_e, lt_e]
      exact e
    · by_cases z : j = c
      · subst z; rw [p2 j (Nat.le_refl _), si_w, up_s, dgt_s]
      · rw [p1 j (by omega), dgt_n z]
    · rw [p2 j (by omega), si_w, up_n _ _ (by omega)]
theorem lo_L96_0 {kk k : Nat} {g : HP} (hk : k < 3) (rc : Int32 → HP → Option (Int32 × HP)) : ∀ (c i fuel : Nat), i + c = k → c < fuel → f_X7_layOrder_L96 rc fuel (nI k) 0 (nI i) g = some (0, g) := by
  intro c
  induction c with
  | zero =>
    intro i fuel hi hf
    obtain ⟨f, rfl⟩ : ∃ f, fuel = f + 1 := ⟨fuel - 1, by omega⟩
    rw [f_X7_layOrder_L96, if_pos (by rw [le_n (by omega) (by omega)]; omega), if_pos rfl]
  | succ c ih =>
    intro i fuel hi hf
    obtain ⟨f, rfl⟩ : ∃ f, fuel = f + 1 := ⟨fuel - 1, by omega⟩
    rw [f_X7_layOrder_L96, if_neg (by rw [le_n (by omega) (by omega)]; omega), if_pos rfl, lt_e, one_n]
    exact ih (i + 1) f (by omega) (by omega)
theorem lo_L96 {k : Nat} {g : HP} (hk : k < 3) (rc : Int32 → HP → Option (Int32 × HP)) : ∀ (c i fuel : Nat), i + c = k → c < fuel → ((∀ j, i ≤ j → j < k → g.1 103 j ≠ g.1 103 k) ∧ f_X7_layOrder_L96 rc fuel (nI k) 1 (nI i) g = rc (nI (k + 1)) g) ∨ ((∃ j, i ≤ j ∧ j < k ∧ g.1 103 j = g.1 103 k) ∧ f_X7_layOrder_L96 rc fuel (nI k) 1 (nI i) g = some (0, g)) := by
  intro c
  induction c with
  | zero =>
    intro i fuel hi hf
    obtain ⟨f, rfl⟩ : ∃ f, fuel = f + 1 := ⟨fuel - 1, by omega⟩
    left
    refine ⟨fun j a b => by omega, ?_⟩
    rw [f_X7_layOrder_L96, if_pos (by rw [le_n (by omega) (by omega)]; omega), if_neg one_ne, lt_e, one_n]
  | succ c ih =>
    intro i fuel hi hf
    obtain ⟨f, rfl⟩ : ∃ f, fuel = f + 1 := ⟨fuel - 1, by omega⟩
    rw [f_X7_layOrder_L96, if_neg (by rw [le_n (by omega) (by omega)]; omega), if_neg one_ne, gd_b (inb_n (by omega) (by omega)), gd_b (inb_n (by omega) (by omega)), cl_n (by omega), cl_n (by omega)]
    by_cases z : g.1 103 i = g.1 103 k
    · right
      refine ⟨⟨i, Nat.le_refl _, by omega, z⟩, ?_⟩
      rw [if_pos z, lt_e, one_n]
      exact lo_L96_0 (kk := 0) hk rc c (i + 1) f (by omega) (by omega)
    · rw [if_neg z, lt_e, one_n]
      rcases ih (i + 1) f (by omega) (by omega) with ⟨a, b⟩ | ⟨⟨j, a1, a2, a3⟩, b⟩
      · left
        refine ⟨fun j p q => ?_, b⟩
        by_cases e : j = i
        · subst e; exact z
        · exact a j (by omega) q
      · right; exact ⟨⟨j, by omega, a2, a3⟩, b⟩
theorem lo_L50 {kk k : Nat} {g : HP} (hkk : kk ≤ 3) (hk : k < 3) (h34 : g.1 96 34 = nI kk) (rc : Int32 → HP → Option (Int32 × HP)) : ∀ (c i fuel : Nat), i + c = kk → c < fuel → f_X7_layOrder_L50 rc fuel (nI k) 1 (nI i) g = f_X7_layOrder_L96 rc FZ (nI k) 1 0 g ∧ (((∃ j, i ≤ j ∧ j < kk ∧ g.1 118 j = g.1 103 k) ∧ f_X7_layOrder_L50 rc fuel (nI k) 0 (nI i) g = f_X7_layOrder_L96 rc FZ (nI k) 1 0 g) ∨ ((∀ j, i ≤ j → j < kk → g.1 118 j ≠ g.1 103 k) ∧ f_X7_layOrder_L50 rc fuel (nI k) 0 (nI i) g = f_X7_layOrder_L96 rc FZ (nI k) 0 0 g)) := by
  intro c
  induction c with
  | zero =>
    intro i fuel hi hf
    obtain ⟨f, rfl⟩ : ∃ f, fuel = f + 1 := ⟨fuel - 1, by omega⟩
    rw [f_X7_layOrder_L50, h34, if_pos (by rw [le_n (by omega) (by omega)]; omega)]
    refine ⟨rfl, Or.inr ⟨fun j a b => by omega, ?_⟩⟩
    rw [f_X7_layOrder_L50, h34, if_pos (by rw [le_n (by omega) (by omega)]; omega)]
  | succ c ih =>
    intro i fuel hi hf
    obtain ⟨f, rfl⟩ : ∃ f, fuel = f + 1 := ⟨fuel - 1, by omega⟩
    obtain ⟨i1, i2⟩ := ih (i + 1) f (by omega) (by omega)
    have s1 : f_X7_layOrder_L50 rc (f + 1) (nI k) 1 (nI i) g = f_X7_layOrder_L96 rc FZ (nI k) 1 0 g := by
      rw [f_X7_layOrder_L50, h34, if_neg (by rw [le_n (by omega) (by omega)]; omega), if_neg one_ne, lt_e, one_n]
      exact i1
    refine ⟨s1, ?_⟩
    have s0 : f_X7_layOrder_L50 rc (f + 1) (nI k) 0 (nI i) g = if g.1 118 i = g.1 103 k then f_X7_layOrder_L50 rc f (nI k) 1 (nI (i + 1)) g else f_X7_layOrder_L50 rc f (nI k) 0 (nI (i + 1)) g := by
      rw [f_X7_layOrder_L50, h34, if_neg (by rw [le_n (by omega) (by omega)]; omega), if_pos rfl, gd_b (inb_n (by omega) (by omega)), gd_b (inb_n (by omega) (by omega)), cl_n (by omega), cl_n (by omega), lt_e, one_n, lt_e]
    rw [s0]
    by_cases z : g.1 118 i = g.1 103 k
    · left
      exact ⟨⟨i, Nat.le_refl _, by omega, z⟩, by rw [if_pos z]; exact i1⟩
    · rw [if_neg z]
      rcases i2 with ⟨⟨j, a1, a2, a3⟩, b⟩ | ⟨a, b⟩
      · left; exact ⟨⟨j, by omega, a2, a3⟩, b⟩
      · right
        refine ⟨fun j p q => ?_, b⟩
        by_cases e : j = i
        · subst e; exact z
        · exact a j (by omega) q
theorem lo_L36 {kk : Nat} {g : HP} (hkk : kk ≤ 3) (h34 : g.1 96 34 = nI kk) : ∀ (c k fuel : Nat), k + c = kk → c < fuel → ((∀ x, k ≤ x → x < kk → (∃ j, j < kk ∧ g.1 118 j = g.1 103 x) ∧ ∀ j, j < x → g.1 103 j ≠ g.1 103 x) ∧ f_X7_layOrder_L36 fuel (nI k) g = some (1, g)) ∨ ((∃ x, k ≤ x ∧ x < kk ∧ ((∀ j, j < kk → g.1 118 j ≠ g.1 103 x) ∨ ∃ j, j < x ∧ g.1 103 j = g.1 103 x)) ∧ f_X7_layOrder_L36 fuel (nI k) g = some (0, g)) := by
  intro c
  induction c with
  | zero =>
    intro k fuel hi hf
    obtain ⟨f, rfl⟩ : ∃ f, fuel = f + 1 := ⟨fuel - 1, by omega⟩
    left
    refine ⟨fun x a b => by omega, ?_⟩
    rw [f_X7_layOrder_L36, h34, if_pos (by rw [le_n (by omega) (by omega)]; omega)]
  | succ c ih =>
    intro k fuel hi hf
    obtain ⟨f, rfl⟩ : ∃ f, fuel = f + 1 := ⟨fuel - 1, by omega⟩
    rw [f_X7_layOrder_L36, h34, if_neg (by rw [le_n (by omega) (by omega)]; omega)]
    obtain ⟨-, i2⟩ := lo_L50 (k := k) hkk (by omega) h34 (fun z0 z1 => f_X7_layOrder_L36 f z0 z1) kk 0 FZ (by omega) (by have := FZ_ge; omega)
    rcases i2 with ⟨⟨j, a1, a2, a3⟩, b⟩ | ⟨a, b⟩
    · have b' : f_X7_layOrder_L50 (fun z0 z1 => f_X7_layOrder_L36 f z0 z1) FZ (nI k) 0 0 g = _ := b
      rw [b']
      rcases lo_L96 (k := k) (g := g) (by omega) (fun z0 z1 => f_X7_layOrder_L36 f z0 z1) k 0 FZ (by omega) (by have := FZ_ge; omega) with ⟨p, q⟩ | ⟨⟨y, p1, p2, p3⟩, q⟩
      · have q' : f_X7_layOrder_L96 (fun z0 z1 => f_X7_layOrder_L36 f z0 z1) FZ (nI k) 1 0 g = f_X7_layOrder_L36 f (nI (k + 1)) g := q
        rw [q']
        rcases ih (k + 1) f (by omega) (by omega) with ⟨u, v⟩ | ⟨⟨x, u1, u2, u3⟩, v⟩
        · left
          refine ⟨fun x x1 x2 => ?_, v⟩
          by_cases e : x = k
          · subst e; exact ⟨⟨j, a2, a3⟩, fun y hy => p y (Nat.zero_le _) hy⟩
          · exact u x (by omega) x2
        · right; exact ⟨⟨x, by omega, u2, u3⟩, v⟩
      · right
        exact ⟨⟨k, Nat.le_refl _, by omega, Or.inr ⟨y, p2, p3⟩⟩, q⟩
    · have b' : f_X7_layOrder_L50 (fun z0 z1 => f_X7_layOrder_L36 f z0 z1) FZ (nI k) 0 0 g = _ := b
      rw [b']
      right
      exact ⟨⟨k, Nat.le_refl _, by omega, Or.inl (fun j hj => a j (Nat.zero_le _) hj)⟩, lo_L96_0 (kk := kk) (by omega) _ k 0 FZ (by omega) (by have := FZ_ge; omega)⟩
/-- which row a number in base 6 tells -/
def ix (kk v : Nat) : Nat := 49 * dgt kk v 0 + (7 * (if kk = 1 then 0 else dgt kk v 1 + 1) + (if kk = 3 then dgt kk v 2 + 1 else 0))
theorem dgt_lt : ∀ (c r j : Nat), dgt c r j < 6 := by
  intro c
  induction c with
  | zero => intro r j; show 0 < 6; omega
  | succ c ih =>
    intro r j
    by_cases z : j = c
    · subst z; rw [dgt_s]; omega
    · rw [dgt_n z]; exact ih _ _
theorem ix_m {kk v : Nat} : (if kk = 1 then 0 else dgt kk v 1 + 1) < 7 := by
  have := dgt_lt kk v 1
  split <;> omega
theorem ix_t {kk v : Nat} : (if kk = 3 then dgt kk v 2 + 1 else 0) < 7 := by
  have := dgt_lt kk v 2
  split <;> omega
theorem ix_K {kk v : Nat} (h1 : 1 ≤ kk) (h3 : kk ≤ 3) : rK (ix kk v) = kk := by
  unfold ix
  rw [rK_dig ix_m ix_t]
  have : kk = 1 ∨ kk = 2 ∨ kk = 3 := by omega
  rcases this with rfl | rfl | rfl
  · rw [if_pos rfl]; rfl
  · simp
  · simp
theorem ix_E {kk v j : Nat} (h3 : kk ≤ 3) (hj : j < kk) : rE (ix kk v) j = dgt kk v j := by
  unfold ix
  rw [rE_dig ix_m ix_t]
  by_cases z0 : j = 0
  · rw [if_pos z0, z0]
  · rw [if_neg z0]
    by_cases z1 : j = 1
    · rw [if_pos z1, z1, if_neg (by omega)]; omega
    · rw [if_neg z1, if_pos (by omega), show j = 2 by omega]; omega
theorem ix_lt {kk v : Nat} : ix kk v < 294 := by
  have := dgt_lt kk v 0
  have := @ix_m kk v
  have := @ix_t kk v
  unfold ix; omega
/-- a row of the mast's own pieces: both ways of saying it -/
def OWN (a : AS) (kk i : Nat) : Prop := ∀ x, x < kk → (∃ j, j < kk ∧ a.2 6 j = nI (rE i x)) ∧ ∀ j, j < x → rE i j ≠ rE i x
theorem sPl_some {a : AS} {p : Int32} {j : Nat} (hj : j < sK a) (h : a.2 6 j = p) : sPl a p ≠ none := by
  intro z
  exact sPlF_none z j (Nat.zero_le _) (by omega) h
theorem own_iff {a : AS} {n kk i : Nat} (hkk : kk ≤ 3) (hK : sK a = kk) (hi : i < 294) (hm : ∀ j, j < kk → ∃ m, m < n ∧ a.2 6 j = nI m) (hn : n ≤ 6) (hr : rK i = kk) (hz : rM i = 0 → rT i = 0) : (vd n i ∧ LG a i) ↔ OWN a kk i := by
  have ra : rA i < 6 := by unfold rA; omega
  have rm : rM i < 7 := by unfold rM; omega
  have rt : rT i < 7 := by unfold rT; omega
  have k1 : 1 ≤ kk := by have := (rK_le i).1; omega
  have mem : ∀ x, x < kk → ((∃ j, j < kk ∧ a.2 6 j = nI (rE i x)) ↔ sPl a (nI (rE i x)) ≠ none) := by
    intro x hx
    constructor
    · rintro ⟨j, j1, j2⟩; exact sPl_some (by omega) j2
    · intro h
      cases hp : sPl a (nI (rE i x)) with
      | none => exact absurd hp h
      | some j => have := sPl_lt hp; exact ⟨j, by omega, this.2⟩
  have bnd : ∀ x, x < kk → (∃ j, j < kk ∧ a.2 6 j = nI (rE i x)) → rE i x < n := by
    rintro x hx ⟨j, j1, j2⟩
    obtain ⟨m, m1, m2⟩ := hm j j1
    have : rE i x < 7 := by unfold rE; split <;> (try split) <;> omega
    have := (eq_n (by omega) (by omega)).mp (m2.symm.trans j2)
    omega
  constructor
  · rintro ⟨v, l⟩ x hx
    refine ⟨(mem x hx).mpr (l.2 x (by omega)), fun j hj => ?_⟩
    obtain ⟨v1, v2, v3, v4, v5, v6, v7⟩ := v
    unfold rE
    unfold rK at hr
    by_cases zm : rM i = 0
    · rw [if_pos zm] at hr; omega
    · rw [if_neg zm] at hr
      by_cases zt : rT i = 0
      · rw [if_pos zt] at hr
        rw [if_pos (by omega), if_neg (by omega), if_pos (by omega)]; omega
      · rw [if_neg zt] at hr
        by_cases x1 : x = 1
        · rw [if_pos (by omega), if_neg (by omega), if_pos x1]; omega
        · by_cases j0 : j = 0
          · rw [if_pos j0, if_neg (by omega), if_neg (by omega)]; omega
          · rw [if_neg j0, if_pos (by omega), if_neg (by omega), if_neg (by omega)]; omega
  · intro o
    refine ⟨?_, hr.trans hK.symm, fun x hx => (mem x (by omega)).mp (o x (by omega)).1⟩
    have b := fun x hx => bnd x hx (o x hx).1
    have d := fun x hx => (o x hx).2
    unfold rE at b d
    unfold rK at hr
    by_cases zm : rM i = 0
    · rw [if_pos zm] at hr
      have b0 := b 0 (by omega)
      simp at b0
      exact ⟨b0, hz, by omega, by have := hz zm; omega, Or.inl zm, by omega, by have := hz zm; omega⟩
    · rw [if_neg zm] at hr
      have b0 := b 0 (by omega)
      simp at b0
      by_cases zt : rT i = 0
      · rw [if_pos zt] at hr
        have b1 := b 1 (by omega)
        have d1 := d 1 (by omega) 0 (by omega)
        simp at b1 d1
        exact ⟨b0, hz, by omega, by omega, by omega, by omega, by omega⟩
      · rw [if_neg zt] at hr
        have b1 := b 1 (by omega)
        have d1 := d 1 (by omega) 0 (by omega)
        have b2 := b 2 (by omega)
        have d2 := d 2 (by omega) 0 (by omega)
        have d3 := d 2 (by omega) 1 (by omega)
        simp at b1 d1 b2 d2 d3
        exact ⟨b0, hz, by omega, by omega, by omega, by omega, by omega⟩
theorem ix_z {kk v : Nat} (h1 : 1 ≤ kk) (h3 : kk ≤ 3) : rM (ix kk v) = 0 → rT (ix kk v) = 0 := by
  unfold ix
  obtain ⟨-, h2, h4⟩ := dig1 (a := dgt kk v 0) (@ix_m kk v) (@ix_t kk v)
  rw [h2, h4]
  by_cases z : kk = 3
  · rw [if_pos z, if_neg (by omega)]; omega
  · intro _; rw [if_neg z]
theorem B7_layOrder {a : AS} {kk v : Nat} {g : HP} (h1 : 1 ≤ kk) (h3 : kk ≤ 3) (hv : v < 1000) (h34 : g.1 96 34 = nI kk) (h118 : ∀ j, j < kk → g.1 118 j = a.2 6 j) : ∃ r g', f_X7_layOrder (nI v) g = some (r, g') ∧ (OWN a kk (ix kk v) → r = 1) ∧ (¬ OWN a kk (ix kk v) → r = 0) ∧ (∀ j, j < kk → g'.1 103 j = nI (rE (ix kk v) j)) ∧ FM K103 NO_ g g' := by
  have e1 : nI kk - 1 = nI (kk - 1) := by rw [show (1 : Int32) = nI 1 from rfl, sub_n h1]
  obtain ⟨g', e, p1, p2, fr⟩ := lo_L9 kk v g FZ (nI (kk - 1)) (by have := FZ_ge; omega) h3 hv (by rw [if_neg (by omega)])
  have h34' : g'.1 96 34 = nI kk := (fr.2.1 34 (fun z => z)).trans h34
  have q118 : ∀ j, j < kk → g'.1 118 j = a.2 6 j := fun j hj => by rw [fr.1 118 (by omega) (by unfold K103; omega)]; exact h118 j hj
  have q103 : ∀ j, j < kk → g'.1 103 j = nI (rE (ix kk v) j) := fun j hj => by rw [p1 j hj, ix_E h3 hj]
  have lt6 : ∀ j, j < kk → rE (ix kk v) j < 6 := fun j hj => by rw [ix_E h3 hj]; exact dgt_lt _ _ _
  have e' : f_X7_layOrder (nI v) g = f_X7_layOrder_L36 FZ 0 g' := by
    unfold f_X7_layOrder
    rw [h34, e1, lt_e]; exact e
  rw [e']
  rcases lo_L36 h3 h34' kk 0 FZ (by omega) (by have := FZ_ge; omega) with ⟨u, w⟩ | ⟨⟨x, u1, u2, u3⟩, w⟩
  · refine ⟨1, g', w, fun _ => rfl, fun z => absurd ?_ z, q103, fr⟩
    intro x hx
    obtain ⟨⟨j, j1, j2⟩, d⟩ := u x (Nat.zero_le _) hx
    refine ⟨⟨j, j1, by rw [← q118 j j1, j2, q103 x hx]⟩, fun y hy z => d y hy (by rw [q103 y (by omega), q103 x hx, z])⟩
  · refine ⟨0, g', w, fun z => ?_, fun _ => rfl, q103, fr⟩
    exfalso
    obtain ⟨⟨j, j1, j2⟩, d⟩ := z x u2
    rcases u3 with u3 | ⟨y, y1, y2⟩
    · exact u3 j j1 (by rw [q118 j j1, j2, q103 x u2])
    · rw [q103 y (by omega), q103 x u2] at y2
      have a1 := lt6 y (by omega)
      have a2 := lt6 x u2
      exact d y y1 ((eq_n (by omega) (by omega)).mp y2)

/-! the loop over all orders -/
def lV (u : Nat) : Nat := if u = 61 then 99 else u
def sLt : SR → Int32
  | none => -1
  | some (_, u) => nI (lV u)
theorem lV_le {u v : Nat} (hu : u ≤ 61) (hv : v ≤ 61) : lV v ≤ lV u ↔ v ≤ u := by
  unfold lV
  by_cases z : u = 61
  · rw [if_pos z]
    by_cases y : v = 61
    · rw [if_pos y]; omega
    · rw [if_neg y]; omega
  · rw [if_neg z]
    by_cases y : v = 61
    · rw [if_pos y]; omega
    · rw [if_neg y]
def LgS (s : SR) (g : HP) : Prop := match s with
  | none => True
  | some (j, _) => ∀ t, t < rK j → g.1 120 t = nI (rE j t)
theorem LgS.fr {s : SR} {g g' : HP} (b : LgS s g) (h : g'.1 120 = g.1 120) : LgS s g' := by
  unfold LgS at b ⊢
  cases s with
  | none => trivial
  | some x => obtain ⟨j, u⟩ := x; dsimp only at b ⊢; rw [h]; exact b
def SB2 (w : Nat → Option Nat) (s : SR) : Prop := ∀ j u, s = some (j, u) → w j = some u ∧ u ≤ 61 ∧ j < 294
theorem wL_le {O : OS} {a : AS} {i v : Nat} (h : wL O a i = some v) : v ≤ 61 ∧ LG a i := by
  unfold wL at h
  by_cases hp : LG a i
  · rw [pI_t hp] at h
    have h2 : some (V61 (fB O (core (sLash a i)) 61 0)) = some v := h
    rw [← Option.some.inj h2]
    refine ⟨?_, hp⟩
    generalize hf : fB O (core (sLash a i)) 61 0 = y
    cases y with
    | none => exact Nat.le_refl 61
    | some x =>
      obtain ⟨d, p⟩ := x
      have := fB_lt hf
      show d ≤ 61; omega
  · rw [pI_f hp] at h; cases h
def J120 (c : Nat) : Prop := c = 120
theorem B7_J127 {x1 x2 : Int32} {i v ν : Nat} {a b c : Int32} {s : SR} {w : Nat → Option Nat} {g : HP} (rc : Int32 → Int32 → Int32 → Int32 → HP → Option (Int32 × HP)) (hw : w i = some v) (hv : v ≤ 61) (sb : SB2 w s) (ls : LgS s g) (k3 : rK i ≤ 3) (ea : 0 < rK i → a = nI (rE i 0)) (eb : 1 < rK i → b = nI (rE i 1)) (ec : 2 < rK i → c = nI (rE i 2)) : ∃ g', f_X7_longest_J127 rc x1 x2 (sLt s) (nI ν) a b c (nI (lV v)) g = rc x1 x2 (sLt (stp w i s)) (nI (ν + 1)) g' ∧ LgS (stp w i s) g' ∧ FM J120 NO_ g g' := by
  have c0 : Int32.toNatClampNeg 0 = 0 := by decide
  have c1 : Int32.toNatClampNeg 1 = 1 := by decide
  have c2 : Int32.toNatClampNeg 2 = 2 := by decide
  have lv : ∀ u, u ≤ 61 → lV u ≤ 99 := fun u hu => by unfold lV; split <;> omega
  have upd : ∀ G : HP, G = si (si (si g 120 0 a) 120 1 b) 120 2 c → LgS (some (i, v)) G ∧ FM J120 NO_ g G := by
    intro G hG
    subst hG
    refine ⟨fun t ht => ?_, ((FM.cell (S := J120) (J := NO_) (by omega) rfl).trans (FM.cell (S := J120) (J := NO_) (by omega) rfl) (fun _ z => z) (fun _ z => z) (fun _ z => z) (fun _ z => z)).trans (FM.cell (S := J120) (J := NO_) (by omega) rfl) (fun _ z => z) (fun _ z => z) (fun _ z => z) (fun _ z => z)⟩
    have : t = 0 ∨ t = 1 ∨ t = 2 := by omega
    rcases this with rfl | rfl | rfl
    · simp [si_1]; exact ea ht
    · simp [si_1]; exact eb ht
    · simp [si_1]; exact ec ht
  unfold f_X7_longest_J127
  rw [gd_b (show inb 0 3 = true by decide), lt_e, gd_b (show inb 1 3 = true by decide), lt_e, gd_b (show inb 2 3 = true by decide), lt_e, c0, c1, c2, lt_e, lt_e, one_n]
  obtain ⟨u1, u2⟩ := upd _ rfl
  unfold stp
  rw [hw]
  cases s with
  | none =>
    rw [if_pos (show sLt none < nI (lV v) by
      show (-1 : Int32) < nI (lV v)
      have := lv v hv
      rw [Int32.lt_iff_toInt_lt, nI_toInt (by omega)]
      have : (-1 : Int32).toInt = -1 := by decide
      omega)]
    exact ⟨_, rfl, u1, u2⟩
  | some x =>
    obtain ⟨j, u⟩ := x
    obtain ⟨d1, d2, d3⟩ := sb j u rfl
    have l1 := lv v hv
    have l2 := lv u d2
    have l3 := lV_le d2 hv
    dsimp only
    by_cases z : v ≤ u
    · rw [if_neg (show ¬ sLt (some (j, u)) < nI (lV v) from fun y => by
        have := (lt_n (a := lV u) (b := lV v) (by omega) (by omega)).mp y
        have := l3.mpr z
        omega), if_pos z]
      exact ⟨g, rfl, ls, FM.rf⟩
    · rw [if_pos (show sLt (some (j, u)) < nI (lV v) from (lt_n (a := lV u) (b := lV v) (by omega) (by omega)).mpr (by
        have : ¬ lV v ≤ lV u := fun y => z (l3.mp y)
        omega)), if_neg z]
      exact ⟨_, rfl, u1, u2⟩
theorem SB2_stp {w : Nat → Option Nat} (hw : ∀ i v, w i = some v → v ≤ 61) {i : Nat} (hi : i < 294) {s : SR} (h : SB2 w s) : SB2 w (stp w i s) := by
  unfold stp
  cases hv : w i with
  | none => exact h
  | some v =>
    cases s with
    | none => intro j u e; cases e; exact ⟨hv, hw i v hv, hi⟩
    | some x =>
      obtain ⟨j0, u0⟩ := x
      dsimp only
      by_cases z : v ≤ u0
      · rw [if_pos z]; exact h
      · rw [if_neg z]; intro j u e; cases e; exact ⟨hv, hw i v hv, hi⟩
theorem wv2_le {O : OS} {a : AS} {n : Nat} : ∀ i v, wv n 2 O a i = some v → v ≤ 61 := by
  intro i v h
  have hv := wv_vd i v h
  rw [wv_val hv] at h
  exact (wL_le h).1
theorem B7_long_L57 {O : OS} {a : AS} {n kk k : Nat} (hn : n ≤ 6) (ha0 : a.1 0 = nI n) (h1 : 1 ≤ kk) (h3 : kk ≤ 3) (hK1 : a.1 1 = nI kk) (hm : ∀ j, j < kk → ∃ m, m < n ∧ a.2 6 j = nI m) (hk : k ≤ 3) {all : Nat} (hall : all ≤ 216) : ∀ (c ν : Nat) (s : SR) (h : HP) (fuel : Nat), ν + c = all → c < fuel → QM O h → mv h = a → LgS s h → SB2 (wv n 2 O a) s → (fo (fun ν => stp (wv n 2 O a) (ix kk ν)) c ν s ≠ none) → ∃ h', f_X7_longest_L57 fuel (nI k) (nI all) (sLt s) (nI ν) h = some (bL (fo (fun ν => stp (wv n 2 O a) (ix kk ν)) c ν s) k, h') ∧ BZ h h' := by
  have hK : sK a = kk := by unfold sK; rw [hK1, cl_n (by omega)]
  intro c
  induction c with
  | zero =>
    intro ν s h fuel hc hf q ha ls sb hne
    obtain ⟨f, rfl⟩ : ∃ f, fuel = f + 1 := ⟨fuel - 1, by omega⟩
    refine ⟨h, ?_, q.rf⟩
    have h3' : nI k = 3 ↔ k = 3 := eq_n (b := 3) (by omega) (by omega)
    have e1 : h.1 96 1 = nI kk := by rw [← mv_s h (show 1 < 6 by omega), ha]; exact hK1
    rw [f_X7_longest_L57, if_pos (by rw [le_n (by omega) (by omega)]; omega), e1]
    show _ = some (bL s k, h)
    cases s with
    | none => exact absurd rfl hne
    | some x =>
      obtain ⟨j, u⟩ := x
      obtain ⟨d1, d2, d3⟩ := sb j u rfl
      have hv := wv_vd j u d1
      rw [wv_val hv] at d1
      have hr : rK j = kk := (wL_le d1).2.1.trans hK
      unfold bL
      dsimp only
      by_cases z : k = 3
      · rw [if_pos (h3'.mpr z), if_pos z]
        show (if nI (lV u) = 99 then _ else some (nI (lV u), h)) = _
        unfold lV
        by_cases y : u = 61
        · rw [if_pos y, if_pos (show nI 99 = 99 from rfl), if_neg (by omega)]
        · have : ¬ nI u = 99 := fun w => by have := (eq_n (b := 99) (by omega) (by omega)).mp w; omega
          rw [if_neg y, if_neg this, if_pos (by omega)]
      · rw [if_neg (fun y => z (h3'.mp y)), if_neg z, hr]
        by_cases y : kk ≤ k
        · rw [if_pos ((le_n (by omega) (by omega)).mpr y), if_pos y]
        · rw [if_neg (fun w => y ((le_n (by omega) (by omega)).mp w)), if_neg y, gd_b (inb_n (by omega) (by omega)), cl_n (by omega)]
          have ls' : ∀ t, t < rK j → h.1 120 t = nI (rE j t) := ls
          rw [ls' k (by omega)]
  | succ c ih =>
    intro ν s h fuel hc hf q ha ls sb hne
    obtain ⟨f, rfl⟩ : ∃ f, fuel = f + 1 := ⟨fuel - 1, by omega⟩
    obtain ⟨w0, d0, g, hw0, hd0, ew, ed, e, ev, ma⟩ := ask7 q
    have e1 : h.1 96 1 = nI kk := by rw [← mv_s h (show 1 < 6 by omega), ha]; exact hK1
    have k34 : g.1 96 34 = nI kk := (ma.2.1.1 0 (by omega)).trans e1
    have k118 : ∀ j, j < kk → g.1 118 j = a.2 6 j := fun j hj => by rw [ma.2.1.2.2 j (by omega), ← ha, mv_m h h3 e1 hj]
    obtain ⟨r, g1, e2, r1', r0', m103, fr1⟩ := B7_layOrder (a := a) (v := ν) h1 h3 (by omega) k34 k118
    have own := own_iff (i := ix kk ν) (n := n) h3 hK ix_lt hm hn (ix_K h1 h3) (ix_z h1 h3)
    have S103 : ∀ c, K103 c → c = 103 := fun c z => z
    rw [f_X7_longest_L57, if_neg (by rw [le_n (by omega) (by omega)]; omega), e, bo_s, e2, bd_s]
    have hfo : fo (fun ν => stp (wv n 2 O a) (ix kk ν)) (c + 1) ν s = fo (fun ν => stp (wv n 2 O a) (ix kk ν)) c (ν + 1) (stp (wv n 2 O a) (ix kk ν) s) := rfl
    rw [hfo] at hne ⊢
    by_cases o : OWN a kk (ix kk ν)
    · obtain ⟨hv, hl⟩ := own.mpr o
      have hk6 := rK_le (ix kk ν)
      have hrK : rK (ix kk ν) = kk := ix_K h1 h3
      have hval : wv n 2 O a (ix kk ν) = some (V61 (fB O (core (sLash a (ix kk ν))) 61 0)) := by
        rw [wv_val hv]; show wL O a (ix kk ν) = _; unfold wL; rw [pI_t hl]
      have hmG : mv g1 = sLash a (ix kk ν) := by
        rw [← ha, ← ev]
        apply mv_lash
        · rw [fr1.2.1 1 (fun z => z), hrK]; rw [← mv_s g (show 1 < 6 by omega), ev, ha]; exact hK1
        · intro j hj hj1; exact fr1.2.1 j (fun z => z)
        · intro j hj; exact m103 j (by omega)
        · intro c p1 p2; exact fr1.1 c (by omega) (by unfold K103; omega)
      have wl : WFG (sLash a (ix kk ν)) := WFG_lash (by rw [← ha]; exact q.2.1.g.1) hn hv
      have mG := MA_mk ma fr1 S103 (fun j z => z.elim) hmG wl ((sLash_s a _ (by omega)).trans (by rw [← ha]; exact ew)) ((sLash_s a _ (by omega)).trans (by rw [← ha]; exact ed))
      obtain ⟨g2, e3, -, bk⟩ := B7_firstThen (n := 61) (by omega) (by omega) (by omega) mG
      have e3' : f_X7_firstThen 61 g1 = some (r1 0 (fB O (core (sLash a (ix kk ν))) 61 0), g2) := e3
      have c0 : Int32.toNatClampNeg 0 = 0 := by decide
      have c1 : Int32.toNatClampNeg 1 = 1 := by decide
      have c2 : Int32.toNatClampNeg 2 = 2 := by decide
      have ls2 : LgS s g2 := ls.fr (bk.2.2.2.1 120 (by omega) (by unfold AC; omega))
      rw [r1' o, if_neg one_ne, gd_b (show inb 0 3 = true by decide), lt_e, gd_b (show inb 1 3 = true by decide), lt_e, gd_b (show inb 2 3 = true by decide), lt_e, c0, c1, c2, e3', bd_s]
      have hV : V61 (fB O (core (sLash a (ix kk ν))) 61 0) ≤ 61 := wv2_le _ _ hval
      obtain ⟨g3, e4, ls3, fr3⟩ := B7_J127 (x1 := nI k) (x2 := nI all) (ν := ν) (a := g1.1 103 0) (b := g1.1 103 1) (c := g1.1 103 2) (s := s) (g := g2) (fun z0 z1 z2 z3 z4 => f_X7_longest_L57 f z0 z1 z2 z3 z4) hval hV sb ls2 hk6.2 (fun y => m103 0 (by omega)) (fun y => m103 1 (by omega)) (fun y => m103 2 (by omega))
      have hif : (if (0 : Int32) ≤ r1 0 (fB O (core (sLash a (ix kk ν))) 61 0) then f_X7_longest_J127 (fun z0 z1 z2 z3 z4 => f_X7_longest_L57 f z0 z1 z2 z3 z4) (nI k) (nI all) (sLt s) (nI ν) (g1.1 103 0) (g1.1 103 1) (g1.1 103 2) (r1 0 (fB O (core (sLash a (ix kk ν))) 61 0)) g2 else f_X7_longest_J127 (fun z0 z1 z2 z3 z4 => f_X7_longest_L57 f z0 z1 z2 z3 z4) (nI k) (nI all) (sLt s) (nI ν) (g1.1 103 0) (g1.1 103 1) (g1.1 103 2) 99 g2) = f_X7_longest_J127 (fun z0 z1 z2 z3 z4 => f_X7_longest_L57 f z0 z1 z2 z3 z4) (nI k) (nI all) (sLt s) (nI ν) (g1.1 103 0) (g1.1 103 1) (g1.1 103 2) (nI (lV (V61 (fB O (core (sLash a (ix kk ν))) 61 0)))) g2 := by
        have ri := r1_iff (O := O) (c0 := core (sLash a (ix kk ν))) (N := 61) (by omega)
        by_cases z : fB O (core (sLash a (ix kk ν))) 61 0 = none
        · rw [if_neg (fun y => ri.mp y z), z]; rfl
        · rw [if_pos (ri.mpr z)]
          obtain ⟨x, hx⟩ := Option.ne_none_iff_exists'.mp z
          obtain ⟨d, p⟩ := x
          have := fB_lt hx
          rw [hx]
          have l : lV (V61 (some (d, p))) = d := by show lV d = d; unfold lV; rw [if_neg (by omega)]
          rw [l]; rfl
      rw [hif, e4]
      have b3 : BZ g2 g3 := ⟨fr3.mv (fun c a b z => by unfold J120 at z; omega) (fun _ _ z => z), (fr3.2.1 31 (fun z => z)).trans bk.2.1, (fr3.2.1 32 (fun z => z)).trans bk.2.2.1, fr3.mono (fun c z => by unfold J120 at z; unfold ZC; omega) (fun _ z => z.elim)⟩
      have bz := bk.z.trans b3
      obtain ⟨h', e5, b5⟩ := ih (ν + 1) (stp (wv n 2 O a) (ix kk ν) s) g3 f (by omega) (by omega) (q.z bz) (bz.1.trans ha) ls3 (SB2_stp wv2_le ix_lt sb) hne
      exact ⟨h', e5, bz.trans b5⟩
    · have hnone : wv n 2 O a (ix kk ν) = none := by
        rcases vd_dec n (ix kk ν) with hv | hv
        · rw [wv_val hv]; show wL O a (ix kk ν) = none
          unfold wL; rw [pI_f (fun l => o (own.mp ⟨hv, l⟩))]
        · exact wv_inv hv
      rw [stp_none hnone] at hne ⊢
      have kp := ma.2.1.fm fr1 (fun c a b z => by unfold K103 at z; omega) (fun j a b z => z)
      have f0 : FM AC AJ h g1 := ma.2.2.trans fr1 (fun _ z => z) (fun c z => show AC c by unfold K103 at z; unfold AC; omega) (fun _ z => z) (fun _ z => z.elim)
      obtain ⟨g2, e3, b1, b2, b3, b4⟩ := B7_putBack kp f0
      have bk : BK h g2 := ⟨b1, b2, b3, f0.trans b4 (fun _ z => z) (fun c z => show AC c by unfold BC at z; unfold AC; omega) (fun _ z => z) (fun j z => show AJ j by unfold BJ at z; unfold AJ; omega)⟩
      rw [r0' o, if_pos rfl, e3, bo_s, lt_e, one_n]
      obtain ⟨h', e5, b5⟩ := ih (ν + 1) s g2 f (by omega) (by omega) (q.z bk.z) (bk.1.trans ha) (ls.fr (bk.2.2.2.1 120 (by omega) (by unfold AC; omega))) sb hne
      exact ⟨h', e5, bk.z.trans b5⟩
