/-! piece -/
def zr (cell n : Nat) : Nat → Nat → HP → HP
  | 0, _, g => g
  | c + 1, i, g => zr cell n c (i + 1) (si g cell (4 * n + i) 0)
def zp (n : Nat) : Nat → Nat → AS → AS
  | 0, _, a => a
  | c + 1, i, a => zp n c (i + 1) (sPut a 5 (4 * n + i) 0)
theorem zr_c {cell n : Nat} {c' : Nat} (hc : c' ≠ cell) : ∀ (c i : Nat) (g : HP), (zr cell n c i g).1 c' = g.1 c' := by
  intro c
  induction c with
  | zero => intro i g; rfl
  | succ c ih => intro i g; rw [zr, ih, si_r hc]
theorem zr_2 {cell n : Nat} : ∀ (c i : Nat) (g : HP), (zr cell n c i g).2 = g.2 := by
  intro c
  induction c with
  | zero => intro i g; rfl
  | succ c ih => intro i g; rw [zr, ih]; rfl
theorem zr_dv {n : Nat} (hn : n < 6) : ∀ (c i : Nat) (g : HP), i + c ≤ 4 → dv 6 (zr 12 n c i g) = zp n c i (dv 6 g) := by
  intro c
  induction c with
  | zero => intro i g _; rfl
  | succ c ih => intro i g hi; rw [zr, ih _ _ (by omega), zp, show (12 : Nat) = 6 + 6 from rfl, dv_put5 (by omega)]
theorem zr_mv {n : Nat} (hn : n < 6) : ∀ (c i : Nat) (g : HP), i + c ≤ 4 → mv (zr 102 n c i g) = zp n c i (mv g) := by
  intro c
  induction c with
  | zero => intro i g _; rfl
  | succ c ih => intro i g hi; rw [zr, ih _ _ (by omega), zp, mv_put5 (by omega)]
theorem zp_w {n : Nat} : ∀ (c i : Nat) (a : AS), WFA a → DM a → WFA (zp n c i a) ∧ DM (zp n c i a) ∧ (zp n c i a).1 = a.1 ∧ ∀ y, y ≠ 5 → (zp n c i a).2 y = a.2 y := by
  intro c
  induction c with
  | zero => intro i a w d; exact ⟨w, d, rfl, fun _ _ => rfl⟩
  | succ c ih =>
    intro i a w d
    obtain ⟨q1, q2, q3, q4⟩ := ih (i + 1) (sPut a 5 (4 * n + i) 0) (WFA_put w (by unfold okP; omega)) (DM_put d (by omega))
    exact ⟨q1, q2, q3, fun y hy => (q4 y hy).trans (sPut_n _ _ hy)⟩
theorem B1_take_L49 {n : Nat} (hn : n < 6) : ∀ (c i : Nat) (g : HP) (fuel : Nat), i + c = 4 → c < fuel → g.1 6 7 = nI n → f_X1_take_L49 6 fuel (nI n) (nI i) g = some (nI n, si (zr 12 n c i g) 6 7 (nI (n + 1))) := by
  intro c
  induction c with
  | zero =>
    intro i g fuel hi hf e
    obtain ⟨f, rfl⟩ : ∃ f, fuel = f + 1 := ⟨fuel - 1, by omega⟩
    rw [f_X1_take_L49, if_pos (by rw [show (4 : Int32) = nI 4 from rfl, le_n (by omega) (by omega)]; omega), e, one_n, lt_e]
    rfl
  | succ c ih =>
    intro i g fuel hi hf e
    obtain ⟨f, rfl⟩ : ∃ f, fuel = f + 1 := ⟨fuel - 1, by omega⟩
    have hix : (4 : Int32) * nI n + nI i = nI (4 * n + i) := by rw [show (4 : Int32) = nI 4 from rfl, mul_n, add_n]
    rw [f_X1_take_L49, if_neg (by rw [show (4 : Int32) = nI 4 from rfl, le_n (by omega) (by omega)]; omega), hix, gd_b (inb_n (by omega) (by omega)), cl_n (by omega), lt_e, lt_e, one_n]
    exact ih (i + 1) (si g 12 (4 * n + i) 0) f (by omega) (by omega) (by rw [si_r (by omega)]; exact e)
theorem B7_piece_L103 {n : Nat} (hn : n < 6) : ∀ (c i : Nat) (g : HP) (fuel : Nat), i + c = 4 → c < fuel → g.1 96 0 = nI n → f_X7_piece_L103 fuel (nI i) g = some (nI n, si (zr 102 n c i g) 96 0 (nI (n + 1))) := by
  intro c
  induction c with
  | zero =>
    intro i g fuel hi hf e
    obtain ⟨f, rfl⟩ : ∃ f, fuel = f + 1 := ⟨fuel - 1, by omega⟩
    rw [f_X7_piece_L103, if_pos (by rw [show (4 : Int32) = nI 4 from rfl, le_n (by omega) (by omega)]; omega), e, one_n, lt_e, si_w, up_s, show (1 : Int32) = nI 1 from rfl, sub_n (by omega)]
    rfl
  | succ c ih =>
    intro i g fuel hi hf e
    obtain ⟨f, rfl⟩ : ∃ f, fuel = f + 1 := ⟨fuel - 1, by omega⟩
    have hix : (4 : Int32) * nI n + nI i = nI (4 * n + i) := by rw [show (4 : Int32) = nI 4 from rfl, mul_n, add_n]
    rw [f_X7_piece_L103, if_neg (by rw [show (4 : Int32) = nI 4 from rfl, le_n (by omega) (by omega)]; omega), e, hix, gd_b (inb_n (by omega) (by omega)), cl_n (by omega), lt_e, lt_e, one_n]
    exact ih (i + 1) (si g 102 (4 * n + i) 0) f (by omega) (by omega) (by rw [si_r (by omega)]; exact e)
/-- the writes ahead of the rows -/
def fw5 (b n : Nat) (K V L : Int32) (h : HP) : HP := si (si (si (si (si h b n K) (b + 1) n V) (b + 2) n L) (b + 3) n 0) (b + 4) n 0
def fp5 (n : Nat) (K V L : Int32) (a : AS) : AS := sPut (sPut (sPut (sPut (sPut a 0 n K) 1 n V) 2 n L) 3 n 0) 4 n 0
theorem fw5_c {b n : Nat} {K V L : Int32} {h : HP} {c : Nat} (hc : ¬ (b ≤ c ∧ c ≤ b + 4)) : (fw5 b n K V L h).1 c = h.1 c := by
  unfold fw5; simp only [si_r (show c ≠ b + 4 by omega), si_r (show c ≠ b + 3 by omega), si_r (show c ≠ b + 2 by omega), si_r (show c ≠ b + 1 by omega), si_r (show c ≠ b by omega)]
theorem fw5_dv {n : Nat} {K V L : Int32} {h : HP} (hn : n < 6) : dv 6 (fw5 7 n K V L h) = fp5 n K V L (dv 6 h) := by
  unfold fw5 fp5
  rw [dv_put (o := 6) (i := 4) (by omega) hn, dv_put (o := 6) (i := 3) (by omega) hn, dv_put (o := 6) (i := 2) (by omega) hn, dv_put (o := 6) (i := 1) (by omega) hn, dv_put (o := 6) (i := 0) (by omega) hn]
theorem fw5_mv {n : Nat} {K V L : Int32} {h : HP} (hn : n < 6) : mv (fw5 97 n K V L h) = fp5 n K V L (mv h) := by
  unfold fw5 fp5
  rw [mv_put (i := 4) (by omega) hn, mv_put (i := 3) (by omega) hn, mv_put (i := 2) (by omega) hn, mv_put (i := 1) (by omega) hn, mv_put (i := 0) (by omega) hn]
theorem fp5_w {n : Nat} {k v l : Nat} {a : AS} (w : WFA a) (d : DM a) (hk : k ≤ 6) (hv : v ≤ 9) (hl : l ≤ 99) : WFA (fp5 n (nI k) (nI v) (nI l) a) ∧ DM (fp5 n (nI k) (nI v) (nI l) a) ∧ (fp5 n (nI k) (nI v) (nI l) a).1 = a.1 := by
  unfold fp5
  exact ⟨WFA_put (WFA_put (WFA_put (WFA_put (WFA_put w (Or.inl ⟨rfl, k, hk, rfl⟩)) (Or.inr (Or.inl ⟨rfl, v, hv, rfl⟩))) (Or.inr (Or.inr (Or.inl ⟨Or.inl rfl, l, hl, rfl⟩)))) (Or.inr (Or.inr (Or.inl ⟨Or.inr rfl, 0, by omega, rfl⟩)))) (by unfold okP; omega), DM_put (DM_put (DM_put (DM_put (DM_put d (by omega)) (by omega)) (by omega)) (by omega)) (by omega), rfl⟩
theorem WFA_more {a : AS} {n : Nat} (w : WFA a) (h0 : a.1 0 = nI n) (hn : n < 6) : WFA (sSet a 0 (nI (n + 1))) := by
  obtain ⟨n', k', w1, w2, w3, w4, w5, w6, w7, w8, w9, w12⟩ := w
  have en : n' = n := (eq_n (by omega) (by omega)).mp (w3.symm.trans h0)
  subst en
  exact ⟨n' + 1, k', by omega, w2, sSet_s _ _ _, by rw [sSet_n a _ (by omega)]; exact w4, fun j hj => by obtain ⟨m, hm, e⟩ := w5 j hj; exact ⟨m, by omega, e⟩, by rw [sSet_n a _ (by omega)]; exact w6, by rw [sSet_n a _ (by omega)]; exact w7, by rw [sSet_n a _ (by omega)]; exact w8, by rw [sSet_n a _ (by omega)]; exact w9, w12⟩
theorem E_take {n : Nat} {h : HP} (hn : n < 6) (e : h.1 6 7 = nI n) (K V L : Int32) : f_X1_take 6 K V L h = some (nI n, si (zr 12 n 4 0 (fw5 7 n K V L h)) 6 7 (nI (n + 1))) := by
  have i6 := inb_n (show n < 6 by omega) (show (6 : Nat) < 2147483648 by omega)
  unfold f_X1_take
  rw [e, lt_e, gd_b i6, cl_n (by omega), lt_e, gd_b i6, lt_e, gd_b i6, lt_e, gd_b i6, lt_e, gd_b i6, lt_e]
  exact B1_take_L49 hn 4 0 (fw5 7 n K V L h) FZ (by omega) (by have := FZ_ge; omega) (by rw [fw5_c (by omega)]; exact e)
theorem C_piece {O : OS} {n m : Nat} {T : Nat → OS} {h : HP} (w : IVq O n m T h) (x1 x2 x3 : Int32) : ∃ r h1 h2, f_X6_piece x1 x2 x3 h = some (r, h1) ∧ f_X7_piece x1 x2 x3 h1 = some (r, h2) ∧ IVxq h2 := by
  have d := w.1
  have n6 := d.2.2.2.2.2.1
  have e0 := d.2.2.2.2.2.2
  have e9 := d.mv0
  have stay : ∀ r, f_X6_piece x1 x2 x3 h = some (r, h) → f_X7_piece x1 x2 x3 h = some (r, h) → ∃ r h1 h2, f_X6_piece x1 x2 x3 h = some (r, h1) ∧ f_X7_piece x1 x2 x3 h1 = some (r, h2) ∧ IVxq h2 := fun r a b => ⟨r, h, h, a, b, O, n, m, T, w⟩
  rcases rngc x1 (lo := 0) (hi := 6) 0 6 rfl rfl (by omega) (by omega) with ⟨q1, -⟩ | ⟨k, -, hk, rfl, q1⟩
  · refine stay (-1) ?_ ?_
    · unfold f_X6_piece; rw [E_within, q1, bo_s, if_pos rfl]
    · unfold f_X7_piece; rw [E_in, q1, bo_s, if_pos rfl]
  · rcases rngc x2 (lo := 0) (hi := 9) 0 9 rfl rfl (by omega) (by omega) with ⟨q2, -⟩ | ⟨v, -, hv, rfl, q2⟩
    · refine stay (-2) ?_ ?_
      · unfold f_X6_piece; rw [E_within, q1, bo_s, if_neg one_ne, E_within, q2, bo_s, if_pos rfl]
      · unfold f_X7_piece; rw [E_in, q1, bo_s, if_neg one_ne, E_in, q2, bo_s, if_pos rfl]
    · rcases rngc x3 (lo := 1) (hi := 99) 1 99 rfl rfl (by omega) (by omega) with ⟨q3, -⟩ | ⟨l, -, hl, rfl, q3⟩
      · refine stay (-2) ?_ ?_
        · unfold f_X6_piece; rw [E_within, q1, bo_s, if_neg one_ne, E_within, q2, bo_s, if_neg one_ne, E_within, q3, bo_s, if_pos rfl]
        · unfold f_X7_piece; rw [E_in, q1, bo_s, if_neg one_ne, E_in, q2, bo_s, if_neg one_ne, E_in, q3, bo_s, if_pos rfl]
      · by_cases z : n = 6
        · subst z
          refine stay (-4) ?_ ?_
          · unfold f_X6_piece; rw [E_within, q1, bo_s, if_neg one_ne, E_within, q2, bo_s, if_neg one_ne, E_within, q3, bo_s, if_neg one_ne, e0, if_neg (show ¬ nI 6 < 6 by decide)]
          · unfold f_X7_piece; rw [E_in, q1, bo_s, if_neg one_ne, E_in, q2, bo_s, if_neg one_ne, E_in, q3, bo_s, if_neg one_ne, e9, if_pos (show nI 6 = 6 from rfl)]
        · have hn : n < 6 := by omega
          have i6 := inb_n (show n < 6 by omega) (show (6 : Nat) < 2147483648 by omega)
          generalize hg : si (zr 12 n 4 0 (fw5 7 n (nI k) (nI v) (nI l) h)) 6 7 (nI (n + 1)) = g
          have cg : ∀ c, 96 ≤ c → g.1 c = h.1 c := fun c hc => by rw [← hg, si_r (by omega), zr_c (by omega), fw5_c (by omega)]
          have eg : g.1 96 0 = nI n := by rw [cg 96 (by omega)]; exact e9
          refine ⟨nI n, g, si (zr 102 n 4 0 (fw5 97 n (nI k) (nI v) (nI l) g)) 96 0 (nI (n + 1)), ?_, ?_, O, n + 1, m, T, ?_⟩
          · unfold f_X6_piece; rw [E_within, q1, bo_s, if_neg one_ne, E_within, q2, bo_s, if_neg one_ne, E_within, q3, bo_s, if_neg one_ne, e0, if_pos (by rw [show (6 : Int32) = nI 6 from rfl, lt_n (by omega) (by omega)]; exact hn), E_take hn e0, bd_s, hg]
          · unfold f_X7_piece
            rw [E_in, q1, bo_s, if_neg one_ne, E_in, q2, bo_s, if_neg one_ne, E_in, q3, bo_s, if_neg one_ne, eg, if_neg (by rw [show (6 : Int32) = nI 6 from rfl, eq_n (by omega) (by omega)]; exact z), gd_b i6, cl_n (by omega), lt_e, si_r (show (96 : Nat) ≠ 97 by omega), eg, gd_b i6, cl_n (by omega), lt_e, si_r (show (96 : Nat) ≠ 98 by omega), si_r (show (96 : Nat) ≠ 97 by omega), eg, gd_b i6, cl_n (by omega), lt_e, si_r (show (96 : Nat) ≠ 99 by omega), si_r (show (96 : Nat) ≠ 98 by omega), si_r (show (96 : Nat) ≠ 97 by omega), eg, gd_b i6, cl_n (by omega), lt_e, si_r (show (96 : Nat) ≠ 100 by omega), si_r (show (96 : Nat) ≠ 99 by omega), si_r (show (96 : Nat) ≠ 98 by omega), si_r (show (96 : Nat) ≠ 97 by omega), eg, gd_b i6, cl_n (by omega), lt_e]
            exact B7_piece_L103 hn 4 0 (fw5 97 n (nI k) (nI v) (nI l) g) FZ (by omega) (by have := FZ_ge; omega) (by rw [fw5_c (by omega)]; exact eg)
          · have f : Kq SBq (fun j => j = 0) N_q (OD 22) h (si (zr 102 n 4 0 (fw5 97 n (nI k) (nI v) (nI l) g)) 96 0 (nI (n + 1))) := by
              refine ⟨fun c hc q => ?_, fun j q => ?_, fun c _ => ?_, fun c _ => ?_⟩
              · have a1 : ¬ (6 ≤ c ∧ c ≤ 13) := fun z => q (Or.inl z)
                have a2 : ¬ (97 ≤ c ∧ c ≤ 103) := fun z => q (Or.inr (Or.inr (Or.inl z)))
                rw [si_r hc, zr_c (by omega), fw5_c (by omega), ← hg, si_r (by omega), zr_c (by omega), fw5_c (by omega)]
              · rw [si_w, up_n _ _ q, zr_c (by omega), fw5_c (by omega), cg 96 (by omega)]
              · show (zr 102 n 4 0 (fw5 97 n (nI k) (nI v) (nI l) g)).2.1 c = h.2.1 c
                rw [zr_2, ← hg]
                show (zr 12 n 4 0 (fw5 7 n (nI k) (nI v) (nI l) h)).2.1 c = h.2.1 c
                rw [zr_2]; rfl
              · show (zr 102 n 4 0 (fw5 97 n (nI k) (nI v) (nI l) g)).2.2 c = h.2.2 c
                rw [zr_2, ← hg]
                show (zr 12 n 4 0 (fw5 7 n (nI k) (nI v) (nI l) h)).2.2 c = h.2.2 c
                rw [zr_2]; rfl
            refine w.deck (by omega) f (fun j z => by omega) ?_
            obtain ⟨d1, d2, d3, d4, d5, d6, d7⟩ := d
            obtain ⟨y1, y2, y3⟩ := fp5_w (n := n) d4 d5 hk hv hl
            obtain ⟨y4, y5, y6, y7⟩ := zp_w (n := n) 4 0 _ y1 y2
            have eg6 : ∀ c, 6 ≤ c → c ≤ 13 → (si (zr 102 n 4 0 (fw5 97 n (nI k) (nI v) (nI l) g)) 96 0 (nI (n + 1))).1 c = g.1 c := fun c a b => by rw [si_r (by omega), zr_c (by omega), fw5_c (by omega)]
            have e1 : dv 6 (si (zr 102 n 4 0 (fw5 97 n (nI k) (nI v) (nI l) g)) 96 0 (nI (n + 1))) = sSet (zp n 4 0 (fp5 n (nI k) (nI v) (nI l) (dv 6 h))) 0 (nI (n + 1)) := by
              rw [dv_fr (fun c a b => eg6 c a (by omega)), ← hg, dv_set (o := 6) (j := 0) (by omega) (by omega), zr_dv hn _ _ _ (by omega), fw5_dv hn]
            have emg : mv g = mv h := mv_fr (fun j _ => by rw [cg 96 (by omega)]) (fun c a b => cg c (by omega))
            have e2 : mv (si (zr 102 n 4 0 (fw5 97 n (nI k) (nI v) (nI l) g)) 96 0 (nI (n + 1))) = sSet (zp n 4 0 (fp5 n (nI k) (nI v) (nI l) (mv h))) 0 (nI (n + 1)) := by
              rw [mv_set (j := 0) (by omega) (by omega), zr_mv hn _ _ _ (by omega), fw5_mv hn, emg]
            have e3 : (zp n 4 0 (fp5 n (nI k) (nI v) (nI l) (dv 6 h))).1 0 = nI n := by rw [y6, y3, dv_s 6 h (by omega)]; exact d7
            refine ⟨by rw [e1, e2, d1], ?_, ?_, by rw [e1]; exact WFA_more y4 e3 hn, by rw [e1]; exact DM_cg y5 (sSet_n _ _ (by omega)) rfl, by omega, ?_⟩
            · rw [f.2.1 31 (by omega)]; exact d2
            · rw [f.2.1 32 (by omega)]; exact d3
            · rw [eg6 6 (by omega) (by omega), ← hg, si_w, up_s]
