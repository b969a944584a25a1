/-! act: what is run, told in a row -/
def ownF (k a : Nat) : Nat := (([0, 0, 0, 0, 1, 0, 2, 0, 0, 0, 0, 3, 4, 4, 0, 2, 0, 5, 6, 6, 3] : List Nat).getD (3 * k + a) 0)
def bodF (k a : Nat) : Int32 := (([10, 11, 12, 0, 20, 0, 30, 0, 0, 0, 0, 40, 50, 51, 0, 0, 0, 60, 71, 70, 0] : List Int32).getD (3 * k + a) 0)
theorem ow_t (h : HP) (f : Nat) : ∀ k a : Nat, k ≤ 6 → a ≤ 2 → f_X0_ownerOf_L4 h (f + 8) (nI a) (nI k) 0 = some (nI (ownF k a)) := by
  intro k a h1 h2
  have a1 : k = 0 ∨ k = 1 ∨ k = 2 ∨ k = 3 ∨ k = 4 ∨ k = 5 ∨ k = 6 := by omega
  have a2 : a = 0 ∨ a = 1 ∨ a = 2 := by omega
  rcases a1 with rfl | rfl | rfl | rfl | rfl | rfl | rfl <;> rcases a2 with rfl | rfl | rfl <;> rfl
theorem E_owner (h : HP) {k a : Nat} (h1 : k ≤ 6) (h2 : a ≤ 2) : f_X0_ownerOf (nI k) (nI a) h = some (nI (ownF k a)) := by
  obtain ⟨f, hf⟩ : ∃ f, FZ = f + 8 := ⟨FZ - 8, by have := FZ_ge; omega⟩
  unfold f_X0_ownerOf
  rw [hf]
  exact ow_t h f k a h1 h2
def nb6 (b : Int32) (r : Nat) (h : HP) : HP := if r < 20 then si h 82 r b else h
def lg6 (b : Int32) (r : Nat) (h : HP) : HP := si (nb6 b r h) 81 1 (nI (r + 1))
/-- what the class's run tells: how many, of which kind, number, v; the bodies -/
def K6q (K p v : Int32) (bs : List Int32) (h : HP) : Prop := h.1 81 1 = nI bs.length ∧ h.1 81 2 = K ∧ h.1 81 3 = p ∧ h.1 81 4 = v ∧ ∀ j, j < 20 → j < bs.length → h.1 82 j = bs.getD j 0
def LF6 (h h' : HP) : Prop := (∀ c, c ≠ 81 → c ≠ 82 → h'.1 c = h.1 c) ∧ h'.2 = h.2
theorem LF6.rf {h : HP} : LF6 h h := ⟨fun _ _ _ => rfl, rfl⟩
theorem LF6.trans {h h1 h2 : HP} (a : LF6 h h1) (b : LF6 h1 h2) : LF6 h h2 := ⟨fun c x y => (b.1 c x y).trans (a.1 c x y), b.2.trans a.2⟩
theorem nb6_c {b : Int32} {r : Nat} {h : HP} {c : Nat} (hc : c ≠ 82) : (nb6 b r h).1 c = h.1 c := by
  unfold nb6; split
  · exact si_r hc
  · rfl
theorem nb6_2 {b : Int32} {r : Nat} {h : HP} : (nb6 b r h).2 = h.2 := by
  unfold nb6; split <;> rfl
theorem getD_app {bs : List Int32} {b : Int32} {j : Nat} : (bs ++ [b]).getD j 0 = if j < bs.length then bs.getD j 0 else if j = bs.length then b else 0 := by
  simp only [List.getD_eq_getElem?_getD]
  by_cases h : j < bs.length
  · rw [if_pos h, List.getElem?_append_left h]
  · rw [if_neg h, List.getElem?_append_right (by omega)]
    by_cases e : j = bs.length
    · subst e; simp
    · rw [if_neg e]
      have : j - bs.length ≠ 0 := by omega
      obtain ⟨i, hi⟩ : ∃ i, j - bs.length = i + 1 := ⟨j - bs.length - 1, by omega⟩
      rw [hi]; rfl
theorem K6q.log {K p v b : Int32} {bs : List Int32} {h : HP} (k : K6q K p v bs h) : K6q K p v (bs ++ [b]) (lg6 b bs.length h) ∧ LF6 h (lg6 b bs.length h) := by
  obtain ⟨k1, k2, k3, k4, k5⟩ := k
  unfold lg6
  refine ⟨⟨by rw [si_w, up_s, List.length_append]; rfl, by rw [si_w, up_n _ _ (by omega), nb6_c (by omega)]; exact k2, by rw [si_w, up_n _ _ (by omega), nb6_c (by omega)]; exact k3, by rw [si_w, up_n _ _ (by omega), nb6_c (by omega)]; exact k4, fun j hj hl => ?_⟩, fun c h1 h2 => by rw [si_r h1, nb6_c h2], nb6_2⟩
  rw [List.length_append] at hl
  rw [si_r (by omega), getD_app]
  by_cases e : j = bs.length
  · subst e
    unfold nb6
    rw [if_pos hj, si_w, up_s, if_neg (by omega), if_pos rfl]
  · have hl2 : j < bs.length := by
      have : [b].length = 1 := rfl
      omega
    rw [if_pos hl2]
    unfold nb6
    by_cases z : bs.length < 20
    · rw [if_pos z, si_w, up_n _ _ e]; exact k5 j hj hl2
    · rw [if_neg z]; exact k5 j hj hl2
theorem own_le : ∀ k a : Nat, k ≤ 6 → a ≤ 2 → ownF k a ≤ 6 ∧ ([-1, 0, 0, 0, 1, 2, 3] : List Int32).getD (ownF k a) 0 = ([-1, 0, 0, 0, 1, 2, 3] : List Int32).getD (ownF k a) 0 := by
  intro k a h1 h2
  have a1 : k = 0 ∨ k = 1 ∨ k = 2 ∨ k = 3 ∨ k = 4 ∨ k = 5 ∨ k = 6 := by omega
  have a2 : a = 0 ∨ a = 1 ∨ a = 2 := by omega
  refine ⟨?_, rfl⟩
  rcases a1 with rfl | rfl | rfl | rfl | rfl | rfl | rfl <;> rcases a2 with rfl | rfl | rfl <;> decide
/-- a body is begun -/
theorem E_run {K p v : Int32} {bs : List Int32} {h : HP} {n k a o w : Nat} {x : Int32} (kk : K6q K p v bs h) (hl : bs.length ≤ 1000) (hk : k ≤ 6) (ha : a ≤ 2) (hw : ownF k a = w) (ho : o ≤ 40) : f_X0_run (n + 1) (nI k) (nI a) x (nI o) h = f_X0_run_J53 (f_X0_run n) x (nI o) (nI w) (bodF w a) (nb6 (bodF w a) bs.length h) := by
  have hw6 : w ≤ 6 := by rw [← hw]; exact (own_le k a hk ha).1
  have e3 : (3 : Int32) * nI w + nI a = nI (3 * w + a) := by rw [show (3 : Int32) = nI 3 from rfl, mul_n, add_n]
  rw [f_X0_run]
  unfold f_X0_run_B
  rw [E_owner h hk ha, bo_s, hw, if_neg (nI_pos (by omega)), if_pos (by rw [show (40 : Int32) = nI 40 from rfl, le_n (by omega) (by omega)]; exact ho), e3, gd_b (inb_n (by omega) (by omega)), cl_n (by omega), lt_e]
  show (if (20 : Int32) ≤ h.1 81 1 then f_X0_run_J53 (f_X0_run n) x (nI o) (nI w) (bodF w a) h else gd (inb (h.1 81 1) 20) (lt (si h 82 (Int32.toNatClampNeg (h.1 81 1)) (bodF w a)) fun g64 => f_X0_run_J53 (f_X0_run n) x (nI o) (nI w) (bodF w a) g64)) = _
  rw [kk.1]
  unfold nb6
  by_cases z : bs.length < 20
  · rw [if_neg (by rw [show (20 : Int32) = nI 20 from rfl, le_n (by omega) (by omega)]; omega), gd_b (inb_n z (by omega)), cl_n (by omega), lt_e, if_pos z]
  · rw [if_pos (by rw [show (20 : Int32) = nI 20 from rfl, le_n (by omega) (by omega)]; omega), if_neg z]
theorem J53_10 (rc : Int32 → Int32 → Int32 → Int32 → HP → Option (Int32 × HP)) {x x4 up : Int32} {w r : Nat} {h g : HP} (hw : w ≤ 6) (hr : h.1 81 1 = nI r) (hg : si h 81 1 (nI (r + 1)) = g) (hu : ([-1, 0, 0, 0, 1, 2, 3] : List Int32).getD w 0 = up) : f_X0_run_J53 rc x x4 (nI w) 10 h = (some (x + g.1 81 3, g)) := by
  unfold f_X0_run_J53
  simp only [lt_e]
  rw [hr, one_n, hg, gd_b (inb_n (show w < 7 by omega) (by omega)), cl_n (by omega), hu, if_pos trivial]
theorem J53_11 (rc : Int32 → Int32 → Int32 → Int32 → HP → Option (Int32 × HP)) {x x4 up : Int32} {w r : Nat} {h g : HP} (hw : w ≤ 6) (hr : h.1 81 1 = nI r) (hg : si h 81 1 (nI (r + 1)) = g) (hu : ([-1, 0, 0, 0, 1, 2, 3] : List Int32).getD w 0 = up) : f_X0_run_J53 rc x x4 (nI w) 11 h = (bd (rc (g.1 81 2) 0 x (x4 + 1) g) fun v20 g18 => some (v20 - g18.1 81 4, g18)) := by
  unfold f_X0_run_J53
  simp only [lt_e]
  rw [hr, one_n, hg, gd_b (inb_n (show w < 7 by omega) (by omega)), cl_n (by omega), hu, if_neg (show ¬ (11 : Int32) = 10 by decide), if_pos trivial]
theorem J53_12 (rc : Int32 → Int32 → Int32 → Int32 → HP → Option (Int32 × HP)) {x x4 up : Int32} {w r : Nat} {h g : HP} (hw : w ≤ 6) (hr : h.1 81 1 = nI r) (hg : si h 81 1 (nI (r + 1)) = g) (hu : ([-1, 0, 0, 0, 1, 2, 3] : List Int32).getD w 0 = up) : f_X0_run_J53 rc x x4 (nI w) 12 h = (bd (rc (g.1 81 2) 1 x (x4 + 1) g) fun v24 g22 => some (v24 * 2, g22)) := by
  unfold f_X0_run_J53
  simp only [lt_e]
  rw [hr, one_n, hg, gd_b (inb_n (show w < 7 by omega) (by omega)), cl_n (by omega), hu, if_neg (show ¬ (12 : Int32) = 10 by decide), if_neg (show ¬ (12 : Int32) = 11 by decide), if_pos trivial]
theorem J53_20 (rc : Int32 → Int32 → Int32 → Int32 → HP → Option (Int32 × HP)) {x x4 up : Int32} {w r : Nat} {h g : HP} (hw : w ≤ 6) (hr : h.1 81 1 = nI r) (hg : si h 81 1 (nI (r + 1)) = g) (hu : ([-1, 0, 0, 0, 1, 2, 3] : List Int32).getD w 0 = up) : f_X0_run_J53 rc x x4 (nI w) 20 h = (bd (rc up 1 x (x4 + 1) g) fun v28 g26 => some (v28 ^^^ 6, g26)) := by
  unfold f_X0_run_J53
  simp only [lt_e]
  rw [hr, one_n, hg, gd_b (inb_n (show w < 7 by omega) (by omega)), cl_n (by omega), hu, if_neg (show ¬ (20 : Int32) = 10 by decide), if_neg (show ¬ (20 : Int32) = 11 by decide), if_neg (show ¬ (20 : Int32) = 12 by decide), if_pos trivial]
theorem J53_30 (rc : Int32 → Int32 → Int32 → Int32 → HP → Option (Int32 × HP)) {x x4 up : Int32} {w r : Nat} {h g : HP} (hw : w ≤ 6) (hr : h.1 81 1 = nI r) (hg : si h 81 1 (nI (r + 1)) = g) (hu : ([-1, 0, 0, 0, 1, 2, 3] : List Int32).getD w 0 = up) : f_X0_run_J53 rc x x4 (nI w) 30 h = (bd (rc up 0 (x * 3) (x4 + 1) g) fun v32 g30 => some (v32, g30)) := by
  unfold f_X0_run_J53
  simp only [lt_e]
  rw [hr, one_n, hg, gd_b (inb_n (show w < 7 by omega) (by omega)), cl_n (by omega), hu, if_neg (show ¬ (30 : Int32) = 10 by decide), if_neg (show ¬ (30 : Int32) = 11 by decide), if_neg (show ¬ (30 : Int32) = 12 by decide), if_neg (show ¬ (30 : Int32) = 20 by decide), if_pos trivial]
theorem J53_40 (rc : Int32 → Int32 → Int32 → Int32 → HP → Option (Int32 × HP)) {x x4 up : Int32} {w r : Nat} {h g : HP} (hw : w ≤ 6) (hr : h.1 81 1 = nI r) (hg : si h 81 1 (nI (r + 1)) = g) (hu : ([-1, 0, 0, 0, 1, 2, 3] : List Int32).getD w 0 = up) : f_X0_run_J53 rc x x4 (nI w) 40 h = (bd (rc up 2 x (x4 + 1) g) fun v36 g34 => bd (rc (g34.1 81 2) 1 1 (x4 + 1) g34) fun v39 g37 => some (v36 + v39, g37)) := by
  unfold f_X0_run_J53
  simp only [lt_e]
  rw [hr, one_n, hg, gd_b (inb_n (show w < 7 by omega) (by omega)), cl_n (by omega), hu, if_neg (show ¬ (40 : Int32) = 10 by decide), if_neg (show ¬ (40 : Int32) = 11 by decide), if_neg (show ¬ (40 : Int32) = 12 by decide), if_neg (show ¬ (40 : Int32) = 20 by decide), if_neg (show ¬ (40 : Int32) = 30 by decide), if_pos trivial]
theorem J53_50 (rc : Int32 → Int32 → Int32 → Int32 → HP → Option (Int32 × HP)) {x x4 up : Int32} {w r : Nat} {h g : HP} (hw : w ≤ 6) (hr : h.1 81 1 = nI r) (hg : si h 81 1 (nI (r + 1)) = g) (hu : ([-1, 0, 0, 0, 1, 2, 3] : List Int32).getD w 0 = up) : f_X0_run_J53 rc x x4 (nI w) 50 h = (bd (rc up 0 x (x4 + 1) g) fun v43 g41 => some (-v43, g41)) := by
  unfold f_X0_run_J53
  simp only [lt_e]
  rw [hr, one_n, hg, gd_b (inb_n (show w < 7 by omega) (by omega)), cl_n (by omega), hu, if_neg (show ¬ (50 : Int32) = 10 by decide), if_neg (show ¬ (50 : Int32) = 11 by decide), if_neg (show ¬ (50 : Int32) = 12 by decide), if_neg (show ¬ (50 : Int32) = 20 by decide), if_neg (show ¬ (50 : Int32) = 30 by decide), if_neg (show ¬ (50 : Int32) = 40 by decide), if_pos trivial]
theorem J53_51 (rc : Int32 → Int32 → Int32 → Int32 → HP → Option (Int32 × HP)) {x x4 up : Int32} {w r : Nat} {h g : HP} (hw : w ≤ 6) (hr : h.1 81 1 = nI r) (hg : si h 81 1 (nI (r + 1)) = g) (hu : ([-1, 0, 0, 0, 1, 2, 3] : List Int32).getD w 0 = up) : f_X0_run_J53 rc x x4 (nI w) 51 h = (bd (rc up 1 (x + 1) (x4 + 1) g) fun v47 g45 => some (v47, g45)) := by
  unfold f_X0_run_J53
  simp only [lt_e]
  rw [hr, one_n, hg, gd_b (inb_n (show w < 7 by omega) (by omega)), cl_n (by omega), hu, if_neg (show ¬ (51 : Int32) = 10 by decide), if_neg (show ¬ (51 : Int32) = 11 by decide), if_neg (show ¬ (51 : Int32) = 12 by decide), if_neg (show ¬ (51 : Int32) = 20 by decide), if_neg (show ¬ (51 : Int32) = 30 by decide), if_neg (show ¬ (51 : Int32) = 40 by decide), if_neg (show ¬ (51 : Int32) = 50 by decide), if_pos trivial]
theorem J53_60 (rc : Int32 → Int32 → Int32 → Int32 → HP → Option (Int32 × HP)) {x x4 up : Int32} {w r : Nat} {h g : HP} (hw : w ≤ 6) (hr : h.1 81 1 = nI r) (hg : si h 81 1 (nI (r + 1)) = g) (hu : ([-1, 0, 0, 0, 1, 2, 3] : List Int32).getD w 0 = up) : f_X0_run_J53 rc x x4 (nI w) 60 h = (bd (rc up 2 (x - g.1 81 3) (x4 + 1) g) fun v51 g49 => some (v51, g49)) := by
  unfold f_X0_run_J53
  simp only [lt_e]
  rw [hr, one_n, hg, gd_b (inb_n (show w < 7 by omega) (by omega)), cl_n (by omega), hu, if_neg (show ¬ (60 : Int32) = 10 by decide), if_neg (show ¬ (60 : Int32) = 11 by decide), if_neg (show ¬ (60 : Int32) = 12 by decide), if_neg (show ¬ (60 : Int32) = 20 by decide), if_neg (show ¬ (60 : Int32) = 30 by decide), if_neg (show ¬ (60 : Int32) = 40 by decide), if_neg (show ¬ (60 : Int32) = 50 by decide), if_neg (show ¬ (60 : Int32) = 51 by decide), if_pos trivial]
theorem J53_70 (rc : Int32 → Int32 → Int32 → Int32 → HP → Option (Int32 × HP)) {x x4 up : Int32} {w r : Nat} {h g : HP} (hw : w ≤ 6) (hr : h.1 81 1 = nI r) (hg : si h 81 1 (nI (r + 1)) = g) (hu : ([-1, 0, 0, 0, 1, 2, 3] : List Int32).getD w 0 = up) : f_X0_run_J53 rc x x4 (nI w) 70 h = (bd (rc up 1 x (x4 + 1) g) fun v55 g53 => bd (rc up 0 2 (x4 + 1) g53) fun v58 g56 => some (v55 + v58, g56)) := by
  unfold f_X0_run_J53
  simp only [lt_e]
  rw [hr, one_n, hg, gd_b (inb_n (show w < 7 by omega) (by omega)), cl_n (by omega), hu, if_neg (show ¬ (70 : Int32) = 10 by decide), if_neg (show ¬ (70 : Int32) = 11 by decide), if_neg (show ¬ (70 : Int32) = 12 by decide), if_neg (show ¬ (70 : Int32) = 20 by decide), if_neg (show ¬ (70 : Int32) = 30 by decide), if_neg (show ¬ (70 : Int32) = 40 by decide), if_neg (show ¬ (70 : Int32) = 50 by decide), if_neg (show ¬ (70 : Int32) = 51 by decide), if_neg (show ¬ (70 : Int32) = 60 by decide), if_pos trivial]
theorem J53_71 (rc : Int32 → Int32 → Int32 → Int32 → HP → Option (Int32 × HP)) {x x4 up : Int32} {w r : Nat} {h g : HP} (hw : w ≤ 6) (hr : h.1 81 1 = nI r) (hg : si h 81 1 (nI (r + 1)) = g) (hu : ([-1, 0, 0, 0, 1, 2, 3] : List Int32).getD w 0 = up) : f_X0_run_J53 rc x x4 (nI w) 71 h = (bd (rc up 0 x (x4 + 1) g) fun v62 g60 => some (v62 ^^^ g60.1 81 4, g60)) := by
  unfold f_X0_run_J53
  simp only [lt_e]
  rw [hr, one_n, hg, gd_b (inb_n (show w < 7 by omega) (by omega)), cl_n (by omega), hu, if_neg (show ¬ (71 : Int32) = 10 by decide), if_neg (show ¬ (71 : Int32) = 11 by decide), if_neg (show ¬ (71 : Int32) = 12 by decide), if_neg (show ¬ (71 : Int32) = 20 by decide), if_neg (show ¬ (71 : Int32) = 30 by decide), if_neg (show ¬ (71 : Int32) = 40 by decide), if_neg (show ¬ (71 : Int32) = 50 by decide), if_neg (show ¬ (71 : Int32) = 51 by decide), if_neg (show ¬ (71 : Int32) = 60 by decide), if_neg (show ¬ (71 : Int32) = 70 by decide), if_pos trivial]
