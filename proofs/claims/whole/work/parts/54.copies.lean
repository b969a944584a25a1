/-! image, undo: the loops of the reference -/
def sp (j k : Nat) (g : HP) : HP := si g 96 j (g.1 96 k)
theorem sp_p (j k : Nat) (g : HP) (x : Nat) : (sp j k g).1 96 x = if x = j then g.1 96 k else g.1 96 x := by
  unfold sp; rw [si_1, if_pos rfl]
theorem sp_c {j k : Nat} {g : HP} {c : Nat} (hc : c ≠ 96) : (sp j k g).1 c = g.1 c := si_r hc
theorem sp_2 (j k : Nat) (g : HP) : (sp j k g).2 = g.2 := rfl
theorem B7_image_L287 : ∀ (c i : Nat) (h : HP) (fuel : Nat), i + c = 8 → c < fuel → (∀ j, j < i → h.1 138 j = h.1 125 j ∧ h.1 139 j = h.1 126 j) → ∃ h', f_X7_image_L287 fuel (nI i) h = some (h'.1 96 0, h') ∧ (∀ j, j < 8 → h'.1 138 j = h.1 125 j ∧ h'.1 139 j = h.1 126 j) ∧ Fc (fun c => c = 138 ∨ c = 139) h h' := by
  intro c
  induction c with
  | zero =>
    intro i h fuel hi hf hj
    obtain ⟨f, rfl⟩ : ∃ f, fuel = f + 1 := ⟨fuel - 1, by omega⟩
    refine ⟨h, ?_, fun j q => hj j (by omega), Fc.rf⟩
    rw [f_X7_image_L287, if_pos (by rw [show (8 : Int32) = nI 8 from rfl, le_n (by omega) (by omega)]; omega)]
  | succ c ih =>
    intro i h fuel hi hf hj
    obtain ⟨f, rfl⟩ : ∃ f, fuel = f + 1 := ⟨fuel - 1, by omega⟩
    rw [f_X7_image_L287, if_neg (by rw [show (8 : Int32) = nI 8 from rfl, le_n (by omega) (by omega)]; omega)]
    simp only [gd_b (inb_n (show i < 8 by omega) (show (8 : Nat) < 2147483648 by omega)), lt_e, cl_n (show i < 2147483648 by omega), one_n, si_r (show (125 : Nat) ≠ 138 by omega), si_r (show (125 : Nat) ≠ 139 by omega), si_r (show (126 : Nat) ≠ 138 by omega), si_r (show (126 : Nat) ≠ 139 by omega), si_r (show (138 : Nat) ≠ 139 by omega), si_r (show (139 : Nat) ≠ 138 by omega)]
    obtain ⟨g, e, eg, fr⟩ := ih (i + 1) (si (si h 138 i (h.1 125 i)) 139 i (h.1 126 i)) f (by omega) (by omega) (fun j q => by
      simp only [si_r (show (125 : Nat) ≠ 138 by omega), si_r (show (125 : Nat) ≠ 139 by omega), si_r (show (126 : Nat) ≠ 138 by omega), si_r (show (126 : Nat) ≠ 139 by omega), si_r (show (138 : Nat) ≠ 139 by omega), si_r (show (139 : Nat) ≠ 138 by omega), si_w]
      by_cases e : j = i
      · subst e; exact ⟨up_s _ _ _, up_s _ _ _⟩
      · simp only [up_n _ _ e]; exact hj j (by omega))
    refine ⟨g, e, fun j q => ?_, ?_⟩
    · have := eg j q
      simp only [si_r (show (125 : Nat) ≠ 138 by omega), si_r (show (125 : Nat) ≠ 139 by omega), si_r (show (126 : Nat) ≠ 138 by omega), si_r (show (126 : Nat) ≠ 139 by omega), si_r (show (138 : Nat) ≠ 139 by omega), si_r (show (139 : Nat) ≠ 138 by omega)] at this
      exact this
    · exact Fc.trans (U := (fun c => c = 138 ∨ c = 139)) (Fc.trans (U := (fun c => c = 138 ∨ c = 139)) (Fc.si (S := (fun c => c = 138 ∨ c = 139)) (show (fun c => c = 138 ∨ c = 139) 138 by simp)) (Fc.si (S := (fun c => c = 138 ∨ c = 139)) (show (fun c => c = 138 ∨ c = 139) 139 by simp)) (fun _ q => q) (fun _ q => q)) fr (fun _ q => q) (fun _ q => q)
theorem B7_image_L249 : ∀ (c i : Nat) (h : HP) (fuel : Nat), i + c = 10 → c < fuel → (∀ j, j < i → h.1 136 j = h.1 123 j ∧ h.1 137 j = h.1 124 j) → ∃ h', f_X7_image_L249 fuel (nI i) h = f_X7_image_L287 FZ 0 h' ∧ (∀ j, j < 10 → h'.1 136 j = h.1 123 j ∧ h'.1 137 j = h.1 124 j) ∧ Fc (fun c => c = 136 ∨ c = 137) h h' := by
  intro c
  induction c with
  | zero =>
    intro i h fuel hi hf hj
    obtain ⟨f, rfl⟩ : ∃ f, fuel = f + 1 := ⟨fuel - 1, by omega⟩
    refine ⟨h, ?_, fun j q => hj j (by omega), Fc.rf⟩
    rw [f_X7_image_L249, if_pos (by rw [show (10 : Int32) = nI 10 from rfl, le_n (by omega) (by omega)]; omega)]
  | succ c ih =>
    intro i h fuel hi hf hj
    obtain ⟨f, rfl⟩ : ∃ f, fuel = f + 1 := ⟨fuel - 1, by omega⟩
    rw [f_X7_image_L249, if_neg (by rw [show (10 : Int32) = nI 10 from rfl, le_n (by omega) (by omega)]; omega)]
    simp only [gd_b (inb_n (show i < 10 by omega) (show (10 : Nat) < 2147483648 by omega)), lt_e, cl_n (show i < 2147483648 by omega), one_n, si_r (show (123 : Nat) ≠ 136 by omega), si_r (show (123 : Nat) ≠ 137 by omega), si_r (show (124 : Nat) ≠ 136 by omega), si_r (show (124 : Nat) ≠ 137 by omega), si_r (show (136 : Nat) ≠ 137 by omega), si_r (show (137 : Nat) ≠ 136 by omega)]
    obtain ⟨g, e, eg, fr⟩ := ih (i + 1) (si (si h 136 i (h.1 123 i)) 137 i (h.1 124 i)) f (by omega) (by omega) (fun j q => by
      simp only [si_r (show (123 : Nat) ≠ 136 by omega), si_r (show (123 : Nat) ≠ 137 by omega), si_r (show (124 : Nat) ≠ 136 by omega), si_r (show (124 : Nat) ≠ 137 by omega), si_r (show (136 : Nat) ≠ 137 by omega), si_r (show (137 : Nat) ≠ 136 by omega), si_w]
      by_cases e : j = i
      · subst e; exact ⟨up_s _ _ _, up_s _ _ _⟩
      · simp only [up_n _ _ e]; exact hj j (by omega))
    refine ⟨g, e, fun j q => ?_, ?_⟩
    · have := eg j q
      simp only [si_r (show (123 : Nat) ≠ 136 by omega), si_r (show (123 : Nat) ≠ 137 by omega), si_r (show (124 : Nat) ≠ 136 by omega), si_r (show (124 : Nat) ≠ 137 by omega), si_r (show (136 : Nat) ≠ 137 by omega), si_r (show (137 : Nat) ≠ 136 by omega)] at this
      exact this
    · exact Fc.trans (U := (fun c => c = 136 ∨ c = 137)) (Fc.trans (U := (fun c => c = 136 ∨ c = 137)) (Fc.si (S := (fun c => c = 136 ∨ c = 137)) (show (fun c => c = 136 ∨ c = 137) 136 by simp)) (Fc.si (S := (fun c => c = 136 ∨ c = 137)) (show (fun c => c = 136 ∨ c = 137) 137 by simp)) (fun _ q => q) (fun _ q => q)) fr (fun _ q => q) (fun _ q => q)
theorem B7_image_L212 : ∀ (c i : Nat) (h : HP) (fuel : Nat), i + c = 5 → c < fuel → (∀ j, j < i → h.1 134 j = h.1 121 j ∧ h.1 135 j = h.1 122 j) → ∃ h', f_X7_image_L212 fuel (nI i) h = f_X7_image_L249 FZ 0 h' ∧ (∀ j, j < 5 → h'.1 134 j = h.1 121 j ∧ h'.1 135 j = h.1 122 j) ∧ Fc (fun c => c = 134 ∨ c = 135) h h' := by
  intro c
  induction c with
  | zero =>
    intro i h fuel hi hf hj
    obtain ⟨f, rfl⟩ : ∃ f, fuel = f + 1 := ⟨fuel - 1, by omega⟩
    refine ⟨h, ?_, fun j q => hj j (by omega), Fc.rf⟩
    rw [f_X7_image_L212, if_pos (by rw [show (5 : Int32) = nI 5 from rfl, le_n (by omega) (by omega)]; omega)]
  | succ c ih =>
    intro i h fuel hi hf hj
    obtain ⟨f, rfl⟩ : ∃ f, fuel = f + 1 := ⟨fuel - 1, by omega⟩
    rw [f_X7_image_L212, if_neg (by rw [show (5 : Int32) = nI 5 from rfl, le_n (by omega) (by omega)]; omega)]
    simp only [gd_b (inb_n (show i < 5 by omega) (show (5 : Nat) < 2147483648 by omega)), lt_e, cl_n (show i < 2147483648 by omega), one_n, si_r (show (121 : Nat) ≠ 134 by omega), si_r (show (121 : Nat) ≠ 135 by omega), si_r (show (122 : Nat) ≠ 134 by omega), si_r (show (122 : Nat) ≠ 135 by omega), si_r (show (134 : Nat) ≠ 135 by omega), si_r (show (135 : Nat) ≠ 134 by omega)]
    obtain ⟨g, e, eg, fr⟩ := ih (i + 1) (si (si h 134 i (h.1 121 i)) 135 i (h.1 122 i)) f (by omega) (by omega) (fun j q => by
      simp only [si_r (show (121 : Nat) ≠ 134 by omega), si_r (show (121 : Nat) ≠ 135 by omega), si_r (show (122 : Nat) ≠ 134 by omega), si_r (show (122 : Nat) ≠ 135 by omega), si_r (show (134 : Nat) ≠ 135 by omega), si_r (show (135 : Nat) ≠ 134 by omega), si_w]
      by_cases e : j = i
      · subst e; exact ⟨up_s _ _ _, up_s _ _ _⟩
      · simp only [up_n _ _ e]; exact hj j (by omega))
    refine ⟨g, e, fun j q => ?_, ?_⟩
    · have := eg j q
      simp only [si_r (show (121 : Nat) ≠ 134 by omega), si_r (show (121 : Nat) ≠ 135 by omega), si_r (show (122 : Nat) ≠ 134 by omega), si_r (show (122 : Nat) ≠ 135 by omega), si_r (show (134 : Nat) ≠ 135 by omega), si_r (show (135 : Nat) ≠ 134 by omega)] at this
      exact this
    · exact Fc.trans (U := (fun c => c = 134 ∨ c = 135)) (Fc.trans (U := (fun c => c = 134 ∨ c = 135)) (Fc.si (S := (fun c => c = 134 ∨ c = 135)) (show (fun c => c = 134 ∨ c = 135) 134 by simp)) (Fc.si (S := (fun c => c = 134 ∨ c = 135)) (show (fun c => c = 134 ∨ c = 135) 135 by simp)) (fun _ q => q) (fun _ q => q)) fr (fun _ q => q) (fun _ q => q)
theorem B7_image_L187 : ∀ (c i : Nat) (h : HP) (fuel : Nat), i + c = 3 → c < fuel → (∀ j, j < i → h.1 133 j = h.1 103 j) → ∃ h', f_X7_image_L187 fuel (nI i) h = f_X7_image_L212 FZ 0 h' ∧ (∀ j, j < 3 → h'.1 133 j = h.1 103 j) ∧ Fc (fun c => c = 133) h h' := by
  intro c
  induction c with
  | zero =>
    intro i h fuel hi hf hj
    obtain ⟨f, rfl⟩ : ∃ f, fuel = f + 1 := ⟨fuel - 1, by omega⟩
    refine ⟨h, ?_, fun j q => hj j (by omega), Fc.rf⟩
    rw [f_X7_image_L187, if_pos (by rw [show (3 : Int32) = nI 3 from rfl, le_n (by omega) (by omega)]; omega)]
  | succ c ih =>
    intro i h fuel hi hf hj
    obtain ⟨f, rfl⟩ : ∃ f, fuel = f + 1 := ⟨fuel - 1, by omega⟩
    rw [f_X7_image_L187, if_neg (by rw [show (3 : Int32) = nI 3 from rfl, le_n (by omega) (by omega)]; omega)]
    simp only [gd_b (inb_n (show i < 3 by omega) (show (3 : Nat) < 2147483648 by omega)), lt_e, cl_n (show i < 2147483648 by omega), one_n, si_r (show (103 : Nat) ≠ 133 by omega)]
    obtain ⟨g, e, eg, fr⟩ := ih (i + 1) (si h 133 i (h.1 103 i)) f (by omega) (by omega) (fun j q => by
      simp only [si_r (show (103 : Nat) ≠ 133 by omega), si_w]
      by_cases e : j = i
      · subst e; exact up_s _ _ _
      · simp only [up_n _ _ e]; exact hj j (by omega))
    refine ⟨g, e, fun j q => ?_, ?_⟩
    · have := eg j q
      simp only [si_r (show (103 : Nat) ≠ 133 by omega)] at this
      exact this
    · exact Fc.trans (U := (fun c => c = 133)) (Fc.si (S := (fun c => c = 133)) (show (fun c => c = 133) 133 by simp)) fr (fun _ q => q) (fun _ q => q)
theorem B7_image_L161 : ∀ (c i : Nat) (h : HP) (fuel : Nat), i + c = 24 → c < fuel → (∀ j, j < i → h.1 132 j = h.1 102 j) → ∃ h', f_X7_image_L161 fuel (nI i) h = f_X7_image_L187 FZ 0 h' ∧ (∀ j, j < 24 → h'.1 132 j = h.1 102 j) ∧ Fc (fun c => c = 132) h h' := by
  intro c
  induction c with
  | zero =>
    intro i h fuel hi hf hj
    obtain ⟨f, rfl⟩ : ∃ f, fuel = f + 1 := ⟨fuel - 1, by omega⟩
    refine ⟨h, ?_, fun j q => hj j (by omega), Fc.rf⟩
    rw [f_X7_image_L161, if_pos (by rw [show (24 : Int32) = nI 24 from rfl, le_n (by omega) (by omega)]; omega)]
  | succ c ih =>
    intro i h fuel hi hf hj
    obtain ⟨f, rfl⟩ : ∃ f, fuel = f + 1 := ⟨fuel - 1, by omega⟩
    rw [f_X7_image_L161, if_neg (by rw [show (24 : Int32) = nI 24 from rfl, le_n (by omega) (by omega)]; omega)]
    simp only [gd_b (inb_n (show i < 24 by omega) (show (24 : Nat) < 2147483648 by omega)), lt_e, cl_n (show i < 2147483648 by omega), one_n, si_r (show (102 : Nat) ≠ 132 by omega)]
    obtain ⟨g, e, eg, fr⟩ := ih (i + 1) (si h 132 i (h.1 102 i)) f (by omega) (by omega) (fun j q => by
      simp only [si_r (show (102 : Nat) ≠ 132 by omega), si_w]
      by_cases e : j = i
      · subst e; exact up_s _ _ _
      · simp only [up_n _ _ e]; exact hj j (by omega))
    refine ⟨g, e, fun j q => ?_, ?_⟩
    · have := eg j q
      simp only [si_r (show (102 : Nat) ≠ 132 by omega)] at this
      exact this
    · exact Fc.trans (U := (fun c => c = 132)) (Fc.si (S := (fun c => c = 132)) (show (fun c => c = 132) 132 by simp)) fr (fun _ q => q) (fun _ q => q)
theorem B7_image_L87 : ∀ (c i : Nat) (h : HP) (fuel : Nat), i + c = 6 → c < fuel → (∀ j, j < i → h.1 127 j = h.1 97 j ∧ h.1 128 j = h.1 98 j ∧ h.1 129 j = h.1 99 j ∧ h.1 130 j = h.1 100 j ∧ h.1 131 j = h.1 101 j) → ∃ h', f_X7_image_L87 fuel (nI i) h = f_X7_image_L161 FZ 0 h' ∧ (∀ j, j < 6 → h'.1 127 j = h.1 97 j ∧ h'.1 128 j = h.1 98 j ∧ h'.1 129 j = h.1 99 j ∧ h'.1 130 j = h.1 100 j ∧ h'.1 131 j = h.1 101 j) ∧ Fc (fun c => c = 127 ∨ c = 128 ∨ c = 129 ∨ c = 130 ∨ c = 131) h h' := by
  intro c
  induction c with
  | zero =>
    intro i h fuel hi hf hj
    obtain ⟨f, rfl⟩ : ∃ f, fuel = f + 1 := ⟨fuel - 1, by omega⟩
    refine ⟨h, ?_, fun j q => hj j (by omega), Fc.rf⟩
    rw [f_X7_image_L87, if_pos (by rw [show (6 : Int32) = nI 6 from rfl, le_n (by omega) (by omega)]; omega)]
  | succ c ih =>
    intro i h fuel hi hf hj
    obtain ⟨f, rfl⟩ : ∃ f, fuel = f + 1 := ⟨fuel - 1, by omega⟩
    rw [f_X7_image_L87, if_neg (by rw [show (6 : Int32) = nI 6 from rfl, le_n (by omega) (by omega)]; omega)]
    simp only [gd_b (inb_n (show i < 6 by omega) (show (6 : Nat) < 2147483648 by omega)), lt_e, cl_n (show i < 2147483648 by omega), one_n, si_r (show (97 : Nat) ≠ 127 by omega), si_r (show (97 : Nat) ≠ 128 by omega), si_r (show (97 : Nat) ≠ 129 by omega), si_r (show (97 : Nat) ≠ 130 by omega), si_r (show (97 : Nat) ≠ 131 by omega), si_r (show (98 : Nat) ≠ 127 by omega), si_r (show (98 : Nat) ≠ 128 by omega), si_r (show (98 : Nat) ≠ 129 by omega), si_r (show (98 : Nat) ≠ 130 by omega), si_r (show (98 : Nat) ≠ 131 by omega), si_r (show (99 : Nat) ≠ 127 by omega), si_r (show (99 : Nat) ≠ 128 by omega), si_r (show (99 : Nat) ≠ 129 by omega), si_r (show (99 : Nat) ≠ 130 by omega), si_r (show (99 : Nat) ≠ 131 by omega), si_r (show (100 : Nat) ≠ 127 by omega), si_r (show (100 : Nat) ≠ 128 by omega), si_r (show (100 : Nat) ≠ 129 by omega), si_r (show (100 : Nat) ≠ 130 by omega), si_r (show (100 : Nat) ≠ 131 by omega), si_r (show (101 : Nat) ≠ 127 by omega), si_r (show (101 : Nat) ≠ 128 by omega), si_r (show (101 : Nat) ≠ 129 by omega), si_r (show (101 : Nat) ≠ 130 by omega), si_r (show (101 : Nat) ≠ 131 by omega), si_r (show (127 : Nat) ≠ 128 by omega), si_r (show (127 : Nat) ≠ 129 by omega), si_r (show (127 : Nat) ≠ 130 by omega), si_r (show (127 : Nat) ≠ 131 by omega), si_r (show (128 : Nat) ≠ 127 by omega), si_r (show (128 : Nat) ≠ 129 by omega), si_r (show (128 : Nat) ≠ 130 by omega), si_r (show (128 : Nat) ≠ 131 by omega), si_r (show (129 : Nat) ≠ 127 by omega), si_r (show (129 : Nat) ≠ 128 by omega), si_r (show (129 : Nat) ≠ 130 by omega), si_r (show (129 : Nat) ≠ 131 by omega), si_r (show (130 : Nat) ≠ 127 by omega), si_r (show (130 : Nat) ≠ 128 by omega), si_r (show (130 : Nat) ≠ 129 by omega), si_r (show (130 : Nat) ≠ 131 by omega), si_r (show (131 : Nat) ≠ 127 by omega), si_r (show (131 : Nat) ≠ 128 by omega), si_r (show (131 : Nat) ≠ 129 by omega), si_r (show (131 : Nat) ≠ 130 by omega)]
    obtain ⟨g, e, eg, fr⟩ := ih (i + 1) (si (si (si (si (si h 127 i (h.1 97 i)) 128 i (h.1 98 i)) 129 i (h.1 99 i)) 130 i (h.1 100 i)) 131 i (h.1 101 i)) f (by omega) (by omega) (fun j q => by
      simp only [si_r (show (97 : Nat) ≠ 127 by omega), si_r (show (97 : Nat) ≠ 128 by omega), si_r (show (97 : Nat) ≠ 129 by omega), si_r (show (97 : Nat) ≠ 130 by omega), si_r (show (97 : Nat) ≠ 131 by omega), si_r (show (98 : Nat) ≠ 127 by omega), si_r (show (98 : Nat) ≠ 128 by omega), si_r (show (98 : Nat) ≠ 129 by omega), si_r (show (98 : Nat) ≠ 130 by omega), si_r (show (98 : Nat) ≠ 131 by omega), si_r (show (99 : Nat) ≠ 127 by omega), si_r (show (99 : Nat) ≠ 128 by omega), si_r (show (99 : Nat) ≠ 129 by omega), si_r (show (99 : Nat) ≠ 130 by omega), si_r (show (99 : Nat) ≠ 131 by omega), si_r (show (100 : Nat) ≠ 127 by omega), si_r (show (100 : Nat) ≠ 128 by omega), si_r (show (100 : Nat) ≠ 129 by omega), si_r (show (100 : Nat) ≠ 130 by omega), si_r (show (100 : Nat) ≠ 131 by omega), si_r (show (101 : Nat) ≠ 127 by omega), si_r (show (101 : Nat) ≠ 128 by omega), si_r (show (101 : Nat) ≠ 129 by omega), si_r (show (101 : Nat) ≠ 130 by omega), si_r (show (101 : Nat) ≠ 131 by omega), si_r (show (127 : Nat) ≠ 128 by omega), si_r (show (127 : Nat) ≠ 129 by omega), si_r (show (127 : Nat) ≠ 130 by omega), si_r (show (127 : Nat) ≠ 131 by omega), si_r (show (128 : Nat) ≠ 127 by omega), si_r (show (128 : Nat) ≠ 129 by omega), si_r (show (128 : Nat) ≠ 130 by omega), si_r (show (128 : Nat) ≠ 131 by omega), si_r (show (129 : Nat) ≠ 127 by omega), si_r (show (129 : Nat) ≠ 128 by omega), si_r (show (129 : Nat) ≠ 130 by omega), si_r (show (129 : Nat) ≠ 131 by omega), si_r (show (130 : Nat) ≠ 127 by omega), si_r (show (130 : Nat) ≠ 128 by omega), si_r (show (130 : Nat) ≠ 129 by omega), si_r (show (130 : Nat) ≠ 131 by omega), si_r (show (131 : Nat) ≠ 127 by omega), si_r (show (131 : Nat) ≠ 128 by omega), si_r (show (131 : Nat) ≠ 129 by omega), si_r (show (131 : Nat) ≠ 130 by omega), si_w]
      by_cases e : j = i
      · subst e; exact ⟨up_s _ _ _, up_s _ _ _, up_s _ _ _, up_s _ _ _, up_s _ _ _⟩
      · simp only [up_n _ _ e]; exact hj j (by omega))
    refine ⟨g, e, fun j q => ?_, ?_⟩
    · have := eg j q
      simp only [si_r (show (97 : Nat) ≠ 127 by omega), si_r (show (97 : Nat) ≠ 128 by omega), si_r (show (97 : Nat) ≠ 129 by omega), si_r (show (97 : Nat) ≠ 130 by omega), si_r (show (97 : Nat) ≠ 131 by omega), si_r (show (98 : Nat) ≠ 127 by omega), si_r (show (98 : Nat) ≠ 128 by omega), si_r (show (98 : Nat) ≠ 129 by omega), si_r (show (98 : Nat) ≠ 130 by omega), si_r (show (98 : Nat) ≠ 131 by omega), si_r (show (99 : Nat) ≠ 127 by omega), si_r (show (99 : Nat) ≠ 128 by omega), si_r (show (99 : Nat) ≠ 129 by omega), si_r (show (99 : Nat) ≠ 130 by omega), si_r (show (99 : Nat) ≠ 131 by omega), si_r (show (100 : Nat) ≠ 127 by omega), si_r (show (100 : Nat) ≠ 128 by omega), si_r (show (100 : Nat) ≠ 129 by omega), si_r (show (100 : Nat) ≠ 130 by omega), si_r (show (100 : Nat) ≠ 131 by omega), si_r (show (101 : Nat) ≠ 127 by omega), si_r (show (101 : Nat) ≠ 128 by omega), si_r (show (101 : Nat) ≠ 129 by omega), si_r (show (101 : Nat) ≠ 130 by omega), si_r (show (101 : Nat) ≠ 131 by omega), si_r (show (127 : Nat) ≠ 128 by omega), si_r (show (127 : Nat) ≠ 129 by omega), si_r (show (127 : Nat) ≠ 130 by omega), si_r (show (127 : Nat) ≠ 131 by omega), si_r (show (128 : Nat) ≠ 127 by omega), si_r (show (128 : Nat) ≠ 129 by omega), si_r (show (128 : Nat) ≠ 130 by omega), si_r (show (128 : Nat) ≠ 131 by omega), si_r (show (129 : Nat) ≠ 127 by omega), si_r (show (129 : Nat) ≠ 128 by omega), si_r (show (129 : Nat) ≠ 130 by omega), si_r (show (129 : Nat) ≠ 131 by omega), si_r (show (130 : Nat) ≠ 127 by omega), si_r (show (130 : Nat) ≠ 128 by omega), si_r (show (130 : Nat) ≠ 129 by omega), si_r (show (130 : Nat) ≠ 131 by omega), si_r (show (131 : Nat) ≠ 127 by omega), si_r (show (131 : Nat) ≠ 128 by omega), si_r (show (131 : Nat) ≠ 129 by omega), si_r (show (131 : Nat) ≠ 130 by omega)] at this
      exact this
    · exact Fc.trans (U := (fun c => c = 127 ∨ c = 128 ∨ c = 129 ∨ c = 130 ∨ c = 131)) (Fc.trans (U := (fun c => c = 127 ∨ c = 128 ∨ c = 129 ∨ c = 130 ∨ c = 131)) (Fc.trans (U := (fun c => c = 127 ∨ c = 128 ∨ c = 129 ∨ c = 130 ∨ c = 131)) (Fc.trans (U := (fun c => c = 127 ∨ c = 128 ∨ c = 129 ∨ c = 130 ∨ c = 131)) (Fc.trans (U := (fun c => c = 127 ∨ c = 128 ∨ c = 129 ∨ c = 130 ∨ c = 131)) (Fc.si (S := (fun c => c = 127 ∨ c = 128 ∨ c = 129 ∨ c = 130 ∨ c = 131)) (show (fun c => c = 127 ∨ c = 128 ∨ c = 129 ∨ c = 130 ∨ c = 131) 127 by simp)) (Fc.si (S := (fun c => c = 127 ∨ c = 128 ∨ c = 129 ∨ c = 130 ∨ c = 131)) (show (fun c => c = 127 ∨ c = 128 ∨ c = 129 ∨ c = 130 ∨ c = 131) 128 by simp)) (fun _ q => q) (fun _ q => q)) (Fc.si (S := (fun c => c = 127 ∨ c = 128 ∨ c = 129 ∨ c = 130 ∨ c = 131)) (show (fun c => c = 127 ∨ c = 128 ∨ c = 129 ∨ c = 130 ∨ c = 131) 129 by simp)) (fun _ q => q) (fun _ q => q)) (Fc.si (S := (fun c => c = 127 ∨ c = 128 ∨ c = 129 ∨ c = 130 ∨ c = 131)) (show (fun c => c = 127 ∨ c = 128 ∨ c = 129 ∨ c = 130 ∨ c = 131) 130 by simp)) (fun _ q => q) (fun _ q => q)) (Fc.si (S := (fun c => c = 127 ∨ c = 128 ∨ c = 129 ∨ c = 130 ∨ c = 131)) (show (fun c => c = 127 ∨ c = 128 ∨ c = 129 ∨ c = 130 ∨ c = 131) 131 by simp)) (fun _ q => q) (fun _ q => q)) fr (fun _ q => q) (fun _ q => q)
theorem B7_undo_L292 : ∀ (c i : Nat) (h : HP) (fuel : Nat), i + c = 8 → c < fuel → (∀ j, j < i → h.1 125 j = h.1 138 j ∧ h.1 126 j = h.1 139 j) → ∃ h', f_X7_undo_L292 fuel (nI i) h = some (h'.1 96 0, h') ∧ (∀ j, j < 8 → h'.1 125 j = h.1 138 j ∧ h'.1 126 j = h.1 139 j) ∧ Fc (fun c => c = 125 ∨ c = 126) h h' := by
  intro c
  induction c with
  | zero =>
    intro i h fuel hi hf hj
    obtain ⟨f, rfl⟩ : ∃ f, fuel = f + 1 := ⟨fuel - 1, by omega⟩
    refine ⟨h, ?_, fun j q => hj j (by omega), Fc.rf⟩
    rw [f_X7_undo_L292, if_pos (by rw [show (8 : Int32) = nI 8 from rfl, le_n (by omega) (by omega)]; omega)]
  | succ c ih =>
    intro i h fuel hi hf hj
    obtain ⟨f, rfl⟩ : ∃ f, fuel = f + 1 := ⟨fuel - 1, by omega⟩
    rw [f_X7_undo_L292, if_neg (by rw [show (8 : Int32) = nI 8 from rfl, le_n (by omega) (by omega)]; omega)]
    simp only [gd_b (inb_n (show i < 8 by omega) (show (8 : Nat) < 2147483648 by omega)), lt_e, cl_n (show i < 2147483648 by omega), one_n, si_r (show (125 : Nat) ≠ 126 by omega), si_r (show (126 : Nat) ≠ 125 by omega), si_r (show (138 : Nat) ≠ 125 by omega), si_r (show (138 : Nat) ≠ 126 by omega), si_r (show (139 : Nat) ≠ 125 by omega), si_r (show (139 : Nat) ≠ 126 by omega)]
    obtain ⟨g, e, eg, fr⟩ := ih (i + 1) (si (si h 125 i (h.1 138 i)) 126 i (h.1 139 i)) f (by omega) (by omega) (fun j q => by
      simp only [si_r (show (125 : Nat) ≠ 126 by omega), si_r (show (126 : Nat) ≠ 125 by omega), si_r (show (138 : Nat) ≠ 125 by omega), si_r (show (138 : Nat) ≠ 126 by omega), si_r (show (139 : Nat) ≠ 125 by omega), si_r (show (139 : Nat) ≠ 126 by omega), si_w]
      by_cases e : j = i
      · subst e; exact ⟨up_s _ _ _, up_s _ _ _⟩
      · simp only [up_n _ _ e]; exact hj j (by omega))
    refine ⟨g, e, fun j q => ?_, ?_⟩
    · have := eg j q
      simp only [si_r (show (125 : Nat) ≠ 126 by omega), si_r (show (126 : Nat) ≠ 125 by omega), si_r (show (138 : Nat) ≠ 125 by omega), si_r (show (138 : Nat) ≠ 126 by omega), si_r (show (139 : Nat) ≠ 125 by omega), si_r (show (139 : Nat) ≠ 126 by omega)] at this
      exact this
    · exact Fc.trans (U := (fun c => c = 125 ∨ c = 126)) (Fc.trans (U := (fun c => c = 125 ∨ c = 126)) (Fc.si (S := (fun c => c = 125 ∨ c = 126)) (show (fun c => c = 125 ∨ c = 126) 125 by simp)) (Fc.si (S := (fun c => c = 125 ∨ c = 126)) (show (fun c => c = 125 ∨ c = 126) 126 by simp)) (fun _ q => q) (fun _ q => q)) fr (fun _ q => q) (fun _ q => q)
theorem B7_undo_L254 : ∀ (c i : Nat) (h : HP) (fuel : Nat), i + c = 10 → c < fuel → (∀ j, j < i → h.1 123 j = h.1 136 j ∧ h.1 124 j = h.1 137 j) → ∃ h', f_X7_undo_L254 fuel (nI i) h = f_X7_undo_L292 FZ 0 h' ∧ (∀ j, j < 10 → h'.1 123 j = h.1 136 j ∧ h'.1 124 j = h.1 137 j) ∧ Fc (fun c => c = 123 ∨ c = 124) h h' := by
  intro c
  induction c with
  | zero =>
    intro i h fuel hi hf hj
    obtain ⟨f, rfl⟩ : ∃ f, fuel = f + 1 := ⟨fuel - 1, by omega⟩
    refine ⟨h, ?_, fun j q => hj j (by omega), Fc.rf⟩
    rw [f_X7_undo_L254, if_pos (by rw [show (10 : Int32) = nI 10 from rfl, le_n (by omega) (by omega)]; omega)]
  | succ c ih =>
    intro i h fuel hi hf hj
    obtain ⟨f, rfl⟩ : ∃ f, fuel = f + 1 := ⟨fuel - 1, by omega⟩
    rw [f_X7_undo_L254, if_neg (by rw [show (10 : Int32) = nI 10 from rfl, le_n (by omega) (by omega)]; omega)]
    simp only [gd_b (inb_n (show i < 10 by omega) (show (10 : Nat) < 2147483648 by omega)), lt_e, cl_n (show i < 2147483648 by omega), one_n, si_r (show (123 : Nat) ≠ 124 by omega), si_r (show (124 : Nat) ≠ 123 by omega), si_r (show (136 : Nat) ≠ 123 by omega), si_r (show (136 : Nat) ≠ 124 by omega), si_r (show (137 : Nat) ≠ 123 by omega), si_r (show (137 : Nat) ≠ 124 by omega)]
    obtain ⟨g, e, eg, fr⟩ := ih (i + 1) (si (si h 123 i (h.1 136 i)) 124 i (h.1 137 i)) f (by omega) (by omega) (fun j q => by
      simp only [si_r (show (123 : Nat) ≠ 124 by omega), si_r (show (124 : Nat) ≠ 123 by omega), si_r (show (136 : Nat) ≠ 123 by omega), si_r (show (136 : Nat) ≠ 124 by omega), si_r (show (137 : Nat) ≠ 123 by omega), si_r (show (137 : Nat) ≠ 124 by omega), si_w]
      by_cases e : j = i
      · subst e; exact ⟨up_s _ _ _, up_s _ _ _⟩
      · simp only [up_n _ _ e]; exact hj j (by omega))
    refine ⟨g, e, fun j q => ?_, ?_⟩
    · have := eg j q
      simp only [si_r (show (123 : Nat) ≠ 124 by omega), si_r (show (124 : Nat) ≠ 123 by omega), si_r (show (136 : Nat) ≠ 123 by omega), si_r (show (136 : Nat) ≠ 124 by omega), si_r (show (137 : Nat) ≠ 123 by omega), si_r (show (137 : Nat) ≠ 124 by omega)] at this
      exact this
    · exact Fc.trans (U := (fun c => c = 123 ∨ c = 124)) (Fc.trans (U := (fun c => c = 123 ∨ c = 124)) (Fc.si (S := (fun c => c = 123 ∨ c = 124)) (show (fun c => c = 123 ∨ c = 124) 123 by simp)) (Fc.si (S := (fun c => c = 123 ∨ c = 124)) (show (fun c => c = 123 ∨ c = 124) 124 by simp)) (fun _ q => q) (fun _ q => q)) fr (fun _ q => q) (fun _ q => q)
theorem B7_undo_L217 : ∀ (c i : Nat) (h : HP) (fuel : Nat), i + c = 5 → c < fuel → (∀ j, j < i → h.1 121 j = h.1 134 j ∧ h.1 122 j = h.1 135 j) → ∃ h', f_X7_undo_L217 fuel (nI i) h = f_X7_undo_L254 FZ 0 h' ∧ (∀ j, j < 5 → h'.1 121 j = h.1 134 j ∧ h'.1 122 j = h.1 135 j) ∧ Fc (fun c => c = 121 ∨ c = 122) h h' := by
  intro c
  induction c with
  | zero =>
    intro i h fuel hi hf hj
    obtain ⟨f, rfl⟩ : ∃ f, fuel = f + 1 := ⟨fuel - 1, by omega⟩
    refine ⟨h, ?_, fun j q => hj j (by omega), Fc.rf⟩
    rw [f_X7_undo_L217, if_pos (by rw [show (5 : Int32) = nI 5 from rfl, le_n (by omega) (by omega)]; omega)]
  | succ c ih =>
    intro i h fuel hi hf hj
    obtain ⟨f, rfl⟩ : ∃ f, fuel = f + 1 := ⟨fuel - 1, by omega⟩
    rw [f_X7_undo_L217, if_neg (by rw [show (5 : Int32) = nI 5 from rfl, le_n (by omega) (by omega)]; omega)]
    simp only [gd_b (inb_n (show i < 5 by omega) (show (5 : Nat) < 2147483648 by omega)), lt_e, cl_n (show i < 2147483648 by omega), one_n, si_r (show (121 : Nat) ≠ 122 by omega), si_r (show (122 : Nat) ≠ 121 by omega), si_r (show (134 : Nat) ≠ 121 by omega), si_r (show (134 : Nat) ≠ 122 by omega), si_r (show (135 : Nat) ≠ 121 by omega), si_r (show (135 : Nat) ≠ 122 by omega)]
    obtain ⟨g, e, eg, fr⟩ := ih (i + 1) (si (si h 121 i (h.1 134 i)) 122 i (h.1 135 i)) f (by omega) (by omega) (fun j q => by
      simp only [si_r (show (121 : Nat) ≠ 122 by omega), si_r (show (122 : Nat) ≠ 121 by omega), si_r (show (134 : Nat) ≠ 121 by omega), si_r (show (134 : Nat) ≠ 122 by omega), si_r (show (135 : Nat) ≠ 121 by omega), si_r (show (135 : Nat) ≠ 122 by omega), si_w]
      by_cases e : j = i
      · subst e; exact ⟨up_s _ _ _, up_s _ _ _⟩
      · simp only [up_n _ _ e]; exact hj j (by omega))
    refine ⟨g, e, fun j q => ?_, ?_⟩
    · have := eg j q
      simp only [si_r (show (121 : Nat) ≠ 122 by omega), si_r (show (122 : Nat) ≠ 121 by omega), si_r (show (134 : Nat) ≠ 121 by omega), si_r (show (134 : Nat) ≠ 122 by omega), si_r (show (135 : Nat) ≠ 121 by omega), si_r (show (135 : Nat) ≠ 122 by omega)] at this
      exact this
    · exact Fc.trans (U := (fun c => c = 121 ∨ c = 122)) (Fc.trans (U := (fun c => c = 121 ∨ c = 122)) (Fc.si (S := (fun c => c = 121 ∨ c = 122)) (show (fun c => c = 121 ∨ c = 122) 121 by simp)) (Fc.si (S := (fun c => c = 121 ∨ c = 122)) (show (fun c => c = 121 ∨ c = 122) 122 by simp)) (fun _ q => q) (fun _ q => q)) fr (fun _ q => q) (fun _ q => q)
theorem B7_undo_L192 : ∀ (c i : Nat) (h : HP) (fuel : Nat), i + c = 3 → c < fuel → (∀ j, j < i → h.1 103 j = h.1 133 j) → ∃ h', f_X7_undo_L192 fuel (nI i) h = f_X7_undo_L217 FZ 0 h' ∧ (∀ j, j < 3 → h'.1 103 j = h.1 133 j) ∧ Fc (fun c => c = 103) h h' := by
  intro c
  induction c with
  | zero =>
    intro i h fuel hi hf hj
    obtain ⟨f, rfl⟩ : ∃ f, fuel = f + 1 := ⟨fuel - 1, by omega⟩
    refine ⟨h, ?_, fun j q => hj j (by omega), Fc.rf⟩
    rw [f_X7_undo_L192, if_pos (by rw [show (3 : Int32) = nI 3 from rfl, le_n (by omega) (by omega)]; omega)]
  | succ c ih =>
    intro i h fuel hi hf hj
    obtain ⟨f, rfl⟩ : ∃ f, fuel = f + 1 := ⟨fuel - 1, by omega⟩
    rw [f_X7_undo_L192, if_neg (by rw [show (3 : Int32) = nI 3 from rfl, le_n (by omega) (by omega)]; omega)]
    simp only [gd_b (inb_n (show i < 3 by omega) (show (3 : Nat) < 2147483648 by omega)), lt_e, cl_n (show i < 2147483648 by omega), one_n, si_r (show (133 : Nat) ≠ 103 by omega)]
    obtain ⟨g, e, eg, fr⟩ := ih (i + 1) (si h 103 i (h.1 133 i)) f (by omega) (by omega) (fun j q => by
      simp only [si_r (show (133 : Nat) ≠ 103 by omega), si_w]
      by_cases e : j = i
      · subst e; exact up_s _ _ _
      · simp only [up_n _ _ e]; exact hj j (by omega))
    refine ⟨g, e, fun j q => ?_, ?_⟩
    · have := eg j q
      simp only [si_r (show (133 : Nat) ≠ 103 by omega)] at this
      exact this
    · exact Fc.trans (U := (fun c => c = 103)) (Fc.si (S := (fun c => c = 103)) (show (fun c => c = 103) 103 by simp)) fr (fun _ q => q) (fun _ q => q)
theorem B7_undo_L166 : ∀ (c i : Nat) (h : HP) (fuel : Nat), i + c = 24 → c < fuel → (∀ j, j < i → h.1 102 j = h.1 132 j) → ∃ h', f_X7_undo_L166 fuel (nI i) h = f_X7_undo_L192 FZ 0 h' ∧ (∀ j, j < 24 → h'.1 102 j = h.1 132 j) ∧ Fc (fun c => c = 102) h h' := by
  intro c
  induction c with
  | zero =>
    intro i h fuel hi hf hj
    obtain ⟨f, rfl⟩ : ∃ f, fuel = f + 1 := ⟨fuel - 1, by omega⟩
    refine ⟨h, ?_, fun j q => hj j (by omega), Fc.rf⟩
    rw [f_X7_undo_L166, if_pos (by rw [show (24 : Int32) = nI 24 from rfl, le_n (by omega) (by omega)]; omega)]
  | succ c ih =>
    intro i h fuel hi hf hj
    obtain ⟨f, rfl⟩ : ∃ f, fuel = f + 1 := ⟨fuel - 1, by omega⟩
    rw [f_X7_undo_L166, if_neg (by rw [show (24 : Int32) = nI 24 from rfl, le_n (by omega) (by omega)]; omega)]
    simp only [gd_b (inb_n (show i < 24 by omega) (show (24 : Nat) < 2147483648 by omega)), lt_e, cl_n (show i < 2147483648 by omega), one_n, si_r (show (132 : Nat) ≠ 102 by omega)]
    obtain ⟨g, e, eg, fr⟩ := ih (i + 1) (si h 102 i (h.1 132 i)) f (by omega) (by omega) (fun j q => by
      simp only [si_r (show (132 : Nat) ≠ 102 by omega), si_w]
      by_cases e : j = i
      · subst e; exact up_s _ _ _
      · simp only [up_n _ _ e]; exact hj j (by omega))
    refine ⟨g, e, fun j q => ?_, ?_⟩
    · have := eg j q
      simp only [si_r (show (132 : Nat) ≠ 102 by omega)] at this
      exact this
    · exact Fc.trans (U := (fun c => c = 102)) (Fc.si (S := (fun c => c = 102)) (show (fun c => c = 102) 102 by simp)) fr (fun _ q => q) (fun _ q => q)
theorem B7_undo_L92 : ∀ (c i : Nat) (h : HP) (fuel : Nat), i + c = 6 → c < fuel → (∀ j, j < i → h.1 97 j = h.1 127 j ∧ h.1 98 j = h.1 128 j ∧ h.1 99 j = h.1 129 j ∧ h.1 100 j = h.1 130 j ∧ h.1 101 j = h.1 131 j) → ∃ h', f_X7_undo_L92 fuel (nI i) h = f_X7_undo_L166 FZ 0 h' ∧ (∀ j, j < 6 → h'.1 97 j = h.1 127 j ∧ h'.1 98 j = h.1 128 j ∧ h'.1 99 j = h.1 129 j ∧ h'.1 100 j = h.1 130 j ∧ h'.1 101 j = h.1 131 j) ∧ Fc (fun c => c = 97 ∨ c = 98 ∨ c = 99 ∨ c = 100 ∨ c = 101) h h' := by
  intro c
  induction c with
  | zero =>
    intro i h fuel hi hf hj
    obtain ⟨f, rfl⟩ : ∃ f, fuel = f + 1 := ⟨fuel - 1, by omega⟩
    refine ⟨h, ?_, fun j q => hj j (by omega), Fc.rf⟩
    rw [f_X7_undo_L92, if_pos (by rw [show (6 : Int32) = nI 6 from rfl, le_n (by omega) (by omega)]; omega)]
  | succ c ih =>
    intro i h fuel hi hf hj
    obtain ⟨f, rfl⟩ : ∃ f, fuel = f + 1 := ⟨fuel - 1, by omega⟩
    rw [f_X7_undo_L92, if_neg (by rw [show (6 : Int32) = nI 6 from rfl, le_n (by omega) (by omega)]; omega)]
    simp only [gd_b (inb_n (show i < 6 by omega) (show (6 : Nat) < 2147483648 by omega)), lt_e, cl_n (show i < 2147483648 by omega), one_n, si_r (show (97 : Nat) ≠ 98 by omega), si_r (show (97 : Nat) ≠ 99 by omega), si_r (show (97 : Nat) ≠ 100 by omega), si_r (show (97 : Nat) ≠ 101 by omega), si_r (show (98 : Nat) ≠ 97 by omega), si_r (show (98 : Nat) ≠ 99 by omega), si_r (show (98 : Nat) ≠ 100 by omega), si_r (show (98 : Nat) ≠ 101 by omega), si_r (show (99 : Nat) ≠ 97 by omega), si_r (show (99 : Nat) ≠ 98 by omega), si_r (show (99 : Nat) ≠ 100 by omega), si_r (show (99 : Nat) ≠ 101 by omega), si_r (show (100 : Nat) ≠ 97 by omega), si_r (show (100 : Nat) ≠ 98 by omega), si_r (show (100 : Nat) ≠ 99 by omega), si_r (show (100 : Nat) ≠ 101 by omega), si_r (show (101 : Nat) ≠ 97 by omega), si_r (show (101 : Nat) ≠ 98 by omega), si_r (show (101 : Nat) ≠ 99 by omega), si_r (show (101 : Nat) ≠ 100 by omega), si_r (show (127 : Nat) ≠ 97 by omega), si_r (show (127 : Nat) ≠ 98 by omega), si_r (show (127 : Nat) ≠ 99 by omega), si_r (show (127 : Nat) ≠ 100 by omega), si_r (show (127 : Nat) ≠ 101 by omega), si_r (show (128 : Nat) ≠ 97 by omega), si_r (show (128 : Nat) ≠ 98 by omega), si_r (show (128 : Nat) ≠ 99 by omega), si_r (show (128 : Nat) ≠ 100 by omega), si_r (show (128 : Nat) ≠ 101 by omega), si_r (show (129 : Nat) ≠ 97 by omega), si_r (show (129 : Nat) ≠ 98 by omega), si_r (show (129 : Nat) ≠ 99 by omega), si_r (show (129 : Nat) ≠ 100 by omega), si_r (show (129 : Nat) ≠ 101 by omega), si_r (show (130 : Nat) ≠ 97 by omega), si_r (show (130 : Nat) ≠ 98 by omega), si_r (show (130 : Nat) ≠ 99 by omega), si_r (show (130 : Nat) ≠ 100 by omega), si_r (show (130 : Nat) ≠ 101 by omega), si_r (show (131 : Nat) ≠ 97 by omega), si_r (show (131 : Nat) ≠ 98 by omega), si_r (show (131 : Nat) ≠ 99 by omega), si_r (show (131 : Nat) ≠ 100 by omega), si_r (show (131 : Nat) ≠ 101 by omega)]
    obtain ⟨g, e, eg, fr⟩ := ih (i + 1) (si (si (si (si (si h 97 i (h.1 127 i)) 98 i (h.1 128 i)) 99 i (h.1 129 i)) 100 i (h.1 130 i)) 101 i (h.1 131 i)) f (by omega) (by omega) (fun j q => by
      simp only [si_r (show (97 : Nat) ≠ 98 by omega), si_r (show (97 : Nat) ≠ 99 by omega), si_r (show (97 : Nat) ≠ 100 by omega), si_r (show (97 : Nat) ≠ 101 by omega), si_r (show (98 : Nat) ≠ 97 by omega), si_r (show (98 : Nat) ≠ 99 by omega), si_r (show (98 : Nat) ≠ 100 by omega), si_r (show (98 : Nat) ≠ 101 by omega), si_r (show (99 : Nat) ≠ 97 by omega), si_r (show (99 : Nat) ≠ 98 by omega), si_r (show (99 : Nat) ≠ 100 by omega), si_r (show (99 : Nat) ≠ 101 by omega), si_r (show (100 : Nat) ≠ 97 by omega), si_r (show (100 : Nat) ≠ 98 by omega), si_r (show (100 : Nat) ≠ 99 by omega), si_r (show (100 : Nat) ≠ 101 by omega), si_r (show (101 : Nat) ≠ 97 by omega), si_r (show (101 : Nat) ≠ 98 by omega), si_r (show (101 : Nat) ≠ 99 by omega), si_r (show (101 : Nat) ≠ 100 by omega), si_r (show (127 : Nat) ≠ 97 by omega), si_r (show (127 : Nat) ≠ 98 by omega), si_r (show (127 : Nat) ≠ 99 by omega), si_r (show (127 : Nat) ≠ 100 by omega), si_r (show (127 : Nat) ≠ 101 by omega), si_r (show (128 : Nat) ≠ 97 by omega), si_r (show (128 : Nat) ≠ 98 by omega), si_r (show (128 : Nat) ≠ 99 by omega), si_r (show (128 : Nat) ≠ 100 by omega), si_r (show (128 : Nat) ≠ 101 by omega), si_r (show (129 : Nat) ≠ 97 by omega), si_r (show (129 : Nat) ≠ 98 by omega), si_r (show (129 : Nat) ≠ 99 by omega), si_r (show (129 : Nat) ≠ 100 by omega), si_r (show (129 : Nat) ≠ 101 by omega), si_r (show (130 : Nat) ≠ 97 by omega), si_r (show (130 : Nat) ≠ 98 by omega), si_r (show (130 : Nat) ≠ 99 by omega), si_r (show (130 : Nat) ≠ 100 by omega), si_r (show (130 : Nat) ≠ 101 by omega), si_r (show (131 : Nat) ≠ 97 by omega), si_r (show (131 : Nat) ≠ 98 by omega), si_r (show (131 : Nat) ≠ 99 by omega), si_r (show (131 : Nat) ≠ 100 by omega), si_r (show (131 : Nat) ≠ 101 by omega), si_w]
      by_cases e : j = i
      · subst e; exact ⟨up_s _ _ _, up_s _ _ _, up_s _ _ _, up_s _ _ _, up_s _ _ _⟩
      · simp only [up_n _ _ e]; exact hj j (by omega))
    refine ⟨g, e, fun j q => ?_, ?_⟩
    · have := eg j q
      simp only [si_r (show (97 : Nat) ≠ 98 by omega), si_r (show (97 : Nat) ≠ 99 by omega), si_r (show (97 : Nat) ≠ 100 by omega), si_r (show (97 : Nat) ≠ 101 by omega), si_r (show (98 : Nat) ≠ 97 by omega), si_r (show (98 : Nat) ≠ 99 by omega), si_r (show (98 : Nat) ≠ 100 by omega), si_r (show (98 : Nat) ≠ 101 by omega), si_r (show (99 : Nat) ≠ 97 by omega), si_r (show (99 : Nat) ≠ 98 by omega), si_r (show (99 : Nat) ≠ 100 by omega), si_r (show (99 : Nat) ≠ 101 by omega), si_r (show (100 : Nat) ≠ 97 by omega), si_r (show (100 : Nat) ≠ 98 by omega), si_r (show (100 : Nat) ≠ 99 by omega), si_r (show (100 : Nat) ≠ 101 by omega), si_r (show (101 : Nat) ≠ 97 by omega), si_r (show (101 : Nat) ≠ 98 by omega), si_r (show (101 : Nat) ≠ 99 by omega), si_r (show (101 : Nat) ≠ 100 by omega), si_r (show (127 : Nat) ≠ 97 by omega), si_r (show (127 : Nat) ≠ 98 by omega), si_r (show (127 : Nat) ≠ 99 by omega), si_r (show (127 : Nat) ≠ 100 by omega), si_r (show (127 : Nat) ≠ 101 by omega), si_r (show (128 : Nat) ≠ 97 by omega), si_r (show (128 : Nat) ≠ 98 by omega), si_r (show (128 : Nat) ≠ 99 by omega), si_r (show (128 : Nat) ≠ 100 by omega), si_r (show (128 : Nat) ≠ 101 by omega), si_r (show (129 : Nat) ≠ 97 by omega), si_r (show (129 : Nat) ≠ 98 by omega), si_r (show (129 : Nat) ≠ 99 by omega), si_r (show (129 : Nat) ≠ 100 by omega), si_r (show (129 : Nat) ≠ 101 by omega), si_r (show (130 : Nat) ≠ 97 by omega), si_r (show (130 : Nat) ≠ 98 by omega), si_r (show (130 : Nat) ≠ 99 by omega), si_r (show (130 : Nat) ≠ 100 by omega), si_r (show (130 : Nat) ≠ 101 by omega), si_r (show (131 : Nat) ≠ 97 by omega), si_r (show (131 : Nat) ≠ 98 by omega), si_r (show (131 : Nat) ≠ 99 by omega), si_r (show (131 : Nat) ≠ 100 by omega), si_r (show (131 : Nat) ≠ 101 by omega)] at this
      exact this
    · exact Fc.trans (U := (fun c => c = 97 ∨ c = 98 ∨ c = 99 ∨ c = 100 ∨ c = 101)) (Fc.trans (U := (fun c => c = 97 ∨ c = 98 ∨ c = 99 ∨ c = 100 ∨ c = 101)) (Fc.trans (U := (fun c => c = 97 ∨ c = 98 ∨ c = 99 ∨ c = 100 ∨ c = 101)) (Fc.trans (U := (fun c => c = 97 ∨ c = 98 ∨ c = 99 ∨ c = 100 ∨ c = 101)) (Fc.trans (U := (fun c => c = 97 ∨ c = 98 ∨ c = 99 ∨ c = 100 ∨ c = 101)) (Fc.si (S := (fun c => c = 97 ∨ c = 98 ∨ c = 99 ∨ c = 100 ∨ c = 101)) (show (fun c => c = 97 ∨ c = 98 ∨ c = 99 ∨ c = 100 ∨ c = 101) 97 by simp)) (Fc.si (S := (fun c => c = 97 ∨ c = 98 ∨ c = 99 ∨ c = 100 ∨ c = 101)) (show (fun c => c = 97 ∨ c = 98 ∨ c = 99 ∨ c = 100 ∨ c = 101) 98 by simp)) (fun _ q => q) (fun _ q => q)) (Fc.si (S := (fun c => c = 97 ∨ c = 98 ∨ c = 99 ∨ c = 100 ∨ c = 101)) (show (fun c => c = 97 ∨ c = 98 ∨ c = 99 ∨ c = 100 ∨ c = 101) 99 by simp)) (fun _ q => q) (fun _ q => q)) (Fc.si (S := (fun c => c = 97 ∨ c = 98 ∨ c = 99 ∨ c = 100 ∨ c = 101)) (show (fun c => c = 97 ∨ c = 98 ∨ c = 99 ∨ c = 100 ∨ c = 101) 100 by simp)) (fun _ q => q) (fun _ q => q)) (Fc.si (S := (fun c => c = 97 ∨ c = 98 ∨ c = 99 ∨ c = 100 ∨ c = 101)) (show (fun c => c = 97 ∨ c = 98 ∨ c = 99 ∨ c = 100 ∨ c = 101) 101 by simp)) (fun _ q => q) (fun _ q => q)) fr (fun _ q => q) (fun _ q => q)
