def aln (k : Nat) : Nat := ((SH[k]?).getD (0, 0, [])).2.1
def DK (o : Nat) : Prop := SH[o]? = some (0, 1, [2, 2, 2, 2, 2, 2, 2, 0, 0, 0, 0, 0, 0, 3]) ∧ SH[o + 1]? = some (1, 6, []) ∧ SH[o + 2]? = some (1, 6, []) ∧ SH[o + 3]? = some (1, 6, []) ∧ SH[o + 4]? = some (1, 6, []) ∧ SH[o + 5]? = some (1, 6, []) ∧ SH[o + 6]? = some (1, 24, []) ∧ SH[o + 7]? = some (1, 3, [])
def OC (o : Nat) : Prop := SH[o]? = some (0, 2, [2, 2, 2, 2, 0, 0, 0]) ∧ SH[o + 1]? = some (1, 100, []) ∧ SH[o + 2]? = some (1, 100, []) ∧ SH[o + 3]? = some (1, 100, []) ∧ SH[o + 4]? = some (1, 6, [])
def PR (o : Nat) : Prop := SH[o]? = some (0, 3, [2, 2, 0]) ∧ SH[o + 1]? = some (1, aln (o + 1), []) ∧ SH[o + 2]? = some (1, aln (o + 2), [])
def TP (o : Nat) : Prop := SH[o]? = some (0, 4, [2, 0, 0]) ∧ SH[o + 1]? = some (2, 60, [])
def AR6 (a : Nat) : Prop := SH[a]? = some (1, 6, [])
theorem dk_6 : DK 6 := ⟨sh_6, sh_7, sh_8, sh_9, sh_10, sh_11, sh_12, sh_13⟩
theorem dk_14 : DK 14 := ⟨sh_14, sh_15, sh_16, sh_17, sh_18, sh_19, sh_20, sh_21⟩
theorem dk_22 : DK 22 := ⟨sh_22, sh_23, sh_24, sh_25, sh_26, sh_27, sh_28, sh_29⟩
theorem oc_1 : OC 1 := ⟨sh_1, sh_2, sh_3, sh_4, sh_5⟩
theorem oc_49 : OC 49 := ⟨sh_49, sh_50, sh_51, sh_52, sh_53⟩
theorem oc_54 : OC 54 := ⟨sh_54, sh_55, sh_56, sh_57, sh_58⟩
theorem oc_59 : OC 59 := ⟨sh_59, sh_60, sh_61, sh_62, sh_63⟩
theorem oc_64 : OC 64 := ⟨sh_64, sh_65, sh_66, sh_67, sh_68⟩
theorem oc_69 : OC 69 := ⟨sh_69, sh_70, sh_71, sh_72, sh_73⟩
theorem oc_74 : OC 74 := ⟨sh_74, sh_75, sh_76, sh_77, sh_78⟩
theorem pr_30 : PR 30 := ⟨sh_30, sh_31, sh_32⟩
theorem pr_33 : PR 33 := ⟨sh_33, sh_34, sh_35⟩
theorem pr_36 : PR 36 := ⟨sh_36, sh_37, sh_38⟩
theorem pr_39 : PR 39 := ⟨sh_39, sh_40, sh_41⟩
theorem pr_42 : PR 42 := ⟨sh_42, sh_43, sh_44⟩
theorem pr_45 : PR 45 := ⟨sh_45, sh_46, sh_47⟩
theorem tp_84 : TP 84 := ⟨sh_84, sh_85⟩
theorem tp_86 : TP 86 := ⟨sh_86, sh_87⟩
theorem tp_88 : TP 88 := ⟨sh_88, sh_89⟩
theorem tp_90 : TP 90 := ⟨sh_90, sh_91⟩
theorem tp_92 : TP 92 := ⟨sh_92, sh_93⟩
theorem tp_94 : TP 94 := ⟨sh_94, sh_95⟩
def isOc (q : Nat) : Bool := decide (q = 1) || (decide (49 ≤ q) && decide (q ≤ 74) && decide ((q - 49) % 5 = 0))
theorem oc_of {q : Nat} (h : isOc q = true) : OC q := by
  simp only [isOc, Bool.or_eq_true, Bool.and_eq_true, decide_eq_true_eq] at h
  rcases h with rfl | ⟨⟨h1, h2⟩, h3⟩
  · exact oc_1
  · have : q = 49 ∨ q = 54 ∨ q = 59 ∨ q = 64 ∨ q = 69 ∨ q = 74 := by omega
    rcases this with rfl | rfl | rfl | rfl | rfl | rfl
    · exact oc_49
    · exact oc_54
    · exact oc_59
    · exact oc_64
    · exact oc_69
    · exact oc_74
theorem oca {i : Int32} (h : inb i 6 = true) : OC (lra 5 i.toNatClampNeg) := by
  simp only [inb, Bool.and_eq_true, decide_eq_true_eq] at h
  have h2 := h.2
  generalize i.toNatClampNeg = j at h2 ⊢
  match j, h2 with
  | 0, _ => exact oc_49
  | 1, _ => exact oc_54
  | 2, _ => exact oc_59
  | 3, _ => exact oc_64
  | 4, _ => exact oc_69
  | 5, _ => exact oc_74
  | j + 6, h2 => exact absurd h2 (by omega)
theorem tpa {i : Int32} (h : inb i 6 = true) : TP (lra 6 i.toNatClampNeg) := by
  simp only [inb, Bool.and_eq_true, decide_eq_true_eq] at h
  have h2 := h.2
  generalize i.toNatClampNeg = j at h2 ⊢
  match j, h2 with
  | 0, _ => exact tp_84
  | 1, _ => exact tp_86
  | 2, _ => exact tp_88
  | 3, _ => exact tp_90
  | 4, _ => exact tp_92
  | 5, _ => exact tp_94
  | j + 6, h2 => exact absurd h2 (by omega)
theorem ho_D : ∀ i t, ([2, 2, 2, 2, 2, 2, 2, 0, 0, 0, 0, 0, 0, 3] : List Nat)[i]? = some t → i ≠ 13 → t = 0 ∨ t = 2 := by
  intro i t h hi
  match i, h with
  | 0, h => exact Or.inr (Option.some.inj h).symm
  | 1, h => exact Or.inr (Option.some.inj h).symm
  | 2, h => exact Or.inr (Option.some.inj h).symm
  | 3, h => exact Or.inr (Option.some.inj h).symm
  | 4, h => exact Or.inr (Option.some.inj h).symm
  | 5, h => exact Or.inr (Option.some.inj h).symm
  | 6, h => exact Or.inr (Option.some.inj h).symm
  | 7, h => exact Or.inl (Option.some.inj h).symm
  | 8, h => exact Or.inl (Option.some.inj h).symm
  | 9, h => exact Or.inl (Option.some.inj h).symm
  | 10, h => exact Or.inl (Option.some.inj h).symm
  | 11, h => exact Or.inl (Option.some.inj h).symm
  | 12, h => exact Or.inl (Option.some.inj h).symm
  | 13, h => exact absurd rfl hi
  | i + 14, h => simp at h
theorem ho_T : ∀ i t, ([2, 3, 0, 0] : List Nat)[i]? = some t → i ≠ 1 → t = 0 ∨ t = 2 := by
  intro i t h hi
  match i, h with
  | 0, h => exact Or.inr (Option.some.inj h).symm
  | 1, h => exact absurd rfl hi
  | 2, h => exact Or.inl (Option.some.inj h).symm
  | 3, h => exact Or.inl (Option.some.inj h).symm
  | i + 4, h => simp at h
