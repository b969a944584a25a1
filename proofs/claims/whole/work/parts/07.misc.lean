theorem lq_6_0 : lr 0 6 0 = 6 := rfl
theorem lq_6_1 : lr 0 6 1 = 14 := rfl
theorem lq_6_2 : lr 0 6 2 = 22 := rfl
theorem lq_6_3 : lr 0 6 3 = 30 := rfl
theorem lq_6_4 : lr 0 6 4 = 33 := rfl
theorem lq_6_5 : lr 0 6 5 = 36 := rfl
theorem lq_6_6 : lr 0 6 6 = 39 := rfl
theorem lq_6_7 : lr 0 6 7 = 42 := rfl
theorem lq_6_8 : lr 0 6 8 = 45 := rfl
theorem lq_6_10 : lr 0 6 10 = 48 := rfl
theorem lq_6_12 : lr 0 6 12 = 79 := rfl
theorem lq_6_13 : lr 0 6 13 = 81 := rfl
theorem lq_6_14 : lr 0 6 14 = 83 := rfl
theorem lq_7_6 : lr 96 7 6 = 97 := rfl
theorem lq_7_7 : lr 96 7 7 = 98 := rfl
theorem lq_7_8 : lr 96 7 8 = 99 := rfl
theorem lq_7_9 : lr 96 7 9 = 100 := rfl
theorem lq_7_10 : lr 96 7 10 = 101 := rfl
theorem lq_7_11 : lr 96 7 11 = 102 := rfl
theorem lq_7_12 : lr 96 7 12 = 103 := rfl
theorem lq_7_18 : lr 96 7 18 = 104 := rfl
theorem lq_7_19 : lr 96 7 19 = 105 := rfl
theorem lq_7_20 : lr 96 7 20 = 106 := rfl
theorem lq_7_21 : lr 96 7 21 = 107 := rfl
theorem lq_7_22 : lr 96 7 22 = 108 := rfl
theorem lq_7_23 : lr 96 7 23 = 109 := rfl
theorem lq_7_24 : lr 96 7 24 = 110 := rfl
theorem lq_7_25 : lr 96 7 25 = 111 := rfl
theorem lq_7_29 : lr 96 7 29 = 112 := rfl
theorem lq_7_30 : lr 96 7 30 = 113 := rfl
theorem lq_7_33 : lr 96 7 33 = 114 := rfl
theorem lq_7_39 : lr 96 7 39 = 115 := rfl
theorem lq_7_40 : lr 96 7 40 = 116 := rfl
theorem lq_7_41 : lr 96 7 41 = 117 := rfl
theorem lq_7_42 : lr 96 7 42 = 118 := rfl
theorem lq_7_44 : lr 96 7 44 = 119 := rfl
theorem lq_7_47 : lr 96 7 47 = 120 := rfl
theorem lq_7_49 : lr 96 7 49 = 121 := rfl
theorem lq_7_50 : lr 96 7 50 = 122 := rfl
theorem lq_7_53 : lr 96 7 53 = 123 := rfl
theorem lq_7_54 : lr 96 7 54 = 124 := rfl
theorem lq_7_55 : lr 96 7 55 = 125 := rfl
theorem lq_7_56 : lr 96 7 56 = 126 := rfl
theorem lq_7_68 : lr 96 7 68 = 127 := rfl
theorem lq_7_69 : lr 96 7 69 = 128 := rfl
theorem lq_7_70 : lr 96 7 70 = 129 := rfl
theorem lq_7_71 : lr 96 7 71 = 130 := rfl
theorem lq_7_72 : lr 96 7 72 = 131 := rfl
theorem lq_7_73 : lr 96 7 73 = 132 := rfl
theorem lq_7_74 : lr 96 7 74 = 133 := rfl
theorem lq_7_75 : lr 96 7 75 = 134 := rfl
theorem lq_7_76 : lr 96 7 76 = 135 := rfl
theorem lq_7_77 : lr 96 7 77 = 136 := rfl
theorem lq_7_78 : lr 96 7 78 = 137 := rfl
theorem lq_7_79 : lr 96 7 79 = 138 := rfl
theorem lq_7_80 : lr 96 7 80 = 139 := rfl
theorem lq_7_82 : lr 96 7 82 = 140 := rfl
theorem lq_7_83 : lr 96 7 83 = 141 := rfl
theorem lq_7_84 : lr 96 7 84 = 142 := rfl
theorem lq_7_85 : lr 96 7 85 = 143 := rfl
theorem lq_7_86 : lr 96 7 86 = 144 := rfl
theorem lq_0_0 (o : Nat) : lr o 0 0 = o + 1 := rfl
theorem lq_1_0 (o : Nat) : lr o 1 0 = o + 1 := rfl
theorem lq_1_1 (o : Nat) : lr o 1 1 = o + 2 := rfl
theorem lq_1_2 (o : Nat) : lr o 1 2 = o + 3 := rfl
theorem lq_1_3 (o : Nat) : lr o 1 3 = o + 4 := rfl
theorem lq_1_4 (o : Nat) : lr o 1 4 = o + 5 := rfl
theorem lq_1_5 (o : Nat) : lr o 1 5 = o + 6 := rfl
theorem lq_1_6 (o : Nat) : lr o 1 6 = o + 7 := rfl
theorem lq_2_0 (o : Nat) : lr o 2 0 = o + 1 := rfl
theorem lq_2_1 (o : Nat) : lr o 2 1 = o + 2 := rfl
theorem lq_2_2 (o : Nat) : lr o 2 2 = o + 3 := rfl
theorem lq_2_3 (o : Nat) : lr o 2 3 = o + 4 := rfl
theorem lq_3_0 (o : Nat) : lr o 3 0 = o + 1 := rfl
theorem lq_3_1 (o : Nat) : lr o 3 1 = o + 2 := rfl
theorem lq_4_0 (o : Nat) : lr o 4 0 = o + 1 := rfl
theorem lq_5_0 (o : Nat) : lr o 5 0 = o + 1 := rfl
theorem FZ_ex : ∃ n : Nat, 100000 ≤ n := ⟨100000, Nat.le_refl _⟩
noncomputable def FZ : Nat := Classical.choose FZ_ex
theorem FZ_ge : 100000 ≤ FZ := Classical.choose_spec FZ_ex
theorem so1 {α : Type} {a c : α} (h : some a = some c) : c = a := (Option.some.inj h).symm
theorem so2 {α β : Type} {a c : α} {b d : β} (h : some (a, b) = some (c, d)) : c = a ∧ d = b := ⟨(congrArg Prod.fst (Option.some.inj h)).symm, (congrArg Prod.snd (Option.some.inj h)).symm⟩
def lix (c : Int32) : Int32 := if c = 112 then 0 else if c = 107 then 1 else if c = 118 then 2 else if c = 108 then 3 else if c = 119 then 4 else if c = 100 then 5 else -1
section RJ
variable {Y : MD} {d : Nat} {X : XE} {pc : Nat} {lv : List (Nat × Value)} {st : List Value} {h h1 h2 h' : HP} {r : Option Value}
theorem r_ldS0 (n9 : Nat) (hp : pc + 2 = n9) (hY : Y.1.cls = RX5) (hdg : decode Y.2.1 pc = .ok (.ldc 71, 2)) (kk : Run Y d X n9 lv (.ref (X.2.2.2.1 2) :: st) h r h') : Run Y d X pc lv st h r h' := by
  subst hp
  intro p l e R s m args below meth c A cells slots Q C0 c1 c2 K H locs ls hI hl
  exact va_ldcS C0.1.1 C0.1.2.1 (by rw [← hY]; exact C0.1.2.2.2.1) C0.2.2.2.2.1.2.2.2.1 hdg (kk p l e R s m args below meth c A cells slots Q C0 c1 c2 K H locs ls hI hl)
theorem r_ldS1 (n9 : Nat) (hp : pc + 2 = n9) (hY : Y.1.cls = RX5) (hdg : decode Y.2.1 pc = .ok (.ldc 63, 2)) (kk : Run Y d X n9 lv (.ref (X.2.2.2.1 3) :: st) h r h') : Run Y d X pc lv st h r h' := by
  subst hp
  intro p l e R s m args below meth c A cells slots Q C0 c1 c2 K H locs ls hI hl
  exact va_ldcS C0.1.1 C0.1.2.1 (by rw [← hY]; exact C0.1.2.2.2.1) C0.2.2.2.2.1.2.2.2.2.1 hdg (kk p l e R s m args below meth c A cells slots Q C0 c1 c2 K H locs ls hI hl)
end RJ
