/-! the JDK: charAt and indexOf of the text constants -/
theorem cw_X5_73 : CW RX5 73 1 mJ0_charAt_5068e := ⟨tb2 117 (by decide +kernel) rfl, tb2 118 (by decide +kernel) rfl, tb2 119 (by decide +kernel) rfl, tb1 10 (by decide +kernel) rfl, tb2 120 rfl rfl, by decide +kernel, by decide +kernel, by decide +kernel, by decide⟩
theorem cw_X5_65 : CW RX5 65 1 mJ0_indexOf_0f7a4 := ⟨tb2 183 (by decide +kernel) rfl, tb2 184 (by decide +kernel) rfl, tb2 185 (by decide +kernel) rfl, tb1 10 (by decide +kernel) rfl, tb2 186 rfl rfl, by decide +kernel, by decide +kernel, by decide +kernel, by decide⟩
theorem cw_J0_492 : CW RJ0 492 0 mJ0_isLatin1_aae02 := ⟨tb2 121 (by decide +kernel) rfl, tb2 122 (by decide +kernel) rfl, tb2 123 (by decide +kernel) rfl, tb1 10 (by decide +kernel) rfl, tb2 124 rfl rfl, by decide +kernel, by decide +kernel, by decide +kernel, by decide⟩
theorem cw_J0_633 : CW RJ0 633 2 mJ0_indexOf_7cf53 := ⟨tb2 187 (by decide +kernel) rfl, tb2 188 (by decide +kernel) rfl, tb2 189 (by decide +kernel) rfl, tb1 10 (by decide +kernel) rfl, tb2 190 rfl rfl, by decide +kernel, by decide +kernel, by decide +kernel, by decide⟩
theorem cw_J0_505 : CW RJ0 505 0 mJ0_length_8abf5 := ⟨tb2 191 (by decide +kernel) rfl, tb2 192 (by decide +kernel) rfl, tb2 193 (by decide +kernel) rfl, tb1 10 (by decide +kernel) rfl, tb2 194 rfl rfl, by decide +kernel, by decide +kernel, by decide +kernel, by decide⟩
theorem cw_J0_335 : CW RJ0 335 0 mJ0_coder_7d493 := ⟨tb2 195 (by decide +kernel) rfl, tb2 196 (by decide +kernel) rfl, tb2 197 (by decide +kernel) rfl, tb1 10 (by decide +kernel) rfl, tb2 198 rfl rfl, by decide +kernel, by decide +kernel, by decide +kernel, by decide⟩
theorem cs_J0_495 : CSt RJ0 495 2 mJ1_charAt_3b067 := ⟨tb2 127 (by decide +kernel) rfl, tb2 128 (by decide +kernel) rfl, tb1 11 (by decide +kernel) rfl, tb2 129 rfl rfl, by decide +kernel, by decide +kernel, by decide +kernel, by decide⟩
theorem cs_J1_9 : CSt RJ1 9 2 mJ0_checkIndex_df160 := ⟨tb2 130 (by decide +kernel) rfl, tb2 131 (by decide +kernel) rfl, tb1 10 (by decide +kernel) rfl, tb2 132 rfl rfl, by decide +kernel, by decide +kernel, by decide +kernel, by decide⟩
theorem cs_J0_1059 : CSt RJ0 1059 3 mJ3_checkIndex_8e157 := ⟨tb2 135 (by decide +kernel) rfl, tb2 136 (by decide +kernel) rfl, tb1 12 (by decide +kernel) rfl, tb2 137 rfl rfl, by decide +kernel, by decide +kernel, by decide +kernel, by decide⟩
theorem cs_J0_637 : CSt RJ0 637 4 mJ1_indexOf_4cfef := ⟨tb2 199 (by decide +kernel) rfl, tb2 200 (by decide +kernel) rfl, tb1 11 (by decide +kernel) rfl, tb2 201 rfl rfl, by decide +kernel, by decide +kernel, by decide +kernel, by decide⟩
theorem cs_J1_88 : CSt RJ1 88 1 mJ1_canEncode_9a6ad := ⟨tb2 202 (by decide +kernel) rfl, tb2 203 (by decide +kernel) rfl, tb1 11 (by decide +kernel) rfl, tb2 204 rfl rfl, by decide +kernel, by decide +kernel, by decide +kernel, by decide⟩
theorem cs_J1_95 : CSt RJ1 95 4 mJ1_indexOfChar_4cfef := ⟨tb2 209 (by decide +kernel) rfl, tb2 210 (by decide +kernel) rfl, tb1 11 (by decide +kernel) rfl, tb2 211 rfl rfl, by decide +kernel, by decide +kernel, by decide +kernel, by decide⟩
theorem ml_J1_92 : Cond.methodLink RJ1 92 Lib.Math.max.name ∈ TBL := tb2 205 (by decide +kernel) rfl
theorem ml_J1_38 : Cond.methodLink RJ1 38 Lib.Math.min.name ∈ TBL := tb2 206 (by decide +kernel) rfl
theorem jl_J0_38 : Cond.fieldLink RJ0 38 "java/lang/String" "COMPACT_STRINGS" "Z" ∈ TBL := tb2 125 (by decide +kernel) rfl
theorem jl_J0_1053 : Cond.fieldLink RJ0 1053 "jdk/internal/util/Preconditions" "SIOOBE_FORMATTER" "Ljava/util/function/BiFunction;" ∈ TBL := tb2 133 (by decide +kernel) rfl
theorem jl_J0_15 : Cond.fieldLink RJ0 15 "java/lang/String" "coder" "B" ∈ TBL := tb6 181 (by decide +kernel) rfl
theorem jl_J0_9 : Cond.fieldLink RJ0 9 "java/lang/String" "value" "[B" ∈ TBL := tb6 182 (by decide +kernel) rfl
def byS (i : Nat) : List Int32 := ([([102, 105, 114, 109, 119, 101, 97, 107, 119, 105, 110, 100, 108, 97, 115, 104] : List Int32), ([112, 107, 118, 108, 119, 100] : List Int32)] : List (List Int32)).getD i []
def lnS (i : Nat) : Nat := ([16, 6] : List Nat).getD i 0
section RK
variable {Y : MD} {d : Nat} {X : XE} {pc : Nat} {lv : List (Nat × Value)} {st : List Value} {h h1 h2 h' : HP} {r : Option Value}
theorem r_cs (n9 : Nat) (hp : pc + 3 = n9) {index : Nat} (hw : Cond.fieldLink Y.1.cls index "java/lang/String" "COMPACT_STRINGS" "Z" ∈ TBL) (hdg : decode Y.2.1 pc = .ok (.getstatic index, 3)) (kk : Run Y d X n9 lv (.int 1 :: st) h r h') : Run Y d X pc lv st h r h' := by
  subst hp
  intro p l e R s m args below meth c A cells slots Q C0 c1 c2 K H locs ls hI hl
  exact va_gets C0.1.1 C0.1.2.1 C0.2.2.2.2.1.2.1.1 hI.2.2 C0.1.2.2.2.1 (C0.1.2.2.2.2 _ hw) (fun _ h9 => h9) hdg (kk p l e R s m args below meth c A cells slots Q C0 c1 c2 K H locs ls hI hl)
theorem r_fmt (n9 : Nat) (hp : pc + 3 = n9) {index : Nat} (hw : Cond.fieldLink Y.1.cls index "jdk/internal/util/Preconditions" "SIOOBE_FORMATTER" "Ljava/util/function/BiFunction;" ∈ TBL) (hdg : decode Y.2.1 pc = .ok (.getstatic index, 3)) (kk : ∀ v : Value, (v = .null ∨ ∃ t : Nat, v = .ref t) → Run Y d X n9 lv (v :: st) h r h') : Run Y d X pc lv st h r h' := by
  subst hp
  intro p l e R s m args below meth c A cells slots Q C0 c1 c2 K H locs ls hI hl
  rcases C0.2.2.2.2.1.2.2.2.2.2.2 with g | ⟨t, g⟩
  · exact va_gets C0.1.1 C0.1.2.1 g hI.2.2 C0.1.2.2.2.1 (C0.1.2.2.2.2 _ hw) (fun _ h9 => h9) hdg (kk _ (Or.inl rfl) p l e R s m args below meth c A cells slots Q C0 c1 c2 K H locs ls hI hl)
  · exact va_gets C0.1.1 C0.1.2.1 g hI.2.2 C0.1.2.2.2.1 (C0.1.2.2.2.2 _ hw) (fun _ h9 => h9) hdg (kk _ (Or.inr ⟨t, rfl⟩) p l e R s m args below meth c A cells slots Q C0 c1 c2 K H locs ls hI hl)
theorem r_cod {i : Nat} (hi : i < 2) (n9 : Nat) (hp : pc + 3 = n9) {index : Nat} (hw : Cond.fieldLink Y.1.cls index "java/lang/String" "coder" "B" ∈ TBL) (hdg : decode Y.2.1 pc = .ok (.getfield index, 3)) (kk : Run Y d X n9 lv (.int 0 :: st) h r h') : Run Y d X pc lv (.ref (X.2.2.2.1 (2 + i)) :: st) h r h' := by
  subst hp
  intro p l e R s m args below meth c A cells slots Q C0 c1 c2 K H locs ls hI hl
  exact vk_getf C0.1.1 C0.1.2.1 (C0.2.2.2.2.1.2.1.2.1 i hi).2.1 hI.2.2 C0.1.2.2.2.1 (C0.1.2.2.2.2 _ hw) (fun _ h9 => h9) hdg (kk p l e R s m args below meth c A cells slots Q C0 c1 c2 K H locs ls hI hl)
theorem r_val {i : Nat} (hi : i < 2) (n9 : Nat) (hp : pc + 3 = n9) {index : Nat} (hw : Cond.fieldLink Y.1.cls index "java/lang/String" "value" "[B" ∈ TBL) (hdg : decode Y.2.1 pc = .ok (.getfield index, 3)) (kk : Run Y d X n9 lv (.ref (X.2.2.2.1 (4 + i)) :: st) h r h') : Run Y d X pc lv (.ref (X.2.2.2.1 (2 + i)) :: st) h r h' := by
  subst hp
  intro p l e R s m args below meth c A cells slots Q C0 c1 c2 K H locs ls hI hl
  exact vk_getf C0.1.1 C0.1.2.1 (C0.2.2.2.2.1.2.1.2.1 i hi).2.2.1 hI.2.2 C0.1.2.2.2.1 (C0.1.2.2.2.2 _ hw) (fun _ h9 => h9) hdg (kk p l e R s m args below meth c A cells slots Q C0 c1 c2 K H locs ls hI hl)
theorem r_lenS {i : Nat} (hi : i < 2) (n9 : Nat) (hp : pc + 1 = n9) {v : Int32} (hv : Int32.ofNat (lnS i) = v) (hdg : decode Y.2.1 pc = .ok (.arraylength, 1)) (kk : Run Y d X n9 lv (.int v :: st) h r h') : Run Y d X pc lv (.ref (X.2.2.2.1 (4 + i)) :: st) h r h' := by
  subst hp
  intro p l e R s m args below meth c A cells slots Q C0 c1 c2 K H locs ls hI hl
  exact va_tlen C0.1.1 C0.1.2.1 (C0.2.2.2.2.1.2.1.2.1 i hi).2.2.2 hI.2.2 hv hdg (kk p l e R s m args below meth c A cells slots Q C0 c1 c2 K H locs ls hI hl)
theorem r_balS {i : Nat} (hi : i < 2) (n9 : Nat) (hp : pc + 1 = n9) {j : Int32} (hin : vp_in j (lnS i)) (hdg : decode Y.2.1 pc = .ok (.baload, 1)) (kk : Run Y d X n9 lv (.int ((byS i).getD j.toNatClampNeg 0) :: st) h r h') : Run Y d X pc lv (.int j :: .ref (X.2.2.2.1 (4 + i)) :: st) h r h' := by
  subst hp
  intro p l e R s m args below meth c A cells slots Q C0 c1 c2 K H locs ls hI hl
  exact va_tb C0.1.1 C0.1.2.1 (C0.2.2.2.2.1.2.1.2.1 i hi).2.2.2 hI.2.2 hin rfl hdg (kk p l e R s m args below meth c A cells slots Q C0 c1 c2 K H locs ls hI hl)
theorem r_ishrX (n9 : Nat) (hp : pc + 1 = n9) {x y : Int32} (hdg : decode Y.2.1 pc = .ok (.ishr, 1)) (kk : Run Y d X n9 lv (.int (x >>> (y &&& 31)) :: st) h r h') : Run Y d X pc lv (.int y :: .int x :: st) h r h' := by
  subst hp
  intro p l e R s m args below meth c A cells slots Q C0 c1 c2 K H locs ls hI hl
  exact lv_ishr C0.1.1 C0.1.2.1 hdg (kk p l e R s m args below meth c A cells slots Q C0 c1 c2 K H locs ls hI hl)
theorem r_callT {i : Nat} (hi : i < 2) (n9 : Nat) (hp : pc + 3 = n9) {Yc : MD} {dc idx n : Nat} {As stk : List Value} {rc : Option Value} (hc : CC Yc dc X (.ref (X.2.2.2.1 (2 + i)) :: As) h rc h1) (hd : dc + 1 ≤ d) (F : CW Y.1.cls idx n Yc) (hcls : Yc.1.cls = "java/lang/String") (hn : As.length = n) (hst : stk = As.reverse ++ .ref (X.2.2.2.1 (2 + i)) :: st) (hcat : (st.map fun v => v.category).sum ≤ 8) (hdg : decode Y.2.1 pc = .ok (.invokevirtual idx, 3)) (kk : Run Y d X n9 lv (rc.toList ++ st) h1 r h') : Run Y d X pc lv stk h r h' := by
  subst hp
  intro p l e R s m args below meth c A cells slots Q C0 c1 c2 K H locs ls hI hl
  subst hst
  obtain ⟨f1, f2, f3, f4, f5, f6, f7, f8, f9⟩ := F
  have hts := C0.1.2.2.2.2
  have cw : CallW R s args Y.1.cls Yc.1.cls idx Yc.1 Yc.2.1 Yc.2.2.1 Yc.2.2.2 (.code Yc.1 Yc.2.1 Yc.2.2.1 Yc.2.2.2 :: TBL) ({ frames := dc, cells := 0, slots := 0, locals := 60 * dc }) 0 0 n :=
    ⟨callB_of n hts (good_Y f5) rfl rfl rfl (hts _ f4) (hts _ f1) ⟨f6, f7, f8⟩ ⟨by have := C0.2.1; show dc + 1 ≤ R.frames; omega, by have := C0.2.2.1; show 8 + (Yc.2.2.1 + 11) + 60 * dc ≤ R.locals; omega⟩, hts _ f2, hts _ f3⟩
  refine va_callg (va_runV (As := As) (rest := st) ⟨C0.1.1, C0.1.2.1, C0.1.2.2.1, C0.1.2.2.2.1, hts⟩ (hc l H.size) cw ⟨fun a U g mk q => by
      obtain ⟨q0, q1, q2, q3, q4, q5⟩ := q
      exact ⟨q0, q1, q2, va_K.moved (u := U) (U := U.calling g mk a) (Vm.Alike.refl U.vm) q3, q4, EX.same rfl q5⟩, by rw [hcls]; have hv9 := vk_recv (i := i) C0.2.2.2.2.1.2.1.2 hi hI.2.2; exact hv9, fun U hU hW => ⟨rfl, call_pre hI C0.2.2.2.2.1 C0.2.2.2.2.2 C0.2.2.2.1 hU hW⟩⟩ rfl hn hl.1 rfl (lv_room hcat) hdg ⟨c1, c2⟩) hI.2.2 (fun q _ hq => call_free hI C0.2.2.2.1 q hq) (call_free hI C0.2.2.2.1) (fun t H1 locs1 ht hB _ _ hS => ?_)
  rw [ht] at hB
  exact kk p l e R s m args below meth c A cells slots Q C0 c1 c2 K H1 locs1 ls ⟨hB, wld_D hI.2.1, hS⟩ hl
end RK
theorem jc_latin (X : XE) (h : HP) {i : Nat} (hi : i < 2) : CC mJ0_isLatin1_aae02 0 X [.ref (X.2.2.2.1 (2 + i))] h (some (.int 1)) h := by
  refine CC_of (by decide +kernel) (Nat.le_of_ble_eq_true rfl) ?_
  show Run mJ0_isLatin1_aae02 0 X 0 [(0, .ref (X.2.2.2.1 (2 + i)))] [] h (some (.int 1)) h
  refine r_cs 3 rfl jl_J0_38 (ck DJ0_isLatin1_aae02_0 0 rfl) ?_
  refine r_if_eq_f 6 rfl 17 (ck DJ0_isLatin1_aae02_0 1 rfl) (by decide) (by decide) ?_
  refine r_aload_n 7 rfl 0 rfl rfl (ck DJ0_isLatin1_aae02_0 2 rfl) ?_
  refine r_cod hi 10 rfl jl_J0_15 (ck DJ0_isLatin1_aae02_0 3 rfl) ?_
  refine r_if_ne_t 13 rfl 17 (ck DJ0_isLatin1_aae02_0 4 rfl) (by decide) rfl ?_
  refine r_iconst 14 rfl ic_1 (ck DJ0_isLatin1_aae02_0 5 rfl) ?_
  refine r_goto 18 (ck DJ0_isLatin1_aae02_0 6 rfl) (by decide) ?_
  exact r_iret (ty := .boolean) rfl rfl (ck DJ0_isLatin1_aae02_0 8 rfl)
theorem jc_coder (X : XE) (h : HP) {i : Nat} (hi : i < 2) : CC mJ0_coder_7d493 0 X [.ref (X.2.2.2.1 (2 + i))] h (some (.int 0)) h := by
  refine CC_of (by decide +kernel) (Nat.le_of_ble_eq_true rfl) ?_
  show Run mJ0_coder_7d493 0 X 0 [(0, .ref (X.2.2.2.1 (2 + i)))] [] h (some (.int 0)) h
  refine r_cs 3 rfl jl_J0_38 (ck DJ0_coder_7d493_0 0 rfl) ?_
  refine r_if_eq_f 6 rfl 13 (ck DJ0_coder_7d493_0 1 rfl) (by decide) (by decide) ?_
  refine r_aload_n 7 rfl 0 rfl rfl (ck DJ0_coder_7d493_0 2 rfl) ?_
  refine r_cod hi 10 rfl jl_J0_15 (ck DJ0_coder_7d493_0 3 rfl) ?_
  refine r_goto 14 (ck DJ0_coder_7d493_0 4 rfl) (by decide) ?_
  exact r_iret (ty := .byte) rfl rfl (ck DJ0_coder_7d493_0 6 rfl)
theorem jc_length (X : XE) (h : HP)  : CC mJ0_length_8abf5 1 X [.ref (X.2.2.2.1 (2 + 1))] h (some (.int 6)) h := by
  refine CC_of (by decide +kernel) (Nat.le_of_ble_eq_true rfl) ?_
  show Run mJ0_length_8abf5 1 X 0 [(0, .ref (X.2.2.2.1 (2 + 1)))] [] h (some (.int 6)) h
  refine r_aload_n 1 rfl 0 rfl rfl (ck DJ0_length_8abf5_0 0 rfl) ?_
  refine r_val (i := 1) (by decide) 4 rfl jl_J0_9 (ck DJ0_length_8abf5_0 1 rfl) ?_
  refine r_lenS (i := 1) (by decide) 5 rfl (v := 6) rfl (ck DJ0_length_8abf5_0 2 rfl) ?_
  refine r_aload_n 6 rfl 0 rfl rfl (ck DJ0_length_8abf5_0 3 rfl) ?_
  refine r_callT (i := 1) (by decide) 9 rfl (As := []) (jc_coder X h (by decide)) (by decide) cw_J0_335 rfl rfl rfl (Nat.le_of_ble_eq_true rfl) (ck DJ0_length_8abf5_0 4 rfl) ?_
  refine r_ishrX 10 rfl (ck DJ0_length_8abf5_0 5 rfl) ?_
  exact r_top (y := 6) (by decide) (r_iret (ty := .int) rfl rfl (ck DJ0_length_8abf5_0 6 rfl))
theorem jc_pre (X : XE) (h : HP) {a n : Int32} (ha : ¬ a < 0) (hn : a < n) (v : Value) (hv : v = .null ∨ ∃ t : Nat, v = .ref t) : CC mJ3_checkIndex_8e157 0 X [.int a, .int n, v] h (some (.int a)) h := by
  rcases hv with rfl | ⟨t, rfl⟩
  · refine CC_of (by decide +kernel) (Nat.le_of_ble_eq_true rfl) ?_
    show Run mJ3_checkIndex_8e157 0 X 0 [(0, .int a), (1, .int n), (2, .null)] [] h (some (.int a)) h
    refine r_iload_n 1 rfl 0 rfl rfl (ck DJ3_checkIndex_8e157_0 0 rfl) ?_
    refine r_if_lt_f 4 rfl 9 (ck DJ3_checkIndex_8e157_0 1 rfl) (by decide) ha ?_
    refine r_iload_n 5 rfl 0 rfl rfl (ck DJ3_checkIndex_8e157_0 2 rfl) ?_
    refine r_iload_n 6 rfl 1 rfl rfl (ck DJ3_checkIndex_8e157_0 3 rfl) ?_
    refine r_icmp_lt_t 16 (ck DJ3_checkIndex_8e157_0 4 rfl) (by decide) hn ?_
    refine r_iload_n 17 rfl 0 rfl rfl (ck DJ3_checkIndex_8e157_0 10 rfl) ?_
    exact r_iret (ty := .int) rfl rfl (ck DJ3_checkIndex_8e157_0 11 rfl)
  · refine CC_of (by decide +kernel) (Nat.le_of_ble_eq_true rfl) ?_
    show Run mJ3_checkIndex_8e157 0 X 0 [(0, .int a), (1, .int n), (2, .ref t)] [] h (some (.int a)) h
    refine r_iload_n 1 rfl 0 rfl rfl (ck DJ3_checkIndex_8e157_0 0 rfl) ?_
    refine r_if_lt_f 4 rfl 9 (ck DJ3_checkIndex_8e157_0 1 rfl) (by decide) ha ?_
    refine r_iload_n 5 rfl 0 rfl rfl (ck DJ3_checkIndex_8e157_0 2 rfl) ?_
    refine r_iload_n 6 rfl 1 rfl rfl (ck DJ3_checkIndex_8e157_0 3 rfl) ?_
    refine r_icmp_lt_t 16 (ck DJ3_checkIndex_8e157_0 4 rfl) (by decide) hn ?_
    refine r_iload_n 17 rfl 0 rfl rfl (ck DJ3_checkIndex_8e157_0 10 rfl) ?_
    exact r_iret (ty := .int) rfl rfl (ck DJ3_checkIndex_8e157_0 11 rfl)
theorem jc_check (X : XE) (h : HP) {a n : Int32} (ha : ¬ a < 0) (hn : a < n) : CC mJ0_checkIndex_df160 1 X [.int a, .int n] h none h := by
  refine CC_of (by decide +kernel) (Nat.le_of_ble_eq_true rfl) ?_
  show Run mJ0_checkIndex_df160 1 X 0 [(0, .int a), (1, .int n)] [] h none h
  refine r_iload_n 1 rfl 0 rfl rfl (ck DJ0_checkIndex_df160_0 0 rfl) ?_
  refine r_iload_n 2 rfl 1 rfl rfl (ck DJ0_checkIndex_df160_0 1 rfl) ?_
  refine r_fmt 5 rfl jl_J0_1053 (ck DJ0_checkIndex_df160_0 2 rfl) (fun v hv => ?_)
  refine r_callS 8 rfl (As := [.int a, .int n, v]) (st := []) (jc_pre X h ha hn v hv) (by decide) cs_J0_1059 rfl rfl (Nat.le_of_ble_eq_true rfl) (ck DJ0_checkIndex_df160_0 3 rfl) ?_
  refine r_pop 9 rfl rfl (ck DJ0_checkIndex_df160_0 4 rfl) ?_
  exact r_vret rfl (ck DJ0_checkIndex_df160_0 5 rfl)
theorem s0_ch : ∀ j : Fin 16, (((byS 0).getD j.val 0 &&& 255).toUInt32 % 65536).toInt32 = ([102, 105, 114, 109, 119, 101, 97, 107, 119, 105, 110, 100, 108, 97, 115, 104] : List Int32).getD j.val 0 ∧ narrow .char (.int (([102, 105, 114, 109, 119, 101, 97, 107, 119, 105, 110, 100, 108, 97, 115, 104] : List Int32).getD j.val 0)) = .int (([102, 105, 114, 109, 119, 101, 97, 107, 119, 105, 110, 100, 108, 97, 115, 104] : List Int32).getD j.val 0) := by decide +kernel
theorem in16 {a : Int32} (hb : vp_in a 16) : ¬ a < 0 ∧ a < 16 ∧ a.toNatClampNeg < 16 := by
  have h0 : ¬ a < 0 := fun q => hb (Or.inl q)
  have h1 : a.toNatClampNeg < 16 := Nat.not_le.mp fun q => hb (Or.inr q)
  refine ⟨h0, ?_, h1⟩
  rw [Int32.lt_iff_toInt_lt] at h0 ⊢
  have e0 : (0 : Int32).toInt = 0 := rfl
  have e1 : (16 : Int32).toInt = 16 := rfl
  have e2 : a.toNatClampNeg = a.toInt.toNat := rfl
  omega
theorem jc_l1char (X : XE) (h : HP) {a : Int32} (hb : vp_in a 16) : CC mJ1_charAt_3b067 2 X [.ref (X.2.2.2.1 (4 + 0)), .int a] h (some (.int (([102, 105, 114, 109, 119, 101, 97, 107, 119, 105, 110, 100, 108, 97, 115, 104] : List Int32).getD a.toNatClampNeg 0))) h := by
  refine CC_of (by decide +kernel) (Nat.le_of_ble_eq_true rfl) ?_
  show Run mJ1_charAt_3b067 2 X 0 [(0, .ref (X.2.2.2.1 (4 + 0))), (1, .int a)] [] h (some (.int (([102, 105, 114, 109, 119, 101, 97, 107, 119, 105, 110, 100, 108, 97, 115, 104] : List Int32).getD a.toNatClampNeg 0))) h
  obtain ⟨b1, b2, b3⟩ := in16 hb
  refine r_iload_n 1 rfl 1 rfl rfl (ck DJ1_charAt_3b067_0 0 rfl) ?_
  refine r_aload_n 2 rfl 0 rfl rfl (ck DJ1_charAt_3b067_0 1 rfl) ?_
  refine r_lenS (i := 0) (by decide) 3 rfl (v := 16) rfl (ck DJ1_charAt_3b067_0 2 rfl) ?_
  refine r_callS 6 rfl (As := [.int a, .int 16]) (st := []) (jc_check X h b1 b2) (by decide) cs_J1_9 rfl rfl (Nat.le_of_ble_eq_true rfl) (ck DJ1_charAt_3b067_0 3 rfl) ?_
  refine r_aload_n 7 rfl 0 rfl rfl (ck DJ1_charAt_3b067_0 4 rfl) ?_
  refine r_iload_n 8 rfl 1 rfl rfl (ck DJ1_charAt_3b067_0 5 rfl) ?_
  refine r_balS (i := 0) (by decide) 9 rfl hb (ck DJ1_charAt_3b067_0 6 rfl) ?_
  refine r_sipush 12 rfl (v := 255) (by decide) (ck DJ1_charAt_3b067_0 7 rfl) ?_
  refine r_iand 13 rfl (ck DJ1_charAt_3b067_0 8 rfl) ?_
  refine r_i2c 14 rfl (ck DJ1_charAt_3b067_0 9 rfl) ?_
  exact r_top (s0_ch ⟨_, b3⟩).1.symm (r_iret (ty := .char) rfl (s0_ch ⟨_, b3⟩).2 (ck DJ1_charAt_3b067_0 10 rfl))
theorem jc_char (X : XE) (h : HP) {a : Int32} (hb : vp_in a 16) : CC mJ0_charAt_5068e 3 X [.ref (X.2.2.2.1 (2 + 0)), .int a] h (some (.int (([102, 105, 114, 109, 119, 101, 97, 107, 119, 105, 110, 100, 108, 97, 115, 104] : List Int32).getD a.toNatClampNeg 0))) h := by
  refine CC_of (by decide +kernel) (Nat.le_of_ble_eq_true rfl) ?_
  show Run mJ0_charAt_5068e 3 X 0 [(0, .ref (X.2.2.2.1 (2 + 0))), (1, .int a)] [] h (some (.int (([102, 105, 114, 109, 119, 101, 97, 107, 119, 105, 110, 100, 108, 97, 115, 104] : List Int32).getD a.toNatClampNeg 0))) h
  obtain ⟨b1, b2, b3⟩ := in16 hb
  refine r_aload_n 1 rfl 0 rfl rfl (ck DJ0_charAt_5068e_0 0 rfl) ?_
  refine r_callT (i := 0) (by decide) 4 rfl (As := []) (jc_latin X h (by decide)) (by decide) cw_J0_492 rfl rfl rfl (Nat.le_of_ble_eq_true rfl) (ck DJ0_charAt_5068e_0 1 rfl) ?_
  refine r_if_eq_f 7 rfl 16 (ck DJ0_charAt_5068e_0 2 rfl) (by decide) (by decide) ?_
  refine r_aload_n 8 rfl 0 rfl rfl (ck DJ0_charAt_5068e_0 3 rfl) ?_
  refine r_val (i := 0) (by decide) 11 rfl jl_J0_9 (ck DJ0_charAt_5068e_0 4 rfl) ?_
  refine r_iload_n 12 rfl 1 rfl rfl (ck DJ0_charAt_5068e_0 5 rfl) ?_
  refine r_callS 15 rfl (As := [.ref (X.2.2.2.1 (4 + 0)), .int a]) (st := []) (jc_l1char X h hb) (by decide) cs_J0_495 rfl rfl (Nat.le_of_ble_eq_true rfl) (ck DJ0_charAt_5068e_0 6 rfl) ?_
  exact r_iret (ty := .char) rfl (s0_ch ⟨_, b3⟩).2 (ck DJ0_charAt_5068e_0 7 rfl)
theorem jc_canY (X : XE) (h : HP) {a : Int32} (h0 : ¬ a < 0) (h1 : ¬ 255 < a) : CC mJ1_canEncode_9a6ad 0 X [.int a] h (some (.int 1)) h := by
  refine CC_of (by decide +kernel) (Nat.le_of_ble_eq_true rfl) ?_
  show Run mJ1_canEncode_9a6ad 0 X 0 [(0, .int a)] [] h (some (.int 1)) h
  refine r_iload_n 1 rfl 0 rfl rfl (ck DJ1_canEncode_9a6ad_0 0 rfl) ?_
  refine r_if_lt_f 4 rfl 15 (ck DJ1_canEncode_9a6ad_0 1 rfl) (by decide) h0 ?_
  refine r_iload_n 5 rfl 0 rfl rfl (ck DJ1_canEncode_9a6ad_0 2 rfl) ?_
  refine r_sipush 8 rfl (v := 255) (by decide) (ck DJ1_canEncode_9a6ad_0 3 rfl) ?_
  refine r_icmp_gt_f 11 rfl 15 (ck DJ1_canEncode_9a6ad_0 4 rfl) (by decide) h1 ?_
  refine r_iconst 12 rfl ic_1 (ck DJ1_canEncode_9a6ad_0 5 rfl) ?_
  refine r_goto 16 (ck DJ1_canEncode_9a6ad_0 6 rfl) (by decide) ?_
  exact r_iret (ty := .boolean) rfl rfl (ck DJ1_canEncode_9a6ad_0 8 rfl)
theorem jc_canN (X : XE) (h : HP) {a : Int32} (h0 : ¬ a < 0) (h1 : 255 < a) : CC mJ1_canEncode_9a6ad 0 X [.int a] h (some (.int 0)) h := by
  refine CC_of (by decide +kernel) (Nat.le_of_ble_eq_true rfl) ?_
  show Run mJ1_canEncode_9a6ad 0 X 0 [(0, .int a)] [] h (some (.int 0)) h
  refine r_iload_n 1 rfl 0 rfl rfl (ck DJ1_canEncode_9a6ad_0 0 rfl) ?_
  refine r_if_lt_f 4 rfl 15 (ck DJ1_canEncode_9a6ad_0 1 rfl) (by decide) h0 ?_
  refine r_iload_n 5 rfl 0 rfl rfl (ck DJ1_canEncode_9a6ad_0 2 rfl) ?_
  refine r_sipush 8 rfl (v := 255) (by decide) (ck DJ1_canEncode_9a6ad_0 3 rfl) ?_
  refine r_icmp_gt_t 15 (ck DJ1_canEncode_9a6ad_0 4 rfl) (by decide) h1 ?_
  refine r_iconst 16 rfl ic_0 (ck DJ1_canEncode_9a6ad_0 7 rfl) ?_
  exact r_iret (ty := .boolean) rfl rfl (ck DJ1_canEncode_9a6ad_0 8 rfl)
def lixb (b : Int32) : Int32 := if (112 : Int32) = b then 0 else if (107 : Int32) = b then 1 else if (118 : Int32) = b then 2 else if (108 : Int32) = b then 3 else if (119 : Int32) = b then 4 else if (100 : Int32) = b then 5 else -1
theorem lixb_all : ∀ n : Fin 256, lix (Int32.ofInt (n.val : Int)) = lixb (Int32.ofInt (n.val : Int)).toInt8.toInt32 := by decide +kernel
theorem lix_b {a : Int32} (h0 : ¬ a < 0) (h1 : ¬ 255 < a) : lix a = lixb a.toInt8.toInt32 := by
  rw [Int32.lt_iff_toInt_lt] at h0 h1
  have e0 : (0 : Int32).toInt = 0 := rfl
  have e1 : (255 : Int32).toInt = 255 := rfl
  have e2 : ((a.toInt.toNat : Nat) : Int) = a.toInt := by omega
  have g := lixb_all ⟨a.toInt.toNat, by omega⟩
  simp only [e2, Int32.ofInt_toInt] at g
  exact g
theorem lix_big {a : Int32} (h1 : 255 < a) : lix a = -1 := by
  have ne : ∀ k : Int32, ¬ 255 < k → ¬ a = k := fun k hk e => hk (e ▸ h1)
  unfold lix
  rw [if_neg (ne 112 (by decide)), if_neg (ne 107 (by decide)), if_neg (ne 118 (by decide)), if_neg (ne 108 (by decide)), if_neg (ne 119 (by decide)), if_neg (ne 100 (by decide))]
theorem chn (x : Int32) : ¬ (x.toUInt32 % 65536).toInt32 < 0 := by
  rw [Int32.lt_iff_toInt_lt]
  have e0 : (0 : Int32).toInt = 0 := rfl
  have e1 : (x.toUInt32 % 65536).toInt32.toInt = (x.toUInt32 % 65536).toBitVec.toInt := rfl
  have e2 : (x.toUInt32 % 65536).toBitVec.toNat = x.toUInt32.toNat % 65536 := UInt32.toNat_mod _ _
  have e3 : (x.toUInt32 % 65536).toBitVec.toInt = ((x.toUInt32 % 65536).toBitVec.toNat : Int) := BitVec.toInt_eq_toNat_of_lt (by rw [e2]; omega)
  rw [e1, e3, e0]
  omega
theorem jc_ixc (X : XE) (h : HP) {a : Int32} (h0 : ¬ a < 0) (h1 : ¬ 255 < a) : CC mJ1_indexOfChar_4cfef 0 X [.ref (X.2.2.2.1 (4 + 1)), .int a, .int 0, .int 6] h (some (.int (lix a))) h := by
  refine CC_of (by decide +kernel) (Nat.le_of_ble_eq_true rfl) ?_
  show Run mJ1_indexOfChar_4cfef 0 X 0 [(0, .ref (X.2.2.2.1 (4 + 1))), (1, .int a), (2, .int 0), (3, .int 6)] [] h (some (.int (lix a))) h
  rw [lix_b h0 h1]
  refine r_iload_n 1 rfl 1 rfl rfl (ck DJ1_indexOfChar_4cfef_0 0 rfl) ?_
  refine r_i2b 2 rfl (ck DJ1_indexOfChar_4cfef_0 1 rfl) ?_
  generalize a.toInt8.toInt32 = b
  refine r_istore 4 rfl (ck DJ1_indexOfChar_4cfef_0 2 rfl) (by decide) rfl ?_
  refine r_iload_n 5 rfl 3 rfl rfl (ck DJ1_indexOfChar_4cfef_0 3 rfl) ?_
  refine r_istore 7 rfl (ck DJ1_indexOfChar_4cfef_0 4 rfl) (by decide) rfl ?_
  refine r_iload 9 rfl 0 rfl (ck DJ1_indexOfChar_4cfef_0 5 rfl) ?_
  refine r_iload_n 10 rfl 5 rfl rfl (ck DJ1_indexOfChar_4cfef_0 6 rfl) ?_
  refine r_icmp_ge_f 13 rfl 31 (ck DJ1_indexOfChar_4cfef_0 7 rfl) (by decide) (by decide) ?_
  refine r_aload_n 14 rfl 2 rfl rfl (ck DJ1_indexOfChar_4cfef_0 8 rfl) ?_
  refine r_iload 16 rfl 0 rfl (ck DJ1_indexOfChar_4cfef_0 9 rfl) ?_
  refine r_balS (i := 1) (by decide) 17 rfl (by unfold vp_in lnS; decide) (ck DJ1_indexOfChar_4cfef_0 10 rfl) ?_
  refine r_top (y := 112) (by decide) ?_
  refine r_iload 19 rfl 1 rfl (ck DJ1_indexOfChar_4cfef_0 11 rfl) ?_
  by_cases e0 : (112 : Int32) = b
  · refine r_icmp_ne_t 22 rfl 25 (ck DJ1_indexOfChar_4cfef_0 12 rfl) (by decide) e0 ?_
    refine r_iload 24 rfl 0 rfl (ck DJ1_indexOfChar_4cfef_0 13 rfl) ?_
    have er : lixb b = 0 := by unfold lixb; rw [if_pos e0]
    rw [er]
    exact r_iret (ty := .int) rfl rfl (ck DJ1_indexOfChar_4cfef_0 14 rfl)
  refine r_icmp_ne_f 25 (ck DJ1_indexOfChar_4cfef_0 12 rfl) (by decide) e0 ?_
  refine r_iinc 28 rfl 0 (v := 1) (ck DJ1_indexOfChar_4cfef_0 15 rfl) rfl (by decide) (by decide) rfl ?_
  refine r_goto 7 (ck DJ1_indexOfChar_4cfef_0 16 rfl) (by decide) ?_
  refine r_iload 9 rfl 0 rfl (ck DJ1_indexOfChar_4cfef_0 5 rfl) ?_
  refine r_iload_n 10 rfl 5 rfl rfl (ck DJ1_indexOfChar_4cfef_0 6 rfl) ?_
  refine r_icmp_ge_f 13 rfl 31 (ck DJ1_indexOfChar_4cfef_0 7 rfl) (by decide) (by decide) ?_
  refine r_aload_n 14 rfl 2 rfl rfl (ck DJ1_indexOfChar_4cfef_0 8 rfl) ?_
  refine r_iload 16 rfl 0 rfl (ck DJ1_indexOfChar_4cfef_0 9 rfl) ?_
  refine r_balS (i := 1) (by decide) 17 rfl (by unfold vp_in lnS; decide) (ck DJ1_indexOfChar_4cfef_0 10 rfl) ?_
  refine r_top (y := 107) (by decide) ?_
  refine r_iload 19 rfl 1 rfl (ck DJ1_indexOfChar_4cfef_0 11 rfl) ?_
  by_cases e1 : (107 : Int32) = b
  · refine r_icmp_ne_t 22 rfl 25 (ck DJ1_indexOfChar_4cfef_0 12 rfl) (by decide) e1 ?_
    refine r_iload 24 rfl 0 rfl (ck DJ1_indexOfChar_4cfef_0 13 rfl) ?_
    have er : lixb b = 1 := by unfold lixb; rw [if_neg e0, if_pos e1]
    rw [er]
    exact r_iret (ty := .int) rfl rfl (ck DJ1_indexOfChar_4cfef_0 14 rfl)
  refine r_icmp_ne_f 25 (ck DJ1_indexOfChar_4cfef_0 12 rfl) (by decide) e1 ?_
  refine r_iinc 28 rfl 0 (v := 2) (ck DJ1_indexOfChar_4cfef_0 15 rfl) rfl (by decide) (by decide) rfl ?_
  refine r_goto 7 (ck DJ1_indexOfChar_4cfef_0 16 rfl) (by decide) ?_
  refine r_iload 9 rfl 0 rfl (ck DJ1_indexOfChar_4cfef_0 5 rfl) ?_
  refine r_iload_n 10 rfl 5 rfl rfl (ck DJ1_indexOfChar_4cfef_0 6 rfl) ?_
  refine r_icmp_ge_f 13 rfl 31 (ck DJ1_indexOfChar_4cfef_0 7 rfl) (by decide) (by decide) ?_
  refine r_aload_n 14 rfl 2 rfl rfl (ck DJ1_indexOfChar_4cfef_0 8 rfl) ?_
  refine r_iload 16 rfl 0 rfl (ck DJ1_indexOfChar_4cfef_0 9 rfl) ?_
  refine r_balS (i := 1) (by decide) 17 rfl (by unfold vp_in lnS; decide) (ck DJ1_indexOfChar_4cfef_0 10 rfl) ?_
  refine r_top (y := 118) (by decide) ?_
  refine r_iload 19 rfl 1 rfl (ck DJ1_indexOfChar_4cfef_0 11 rfl) ?_
  by_cases e2 : (118 : Int32) = b
  · refine r_icmp_ne_t 22 rfl 25 (ck DJ1_indexOfChar_4cfef_0 12 rfl) (by decide) e2 ?_
    refine r_iload 24 rfl 0 rfl (ck DJ1_indexOfChar_4cfef_0 13 rfl) ?_
    have er : lixb b = 2 := by unfold lixb; rw [if_neg e0, if_neg e1, if_pos e2]
    rw [er]
    exact r_iret (ty := .int) rfl rfl (ck DJ1_indexOfChar_4cfef_0 14 rfl)
  refine r_icmp_ne_f 25 (ck DJ1_indexOfChar_4cfef_0 12 rfl) (by decide) e2 ?_
  refine r_iinc 28 rfl 0 (v := 3) (ck DJ1_indexOfChar_4cfef_0 15 rfl) rfl (by decide) (by decide) rfl ?_
  refine r_goto 7 (ck DJ1_indexOfChar_4cfef_0 16 rfl) (by decide) ?_
  refine r_iload 9 rfl 0 rfl (ck DJ1_indexOfChar_4cfef_0 5 rfl) ?_
  refine r_iload_n 10 rfl 5 rfl rfl (ck DJ1_indexOfChar_4cfef_0 6 rfl) ?_
  refine r_icmp_ge_f 13 rfl 31 (ck DJ1_indexOfChar_4cfef_0 7 rfl) (by decide) (by decide) ?_
  refine r_aload_n 14 rfl 2 rfl rfl (ck DJ1_indexOfChar_4cfef_0 8 rfl) ?_
  refine r_iload 16 rfl 0 rfl (ck DJ1_indexOfChar_4cfef_0 9 rfl) ?_
  refine r_balS (i := 1) (by decide) 17 rfl (by unfold vp_in lnS; decide) (ck DJ1_indexOfChar_4cfef_0 10 rfl) ?_
  refine r_top (y := 108) (by decide) ?_
  refine r_iload 19 rfl 1 rfl (ck DJ1_indexOfChar_4cfef_0 11 rfl) ?_
  by_cases e3 : (108 : Int32) = b
  · refine r_icmp_ne_t 22 rfl 25 (ck DJ1_indexOfChar_4cfef_0 12 rfl) (by decide) e3 ?_
    refine r_iload 24 rfl 0 rfl (ck DJ1_indexOfChar_4cfef_0 13 rfl) ?_
    have er : lixb b = 3 := by unfold lixb; rw [if_neg e0, if_neg e1, if_neg e2, if_pos e3]
    rw [er]
    exact r_iret (ty := .int) rfl rfl (ck DJ1_indexOfChar_4cfef_0 14 rfl)
  refine r_icmp_ne_f 25 (ck DJ1_indexOfChar_4cfef_0 12 rfl) (by decide) e3 ?_
  refine r_iinc 28 rfl 0 (v := 4) (ck DJ1_indexOfChar_4cfef_0 15 rfl) rfl (by decide) (by decide) rfl ?_
  refine r_goto 7 (ck DJ1_indexOfChar_4cfef_0 16 rfl) (by decide) ?_
  refine r_iload 9 rfl 0 rfl (ck DJ1_indexOfChar_4cfef_0 5 rfl) ?_
  refine r_iload_n 10 rfl 5 rfl rfl (ck DJ1_indexOfChar_4cfef_0 6 rfl) ?_
  refine r_icmp_ge_f 13 rfl 31 (ck DJ1_indexOfChar_4cfef_0 7 rfl) (by decide) (by decide) ?_
  refine r_aload_n 14 rfl 2 rfl rfl (ck DJ1_indexOfChar_4cfef_0 8 rfl) ?_
  refine r_iload 16 rfl 0 rfl (ck DJ1_indexOfChar_4cfef_0 9 rfl) ?_
  refine r_balS (i := 1) (by decide) 17 rfl (by unfold vp_in lnS; decide) (ck DJ1_indexOfChar_4cfef_0 10 rfl) ?_
  refine r_top (y := 119) (by decide) ?_
  refine r_iload 19 rfl 1 rfl (ck DJ1_indexOfChar_4cfef_0 11 rfl) ?_
  by_cases e4 : (119 : Int32) = b
  · refine r_icmp_ne_t 22 rfl 25 (ck DJ1_indexOfChar_4cfef_0 12 rfl) (by decide) e4 ?_
    refine r_iload 24 rfl 0 rfl (ck DJ1_indexOfChar_4cfef_0 13 rfl) ?_
    have er : lixb b = 4 := by unfold lixb; rw [if_neg e0, if_neg e1, if_neg e2, if_neg e3, if_pos e4]
    rw [er]
    exact r_iret (ty := .int) rfl rfl (ck DJ1_indexOfChar_4cfef_0 14 rfl)
  refine r_icmp_ne_f 25 (ck DJ1_indexOfChar_4cfef_0 12 rfl) (by decide) e4 ?_
  refine r_iinc 28 rfl 0 (v := 5) (ck DJ1_indexOfChar_4cfef_0 15 rfl) rfl (by decide) (by decide) rfl ?_
  refine r_goto 7 (ck DJ1_indexOfChar_4cfef_0 16 rfl) (by decide) ?_
  refine r_iload 9 rfl 0 rfl (ck DJ1_indexOfChar_4cfef_0 5 rfl) ?_
  refine r_iload_n 10 rfl 5 rfl rfl (ck DJ1_indexOfChar_4cfef_0 6 rfl) ?_
  refine r_icmp_ge_f 13 rfl 31 (ck DJ1_indexOfChar_4cfef_0 7 rfl) (by decide) (by decide) ?_
  refine r_aload_n 14 rfl 2 rfl rfl (ck DJ1_indexOfChar_4cfef_0 8 rfl) ?_
  refine r_iload 16 rfl 0 rfl (ck DJ1_indexOfChar_4cfef_0 9 rfl) ?_
  refine r_balS (i := 1) (by decide) 17 rfl (by unfold vp_in lnS; decide) (ck DJ1_indexOfChar_4cfef_0 10 rfl) ?_
  refine r_top (y := 100) (by decide) ?_
  refine r_iload 19 rfl 1 rfl (ck DJ1_indexOfChar_4cfef_0 11 rfl) ?_
  by_cases e5 : (100 : Int32) = b
  · refine r_icmp_ne_t 22 rfl 25 (ck DJ1_indexOfChar_4cfef_0 12 rfl) (by decide) e5 ?_
    refine r_iload 24 rfl 0 rfl (ck DJ1_indexOfChar_4cfef_0 13 rfl) ?_
    have er : lixb b = 5 := by unfold lixb; rw [if_neg e0, if_neg e1, if_neg e2, if_neg e3, if_neg e4, if_pos e5]
    rw [er]
    exact r_iret (ty := .int) rfl rfl (ck DJ1_indexOfChar_4cfef_0 14 rfl)
  refine r_icmp_ne_f 25 (ck DJ1_indexOfChar_4cfef_0 12 rfl) (by decide) e5 ?_
  refine r_iinc 28 rfl 0 (v := 6) (ck DJ1_indexOfChar_4cfef_0 15 rfl) rfl (by decide) (by decide) rfl ?_
  refine r_goto 7 (ck DJ1_indexOfChar_4cfef_0 16 rfl) (by decide) ?_
  refine r_iload 9 rfl 0 rfl (ck DJ1_indexOfChar_4cfef_0 5 rfl) ?_
  refine r_iload_n 10 rfl 5 rfl rfl (ck DJ1_indexOfChar_4cfef_0 6 rfl) ?_
  refine r_icmp_ge_t 31 (ck DJ1_indexOfChar_4cfef_0 7 rfl) (by decide) (by decide) ?_
  refine r_iconst 32 rfl ic_m1 (ck DJ1_indexOfChar_4cfef_0 17 rfl) ?_
  have er : lixb b = -1 := by unfold lixb; rw [if_neg e0, if_neg e1, if_neg e2, if_neg e3, if_neg e4, if_neg e5]
  rw [er]
  exact r_iret (ty := .int) rfl rfl (ck DJ1_indexOfChar_4cfef_0 18 rfl)
theorem jc_l1ix (X : XE) (h : HP) {a : Int32} (h0 : ¬ a < 0) : CC mJ1_indexOf_4cfef 1 X [.ref (X.2.2.2.1 (4 + 1)), .int a, .int 0, .int 6] h (some (.int (lix a))) h := by
  refine CC_of (by decide +kernel) (Nat.le_of_ble_eq_true rfl) ?_
  show Run mJ1_indexOf_4cfef 1 X 0 [(0, .ref (X.2.2.2.1 (4 + 1))), (1, .int a), (2, .int 0), (3, .int 6)] [] h (some (.int (lix a))) h
  refine r_iload_n 1 rfl 1 rfl rfl (ck DJ1_indexOf_4cfef_0 0 rfl) ?_
  by_cases h1 : 255 < a
  · refine r_callS 4 rfl (As := [.int a]) (st := []) (jc_canN X h h0 h1) (by decide) cs_J1_88 rfl rfl (Nat.le_of_ble_eq_true rfl) (ck DJ1_indexOf_4cfef_0 1 rfl) ?_
    refine r_if_ne_t 7 rfl 9 (ck DJ1_indexOf_4cfef_0 2 rfl) (by decide) rfl ?_
    refine r_iconst 8 rfl ic_m1 (ck DJ1_indexOf_4cfef_0 3 rfl) ?_
    rw [lix_big h1]
    exact r_iret (ty := .int) rfl rfl (ck DJ1_indexOf_4cfef_0 4 rfl)
  refine r_callS 4 rfl (As := [.int a]) (st := []) (jc_canY X h h0 h1) (by decide) cs_J1_88 rfl rfl (Nat.le_of_ble_eq_true rfl) (ck DJ1_indexOf_4cfef_0 1 rfl) ?_
  refine r_if_ne_f 9 (ck DJ1_indexOf_4cfef_0 2 rfl) (by decide) (by decide) ?_
  refine r_iload_n 10 rfl 2 rfl rfl (ck DJ1_indexOf_4cfef_0 5 rfl) ?_
  refine r_iconst 11 rfl ic_0 (ck DJ1_indexOf_4cfef_0 6 rfl) ?_
  refine r_max 14 rfl (by decide) ml_J1_92 ms_max ini_Math mc_max (Nat.le_of_ble_eq_true rfl) (ck DJ1_indexOf_4cfef_0 7 rfl) ?_
  refine r_top (y := 0) (by decide) ?_
  refine r_istore_n 15 rfl (ck DJ1_indexOf_4cfef_0 8 rfl) (by decide) rfl rfl ?_
  refine r_iload_n 16 rfl 3 rfl rfl (ck DJ1_indexOf_4cfef_0 9 rfl) ?_
  refine r_aload_n 17 rfl 1 rfl rfl (ck DJ1_indexOf_4cfef_0 10 rfl) ?_
  refine r_lenS (i := 1) (by decide) 18 rfl (v := 6) rfl (ck DJ1_indexOf_4cfef_0 11 rfl) ?_
  refine r_min 21 rfl (by decide) ml_J1_38 ms_min ini_Math mc_min (Nat.le_of_ble_eq_true rfl) (ck DJ1_indexOf_4cfef_0 12 rfl) ?_
  refine r_top (y := 6) (by decide) ?_
  refine r_istore_n 22 rfl (ck DJ1_indexOf_4cfef_0 13 rfl) (by decide) rfl rfl ?_
  refine r_iload_n 23 rfl 1 rfl rfl (ck DJ1_indexOf_4cfef_0 14 rfl) ?_
  refine r_iload_n 24 rfl 0 rfl rfl (ck DJ1_indexOf_4cfef_0 15 rfl) ?_
  refine r_icmp_lt_t 29 (ck DJ1_indexOf_4cfef_0 16 rfl) (by decide) (by decide) ?_
  refine r_aload_n 30 rfl 2 rfl rfl (ck DJ1_indexOf_4cfef_0 19 rfl) ?_
  refine r_iload_n 31 rfl 3 rfl rfl (ck DJ1_indexOf_4cfef_0 20 rfl) ?_
  refine r_iload_n 32 rfl 1 rfl rfl (ck DJ1_indexOf_4cfef_0 21 rfl) ?_
  refine r_iload_n 33 rfl 0 rfl rfl (ck DJ1_indexOf_4cfef_0 22 rfl) ?_
  refine r_callS 36 rfl (As := [.ref (X.2.2.2.1 (4 + 1)), .int a, .int 0, .int 6]) (st := []) (jc_ixc X h h0 h1) (by decide) cs_J1_95 rfl rfl (Nat.le_of_ble_eq_true rfl) (ck DJ1_indexOf_4cfef_0 23 rfl) ?_
  exact r_iret (ty := .int) rfl rfl (ck DJ1_indexOf_4cfef_0 24 rfl)
theorem jc_ix2 (X : XE) (h : HP) {a : Int32} (h0 : ¬ a < 0) : CC mJ0_indexOf_7cf53 2 X [.ref (X.2.2.2.1 (2 + 1)), .int a, .int 0] h (some (.int (lix a))) h := by
  refine CC_of (by decide +kernel) (Nat.le_of_ble_eq_true rfl) ?_
  show Run mJ0_indexOf_7cf53 2 X 0 [(0, .ref (X.2.2.2.1 (2 + 1))), (1, .int a), (2, .int 0)] [] h (some (.int (lix a))) h
  refine r_aload_n 1 rfl 0 rfl rfl (ck DJ0_indexOf_7cf53_0 0 rfl) ?_
  refine r_callT (i := 1) (by decide) 4 rfl (As := []) (jc_latin X h (by decide)) (by decide) cw_J0_492 rfl rfl rfl (Nat.le_of_ble_eq_true rfl) (ck DJ0_indexOf_7cf53_0 1 rfl) ?_
  refine r_if_eq_f 7 rfl 23 (ck DJ0_indexOf_7cf53_0 2 rfl) (by decide) (by decide) ?_
  refine r_aload_n 8 rfl 0 rfl rfl (ck DJ0_indexOf_7cf53_0 3 rfl) ?_
  refine r_val (i := 1) (by decide) 11 rfl jl_J0_9 (ck DJ0_indexOf_7cf53_0 4 rfl) ?_
  refine r_iload_n 12 rfl 1 rfl rfl (ck DJ0_indexOf_7cf53_0 5 rfl) ?_
  refine r_iload_n 13 rfl 2 rfl rfl (ck DJ0_indexOf_7cf53_0 6 rfl) ?_
  refine r_aload_n 14 rfl 0 rfl rfl (ck DJ0_indexOf_7cf53_0 7 rfl) ?_
  refine r_callT (i := 1) (by decide) 17 rfl (As := []) (jc_length X h) (by decide) cw_J0_505 rfl rfl rfl (Nat.le_of_ble_eq_true rfl) (ck DJ0_indexOf_7cf53_0 8 rfl) ?_
  refine r_callS 20 rfl (As := [.ref (X.2.2.2.1 (4 + 1)), .int a, .int 0, .int 6]) (st := []) (jc_l1ix X h h0) (by decide) cs_J0_637 rfl rfl (Nat.le_of_ble_eq_true rfl) (ck DJ0_indexOf_7cf53_0 9 rfl) ?_
  refine r_goto 36 (ck DJ0_indexOf_7cf53_0 10 rfl) (by decide) ?_
  exact r_iret (ty := .int) rfl rfl (ck DJ0_indexOf_7cf53_0 18 rfl)
theorem jc_ix (X : XE) (h : HP) {a : Int32} (h0 : ¬ a < 0) : CC mJ0_indexOf_0f7a4 3 X [.ref (X.2.2.2.1 (2 + 1)), .int a] h (some (.int (lix a))) h := by
  refine CC_of (by decide +kernel) (Nat.le_of_ble_eq_true rfl) ?_
  show Run mJ0_indexOf_0f7a4 3 X 0 [(0, .ref (X.2.2.2.1 (2 + 1))), (1, .int a)] [] h (some (.int (lix a))) h
  refine r_aload_n 1 rfl 0 rfl rfl (ck DJ0_indexOf_0f7a4_0 0 rfl) ?_
  refine r_iload_n 2 rfl 1 rfl rfl (ck DJ0_indexOf_0f7a4_0 1 rfl) ?_
  refine r_iconst 3 rfl ic_0 (ck DJ0_indexOf_0f7a4_0 2 rfl) ?_
  refine r_callT (i := 1) (by decide) 6 rfl (As := [.int a, .int 0]) (st := []) (jc_ix2 X h h0) (by decide) cw_J0_633 rfl rfl rfl (Nat.le_of_ble_eq_true rfl) (ck DJ0_indexOf_0f7a4_0 3 rfl) ?_
  exact r_iret (ty := .int) rfl rfl (ck DJ0_indexOf_0f7a4_0 4 rfl)
section RL2
variable {Y : MD} {d : Nat} {X : XE} {pc : Nat} {lv : List (Nat × Value)} {st : List Value} {h h1 h2 h' : HP} {r : Option Value}
theorem r_charAt {i : Int32} (n9 : Nat) (hp : pc + 3 = n9) (hd : 8 ≤ d) (hY : Y.1.cls = RX5) (hb : vp_in i 16) (hcat : (st.map fun v => v.category).sum ≤ 8) (hdg : decode Y.2.1 pc = .ok (.invokevirtual 73, 3)) (kk : Run Y d X n9 lv (.int (([102, 105, 114, 109, 119, 101, 97, 107, 119, 105, 110, 100, 108, 97, 115, 104] : List Int32).getD i.toNatClampNeg 0) :: st) h r h') : Run Y d X pc lv (.int i :: .ref (X.2.2.2.1 2) :: st) h r h' := by
  refine r_callT (i := 0) (by decide) n9 hp (As := [.int i]) (st := st) (jc_char X h hb) (by omega) (by rw [hY]; exact cw_X5_73) rfl rfl rfl hcat hdg kk
theorem r_indexOf {x : Int32} (n9 : Nat) (hp : pc + 3 = n9) (hd : 8 ≤ d) (hY : Y.1.cls = RX5) (hcat : (st.map fun v => v.category).sum ≤ 8) (hdg : decode Y.2.1 pc = .ok (.invokevirtual 65, 3)) (kk : Run Y d X n9 lv (.int (lix (x.toUInt32 % 65536).toInt32) :: st) h r h') : Run Y d X pc lv (.int (x.toUInt32 % 65536).toInt32 :: .ref (X.2.2.2.1 3) :: st) h r h' := by
  refine r_callT (i := 1) (by decide) n9 hp (As := [.int (x.toUInt32 % 65536).toInt32]) (st := st) (jc_ix X h (chn x)) (by omega) (by rw [hY]; exact cw_X5_65) rfl rfl rfl hcat hdg kk
end RL2
theorem lsw_d {ps : List (Int × Int)} {dflt x : Int} (hx : ∀ q ∈ ps, x ≠ q.1) : Op.lookupswitch.offset ps dflt x = dflt := by
  induction ps with
  | nil => rfl
  | cons p r ih =>
    obtain ⟨b, q⟩ := p
    rw [Op.lookupswitch.offset_cons, if_neg (fun e => hx (b, q) List.mem_cons_self e.symm)]
    exact ih (fun q hq => hx q (List.mem_cons_of_mem _ hq))
