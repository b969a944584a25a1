/-! what holds at the start -/
theorem tin {w : Cond} (i : Nat) (h : tables_1[i]? = some w) : w ∈ lw_tbl := List.mem_append_right _ (List.mem_of_getElem? h)
theorem st_prim {s : State} {args : Array Value} {ty : FieldType} (h9 : ∀ C, ty ≠ .object C) (h : (Cond.arrayClass ty).before args s = true) : ∃ cA, ArrOfT s cA ty ∧ va_RA s cA ty := by
  obtain ⟨cA, kA, comp, h1, h2, h3⟩ := Cond.arrayClass_spec h
  refine ⟨cA, fun n z => ⟨fun k h => (by cases h), kA, h2, comp, h3⟩, ?_⟩
  cases ty with
  | object C => exact absurd rfl (h9 C)
  | _ => exact h1
theorem st_obj {s : State} {args : Array Value} {C : String} (h : (Cond.arrayOver (.object C)).before args s = true) : ∃ cA, ArrOfT s cA (.object C) ∧ va_RA s cA (.object C) := by
  obtain ⟨comp, cA, kA, h1, -, h2, h3, h4⟩ := Cond.arrayOver_spec h
  exact ⟨cA, fun n z => ⟨fun k h => (by cases h), kA, h2, comp, h3⟩, kA, comp, h2, h3, h1, h4⟩
theorem st_K {s : State} {args : Array Value} (hts : ∀ w ∈ lw_tbl, w.before args s = true) : ∃ (D : va_G) (α : Nat → ClassId), va_K D CL (TYa α) s := by
  have ht : ∀ w ∈ TBL, w.before args s = true := fun w hw => hts w (List.mem_filter.mp hw).1
  obtain ⟨c0, i0, k0⟩ := u_known (C := RX0) (T := TX0) (N := 5) (n := 5) ht in_X0 (hts _ (tin 173 (by decide +kernel)))
  obtain ⟨c1, i1, k1⟩ := u_known (C := RX1) (T := TX1) (N := 14) (n := 14) ht in_X1 (hts _ (tin 64 (by decide +kernel)))
  obtain ⟨c2, i2, k2⟩ := u_known (C := RX2) (T := TX2) (N := 7) (n := 7) ht in_X2 (hts _ (tin 25 (by decide +kernel)))
  obtain ⟨c3, i3, k3⟩ := u_known (C := RX3) (T := TX3) (N := 3) (n := 3) ht in_X3 (hts _ (tin 132 (by decide +kernel)))
  obtain ⟨c4, i4, k4⟩ := u_known (C := RX4) (T := TX4) (N := 3) (n := 3) ht in_X4 (hts _ (tin 198 (by decide +kernel)))
  obtain ⟨c5, i5, k5⟩ := u_known (C := RX5) (T := TX5) (N := 4) (n := 4) ht in_X5 (hts _ (tin 152 (by decide +kernel)))
  obtain ⟨c6, i6, k6⟩ := u_known (C := RX6) (T := TX6) (N := 15) (n := 15) ht in_X6 (hts _ (tin 17 (by decide +kernel)))
  obtain ⟨c7, i7, k7⟩ := u_known (C := RX7) (T := TX7) (N := 87) (n := 87) ht in_X7 (hts _ (tin 717 (by decide +kernel)))
  obtain ⟨a1, f1⟩ := st_prim (ty := .int) (fun _ h => by cases h) (hts _ (tin 62 (by decide +kernel)))
  obtain ⟨a2, f2⟩ := st_prim (ty := .long) (fun _ h => by cases h) (hts _ (tin 216 (by decide +kernel)))
  obtain ⟨a3, f3⟩ := st_prim (ty := .byte) (fun _ h => by cases h) (hts _ (tin 171 (by decide +kernel)))
  obtain ⟨a4, f4⟩ := st_prim (ty := .boolean) (fun _ h => by cases h) (hts _ (tin 985 (by decide +kernel)))
  obtain ⟨a5, f5⟩ := st_obj (C := RX2) (hts _ (tin 150 (by decide +kernel)))
  obtain ⟨a6, f6⟩ := st_obj (C := RX4) (hts _ (tin 197 (by decide +kernel)))
  refine ⟨(fun k => [c0, c1, c2, c3, c4, c5, c6, c7].getD k c0, fun k => [i0, i1, i2, i3, i4, i5, i6, i7].getD k i0), fun k => [a1, a1, a2, a3, a4, a5, a6].getD k a1, fun k q hq => ?_, fun k q hq => ?_⟩
  · match k, hq with
    | 0, hq => cases hq; exact k0
    | 1, hq => cases hq; exact k1
    | 2, hq => cases hq; exact k2
    | 3, hq => cases hq; exact k3
    | 4, hq => cases hq; exact k4
    | 5, hq => cases hq; exact k5
    | 6, hq => cases hq; exact k6
    | 7, hq => cases hq; exact k7
    | k + 8, hq => simp [CL] at hq
  · match k, hq with
    | 0, hq => cases hq; exact f1
    | 1, hq => cases hq; exact f2
    | 2, hq => cases hq; exact f3
    | 3, hq => cases hq; exact f4
    | 4, hq => cases hq; exact f5
    | 5, hq => cases hq; exact f6
    | k + 6, hq => simp [TYa] at hq
theorem st_KO {s : State} {args : Array Value} (hts : ∀ w ∈ lw_tbl, w.before args s = true) : KO s := ⟨va_AO.of (hts _ (tin 150 (by decide +kernel))), va_AO.of (hts _ (tin 197 (by decide +kernel))), va_Nw.of rfl (hts _ (tin 153 (by decide +kernel))), va_Nw.of rfl (hts _ (tin 174 (by decide +kernel))), va_Nw.of rfl (hts _ (tin 199 (by decide +kernel)))⟩
set_option maxRecDepth 20000 in
theorem gv {c : Cond} {s : State} {args : Array Value} (h : (Jvm.Cond.and given_1 narrow_1).before args s = true) (hc : c ∈ flatC (Jvm.Cond.and given_1 narrow_1)) : c.before args s = true := flat_of_before _ h c hc
set_option maxRecDepth 20000 in
theorem st_B {s : State} {args : Array Value} {A : Nat → Prop} (h : (Jvm.Cond.and given_1 narrow_1).before args s = true) (hA : ∀ a : Nat, a < s.heap.size → ¬ A a) : ∃ t : Nat, (Term.static RX0 "BODIES" "[I").eval args s none [] s = some (.ref t) ∧ va_T .int t 21 (fun j => .int (([10, 11, 12, 0, 20, 0, 30, 0, 0, 0, 0, 40, 50, 51, 0, 0, 0, 60, 71, 70, 0] : List Int32).getD j 0)) A s s.heap := by
  refine va_Tof (by decide) (gv h (by decide +kernel)) (va_eqt (gv h (by decide +kernel))) ?_ hA
  exact al1 (va_eqt (z := 0) (gv h (by decide +kernel))) (al1 (va_eqt (z := 70) (gv h (by decide +kernel))) (al1 (va_eqt (z := 71) (gv h (by decide +kernel))) (al1 (va_eqt (z := 60) (gv h (by decide +kernel))) (al1 (va_eqt (z := 0) (gv h (by decide +kernel))) (al1 (va_eqt (z := 0) (gv h (by decide +kernel))) (al1 (va_eqt (z := 0) (gv h (by decide +kernel))) (al1 (va_eqt (z := 51) (gv h (by decide +kernel))) (al1 (va_eqt (z := 50) (gv h (by decide +kernel))) (al1 (va_eqt (z := 40) (gv h (by decide +kernel))) (al1 (va_eqt (z := 0) (gv h (by decide +kernel))) (al1 (va_eqt (z := 0) (gv h (by decide +kernel))) (al1 (va_eqt (z := 0) (gv h (by decide +kernel))) (al1 (va_eqt (z := 0) (gv h (by decide +kernel))) (al1 (va_eqt (z := 30) (gv h (by decide +kernel))) (al1 (va_eqt (z := 0) (gv h (by decide +kernel))) (al1 (va_eqt (z := 20) (gv h (by decide +kernel))) (al1 (va_eqt (z := 0) (gv h (by decide +kernel))) (al1 (va_eqt (z := 12) (gv h (by decide +kernel))) (al1 (va_eqt (z := 11) (gv h (by decide +kernel))) (al1 (va_eqt (z := 10) (gv h (by decide +kernel))) (al0)))))))))))))))))))))
set_option maxRecDepth 20000 in
theorem st_A {s : State} {args : Array Value} {A : Nat → Prop} (h : (Jvm.Cond.and given_1 narrow_1).before args s = true) (hA : ∀ a : Nat, a < s.heap.size → ¬ A a) : ∃ t : Nat, (Term.static RX6 "KIND_ABOVE" "[I").eval args s none [] s = some (.ref t) ∧ va_T .int t 7 (fun j => .int (([-1, 0, 0, 0, 1, 2, 3] : List Int32).getD j 0)) A s s.heap := by
  refine va_Tof (by decide) (gv h (by decide +kernel)) (va_eqt (gv h (by decide +kernel))) ?_ hA
  exact al1 (va_eqt (z := 3) (gv h (by decide +kernel))) (al1 (va_eqt (z := 2) (gv h (by decide +kernel))) (al1 (va_eqt (z := 1) (gv h (by decide +kernel))) (al1 (va_eqt (z := 0) (gv h (by decide +kernel))) (al1 (va_eqt (z := 0) (gv h (by decide +kernel))) (al1 (va_eqt (z := 0) (gv h (by decide +kernel))) (al1 (va_eqt (z := (-1)) (gv h (by decide +kernel))) (al0)))))))
def tmS (i : Nat) : Term := if i = 0 then .string RX5 71 else .string RX5 63
set_option maxRecDepth 20000 in
theorem st_S {s : State} {args : Array Value} {A : Nat → Prop} (h : (Jvm.Cond.and given_1 narrow_1).before args s = true) (hA : ∀ a : Nat, a < s.heap.size → ¬ A a) : ∃ adK adV : Nat → Nat, vk_S 2 [16, 6] [[102, 105, 114, 109, 119, 101, 97, 107, 119, 105, 110, 100, 108, 97, 115, 104], [112, 107, 118, 108, 119, 100]] adK adV A s s.heap ∧ ∀ i : Nat, i < 2 → (tmS i).eval args s none [] s = some (.ref (adK i)) := by
  refine vk_Sof ?_ ?_ ?_ ?_ ?_ ?_ ?_ hA
  · exact al1 (by decide) (al1 (by decide) al0)
  · exact al1 (gv h (by decide +kernel)) (al1 (gv h (by decide +kernel)) al0)
  · exact al1 (gv h (by decide +kernel)) (al1 (gv h (by decide +kernel)) al0)
  · exact al1 (gv h (by decide +kernel)) (al1 (gv h (by decide +kernel)) al0)
  · exact al1 (gv (c := .eq (.length (.field (.string RX5 63) "java/lang/String" "value" "[B")) (.int 6)) h (by decide +kernel)) (al1 (gv (c := .eq (.length (.field (.string RX5 71) "java/lang/String" "value" "[B")) (.int 16)) h (by decide +kernel)) al0)
  · exact al1 (P := fun i => ∀ j : Nat, j < ([16, 6] : List Nat).getD i 0 → (Cond.eq (.elem (.field (tmS i) "java/lang/String" "value" "[B") (.int (Int32.ofNat j))) (.int (((([[102, 105, 114, 109, 119, 101, 97, 107, 119, 105, 110, 100, 108, 97, 115, 104], [112, 107, 118, 108, 119, 100]] : List (List Int32)).getD i []).getD j 0)))).before args s = true) (al1 (gv (c := .eq (.elem (.field (.string RX5 63) "java/lang/String" "value" "[B") (.int 5)) (.int 100)) h (by decide +kernel)) (al1 (gv (c := .eq (.elem (.field (.string RX5 63) "java/lang/String" "value" "[B") (.int 4)) (.int 119)) h (by decide +kernel)) (al1 (gv (c := .eq (.elem (.field (.string RX5 63) "java/lang/String" "value" "[B") (.int 3)) (.int 108)) h (by decide +kernel)) (al1 (gv (c := .eq (.elem (.field (.string RX5 63) "java/lang/String" "value" "[B") (.int 2)) (.int 118)) h (by decide +kernel)) (al1 (gv (c := .eq (.elem (.field (.string RX5 63) "java/lang/String" "value" "[B") (.int 1)) (.int 107)) h (by decide +kernel)) (al1 (gv (c := .eq (.elem (.field (.string RX5 63) "java/lang/String" "value" "[B") (.int 0)) (.int 112)) h (by decide +kernel)) (al0))))))) (al1 (al1 (gv (c := .eq (.elem (.field (.string RX5 71) "java/lang/String" "value" "[B") (.int 15)) (.int 104)) h (by decide +kernel)) (al1 (gv (c := .eq (.elem (.field (.string RX5 71) "java/lang/String" "value" "[B") (.int 14)) (.int 115)) h (by decide +kernel)) (al1 (gv (c := .eq (.elem (.field (.string RX5 71) "java/lang/String" "value" "[B") (.int 13)) (.int 97)) h (by decide +kernel)) (al1 (gv (c := .eq (.elem (.field (.string RX5 71) "java/lang/String" "value" "[B") (.int 12)) (.int 108)) h (by decide +kernel)) (al1 (gv (c := .eq (.elem (.field (.string RX5 71) "java/lang/String" "value" "[B") (.int 11)) (.int 100)) h (by decide +kernel)) (al1 (gv (c := .eq (.elem (.field (.string RX5 71) "java/lang/String" "value" "[B") (.int 10)) (.int 110)) h (by decide +kernel)) (al1 (gv (c := .eq (.elem (.field (.string RX5 71) "java/lang/String" "value" "[B") (.int 9)) (.int 105)) h (by decide +kernel)) (al1 (gv (c := .eq (.elem (.field (.string RX5 71) "java/lang/String" "value" "[B") (.int 8)) (.int 119)) h (by decide +kernel)) (al1 (gv (c := .eq (.elem (.field (.string RX5 71) "java/lang/String" "value" "[B") (.int 7)) (.int 107)) h (by decide +kernel)) (al1 (gv (c := .eq (.elem (.field (.string RX5 71) "java/lang/String" "value" "[B") (.int 6)) (.int 97)) h (by decide +kernel)) (al1 (gv (c := .eq (.elem (.field (.string RX5 71) "java/lang/String" "value" "[B") (.int 5)) (.int 101)) h (by decide +kernel)) (al1 (gv (c := .eq (.elem (.field (.string RX5 71) "java/lang/String" "value" "[B") (.int 4)) (.int 119)) h (by decide +kernel)) (al1 (gv (c := .eq (.elem (.field (.string RX5 71) "java/lang/String" "value" "[B") (.int 3)) (.int 109)) h (by decide +kernel)) (al1 (gv (c := .eq (.elem (.field (.string RX5 71) "java/lang/String" "value" "[B") (.int 2)) (.int 114)) h (by decide +kernel)) (al1 (gv (c := .eq (.elem (.field (.string RX5 71) "java/lang/String" "value" "[B") (.int 1)) (.int 105)) h (by decide +kernel)) (al1 (gv (c := .eq (.elem (.field (.string RX5 71) "java/lang/String" "value" "[B") (.int 0)) (.int 102)) h (by decide +kernel)) (al0))))))))))))))))) al0)
  · intro i j hi hj hij
    have a1 : i = 0 ∧ j = 1 ∨ i = 1 ∧ j = 0 := by omega
    rcases a1 with ⟨rfl, rfl⟩ | ⟨rfl, rfl⟩
    · exact Or.inl (gv (c := .not (.eq (.string RX5 71) (.string RX5 63))) h (by decide +kernel))
    · exact Or.inr (gv (c := .not (.eq (.string RX5 71) (.string RX5 63))) h (by decide +kernel))
