/-! the small constructors -/
section NE
variable {Y : MD} {d : Nat} {ini : Prop} {D : va_G} {α : Nat → ClassId} {kc ks : Nat} {Fi : FNN} {pc : Nat} {lv : List (Nat × Value)} {st : List Value} {ws : va_W} {cells slots : Nat}
theorem n_newaC (n9 : Nat) (hp : pc + 2 = n9) {atype : ArrayType} {ty : FieldType} (t0 : Nat) {n : Int32} {N' : Nat} {x : vp_A} {cA : ClassId} {hd : Nat × va_E} {w : va_W} (harr : Cond.arrayClass (newarray.typeOf atype) ∈ TBL) (hty : newarray.typeOf atype = ty) (ht : (TYa α)[t0]? = some (cA, ty)) (hx : ∀ cA : ClassId, vp_cell cA x = arrV cA N' (fun _ => defaultValue ty)) (hn : ¬ n < 0) (hN : n.toNatClampNeg = N') (hb : N' * componentBytes ty ≤ 536870912) (h1 : cells + 1 ≤ kc) (h2 : slots + N' ≤ ks) (hdg : decode Y.2.1 pc = .ok (.newarray atype, 2)) (kk : ∀ q, RunN Y d ini D α kc ks Fi n9 lv (.ref q :: st) (hd :: (w ++ [(q, .inl (cA, x))])) (cells + 1) (slots + N')) : RunN Y d ini D α kc ks Fi pc lv (.int n :: st) (hd :: w) cells slots := n_newa n9 hp t0 harr hty ht hx hn hN hb h1 h2 hdg kk
theorem n_newqC (n9 : Nat) (hp : pc + 3 = n9) {C : String} {index : Nat} (t0 : Nat) {n : Int32} {N' : Nat} {cA : ClassId} {hd : Nat × va_E} {w : va_W} (hcl : Cond.classLink Y.1.cls index C ∈ TBL) (hov : C = RX2 ∨ C = RX4) (ht : (TYa α)[t0]? = some (cA, .object C)) (hn : ¬ n < 0) (hN : n.toNatClampNeg = N') (hb : N' * 4 ≤ 536870912) (h1 : cells + 1 ≤ kc) (h2 : slots + N' ≤ ks) (hdg : decode Y.2.1 pc = .ok (.anewarray index, 3)) (kk : ∀ q, RunN Y d ini D α kc ks Fi n9 lv (.ref q :: st) (hd :: (w ++ [(q, .inl (cA, N', .inr (.inr (.inr (.inr (fun _ => none))))))])) (cells + 1) (slots + N')) : RunN Y d ini D α kc ks Fi pc lv (.int n :: st) (hd :: w) cells slots := n_newq n9 hp t0 hcl hov ht hn hN hb h1 h2 hdg kk
theorem n_iastC (n9 : Nat) (hp : pc + 1 = n9) {hd : Nat × va_E} {q n : Nat} {f : Nat → Int32} {i x : Int32} {w : va_W} (hb : vp_in i n) (hdg : decode Y.2.1 pc = .ok (.iastore, 1)) (kk : RunN Y d ini D α kc ks Fi n9 lv st (hd :: (w ++ [(q, .inl (α 1, n, .inl (upd f i.toNatClampNeg x)))])) cells slots) : RunN Y d ini D α kc ks Fi pc lv (.int x :: .int i :: .ref q :: st) (hd :: (w ++ [(q, .inl (α 1, n, .inl f))])) cells slots := n_iast (w := hd :: w) n9 hp hb hdg kk
theorem n_initC (n9 : Nat) (hp : pc + 3 = n9) {Yc : MD} {dc idx n q kc' ks' : Nat} {As stk : List Value} {en : va_E} {hd : Nat × va_E} {w : va_W} {Post : va_W → Prop} (hc : NC Yc dc D α kc' ks' q As en Post) (hd1 : dc + 1 ≤ d) (F : CI Y.1.cls idx n Yc) (hn : As.length = n) (hst : stk = As.reverse ++ .ref q :: st) (hcat : (st.map fun v => v.category).sum ≤ 8) (h1 : cells + kc' ≤ kc) (h2 : slots + ks' ≤ ks) (hdg : decode Y.2.1 pc = .ok (.invokespecial idx, 3)) (kk : ∀ w', Post w' → RunN Y d ini D α kc ks Fi n9 lv st (hd :: (w ++ w')) (cells + kc') (slots + ks')) : RunN Y d ini D α kc ks Fi pc lv stk ((hd :: w) ++ [(q, en)]) cells slots := n_init n9 hp hc hd1 F hn hst hcat h1 h2 hdg kk
theorem n_initNC (n9 : Nat) (hp : pc + 3 = n9) {Yc : MD} {dc idx n q kc' ks' : Nat} {As stk : List Value} {en : va_E} {hd : Nat × va_E} {w : va_W} {Post : va_W → Prop} (hc : NC Yc dc D α kc' ks' q As en Post) (hd1 : dc + 1 ≤ d) (F : CIN Y.1.cls idx n Yc) (hn : As.length = n) (hst : stk = As.reverse ++ .ref q :: st) (hcat : (st.map fun v => v.category).sum ≤ 8) (h1 : cells + kc' ≤ kc) (h2 : slots + ks' ≤ ks) (hdg : decode Y.2.1 pc = .ok (.invokespecial idx, 3)) (kk : ∀ w', Post w' → RunN Y d ini D α kc ks Fi n9 lv st (hd :: (w ++ w')) (cells + kc') (slots + ks')) : RunN Y d ini D α kc ks Fi pc lv stk ((hd :: w) ++ [(q, en)]) cells slots := n_initN n9 hp hc hd1 F hn hst hcat h1 h2 hdg kk
end NE
theorem nc_calm {D : va_G} {α : Nat → ClassId} (q : Nat) (f : Nat → Value) : NC mX2_becomeCalm 0 D α 0 0 q [] (.inr (2, mkF 7 f)) (fun w => w = [(q, .inr (2, mkF 7 (va_up (va_up (va_up f 4 (.int 0)) 5 (.int 5)) 6 (.int 2))))]) := by
  refine NC_of (by decide +kernel) rfl (Nat.le_of_ble_eq_true rfl) ?_
  refine n_aload_n 1 rfl 0 rfl rfl (ck DX2_becomeCalm_0 0 rfl) ?_
  refine n_iconst 2 rfl ic_0 (ck DX2_becomeCalm_0 1 rfl) ?_
  refine n_put 5 rfl fw_X2_25 rfl rfl rfl (ck DX2_becomeCalm_0 2 rfl) ?_
  refine n_aload_n 6 rfl 0 rfl rfl (ck DX2_becomeCalm_0 3 rfl) ?_
  refine n_iconst 7 rfl ic_5 (ck DX2_becomeCalm_0 4 rfl) ?_
  refine n_put 10 rfl fw_X2_29 rfl rfl rfl (ck DX2_becomeCalm_0 5 rfl) ?_
  refine n_aload_n 11 rfl 0 rfl rfl (ck DX2_becomeCalm_0 6 rfl) ?_
  refine n_iconst 12 rfl ic_2 (ck DX2_becomeCalm_0 7 rfl) ?_
  refine n_put 15 rfl fw_X2_32 rfl rfl rfl (ck DX2_becomeCalm_0 8 rfl) ?_
  exact n_end ⟨(ck DX2_becomeCalm_0 9 rfl), rfl, rfl⟩ (Nat.le_refl _) (Nat.le_refl _)
theorem nc_X2 {D : va_G} {α : Nat → ClassId} (q : Nat) : NC mX2_init 1 D α 4 306 q [] (nwE 2 7 tyX2) (fun w => ∃ a1 a2 a3 a4 : Nat, w = [(q, .inr (2, [.ref a1, .ref a2, .ref a3, .ref a4, .int 0, .int 5, .int 2])), (a1, .inl (α 1, 100, .inl (fun _ => 0))), (a2, .inl (α 1, 100, .inl (fun _ => 0))), (a3, .inl (α 1, 100, .inl (fun _ => 0))), (a4, .inl (α 1, 6, .inl (fun _ => 0)))]) := by
  refine NC_of (by decide +kernel) rfl (Nat.le_of_ble_eq_true rfl) ?_
  refine n_aload_n 1 rfl 0 rfl rfl (ck DX2_init_0 0 rfl) ?_
  refine n_objInit 4 rfl ob_X2 ob_ins ob_cod (by decide) (Nat.le_of_ble_eq_true rfl) (ck DX2_init_0 1 rfl) ?_
  refine n_aload_n 5 rfl 0 rfl rfl (ck DX2_init_0 2 rfl) ?_
  refine n_bipush 7 rfl bp_100 (ck DX2_init_0 3 rfl) ?_
  refine n_newaC 9 rfl (atype := .int) (ty := .int) 0 (N' := 100) (x := (100, .inl (fun _ => 0))) ac_int rfl rfl (fun _ => rfl) (by decide) rfl (Nat.le_of_ble_eq_true rfl) (Nat.le_of_ble_eq_true rfl) (Nat.le_of_ble_eq_true rfl) (ck DX2_init_0 4 rfl) (fun a1 => ?_)
  refine n_putF 12 rfl ff_X2_9 rfl rfl rfl (ck DX2_init_0 5 rfl) ?_
  refine n_aload_n 13 rfl 0 rfl rfl (ck DX2_init_0 6 rfl) ?_
  refine n_bipush 15 rfl bp_100 (ck DX2_init_0 7 rfl) ?_
  refine n_newaC 17 rfl (atype := .int) (ty := .int) 0 (N' := 100) (x := (100, .inl (fun _ => 0))) ac_int rfl rfl (fun _ => rfl) (by decide) rfl (Nat.le_of_ble_eq_true rfl) (Nat.le_of_ble_eq_true rfl) (Nat.le_of_ble_eq_true rfl) (ck DX2_init_0 8 rfl) (fun a2 => ?_)
  refine n_putF 20 rfl ff_X2_13 rfl rfl rfl (ck DX2_init_0 9 rfl) ?_
  refine n_aload_n 21 rfl 0 rfl rfl (ck DX2_init_0 10 rfl) ?_
  refine n_bipush 23 rfl bp_100 (ck DX2_init_0 11 rfl) ?_
  refine n_newaC 25 rfl (atype := .int) (ty := .int) 0 (N' := 100) (x := (100, .inl (fun _ => 0))) ac_int rfl rfl (fun _ => rfl) (by decide) rfl (Nat.le_of_ble_eq_true rfl) (Nat.le_of_ble_eq_true rfl) (Nat.le_of_ble_eq_true rfl) (ck DX2_init_0 12 rfl) (fun a3 => ?_)
  refine n_putF 28 rfl ff_X2_16 rfl rfl rfl (ck DX2_init_0 13 rfl) ?_
  refine n_aload_n 29 rfl 0 rfl rfl (ck DX2_init_0 14 rfl) ?_
  refine n_bipush 31 rfl bp_6 (ck DX2_init_0 15 rfl) ?_
  refine n_newaC 33 rfl (atype := .int) (ty := .int) 0 (N' := 6) (x := (6, .inl (fun _ => 0))) ac_int rfl rfl (fun _ => rfl) (by decide) rfl (Nat.le_of_ble_eq_true rfl) (Nat.le_of_ble_eq_true rfl) (Nat.le_of_ble_eq_true rfl) (ck DX2_init_0 16 rfl) (fun a4 => ?_)
  refine n_putF 36 rfl ff_X2_19 rfl rfl rfl (ck DX2_init_0 17 rfl) ?_
  refine n_aload_n 37 rfl 0 rfl rfl (ck DX2_init_0 18 rfl) ?_
  refine n_callv 40 rfl (As := []) (nc_calm q _) (by decide) cw_X2_22 rfl rfl rfl rfl (Nat.le_of_ble_eq_true rfl) (Nat.le_of_ble_eq_true rfl) (Nat.le_of_ble_eq_true rfl) (ck DX2_init_0 19 rfl) (fun w5 hw5 => ?_)
  subst hw5
  exact n_end ⟨(ck DX2_init_0 20 rfl), rfl, a1, a2, a3, a4, rfl⟩ (Nat.le_refl _) (Nat.le_refl _)
theorem nc_X1 {D : va_G} {α : Nat → ClassId} (q oc : Nat) : NC mX1_init 1 D α 7 57 q [.ref oc] (nwE 1 14 tyX1) (fun w => ∃ a1 a2 a3 a4 a5 a6 a7 : Nat, w = [(q, .inr (1, [.ref a1, .ref a2, .ref a3, .ref a4, .ref a5, .ref a6, .ref a7, .int 0, .int 0, .int 1, .int 0, .int 0, .int 0, .ref oc])), (a1, .inl (α 1, 6, .inl (fun _ => 0))), (a2, .inl (α 1, 6, .inl (fun _ => 0))), (a3, .inl (α 1, 6, .inl (fun _ => 0))), (a4, .inl (α 1, 6, .inl (fun _ => 0))), (a5, .inl (α 1, 6, .inl (fun _ => 0))), (a6, .inl (α 1, 24, .inl (fun _ => 0))), (a7, .inl (α 1, 3, .inl (fun _ => 0)))]) := by
  refine NC_of (by decide +kernel) rfl (Nat.le_of_ble_eq_true rfl) ?_
  refine n_aload_n 1 rfl 0 rfl rfl (ck DX1_init_0 0 rfl) ?_
  refine n_objInit 4 rfl ob_X1 ob_ins ob_cod (by decide) (Nat.le_of_ble_eq_true rfl) (ck DX1_init_0 1 rfl) ?_
  refine n_aload_n 5 rfl 0 rfl rfl (ck DX1_init_0 2 rfl) ?_
  refine n_bipush 7 rfl bp_6 (ck DX1_init_0 3 rfl) ?_
  refine n_newaC 9 rfl (atype := .int) (ty := .int) 0 (N' := 6) (x := (6, .inl (fun _ => 0))) ac_int rfl rfl (fun _ => rfl) (by decide) rfl (Nat.le_of_ble_eq_true rfl) (Nat.le_of_ble_eq_true rfl) (Nat.le_of_ble_eq_true rfl) (ck DX1_init_0 4 rfl) (fun a1 => ?_)
  refine n_putF 12 rfl ff_X1_9 rfl rfl rfl (ck DX1_init_0 5 rfl) ?_
  refine n_aload_n 13 rfl 0 rfl rfl (ck DX1_init_0 6 rfl) ?_
  refine n_bipush 15 rfl bp_6 (ck DX1_init_0 7 rfl) ?_
  refine n_newaC 17 rfl (atype := .int) (ty := .int) 0 (N' := 6) (x := (6, .inl (fun _ => 0))) ac_int rfl rfl (fun _ => rfl) (by decide) rfl (Nat.le_of_ble_eq_true rfl) (Nat.le_of_ble_eq_true rfl) (Nat.le_of_ble_eq_true rfl) (ck DX1_init_0 8 rfl) (fun a2 => ?_)
  refine n_putF 20 rfl ff_X1_15 rfl rfl rfl (ck DX1_init_0 9 rfl) ?_
  refine n_aload_n 21 rfl 0 rfl rfl (ck DX1_init_0 10 rfl) ?_
  refine n_bipush 23 rfl bp_6 (ck DX1_init_0 11 rfl) ?_
  refine n_newaC 25 rfl (atype := .int) (ty := .int) 0 (N' := 6) (x := (6, .inl (fun _ => 0))) ac_int rfl rfl (fun _ => rfl) (by decide) rfl (Nat.le_of_ble_eq_true rfl) (Nat.le_of_ble_eq_true rfl) (Nat.le_of_ble_eq_true rfl) (ck DX1_init_0 12 rfl) (fun a3 => ?_)
  refine n_putF 28 rfl ff_X1_18 rfl rfl rfl (ck DX1_init_0 13 rfl) ?_
  refine n_aload_n 29 rfl 0 rfl rfl (ck DX1_init_0 14 rfl) ?_
  refine n_bipush 31 rfl bp_6 (ck DX1_init_0 15 rfl) ?_
  refine n_newaC 33 rfl (atype := .int) (ty := .int) 0 (N' := 6) (x := (6, .inl (fun _ => 0))) ac_int rfl rfl (fun _ => rfl) (by decide) rfl (Nat.le_of_ble_eq_true rfl) (Nat.le_of_ble_eq_true rfl) (Nat.le_of_ble_eq_true rfl) (ck DX1_init_0 16 rfl) (fun a4 => ?_)
  refine n_putF 36 rfl ff_X1_21 rfl rfl rfl (ck DX1_init_0 17 rfl) ?_
  refine n_aload_n 37 rfl 0 rfl rfl (ck DX1_init_0 18 rfl) ?_
  refine n_bipush 39 rfl bp_6 (ck DX1_init_0 19 rfl) ?_
  refine n_newaC 41 rfl (atype := .int) (ty := .int) 0 (N' := 6) (x := (6, .inl (fun _ => 0))) ac_int rfl rfl (fun _ => rfl) (by decide) rfl (Nat.le_of_ble_eq_true rfl) (Nat.le_of_ble_eq_true rfl) (Nat.le_of_ble_eq_true rfl) (ck DX1_init_0 20 rfl) (fun a5 => ?_)
  refine n_putF 44 rfl ff_X1_24 rfl rfl rfl (ck DX1_init_0 21 rfl) ?_
  refine n_aload_n 45 rfl 0 rfl rfl (ck DX1_init_0 22 rfl) ?_
  refine n_bipush 47 rfl bp_24 (ck DX1_init_0 23 rfl) ?_
  refine n_newaC 49 rfl (atype := .int) (ty := .int) 0 (N' := 24) (x := (24, .inl (fun _ => 0))) ac_int rfl rfl (fun _ => rfl) (by decide) rfl (Nat.le_of_ble_eq_true rfl) (Nat.le_of_ble_eq_true rfl) (Nat.le_of_ble_eq_true rfl) (ck DX1_init_0 24 rfl) (fun a6 => ?_)
  refine n_putF 52 rfl ff_X1_27 rfl rfl rfl (ck DX1_init_0 25 rfl) ?_
  refine n_aload_n 53 rfl 0 rfl rfl (ck DX1_init_0 26 rfl) ?_
  refine n_iconst 54 rfl ic_3 (ck DX1_init_0 27 rfl) ?_
  refine n_newaC 56 rfl (atype := .int) (ty := .int) 0 (N' := 3) (x := (3, .inl (fun _ => 0))) ac_int rfl rfl (fun _ => rfl) (by decide) rfl (Nat.le_of_ble_eq_true rfl) (Nat.le_of_ble_eq_true rfl) (Nat.le_of_ble_eq_true rfl) (ck DX1_init_0 28 rfl) (fun a7 => ?_)
  refine n_putF 59 rfl ff_X1_30 rfl rfl rfl (ck DX1_init_0 29 rfl) ?_
  refine n_aload_n 60 rfl 0 rfl rfl (ck DX1_init_0 30 rfl) ?_
  refine n_aload_n 61 rfl 1 rfl rfl (ck DX1_init_0 31 rfl) ?_
  refine n_put 64 rfl fw_X1_33 rfl rfl rfl (ck DX1_init_0 32 rfl) ?_
  refine n_aload_n 65 rfl 0 rfl rfl (ck DX1_init_0 33 rfl) ?_
  refine n_iconst 66 rfl ic_1 (ck DX1_init_0 34 rfl) ?_
  refine n_put 69 rfl fw_X1_37 rfl rfl rfl (ck DX1_init_0 35 rfl) ?_
  exact n_end ⟨(ck DX1_init_0 36 rfl), rfl, a1, a2, a3, a4, a5, a6, a7, rfl⟩ (Nat.le_refl _) (Nat.le_refl _)
theorem nc_X3_5 {D : va_G} {α : Nat → ClassId} (q : Nat) : NC mX3_init 1 D α 2 10 q [.int 5] (nwE 3 3 tyX3) (fun w => ∃ a1 a2 : Nat, w = [(q, .inr (3, [.ref a1, .ref a2, .int 0])), (a1, .inl (α 1, 5, .inl (fun _ => 0))), (a2, .inl (α 1, 5, .inl (fun _ => 0)))]) := by
  refine NC_of (by decide +kernel) rfl (Nat.le_of_ble_eq_true rfl) ?_
  refine n_aload_n 1 rfl 0 rfl rfl (ck DX3_init_0 0 rfl) ?_
  refine n_objInit 4 rfl ob_X3 ob_ins ob_cod (by decide) (Nat.le_of_ble_eq_true rfl) (ck DX3_init_0 1 rfl) ?_
  refine n_aload_n 5 rfl 0 rfl rfl (ck DX3_init_0 2 rfl) ?_
  refine n_iload_n 6 rfl 1 rfl rfl (ck DX3_init_0 3 rfl) ?_
  refine n_newaC 8 rfl (atype := .int) (ty := .int) 0 (N' := 5) (x := (5, .inl (fun _ => 0))) ac_int rfl rfl (fun _ => rfl) (by decide) rfl (Nat.le_of_ble_eq_true rfl) (Nat.le_of_ble_eq_true rfl) (Nat.le_of_ble_eq_true rfl) (ck DX3_init_0 4 rfl) (fun a1 => ?_)
  refine n_putF 11 rfl ff_X3_7 rfl rfl rfl (ck DX3_init_0 5 rfl) ?_
  refine n_aload_n 12 rfl 0 rfl rfl (ck DX3_init_0 6 rfl) ?_
  refine n_iload_n 13 rfl 1 rfl rfl (ck DX3_init_0 7 rfl) ?_
  refine n_newaC 15 rfl (atype := .int) (ty := .int) 0 (N' := 5) (x := (5, .inl (fun _ => 0))) ac_int rfl rfl (fun _ => rfl) (by decide) rfl (Nat.le_of_ble_eq_true rfl) (Nat.le_of_ble_eq_true rfl) (Nat.le_of_ble_eq_true rfl) (ck DX3_init_0 8 rfl) (fun a2 => ?_)
  refine n_putF 18 rfl ff_X3_13 rfl rfl rfl (ck DX3_init_0 9 rfl) ?_
  exact n_end ⟨(ck DX3_init_0 10 rfl), rfl, a1, a2, rfl⟩ (Nat.le_refl _) (Nat.le_refl _)
theorem nc_X3_10 {D : va_G} {α : Nat → ClassId} (q : Nat) : NC mX3_init 1 D α 2 20 q [.int 10] (nwE 3 3 tyX3) (fun w => ∃ a1 a2 : Nat, w = [(q, .inr (3, [.ref a1, .ref a2, .int 0])), (a1, .inl (α 1, 10, .inl (fun _ => 0))), (a2, .inl (α 1, 10, .inl (fun _ => 0)))]) := by
  refine NC_of (by decide +kernel) rfl (Nat.le_of_ble_eq_true rfl) ?_
  refine n_aload_n 1 rfl 0 rfl rfl (ck DX3_init_0 0 rfl) ?_
  refine n_objInit 4 rfl ob_X3 ob_ins ob_cod (by decide) (Nat.le_of_ble_eq_true rfl) (ck DX3_init_0 1 rfl) ?_
  refine n_aload_n 5 rfl 0 rfl rfl (ck DX3_init_0 2 rfl) ?_
  refine n_iload_n 6 rfl 1 rfl rfl (ck DX3_init_0 3 rfl) ?_
  refine n_newaC 8 rfl (atype := .int) (ty := .int) 0 (N' := 10) (x := (10, .inl (fun _ => 0))) ac_int rfl rfl (fun _ => rfl) (by decide) rfl (Nat.le_of_ble_eq_true rfl) (Nat.le_of_ble_eq_true rfl) (Nat.le_of_ble_eq_true rfl) (ck DX3_init_0 4 rfl) (fun a1 => ?_)
  refine n_putF 11 rfl ff_X3_7 rfl rfl rfl (ck DX3_init_0 5 rfl) ?_
  refine n_aload_n 12 rfl 0 rfl rfl (ck DX3_init_0 6 rfl) ?_
  refine n_iload_n 13 rfl 1 rfl rfl (ck DX3_init_0 7 rfl) ?_
  refine n_newaC 15 rfl (atype := .int) (ty := .int) 0 (N' := 10) (x := (10, .inl (fun _ => 0))) ac_int rfl rfl (fun _ => rfl) (by decide) rfl (Nat.le_of_ble_eq_true rfl) (Nat.le_of_ble_eq_true rfl) (Nat.le_of_ble_eq_true rfl) (ck DX3_init_0 8 rfl) (fun a2 => ?_)
  refine n_putF 18 rfl ff_X3_13 rfl rfl rfl (ck DX3_init_0 9 rfl) ?_
  exact n_end ⟨(ck DX3_init_0 10 rfl), rfl, a1, a2, rfl⟩ (Nat.le_refl _) (Nat.le_refl _)
theorem nc_X3_8 {D : va_G} {α : Nat → ClassId} (q : Nat) : NC mX3_init 1 D α 2 16 q [.int 8] (nwE 3 3 tyX3) (fun w => ∃ a1 a2 : Nat, w = [(q, .inr (3, [.ref a1, .ref a2, .int 0])), (a1, .inl (α 1, 8, .inl (fun _ => 0))), (a2, .inl (α 1, 8, .inl (fun _ => 0)))]) := by
  refine NC_of (by decide +kernel) rfl (Nat.le_of_ble_eq_true rfl) ?_
  refine n_aload_n 1 rfl 0 rfl rfl (ck DX3_init_0 0 rfl) ?_
  refine n_objInit 4 rfl ob_X3 ob_ins ob_cod (by decide) (Nat.le_of_ble_eq_true rfl) (ck DX3_init_0 1 rfl) ?_
  refine n_aload_n 5 rfl 0 rfl rfl (ck DX3_init_0 2 rfl) ?_
  refine n_iload_n 6 rfl 1 rfl rfl (ck DX3_init_0 3 rfl) ?_
  refine n_newaC 8 rfl (atype := .int) (ty := .int) 0 (N' := 8) (x := (8, .inl (fun _ => 0))) ac_int rfl rfl (fun _ => rfl) (by decide) rfl (Nat.le_of_ble_eq_true rfl) (Nat.le_of_ble_eq_true rfl) (Nat.le_of_ble_eq_true rfl) (ck DX3_init_0 4 rfl) (fun a1 => ?_)
  refine n_putF 11 rfl ff_X3_7 rfl rfl rfl (ck DX3_init_0 5 rfl) ?_
  refine n_aload_n 12 rfl 0 rfl rfl (ck DX3_init_0 6 rfl) ?_
  refine n_iload_n 13 rfl 1 rfl rfl (ck DX3_init_0 7 rfl) ?_
  refine n_newaC 15 rfl (atype := .int) (ty := .int) 0 (N' := 8) (x := (8, .inl (fun _ => 0))) ac_int rfl rfl (fun _ => rfl) (by decide) rfl (Nat.le_of_ble_eq_true rfl) (Nat.le_of_ble_eq_true rfl) (Nat.le_of_ble_eq_true rfl) (ck DX3_init_0 8 rfl) (fun a2 => ?_)
  refine n_putF 18 rfl ff_X3_13 rfl rfl rfl (ck DX3_init_0 9 rfl) ?_
  exact n_end ⟨(ck DX3_init_0 10 rfl), rfl, a1, a2, rfl⟩ (Nat.le_refl _) (Nat.le_refl _)
theorem nc_X5 {D : va_G} {α : Nat → ClassId} (q : Nat) : NC mX5_init 1 D α 1 100 q [] (nwE 5 4 tyX5) (fun w => ∃ a1 : Nat, w = [(q, .inr (5, [.ref a1, .null, .int 0, .int 0])), (a1, .inl (α 3, 100, .inl (fun _ => 0)))]) := by
  refine NC_of (by decide +kernel) rfl (Nat.le_of_ble_eq_true rfl) ?_
  refine n_aload_n 1 rfl 0 rfl rfl (ck DX5_init_0 0 rfl) ?_
  refine n_objInit 4 rfl ob_X5 ob_ins ob_cod (by decide) (Nat.le_of_ble_eq_true rfl) (ck DX5_init_0 1 rfl) ?_
  refine n_aload_n 5 rfl 0 rfl rfl (ck DX5_init_0 2 rfl) ?_
  refine n_bipush 7 rfl bp_100 (ck DX5_init_0 3 rfl) ?_
  refine n_newaC 9 rfl (atype := .byte) (ty := .byte) 2 (N' := 100) (x := (100, .inl (fun _ => 0))) ac_byte rfl rfl (fun _ => rfl) (by decide) rfl (Nat.le_of_ble_eq_true rfl) (Nat.le_of_ble_eq_true rfl) (Nat.le_of_ble_eq_true rfl) (ck DX5_init_0 4 rfl) (fun a1 => ?_)
  refine n_putF 12 rfl ff_X5_9 rfl rfl rfl (ck DX5_init_0 5 rfl) ?_
  exact n_end ⟨(ck DX5_init_0 6 rfl), rfl, a1, rfl⟩ (Nat.le_refl _) (Nat.le_refl _)
theorem nc_X0 {D : va_G} {α : Nat → ClassId} (q : Nat) : NC mX0_init 1 D α 1 20 q [] (nwE 0 5 tyX0) (fun w => ∃ a1 : Nat, w = [(q, .inr (0, [.ref a1, .int 0, .int 0, .int 0, .int 0])), (a1, .inl (α 1, 20, .inl (fun _ => 0)))]) := by
  refine NC_of (by decide +kernel) rfl (Nat.le_of_ble_eq_true rfl) ?_
  refine n_aload_n 1 rfl 0 rfl rfl (ck DX0_init_0 0 rfl) ?_
  refine n_objInit 4 rfl ob_X0 ob_ins ob_cod (by decide) (Nat.le_of_ble_eq_true rfl) (ck DX0_init_0 1 rfl) ?_
  refine n_aload_n 5 rfl 0 rfl rfl (ck DX0_init_0 2 rfl) ?_
  refine n_bipush 7 rfl bp_20 (ck DX0_init_0 3 rfl) ?_
  refine n_newaC 9 rfl (atype := .int) (ty := .int) 0 (N' := 20) (x := (20, .inl (fun _ => 0))) ac_int rfl rfl (fun _ => rfl) (by decide) rfl (Nat.le_of_ble_eq_true rfl) (Nat.le_of_ble_eq_true rfl) (Nat.le_of_ble_eq_true rfl) (ck DX0_init_0 4 rfl) (fun a1 => ?_)
  refine n_putF 12 rfl ff_X0_11 rfl rfl rfl (ck DX0_init_0 5 rfl) ?_
  exact n_end ⟨(ck DX0_init_0 6 rfl), rfl, a1, rfl⟩ (Nat.le_refl _) (Nat.le_refl _)
theorem nc_X4 {D : va_G} {α : Nat → ClassId} (q : Nat) : NC mX4_init 1 D α 1 60 q [] (nwE 4 3 tyX4) (fun w => ∃ a1 : Nat, w = [(q, .inr (4, [.ref a1, .int (-1), .int 0])), (a1, .inl (α 2, 60, .inr (.inl (fun _ => 0))))]) := by
  refine NC_of (by decide +kernel) rfl (Nat.le_of_ble_eq_true rfl) ?_
  refine n_aload_n 1 rfl 0 rfl rfl (ck DX4_init_0 0 rfl) ?_
  refine n_objInit 4 rfl ob_X4 ob_ins ob_cod (by decide) (Nat.le_of_ble_eq_true rfl) (ck DX4_init_0 1 rfl) ?_
  refine n_aload_n 5 rfl 0 rfl rfl (ck DX4_init_0 2 rfl) ?_
  refine n_bipush 7 rfl bp_60 (ck DX4_init_0 3 rfl) ?_
  refine n_newaC 9 rfl (atype := .long) (ty := .long) 1 (N' := 60) (x := (60, .inr (.inl (fun _ => 0)))) ac_long rfl rfl (fun _ => rfl) (by decide) rfl (Nat.le_of_ble_eq_true rfl) (Nat.le_of_ble_eq_true rfl) (Nat.le_of_ble_eq_true rfl) (ck DX4_init_0 4 rfl) (fun a1 => ?_)
  refine n_putF 12 rfl ff_X4_9 rfl rfl rfl (ck DX4_init_0 5 rfl) ?_
  refine n_aload_n 13 rfl 0 rfl rfl (ck DX4_init_0 6 rfl) ?_
  refine n_iconst 14 rfl ic_m1 (ck DX4_init_0 7 rfl) ?_
  refine n_put 17 rfl fw_X4_13 rfl rfl rfl (ck DX4_init_0 8 rfl) ?_
  exact n_end ⟨(ck DX4_init_0 9 rfl), rfl, a1, rfl⟩ (Nat.le_refl _) (Nat.le_refl _)
