/-! the constructor of the reference -/
def wldP (as : Nat → Nat) (α : Nat → ClassId) (D : va_G) (lo n : Nat) : va_W := ((SH.drop lo).take n).mapIdx (fun k c => (as (lo + k), cellE (as, α, D, fun _ => 0, 0, fun _ => 0) h00 (lo + k) c))
theorem wp_snoc {as : Nat → Nat} {α : Nat → ClassId} {D : va_G} {lo n : Nat} {c : SC} (h : SH[lo + n]? = some c) : wldP as α D lo (n + 1) = wldP as α D lo n ++ [(as (lo + n), cellE (as, α, D, fun _ => 0, 0, fun _ => 0) h00 (lo + n) c)] := by
  unfold wldP
  have hl := (List.getElem?_eq_some_iff.mp h).1
  have e : (SH.drop lo).take (n + 1) = (SH.drop lo).take n ++ [c] := by
    rw [List.take_add_one, List.getElem?_drop, h]
    rfl
  rw [e, List.mapIdx_append]
  have e2 : ((SH.drop lo).take n).length = n := by
    rw [List.length_take, List.length_drop]
    omega
  rw [e2]
  simp only [List.mapIdx_cons, List.mapIdx_nil, Nat.zero_add]
theorem consn {as : Nat → Nat} {α : Nat → ClassId} {D : va_G} {lo n : Nat} {c : SC} {hd x : Nat × va_E} {w : va_W} (hc : SH[lo + n]? = some c) (hx : x = (as (lo + n), cellE (as, α, D, fun _ => 0, 0, fun _ => 0) h00 (lo + n) c)) (h : hd :: w = wldP as α D lo n) : hd :: (w ++ [x]) = wldP as α D lo (n + 1) := by
  rw [wp_snoc hc, ← h, ← hx]
  rfl
theorem onew {as : Nat → Nat} {α : Nat → ClassId} {D : va_G} {lo : Nat} {c : SC} {hd : Nat × va_E} (hc : SH[lo + 0]? = some c) (hx : hd = (as (lo + 0), cellE (as, α, D, fun _ => 0, 0, fun _ => 0) h00 (lo + 0) c)) : hd :: [] = wldP as α D lo 1 := by
  rw [wp_snoc (n := 0) hc, ← hx]
  rfl
theorem blkn {hd x : Nat × va_E} {w t R : va_W} (h : hd :: ((w ++ [x]) ++ t) = R) : hd :: (w ++ (x :: t)) = R := by
  rw [← h, List.append_assoc]
  rfl
theorem blk0 {hd : Nat × va_E} {w R : va_W} (h : hd :: w = R) : hd :: (w ++ []) = R := by
  rw [List.append_nil]
  exact h
theorem al0 {P : Nat → Prop} : ∀ j, j < 0 → P j := fun j h => absurd h (Nat.not_lt_zero j)
theorem al1 {P : Nat → Prop} {n : Nat} (h : P n) (h2 : ∀ j, j < n → P j) : ∀ j, j < n + 1 → P j := fun j hj => (Nat.lt_or_eq_of_le (Nat.le_of_lt_succ hj)).elim (h2 j) (fun e => e ▸ h)
theorem obj_eq {as : Nat → Nat} {α : Nat → ClassId} {D : va_G} {q k ci N : Nat} {ks : List Nat} {f : Nat → Value} (hq : q = as k) (hN : ks.length = N) (h : ∀ j, j < N → f j = fval as h00 k ci j (ks.getD j 0)) : (q, (.inr (ci, mkF N f) : va_E)) = (as k, cellE (as, α, D, fun _ => 0, 0, fun _ => 0) h00 k (0, ci, ks)) := by
  subst hq
  have e : mkF N f = ks.mapIdx (fun j t => fval as h00 k ci j t) := by
    apply List.ext_getElem?
    intro i
    rw [List.getElem?_mapIdx]
    by_cases hi : i < N
    · rw [mkF_get hi, h i hi]
      have hk : i < ks.length := by omega
      rw [List.getElem?_eq_getElem hk, List.getD_eq_getElem?_getD, List.getElem?_eq_getElem hk]
      rfl
    · rw [List.getElem?_eq_none (by rw [mkF_len]; omega), List.getElem?_eq_none (by omega)]
      rfl
  rw [e]
  rfl
theorem va_upE {f : Nat → Value} {k : Nat} {v u : Value} (j : Nat) (hj : j ≠ k) (h : f j = u) : va_up f k v j = u := by rw [up_n _ _ hj]; exact h
theorem va_upS {f : Nat → Value} {k : Nat} {v u : Value} (h : v = u) : va_up f k v k = u := by rw [up_s]; exact h
theorem n_rowC {Y : MD} {d : Nat} {ini : Prop} {D : va_G} {α : Nat → ClassId} {kc ks : Nat} {Fi : FNN} {pc : Nat} {lv : List (Nat × Value)} {st : List Value} {cells slots : Nat} {hd : Nat × va_E} {q n : Nat} {f : Nat → Int32} {w : va_W} (g : Nat → Int32) (e : f = g) (kk : RunN Y d ini D α kc ks Fi pc lv st (hd :: (w ++ [(q, .inl (α 1, n, .inl g))])) cells slots) : RunN Y d ini D α kc ks Fi pc lv st (hd :: (w ++ [(q, .inl (α 1, n, .inl f))])) cells slots := e ▸ kk
theorem row_112 : (upd (upd (upd (upd (upd (upd (upd (upd (upd (upd (upd (upd (upd (upd (upd (upd (fun _ => 0) 0 (102)) 1 (105)) 2 (114)) 3 (109)) 4 (119)) 5 (101)) 6 (97)) 7 (107)) 8 (119)) 9 (105)) 10 (110)) 11 (100)) 12 (108)) 13 (97)) 14 (115)) 15 (104)) = h00.1 112 := by
  funext j
  by_cases hj : j < 16
  · have a1 : j = 0 ∨ j = 1 ∨ j = 2 ∨ j = 3 ∨ j = 4 ∨ j = 5 ∨ j = 6 ∨ j = 7 ∨ j = 8 ∨ j = 9 ∨ j = 10 ∨ j = 11 ∨ j = 12 ∨ j = 13 ∨ j = 14 ∨ j = 15 := by omega
    rcases a1 with rfl | rfl | rfl | rfl | rfl | rfl | rfl | rfl | rfl | rfl | rfl | rfl | rfl | rfl | rfl | rfl <;> rfl
  · have e1 : h00.1 112 j = 0 := by
      show nI (wordL j) = 0
      unfold wordL
      rw [List.getD_eq_getElem?_getD, List.getElem?_eq_none (by simp; omega)]
      rfl
    rw [e1]
    unfold upd
    simp only [show ∀ i, i < 16 → ¬ j = i from fun i hi => by omega, Nat.reduceLT, if_false, show ¬ j = 0 from by omega, show ¬ j = 1 from by omega, show ¬ j = 2 from by omega, show ¬ j = 3 from by omega, show ¬ j = 4 from by omega, show ¬ j = 5 from by omega, show ¬ j = 6 from by omega, show ¬ j = 7 from by omega, show ¬ j = 8 from by omega, show ¬ j = 9 from by omega, show ¬ j = 10 from by omega, show ¬ j = 11 from by omega, show ¬ j = 12 from by omega, show ¬ j = 13 from by omega, show ¬ j = 14 from by omega, show ¬ j = 15 from by omega]
theorem row_141 : (upd (upd (upd (upd (upd (upd (fun _ => 0) 0 (-1)) 1 (-1)) 2 (-1)) 3 (-1)) 4 (-1)) 5 (-1)) = h00.1 141 := by
  funext j
  by_cases hj : j < 6
  · have a1 : j = 0 ∨ j = 1 ∨ j = 2 ∨ j = 3 ∨ j = 4 ∨ j = 5 := by omega
    rcases a1 with rfl | rfl | rfl | rfl | rfl | rfl <;> rfl
  · have e1 : h00.1 141 j = 0 := by
      show (if j < 6 then (-1 : Int32) else 0) = 0
      exact if_neg hj
    rw [e1]
    unfold upd
    simp only [show ∀ i, i < 6 → ¬ j = i from fun i hi => by omega, Nat.reduceLT, if_false, show ¬ j = 0 from by omega, show ¬ j = 1 from by omega, show ¬ j = 2 from by omega, show ¬ j = 3 from by omega, show ¬ j = 4 from by omega, show ¬ j = 5 from by omega]
theorem K7_len : K7.length = 87 := by decide
set_option maxRecDepth 20000 in
set_option maxHeartbeats 1000000 in
theorem nc_X7 {D : va_G} {α : Nat → ClassId} (q : Nat) : NC mX7_init 1 D α 48 1851 q [] (nwE 7 87 tyX7) (fun w => ∃ as : Nat → Nat, as 96 = q ∧ w = wldP as α D 96 49) := by
  refine NC_of (by decide +kernel) rfl (Nat.le_of_ble_eq_true rfl) ?_
  refine n_aload_n 1 rfl 0 rfl rfl (ck DX7_init_0 0 rfl) ?_
  refine n_objInit 4 rfl ob_X7 ob_ins ob_cod (by decide) (Nat.le_of_ble_eq_true rfl) (ck DX7_init_0 1 rfl) ?_
  refine n_aload_n 5 rfl 0 rfl rfl (ck DX7_init_0 2 rfl) ?_
  refine n_iconst 6 rfl ic_0 (ck DX7_init_0 3 rfl) ?_
  refine n_put 9 rfl fw_X7_7 rfl rfl rfl (ck DX7_init_0 4 rfl) ?_
  refine n_aload_n 10 rfl 0 rfl rfl (ck DX7_init_0 5 rfl) ?_
  refine n_iconst 11 rfl ic_0 (ck DX7_init_0 6 rfl) ?_
  refine n_put 14 rfl fw_X7_13 rfl rfl rfl (ck DX7_init_0 7 rfl) ?_
  refine n_aload_n 15 rfl 0 rfl rfl (ck DX7_init_0 8 rfl) ?_
  refine n_iconst 16 rfl ic_1 (ck DX7_init_0 9 rfl) ?_
  refine n_put 19 rfl fw_X7_16 rfl rfl rfl (ck DX7_init_0 10 rfl) ?_
  refine n_aload_n 20 rfl 0 rfl rfl (ck DX7_init_0 11 rfl) ?_
  refine n_iconst 21 rfl ic_0 (ck DX7_init_0 12 rfl) ?_
  refine n_put 24 rfl fw_X7_19 rfl rfl rfl (ck DX7_init_0 13 rfl) ?_
  refine n_aload_n 25 rfl 0 rfl rfl (ck DX7_init_0 14 rfl) ?_
  refine n_iconst 26 rfl ic_0 (ck DX7_init_0 15 rfl) ?_
  refine n_put 29 rfl fw_X7_22 rfl rfl rfl (ck DX7_init_0 16 rfl) ?_
  refine n_aload_n 30 rfl 0 rfl rfl (ck DX7_init_0 17 rfl) ?_
  refine n_iconst 31 rfl ic_0 (ck DX7_init_0 18 rfl) ?_
  refine n_put 34 rfl fw_X7_25 rfl rfl rfl (ck DX7_init_0 19 rfl) ?_
  refine n_aload_n 35 rfl 0 rfl rfl (ck DX7_init_0 20 rfl) ?_
  refine n_bipush 37 rfl bp_6 (ck DX7_init_0 21 rfl) ?_
  refine n_newaC 39 rfl (atype := .int) (ty := .int) 0 (N' := 6) (x := (6, .inl (fun _ => 0))) ac_int rfl rfl (fun _ => rfl) (by decide) rfl (Nat.le_of_ble_eq_true rfl) (Nat.le_of_ble_eq_true rfl) (Nat.le_of_ble_eq_true rfl) (ck DX7_init_0 22 rfl) (fun a1 => ?_)
  refine n_putF 42 rfl ff_X7_28 rfl rfl rfl (ck DX7_init_0 23 rfl) ?_
  refine n_aload_n 43 rfl 0 rfl rfl (ck DX7_init_0 24 rfl) ?_
  refine n_bipush 45 rfl bp_6 (ck DX7_init_0 25 rfl) ?_
  refine n_newaC 47 rfl (atype := .int) (ty := .int) 0 (N' := 6) (x := (6, .inl (fun _ => 0))) ac_int rfl rfl (fun _ => rfl) (by decide) rfl (Nat.le_of_ble_eq_true rfl) (Nat.le_of_ble_eq_true rfl) (Nat.le_of_ble_eq_true rfl) (ck DX7_init_0 26 rfl) (fun a2 => ?_)
  refine n_putF 50 rfl ff_X7_32 rfl rfl rfl (ck DX7_init_0 27 rfl) ?_
  refine n_aload_n 51 rfl 0 rfl rfl (ck DX7_init_0 28 rfl) ?_
  refine n_bipush 53 rfl bp_6 (ck DX7_init_0 29 rfl) ?_
  refine n_newaC 55 rfl (atype := .int) (ty := .int) 0 (N' := 6) (x := (6, .inl (fun _ => 0))) ac_int rfl rfl (fun _ => rfl) (by decide) rfl (Nat.le_of_ble_eq_true rfl) (Nat.le_of_ble_eq_true rfl) (Nat.le_of_ble_eq_true rfl) (ck DX7_init_0 30 rfl) (fun a3 => ?_)
  refine n_putF 58 rfl ff_X7_35 rfl rfl rfl (ck DX7_init_0 31 rfl) ?_
  refine n_aload_n 59 rfl 0 rfl rfl (ck DX7_init_0 32 rfl) ?_
  refine n_bipush 61 rfl bp_6 (ck DX7_init_0 33 rfl) ?_
  refine n_newaC 63 rfl (atype := .int) (ty := .int) 0 (N' := 6) (x := (6, .inl (fun _ => 0))) ac_int rfl rfl (fun _ => rfl) (by decide) rfl (Nat.le_of_ble_eq_true rfl) (Nat.le_of_ble_eq_true rfl) (Nat.le_of_ble_eq_true rfl) (ck DX7_init_0 34 rfl) (fun a4 => ?_)
  refine n_putF 66 rfl ff_X7_38 rfl rfl rfl (ck DX7_init_0 35 rfl) ?_
  refine n_aload_n 67 rfl 0 rfl rfl (ck DX7_init_0 36 rfl) ?_
  refine n_bipush 69 rfl bp_6 (ck DX7_init_0 37 rfl) ?_
  refine n_newaC 71 rfl (atype := .int) (ty := .int) 0 (N' := 6) (x := (6, .inl (fun _ => 0))) ac_int rfl rfl (fun _ => rfl) (by decide) rfl (Nat.le_of_ble_eq_true rfl) (Nat.le_of_ble_eq_true rfl) (Nat.le_of_ble_eq_true rfl) (ck DX7_init_0 38 rfl) (fun a5 => ?_)
  refine n_putF 74 rfl ff_X7_41 rfl rfl rfl (ck DX7_init_0 39 rfl) ?_
  refine n_aload_n 75 rfl 0 rfl rfl (ck DX7_init_0 40 rfl) ?_
  refine n_bipush 77 rfl bp_24 (ck DX7_init_0 41 rfl) ?_
  refine n_newaC 79 rfl (atype := .int) (ty := .int) 0 (N' := 24) (x := (24, .inl (fun _ => 0))) ac_int rfl rfl (fun _ => rfl) (by decide) rfl (Nat.le_of_ble_eq_true rfl) (Nat.le_of_ble_eq_true rfl) (Nat.le_of_ble_eq_true rfl) (ck DX7_init_0 42 rfl) (fun a6 => ?_)
  refine n_putF 82 rfl ff_X7_44 rfl rfl rfl (ck DX7_init_0 43 rfl) ?_
  refine n_aload_n 83 rfl 0 rfl rfl (ck DX7_init_0 44 rfl) ?_
  refine n_iconst 84 rfl ic_3 (ck DX7_init_0 45 rfl) ?_
  refine n_newaC 86 rfl (atype := .int) (ty := .int) 0 (N' := 3) (x := (3, .inl (fun _ => 0))) ac_int rfl rfl (fun _ => rfl) (by decide) rfl (Nat.le_of_ble_eq_true rfl) (Nat.le_of_ble_eq_true rfl) (Nat.le_of_ble_eq_true rfl) (ck DX7_init_0 46 rfl) (fun a7 => ?_)
  refine n_putF 89 rfl ff_X7_47 rfl rfl rfl (ck DX7_init_0 47 rfl) ?_
  refine n_aload_n 90 rfl 0 rfl rfl (ck DX7_init_0 48 rfl) ?_
  refine n_iconst 91 rfl ic_0 (ck DX7_init_0 49 rfl) ?_
  refine n_put 94 rfl fw_X7_50 rfl rfl rfl (ck DX7_init_1 0 rfl) ?_
  refine n_aload_n 95 rfl 0 rfl rfl (ck DX7_init_1 1 rfl) ?_
  refine n_iconst 96 rfl ic_m1 (ck DX7_init_1 2 rfl) ?_
  refine n_put 99 rfl fw_X7_53 rfl rfl rfl (ck DX7_init_1 3 rfl) ?_
  refine n_aload_n 100 rfl 0 rfl rfl (ck DX7_init_1 4 rfl) ?_
  refine n_iconst 101 rfl ic_0 (ck DX7_init_1 5 rfl) ?_
  refine n_put 104 rfl fw_X7_56 rfl rfl rfl (ck DX7_init_1 6 rfl) ?_
  refine n_aload_n 105 rfl 0 rfl rfl (ck DX7_init_1 7 rfl) ?_
  refine n_iconst 106 rfl ic_0 (ck DX7_init_1 8 rfl) ?_
  refine n_put 109 rfl fw_X7_59 rfl rfl rfl (ck DX7_init_1 9 rfl) ?_
  refine n_aload_n 110 rfl 0 rfl rfl (ck DX7_init_1 10 rfl) ?_
  refine n_iconst 111 rfl ic_0 (ck DX7_init_1 11 rfl) ?_
  refine n_put 114 rfl fw_X7_62 rfl rfl rfl (ck DX7_init_1 12 rfl) ?_
  refine n_aload_n 115 rfl 0 rfl rfl (ck DX7_init_1 13 rfl) ?_
  refine n_bipush 117 rfl bp_100 (ck DX7_init_1 14 rfl) ?_
  refine n_newaC 119 rfl (atype := .int) (ty := .int) 0 (N' := 100) (x := (100, .inl (fun _ => 0))) ac_int rfl rfl (fun _ => rfl) (by decide) rfl (Nat.le_of_ble_eq_true rfl) (Nat.le_of_ble_eq_true rfl) (Nat.le_of_ble_eq_true rfl) (ck DX7_init_1 15 rfl) (fun a8 => ?_)
  refine n_putF 122 rfl ff_X7_65 rfl rfl rfl (ck DX7_init_1 16 rfl) ?_
  refine n_aload_n 123 rfl 0 rfl rfl (ck DX7_init_1 17 rfl) ?_
  refine n_bipush 125 rfl bp_6 (ck DX7_init_1 18 rfl) ?_
  refine n_newaC 127 rfl (atype := .int) (ty := .int) 0 (N' := 6) (x := (6, .inl (fun _ => 0))) ac_int rfl rfl (fun _ => rfl) (by decide) rfl (Nat.le_of_ble_eq_true rfl) (Nat.le_of_ble_eq_true rfl) (Nat.le_of_ble_eq_true rfl) (ck DX7_init_1 19 rfl) (fun a9 => ?_)
  refine n_putF 130 rfl ff_X7_68 rfl rfl rfl (ck DX7_init_1 20 rfl) ?_
  refine n_aload_n 131 rfl 0 rfl rfl (ck DX7_init_1 21 rfl) ?_
  refine n_bipush 133 rfl bp_60 (ck DX7_init_1 22 rfl) ?_
  refine n_newaC 135 rfl (atype := .int) (ty := .int) 0 (N' := 60) (x := (60, .inl (fun _ => 0))) ac_int rfl rfl (fun _ => rfl) (by decide) rfl (Nat.le_of_ble_eq_true rfl) (Nat.le_of_ble_eq_true rfl) (Nat.le_of_ble_eq_true rfl) (ck DX7_init_1 23 rfl) (fun a10 => ?_)
  refine n_putF 138 rfl ff_X7_71 rfl rfl rfl (ck DX7_init_1 24 rfl) ?_
  refine n_aload_n 139 rfl 0 rfl rfl (ck DX7_init_1 25 rfl) ?_
  refine n_bipush 141 rfl bp_60 (ck DX7_init_1 26 rfl) ?_
  refine n_newaC 143 rfl (atype := .int) (ty := .int) 0 (N' := 60) (x := (60, .inl (fun _ => 0))) ac_int rfl rfl (fun _ => rfl) (by decide) rfl (Nat.le_of_ble_eq_true rfl) (Nat.le_of_ble_eq_true rfl) (Nat.le_of_ble_eq_true rfl) (ck DX7_init_1 27 rfl) (fun a11 => ?_)
  refine n_putF 146 rfl ff_X7_74 rfl rfl rfl (ck DX7_init_1 28 rfl) ?_
  refine n_aload_n 147 rfl 0 rfl rfl (ck DX7_init_1 29 rfl) ?_
  refine n_bipush 149 rfl bp_60 (ck DX7_init_1 30 rfl) ?_
  refine n_newaC 151 rfl (atype := .int) (ty := .int) 0 (N' := 60) (x := (60, .inl (fun _ => 0))) ac_int rfl rfl (fun _ => rfl) (by decide) rfl (Nat.le_of_ble_eq_true rfl) (Nat.le_of_ble_eq_true rfl) (Nat.le_of_ble_eq_true rfl) (ck DX7_init_1 31 rfl) (fun a12 => ?_)
  refine n_putF 154 rfl ff_X7_77 rfl rfl rfl (ck DX7_init_1 32 rfl) ?_
  refine n_aload_n 155 rfl 0 rfl rfl (ck DX7_init_1 33 rfl) ?_
  refine n_bipush 157 rfl bp_60 (ck DX7_init_1 34 rfl) ?_
  refine n_newaC 159 rfl (atype := .int) (ty := .int) 0 (N' := 60) (x := (60, .inl (fun _ => 0))) ac_int rfl rfl (fun _ => rfl) (by decide) rfl (Nat.le_of_ble_eq_true rfl) (Nat.le_of_ble_eq_true rfl) (Nat.le_of_ble_eq_true rfl) (ck DX7_init_1 35 rfl) (fun a13 => ?_)
  refine n_putF 162 rfl ff_X7_80 rfl rfl rfl (ck DX7_init_1 36 rfl) ?_
  refine n_aload_n 163 rfl 0 rfl rfl (ck DX7_init_1 37 rfl) ?_
  refine n_sipush 166 rfl sp_600 (ck DX7_init_1 38 rfl) ?_
  refine n_newaC 168 rfl (atype := .int) (ty := .int) 0 (N' := 600) (x := (600, .inl (fun _ => 0))) ac_int rfl rfl (fun _ => rfl) (by decide) rfl (Nat.le_of_ble_eq_true rfl) (Nat.le_of_ble_eq_true rfl) (Nat.le_of_ble_eq_true rfl) (ck DX7_init_1 39 rfl) (fun a14 => ?_)
  refine n_putF 171 rfl ff_X7_83 rfl rfl rfl (ck DX7_init_1 40 rfl) ?_
  refine n_aload_n 172 rfl 0 rfl rfl (ck DX7_init_1 41 rfl) ?_
  refine n_bipush 174 rfl bp_101 (ck DX7_init_1 42 rfl) ?_
  refine n_newaC 176 rfl (atype := .int) (ty := .int) 0 (N' := 101) (x := (101, .inl (fun _ => 0))) ac_int rfl rfl (fun _ => rfl) (by decide) rfl (Nat.le_of_ble_eq_true rfl) (Nat.le_of_ble_eq_true rfl) (Nat.le_of_ble_eq_true rfl) (ck DX7_init_1 43 rfl) (fun a15 => ?_)
  refine n_putF 179 rfl ff_X7_86 rfl rfl rfl (ck DX7_init_1 44 rfl) ?_
  refine n_aload_n 180 rfl 0 rfl rfl (ck DX7_init_1 45 rfl) ?_
  refine n_iconst 181 rfl ic_0 (ck DX7_init_1 46 rfl) ?_
  refine n_put 184 rfl fw_X7_89 rfl rfl rfl (ck DX7_init_1 47 rfl) ?_
  refine n_aload_n 185 rfl 0 rfl rfl (ck DX7_init_1 48 rfl) ?_
  refine n_iconst 186 rfl ic_0 (ck DX7_init_1 49 rfl) ?_
  refine n_put 189 rfl fw_X7_92 rfl rfl rfl (ck DX7_init_2 0 rfl) ?_
  refine n_aload_n 190 rfl 0 rfl rfl (ck DX7_init_2 1 rfl) ?_
  refine n_iconst 191 rfl ic_0 (ck DX7_init_2 2 rfl) ?_
  refine n_put 194 rfl fw_X7_95 rfl rfl rfl (ck DX7_init_2 3 rfl) ?_
  refine n_aload_n 195 rfl 0 rfl rfl (ck DX7_init_2 4 rfl) ?_
  refine n_bipush 197 rfl bp_16 (ck DX7_init_2 5 rfl) ?_
  refine n_newaC 199 rfl (atype := .int) (ty := .int) 0 (N' := 16) (x := (16, .inl (fun _ => 0))) ac_int rfl rfl (fun _ => rfl) (by decide) rfl (Nat.le_of_ble_eq_true rfl) (Nat.le_of_ble_eq_true rfl) (Nat.le_of_ble_eq_true rfl) (ck DX7_init_2 6 rfl) (fun a16 => ?_)
  refine n_dup 200 rfl rfl (ck DX7_init_2 7 rfl) ?_
  refine n_iconst 201 rfl ic_0 (ck DX7_init_2 8 rfl) ?_
  refine n_bipush 203 rfl bp_102 (ck DX7_init_2 9 rfl) ?_
  refine n_iastC 204 rfl (by unfold vp_in; decide) (ck DX7_init_2 10 rfl) ?_
  refine n_dup 205 rfl rfl (ck DX7_init_2 11 rfl) ?_
  refine n_iconst 206 rfl ic_1 (ck DX7_init_2 12 rfl) ?_
  refine n_bipush 208 rfl bp_105 (ck DX7_init_2 13 rfl) ?_
  refine n_iastC 209 rfl (by unfold vp_in; decide) (ck DX7_init_2 14 rfl) ?_
  refine n_dup 210 rfl rfl (ck DX7_init_2 15 rfl) ?_
  refine n_iconst 211 rfl ic_2 (ck DX7_init_2 16 rfl) ?_
  refine n_bipush 213 rfl bp_114 (ck DX7_init_2 17 rfl) ?_
  refine n_iastC 214 rfl (by unfold vp_in; decide) (ck DX7_init_2 18 rfl) ?_
  refine n_dup 215 rfl rfl (ck DX7_init_2 19 rfl) ?_
  refine n_iconst 216 rfl ic_3 (ck DX7_init_2 20 rfl) ?_
  refine n_bipush 218 rfl bp_109 (ck DX7_init_2 21 rfl) ?_
  refine n_iastC 219 rfl (by unfold vp_in; decide) (ck DX7_init_2 22 rfl) ?_
  refine n_dup 220 rfl rfl (ck DX7_init_2 23 rfl) ?_
  refine n_iconst 221 rfl ic_4 (ck DX7_init_2 24 rfl) ?_
  refine n_bipush 223 rfl bp_119 (ck DX7_init_2 25 rfl) ?_
  refine n_iastC 224 rfl (by unfold vp_in; decide) (ck DX7_init_2 26 rfl) ?_
  refine n_dup 225 rfl rfl (ck DX7_init_2 27 rfl) ?_
  refine n_iconst 226 rfl ic_5 (ck DX7_init_2 28 rfl) ?_
  refine n_bipush 228 rfl bp_101 (ck DX7_init_2 29 rfl) ?_
  refine n_iastC 229 rfl (by unfold vp_in; decide) (ck DX7_init_2 30 rfl) ?_
  refine n_dup 230 rfl rfl (ck DX7_init_2 31 rfl) ?_
  refine n_bipush 232 rfl bp_6 (ck DX7_init_2 32 rfl) ?_
  refine n_bipush 234 rfl bp_97 (ck DX7_init_2 33 rfl) ?_
  refine n_iastC 235 rfl (by unfold vp_in; decide) (ck DX7_init_2 34 rfl) ?_
  refine n_dup 236 rfl rfl (ck DX7_init_2 35 rfl) ?_
  refine n_bipush 238 rfl bp_7 (ck DX7_init_2 36 rfl) ?_
  refine n_bipush 240 rfl bp_107 (ck DX7_init_2 37 rfl) ?_
  refine n_iastC 241 rfl (by unfold vp_in; decide) (ck DX7_init_2 38 rfl) ?_
  refine n_dup 242 rfl rfl (ck DX7_init_2 39 rfl) ?_
  refine n_bipush 244 rfl bp_8 (ck DX7_init_2 40 rfl) ?_
  refine n_bipush 246 rfl bp_119 (ck DX7_init_2 41 rfl) ?_
  refine n_iastC 247 rfl (by unfold vp_in; decide) (ck DX7_init_2 42 rfl) ?_
  refine n_dup 248 rfl rfl (ck DX7_init_2 43 rfl) ?_
  refine n_bipush 250 rfl bp_9 (ck DX7_init_2 44 rfl) ?_
  refine n_bipush 252 rfl bp_105 (ck DX7_init_2 45 rfl) ?_
  refine n_iastC 253 rfl (by unfold vp_in; decide) (ck DX7_init_2 46 rfl) ?_
  refine n_dup 254 rfl rfl (ck DX7_init_2 47 rfl) ?_
  refine n_bipush 256 rfl bp_10 (ck DX7_init_2 48 rfl) ?_
  refine n_bipush 258 rfl bp_110 (ck DX7_init_2 49 rfl) ?_
  refine n_iastC 259 rfl (by unfold vp_in; decide) (ck DX7_init_3 0 rfl) ?_
  refine n_dup 260 rfl rfl (ck DX7_init_3 1 rfl) ?_
  refine n_bipush 262 rfl bp_11 (ck DX7_init_3 2 rfl) ?_
  refine n_bipush 264 rfl bp_100 (ck DX7_init_3 3 rfl) ?_
  refine n_iastC 265 rfl (by unfold vp_in; decide) (ck DX7_init_3 4 rfl) ?_
  refine n_dup 266 rfl rfl (ck DX7_init_3 5 rfl) ?_
  refine n_bipush 268 rfl bp_12 (ck DX7_init_3 6 rfl) ?_
  refine n_bipush 270 rfl bp_108 (ck DX7_init_3 7 rfl) ?_
  refine n_iastC 271 rfl (by unfold vp_in; decide) (ck DX7_init_3 8 rfl) ?_
  refine n_dup 272 rfl rfl (ck DX7_init_3 9 rfl) ?_
  refine n_bipush 274 rfl bp_13 (ck DX7_init_3 10 rfl) ?_
  refine n_bipush 276 rfl bp_97 (ck DX7_init_3 11 rfl) ?_
  refine n_iastC 277 rfl (by unfold vp_in; decide) (ck DX7_init_3 12 rfl) ?_
  refine n_dup 278 rfl rfl (ck DX7_init_3 13 rfl) ?_
  refine n_bipush 280 rfl bp_14 (ck DX7_init_3 14 rfl) ?_
  refine n_bipush 282 rfl bp_115 (ck DX7_init_3 15 rfl) ?_
  refine n_iastC 283 rfl (by unfold vp_in; decide) (ck DX7_init_3 16 rfl) ?_
  refine n_dup 284 rfl rfl (ck DX7_init_3 17 rfl) ?_
  refine n_bipush 286 rfl bp_15 (ck DX7_init_3 18 rfl) ?_
  refine n_bipush 288 rfl bp_104 (ck DX7_init_3 19 rfl) ?_
  refine n_iastC 289 rfl (by unfold vp_in; decide) (ck DX7_init_3 20 rfl) ?_
  refine n_rowC (h00.1 112) row_112 ?_
  refine n_putF 292 rfl ff_X7_98 rfl rfl rfl (ck DX7_init_3 21 rfl) ?_
  refine n_aload_n 293 rfl 0 rfl rfl (ck DX7_init_3 22 rfl) ?_
  refine n_bipush 295 rfl bp_100 (ck DX7_init_3 23 rfl) ?_
  refine n_newaC 297 rfl (atype := .boolean) (ty := .boolean) 3 (N' := 100) (x := (100, .inl (fun _ => 0))) ac_boolean rfl rfl (fun _ => rfl) (by decide) rfl (Nat.le_of_ble_eq_true rfl) (Nat.le_of_ble_eq_true rfl) (Nat.le_of_ble_eq_true rfl) (ck DX7_init_3 24 rfl) (fun a17 => ?_)
  refine n_putF 300 rfl ff_X7_101 rfl rfl rfl (ck DX7_init_3 25 rfl) ?_
  refine n_aload_n 301 rfl 0 rfl rfl (ck DX7_init_3 26 rfl) ?_
  refine n_ldc 303 rfl cn_X7_105 (ck DX7_init_3 27 rfl) ?_
  refine n_put 306 rfl fw_X7_106 rfl rfl rfl (ck DX7_init_3 28 rfl) ?_
  refine n_aload_n 307 rfl 0 rfl rfl (ck DX7_init_3 29 rfl) ?_
  refine n_sipush 310 rfl sp_9999 (ck DX7_init_3 30 rfl) ?_
  refine n_put 313 rfl fw_X7_109 rfl rfl rfl (ck DX7_init_3 31 rfl) ?_
  refine n_aload_n 314 rfl 0 rfl rfl (ck DX7_init_3 32 rfl) ?_
  refine n_iconst 315 rfl ic_3 (ck DX7_init_3 33 rfl) ?_
  refine n_newaC 317 rfl (atype := .int) (ty := .int) 0 (N' := 3) (x := (3, .inl (fun _ => 0))) ac_int rfl rfl (fun _ => rfl) (by decide) rfl (Nat.le_of_ble_eq_true rfl) (Nat.le_of_ble_eq_true rfl) (Nat.le_of_ble_eq_true rfl) (ck DX7_init_3 34 rfl) (fun a18 => ?_)
  refine n_putF 320 rfl ff_X7_112 rfl rfl rfl (ck DX7_init_3 35 rfl) ?_
  refine n_aload_n 321 rfl 0 rfl rfl (ck DX7_init_3 36 rfl) ?_
  refine n_iconst 322 rfl ic_0 (ck DX7_init_3 37 rfl) ?_
  refine n_put 325 rfl fw_X7_115 rfl rfl rfl (ck DX7_init_3 38 rfl) ?_
  refine n_aload_n 326 rfl 0 rfl rfl (ck DX7_init_3 39 rfl) ?_
  refine n_iconst 327 rfl ic_0 (ck DX7_init_3 40 rfl) ?_
  refine n_put 330 rfl fw_X7_118 rfl rfl rfl (ck DX7_init_3 41 rfl) ?_
  refine n_aload_n 331 rfl 0 rfl rfl (ck DX7_init_3 42 rfl) ?_
  refine n_iconst 332 rfl ic_0 (ck DX7_init_3 43 rfl) ?_
  refine n_put 335 rfl fw_X7_121 rfl rfl rfl (ck DX7_init_3 44 rfl) ?_
  refine n_aload_n 336 rfl 0 rfl rfl (ck DX7_init_3 45 rfl) ?_
  refine n_iconst 337 rfl ic_0 (ck DX7_init_3 46 rfl) ?_
  refine n_put 340 rfl fw_X7_124 rfl rfl rfl (ck DX7_init_3 47 rfl) ?_
  refine n_aload_n 341 rfl 0 rfl rfl (ck DX7_init_3 48 rfl) ?_
  refine n_iconst 342 rfl ic_0 (ck DX7_init_3 49 rfl) ?_
  refine n_put 345 rfl fw_X7_127 rfl rfl rfl (ck DX7_init_4 0 rfl) ?_
  refine n_aload_n 346 rfl 0 rfl rfl (ck DX7_init_4 1 rfl) ?_
  refine n_bipush 348 rfl bp_6 (ck DX7_init_4 2 rfl) ?_
  refine n_newaC 350 rfl (atype := .int) (ty := .int) 0 (N' := 6) (x := (6, .inl (fun _ => 0))) ac_int rfl rfl (fun _ => rfl) (by decide) rfl (Nat.le_of_ble_eq_true rfl) (Nat.le_of_ble_eq_true rfl) (Nat.le_of_ble_eq_true rfl) (ck DX7_init_4 3 rfl) (fun a19 => ?_)
  refine n_putF 353 rfl ff_X7_130 rfl rfl rfl (ck DX7_init_4 4 rfl) ?_
  refine n_aload_n 354 rfl 0 rfl rfl (ck DX7_init_4 5 rfl) ?_
  refine n_bipush 356 rfl bp_6 (ck DX7_init_4 6 rfl) ?_
  refine n_newaC 358 rfl (atype := .int) (ty := .int) 0 (N' := 6) (x := (6, .inl (fun _ => 0))) ac_int rfl rfl (fun _ => rfl) (by decide) rfl (Nat.le_of_ble_eq_true rfl) (Nat.le_of_ble_eq_true rfl) (Nat.le_of_ble_eq_true rfl) (ck DX7_init_4 7 rfl) (fun a20 => ?_)
  refine n_putF 361 rfl ff_X7_133 rfl rfl rfl (ck DX7_init_4 8 rfl) ?_
  refine n_aload_n 362 rfl 0 rfl rfl (ck DX7_init_4 9 rfl) ?_
  refine n_bipush 364 rfl bp_6 (ck DX7_init_4 10 rfl) ?_
  refine n_newaC 366 rfl (atype := .int) (ty := .int) 0 (N' := 6) (x := (6, .inl (fun _ => 0))) ac_int rfl rfl (fun _ => rfl) (by decide) rfl (Nat.le_of_ble_eq_true rfl) (Nat.le_of_ble_eq_true rfl) (Nat.le_of_ble_eq_true rfl) (ck DX7_init_4 11 rfl) (fun a21 => ?_)
  refine n_putF 369 rfl ff_X7_136 rfl rfl rfl (ck DX7_init_4 12 rfl) ?_
  refine n_aload_n 370 rfl 0 rfl rfl (ck DX7_init_4 13 rfl) ?_
  refine n_iconst 371 rfl ic_3 (ck DX7_init_4 14 rfl) ?_
  refine n_newaC 373 rfl (atype := .int) (ty := .int) 0 (N' := 3) (x := (3, .inl (fun _ => 0))) ac_int rfl rfl (fun _ => rfl) (by decide) rfl (Nat.le_of_ble_eq_true rfl) (Nat.le_of_ble_eq_true rfl) (Nat.le_of_ble_eq_true rfl) (ck DX7_init_4 15 rfl) (fun a22 => ?_)
  refine n_putF 376 rfl ff_X7_139 rfl rfl rfl (ck DX7_init_4 16 rfl) ?_
  refine n_aload_n 377 rfl 0 rfl rfl (ck DX7_init_4 17 rfl) ?_
  refine n_iconst 378 rfl ic_0 (ck DX7_init_4 18 rfl) ?_
  refine n_put 381 rfl fw_X7_142 rfl rfl rfl (ck DX7_init_4 19 rfl) ?_
  refine n_aload_n 382 rfl 0 rfl rfl (ck DX7_init_4 20 rfl) ?_
  refine n_iconst 383 rfl ic_3 (ck DX7_init_4 21 rfl) ?_
  refine n_newaC 385 rfl (atype := .int) (ty := .int) 0 (N' := 3) (x := (3, .inl (fun _ => 0))) ac_int rfl rfl (fun _ => rfl) (by decide) rfl (Nat.le_of_ble_eq_true rfl) (Nat.le_of_ble_eq_true rfl) (Nat.le_of_ble_eq_true rfl) (ck DX7_init_4 22 rfl) (fun a23 => ?_)
  refine n_putF 388 rfl ff_X7_145 rfl rfl rfl (ck DX7_init_4 23 rfl) ?_
  refine n_aload_n 389 rfl 0 rfl rfl (ck DX7_init_4 24 rfl) ?_
  refine n_iconst 390 rfl ic_0 (ck DX7_init_4 25 rfl) ?_
  refine n_put 393 rfl fw_X7_148 rfl rfl rfl (ck DX7_init_4 26 rfl) ?_
  refine n_aload_n 394 rfl 0 rfl rfl (ck DX7_init_4 27 rfl) ?_
  refine n_iconst 395 rfl ic_0 (ck DX7_init_4 28 rfl) ?_
  refine n_put 398 rfl fw_X7_151 rfl rfl rfl (ck DX7_init_4 29 rfl) ?_
  refine n_aload_n 399 rfl 0 rfl rfl (ck DX7_init_4 30 rfl) ?_
  refine n_iconst 400 rfl ic_3 (ck DX7_init_4 31 rfl) ?_
  refine n_newaC 402 rfl (atype := .int) (ty := .int) 0 (N' := 3) (x := (3, .inl (fun _ => 0))) ac_int rfl rfl (fun _ => rfl) (by decide) rfl (Nat.le_of_ble_eq_true rfl) (Nat.le_of_ble_eq_true rfl) (Nat.le_of_ble_eq_true rfl) (ck DX7_init_4 32 rfl) (fun a24 => ?_)
  refine n_putF 405 rfl ff_X7_154 rfl rfl rfl (ck DX7_init_4 33 rfl) ?_
  refine n_aload_n 406 rfl 0 rfl rfl (ck DX7_init_4 34 rfl) ?_
  refine n_iconst 407 rfl ic_0 (ck DX7_init_4 35 rfl) ?_
  refine n_put 410 rfl fw_X7_157 rfl rfl rfl (ck DX7_init_4 36 rfl) ?_
  refine n_aload_n 411 rfl 0 rfl rfl (ck DX7_init_4 37 rfl) ?_
  refine n_iconst 412 rfl ic_5 (ck DX7_init_4 38 rfl) ?_
  refine n_newaC 414 rfl (atype := .int) (ty := .int) 0 (N' := 5) (x := (5, .inl (fun _ => 0))) ac_int rfl rfl (fun _ => rfl) (by decide) rfl (Nat.le_of_ble_eq_true rfl) (Nat.le_of_ble_eq_true rfl) (Nat.le_of_ble_eq_true rfl) (ck DX7_init_4 39 rfl) (fun a25 => ?_)
  refine n_putF 417 rfl ff_X7_160 rfl rfl rfl (ck DX7_init_4 40 rfl) ?_
  refine n_aload_n 418 rfl 0 rfl rfl (ck DX7_init_4 41 rfl) ?_
  refine n_iconst 419 rfl ic_5 (ck DX7_init_4 42 rfl) ?_
  refine n_newaC 421 rfl (atype := .int) (ty := .int) 0 (N' := 5) (x := (5, .inl (fun _ => 0))) ac_int rfl rfl (fun _ => rfl) (by decide) rfl (Nat.le_of_ble_eq_true rfl) (Nat.le_of_ble_eq_true rfl) (Nat.le_of_ble_eq_true rfl) (ck DX7_init_4 43 rfl) (fun a26 => ?_)
  refine n_putF 424 rfl ff_X7_163 rfl rfl rfl (ck DX7_init_4 44 rfl) ?_
  refine n_aload_n 425 rfl 0 rfl rfl (ck DX7_init_4 45 rfl) ?_
  refine n_iconst 426 rfl ic_0 (ck DX7_init_4 46 rfl) ?_
  refine n_put 429 rfl fw_X7_166 rfl rfl rfl (ck DX7_init_4 47 rfl) ?_
  refine n_aload_n 430 rfl 0 rfl rfl (ck DX7_init_4 48 rfl) ?_
  refine n_iconst 431 rfl ic_0 (ck DX7_init_4 49 rfl) ?_
  refine n_put 434 rfl fw_X7_169 rfl rfl rfl (ck DX7_init_5 0 rfl) ?_
  refine n_aload_n 435 rfl 0 rfl rfl (ck DX7_init_5 1 rfl) ?_
  refine n_bipush 437 rfl bp_10 (ck DX7_init_5 2 rfl) ?_
  refine n_newaC 439 rfl (atype := .int) (ty := .int) 0 (N' := 10) (x := (10, .inl (fun _ => 0))) ac_int rfl rfl (fun _ => rfl) (by decide) rfl (Nat.le_of_ble_eq_true rfl) (Nat.le_of_ble_eq_true rfl) (Nat.le_of_ble_eq_true rfl) (ck DX7_init_5 3 rfl) (fun a27 => ?_)
  refine n_putF 442 rfl ff_X7_172 rfl rfl rfl (ck DX7_init_5 4 rfl) ?_
  refine n_aload_n 443 rfl 0 rfl rfl (ck DX7_init_5 5 rfl) ?_
  refine n_bipush 445 rfl bp_10 (ck DX7_init_5 6 rfl) ?_
  refine n_newaC 447 rfl (atype := .int) (ty := .int) 0 (N' := 10) (x := (10, .inl (fun _ => 0))) ac_int rfl rfl (fun _ => rfl) (by decide) rfl (Nat.le_of_ble_eq_true rfl) (Nat.le_of_ble_eq_true rfl) (Nat.le_of_ble_eq_true rfl) (ck DX7_init_5 7 rfl) (fun a28 => ?_)
  refine n_putF 450 rfl ff_X7_175 rfl rfl rfl (ck DX7_init_5 8 rfl) ?_
  refine n_aload_n 451 rfl 0 rfl rfl (ck DX7_init_5 9 rfl) ?_
  refine n_bipush 453 rfl bp_8 (ck DX7_init_5 10 rfl) ?_
  refine n_newaC 455 rfl (atype := .int) (ty := .int) 0 (N' := 8) (x := (8, .inl (fun _ => 0))) ac_int rfl rfl (fun _ => rfl) (by decide) rfl (Nat.le_of_ble_eq_true rfl) (Nat.le_of_ble_eq_true rfl) (Nat.le_of_ble_eq_true rfl) (ck DX7_init_5 11 rfl) (fun a29 => ?_)
  refine n_putF 458 rfl ff_X7_178 rfl rfl rfl (ck DX7_init_5 12 rfl) ?_
  refine n_aload_n 459 rfl 0 rfl rfl (ck DX7_init_5 13 rfl) ?_
  refine n_bipush 461 rfl bp_8 (ck DX7_init_5 14 rfl) ?_
  refine n_newaC 463 rfl (atype := .int) (ty := .int) 0 (N' := 8) (x := (8, .inl (fun _ => 0))) ac_int rfl rfl (fun _ => rfl) (by decide) rfl (Nat.le_of_ble_eq_true rfl) (Nat.le_of_ble_eq_true rfl) (Nat.le_of_ble_eq_true rfl) (ck DX7_init_5 15 rfl) (fun a30 => ?_)
  refine n_putF 466 rfl ff_X7_181 rfl rfl rfl (ck DX7_init_5 16 rfl) ?_
  refine n_aload_n 467 rfl 0 rfl rfl (ck DX7_init_5 17 rfl) ?_
  refine n_iconst 468 rfl ic_0 (ck DX7_init_5 18 rfl) ?_
  refine n_put 471 rfl fw_X7_184 rfl rfl rfl (ck DX7_init_5 19 rfl) ?_
  refine n_aload_n 472 rfl 0 rfl rfl (ck DX7_init_5 20 rfl) ?_
  refine n_iconst 473 rfl ic_m1 (ck DX7_init_5 21 rfl) ?_
  refine n_put 476 rfl fw_X7_188 rfl rfl rfl (ck DX7_init_5 22 rfl) ?_
  refine n_aload_n 477 rfl 0 rfl rfl (ck DX7_init_5 23 rfl) ?_
  refine n_iconst 478 rfl ic_0 (ck DX7_init_5 24 rfl) ?_
  refine n_put 481 rfl fw_X7_191 rfl rfl rfl (ck DX7_init_5 25 rfl) ?_
  refine n_aload_n 482 rfl 0 rfl rfl (ck DX7_init_5 26 rfl) ?_
  refine n_iconst 483 rfl ic_0 (ck DX7_init_5 27 rfl) ?_
  refine n_put 486 rfl fw_X7_194 rfl rfl rfl (ck DX7_init_5 28 rfl) ?_
  refine n_aload_n 487 rfl 0 rfl rfl (ck DX7_init_5 29 rfl) ?_
  refine n_iconst 488 rfl ic_0 (ck DX7_init_5 30 rfl) ?_
  refine n_put 491 rfl fw_X7_197 rfl rfl rfl (ck DX7_init_5 31 rfl) ?_
  refine n_aload_n 492 rfl 0 rfl rfl (ck DX7_init_5 32 rfl) ?_
  refine n_iconst 493 rfl ic_0 (ck DX7_init_5 33 rfl) ?_
  refine n_put 496 rfl fw_X7_200 rfl rfl rfl (ck DX7_init_5 34 rfl) ?_
  refine n_aload_n 497 rfl 0 rfl rfl (ck DX7_init_5 35 rfl) ?_
  refine n_iconst 498 rfl ic_0 (ck DX7_init_5 36 rfl) ?_
  refine n_put 501 rfl fw_X7_203 rfl rfl rfl (ck DX7_init_5 37 rfl) ?_
  refine n_aload_n 502 rfl 0 rfl rfl (ck DX7_init_5 38 rfl) ?_
  refine n_iconst 503 rfl ic_0 (ck DX7_init_5 39 rfl) ?_
  refine n_put 506 rfl fw_X7_206 rfl rfl rfl (ck DX7_init_5 40 rfl) ?_
  refine n_aload_n 507 rfl 0 rfl rfl (ck DX7_init_5 41 rfl) ?_
  refine n_iconst 508 rfl ic_0 (ck DX7_init_5 42 rfl) ?_
  refine n_put 511 rfl fw_X7_209 rfl rfl rfl (ck DX7_init_5 43 rfl) ?_
  refine n_aload_n 512 rfl 0 rfl rfl (ck DX7_init_5 44 rfl) ?_
  refine n_iconst 513 rfl ic_0 (ck DX7_init_5 45 rfl) ?_
  refine n_put 516 rfl fw_X7_212 rfl rfl rfl (ck DX7_init_5 46 rfl) ?_
  refine n_aload_n 517 rfl 0 rfl rfl (ck DX7_init_5 47 rfl) ?_
  refine n_iconst 518 rfl ic_0 (ck DX7_init_5 48 rfl) ?_
  refine n_put 521 rfl fw_X7_215 rfl rfl rfl (ck DX7_init_5 49 rfl) ?_
  refine n_aload_n 522 rfl 0 rfl rfl (ck DX7_init_6 0 rfl) ?_
  refine n_bipush 524 rfl bp_6 (ck DX7_init_6 1 rfl) ?_
  refine n_newaC 526 rfl (atype := .int) (ty := .int) 0 (N' := 6) (x := (6, .inl (fun _ => 0))) ac_int rfl rfl (fun _ => rfl) (by decide) rfl (Nat.le_of_ble_eq_true rfl) (Nat.le_of_ble_eq_true rfl) (Nat.le_of_ble_eq_true rfl) (ck DX7_init_6 2 rfl) (fun a31 => ?_)
  refine n_putF 529 rfl ff_X7_218 rfl rfl rfl (ck DX7_init_6 3 rfl) ?_
  refine n_aload_n 530 rfl 0 rfl rfl (ck DX7_init_6 4 rfl) ?_
  refine n_bipush 532 rfl bp_6 (ck DX7_init_6 5 rfl) ?_
  refine n_newaC 534 rfl (atype := .int) (ty := .int) 0 (N' := 6) (x := (6, .inl (fun _ => 0))) ac_int rfl rfl (fun _ => rfl) (by decide) rfl (Nat.le_of_ble_eq_true rfl) (Nat.le_of_ble_eq_true rfl) (Nat.le_of_ble_eq_true rfl) (ck DX7_init_6 6 rfl) (fun a32 => ?_)
  refine n_putF 537 rfl ff_X7_221 rfl rfl rfl (ck DX7_init_6 7 rfl) ?_
  refine n_aload_n 538 rfl 0 rfl rfl (ck DX7_init_6 8 rfl) ?_
  refine n_bipush 540 rfl bp_6 (ck DX7_init_6 9 rfl) ?_
  refine n_newaC 542 rfl (atype := .int) (ty := .int) 0 (N' := 6) (x := (6, .inl (fun _ => 0))) ac_int rfl rfl (fun _ => rfl) (by decide) rfl (Nat.le_of_ble_eq_true rfl) (Nat.le_of_ble_eq_true rfl) (Nat.le_of_ble_eq_true rfl) (ck DX7_init_6 10 rfl) (fun a33 => ?_)
  refine n_putF 545 rfl ff_X7_224 rfl rfl rfl (ck DX7_init_6 11 rfl) ?_
  refine n_aload_n 546 rfl 0 rfl rfl (ck DX7_init_6 12 rfl) ?_
  refine n_bipush 548 rfl bp_6 (ck DX7_init_6 13 rfl) ?_
  refine n_newaC 550 rfl (atype := .int) (ty := .int) 0 (N' := 6) (x := (6, .inl (fun _ => 0))) ac_int rfl rfl (fun _ => rfl) (by decide) rfl (Nat.le_of_ble_eq_true rfl) (Nat.le_of_ble_eq_true rfl) (Nat.le_of_ble_eq_true rfl) (ck DX7_init_6 14 rfl) (fun a34 => ?_)
  refine n_putF 553 rfl ff_X7_227 rfl rfl rfl (ck DX7_init_6 15 rfl) ?_
  refine n_aload_n 554 rfl 0 rfl rfl (ck DX7_init_6 16 rfl) ?_
  refine n_bipush 556 rfl bp_6 (ck DX7_init_6 17 rfl) ?_
  refine n_newaC 558 rfl (atype := .int) (ty := .int) 0 (N' := 6) (x := (6, .inl (fun _ => 0))) ac_int rfl rfl (fun _ => rfl) (by decide) rfl (Nat.le_of_ble_eq_true rfl) (Nat.le_of_ble_eq_true rfl) (Nat.le_of_ble_eq_true rfl) (ck DX7_init_6 18 rfl) (fun a35 => ?_)
  refine n_putF 561 rfl ff_X7_230 rfl rfl rfl (ck DX7_init_6 19 rfl) ?_
  refine n_aload_n 562 rfl 0 rfl rfl (ck DX7_init_6 20 rfl) ?_
  refine n_bipush 564 rfl bp_24 (ck DX7_init_6 21 rfl) ?_
  refine n_newaC 566 rfl (atype := .int) (ty := .int) 0 (N' := 24) (x := (24, .inl (fun _ => 0))) ac_int rfl rfl (fun _ => rfl) (by decide) rfl (Nat.le_of_ble_eq_true rfl) (Nat.le_of_ble_eq_true rfl) (Nat.le_of_ble_eq_true rfl) (ck DX7_init_6 22 rfl) (fun a36 => ?_)
  refine n_putF 569 rfl ff_X7_233 rfl rfl rfl (ck DX7_init_6 23 rfl) ?_
  refine n_aload_n 570 rfl 0 rfl rfl (ck DX7_init_6 24 rfl) ?_
  refine n_iconst 571 rfl ic_3 (ck DX7_init_6 25 rfl) ?_
  refine n_newaC 573 rfl (atype := .int) (ty := .int) 0 (N' := 3) (x := (3, .inl (fun _ => 0))) ac_int rfl rfl (fun _ => rfl) (by decide) rfl (Nat.le_of_ble_eq_true rfl) (Nat.le_of_ble_eq_true rfl) (Nat.le_of_ble_eq_true rfl) (ck DX7_init_6 26 rfl) (fun a37 => ?_)
  refine n_putF 576 rfl ff_X7_236 rfl rfl rfl (ck DX7_init_6 27 rfl) ?_
  refine n_aload_n 577 rfl 0 rfl rfl (ck DX7_init_6 28 rfl) ?_
  refine n_iconst 578 rfl ic_5 (ck DX7_init_6 29 rfl) ?_
  refine n_newaC 580 rfl (atype := .int) (ty := .int) 0 (N' := 5) (x := (5, .inl (fun _ => 0))) ac_int rfl rfl (fun _ => rfl) (by decide) rfl (Nat.le_of_ble_eq_true rfl) (Nat.le_of_ble_eq_true rfl) (Nat.le_of_ble_eq_true rfl) (ck DX7_init_6 30 rfl) (fun a38 => ?_)
  refine n_putF 583 rfl ff_X7_239 rfl rfl rfl (ck DX7_init_6 31 rfl) ?_
  refine n_aload_n 584 rfl 0 rfl rfl (ck DX7_init_6 32 rfl) ?_
  refine n_iconst 585 rfl ic_5 (ck DX7_init_6 33 rfl) ?_
  refine n_newaC 587 rfl (atype := .int) (ty := .int) 0 (N' := 5) (x := (5, .inl (fun _ => 0))) ac_int rfl rfl (fun _ => rfl) (by decide) rfl (Nat.le_of_ble_eq_true rfl) (Nat.le_of_ble_eq_true rfl) (Nat.le_of_ble_eq_true rfl) (ck DX7_init_6 34 rfl) (fun a39 => ?_)
  refine n_putF 590 rfl ff_X7_242 rfl rfl rfl (ck DX7_init_6 35 rfl) ?_
  refine n_aload_n 591 rfl 0 rfl rfl (ck DX7_init_6 36 rfl) ?_
  refine n_bipush 593 rfl bp_10 (ck DX7_init_6 37 rfl) ?_
  refine n_newaC 595 rfl (atype := .int) (ty := .int) 0 (N' := 10) (x := (10, .inl (fun _ => 0))) ac_int rfl rfl (fun _ => rfl) (by decide) rfl (Nat.le_of_ble_eq_true rfl) (Nat.le_of_ble_eq_true rfl) (Nat.le_of_ble_eq_true rfl) (ck DX7_init_6 38 rfl) (fun a40 => ?_)
  refine n_putF 598 rfl ff_X7_245 rfl rfl rfl (ck DX7_init_6 39 rfl) ?_
  refine n_aload_n 599 rfl 0 rfl rfl (ck DX7_init_6 40 rfl) ?_
  refine n_bipush 601 rfl bp_10 (ck DX7_init_6 41 rfl) ?_
  refine n_newaC 603 rfl (atype := .int) (ty := .int) 0 (N' := 10) (x := (10, .inl (fun _ => 0))) ac_int rfl rfl (fun _ => rfl) (by decide) rfl (Nat.le_of_ble_eq_true rfl) (Nat.le_of_ble_eq_true rfl) (Nat.le_of_ble_eq_true rfl) (ck DX7_init_6 42 rfl) (fun a41 => ?_)
  refine n_putF 606 rfl ff_X7_248 rfl rfl rfl (ck DX7_init_6 43 rfl) ?_
  refine n_aload_n 607 rfl 0 rfl rfl (ck DX7_init_6 44 rfl) ?_
  refine n_bipush 609 rfl bp_8 (ck DX7_init_6 45 rfl) ?_
  refine n_newaC 611 rfl (atype := .int) (ty := .int) 0 (N' := 8) (x := (8, .inl (fun _ => 0))) ac_int rfl rfl (fun _ => rfl) (by decide) rfl (Nat.le_of_ble_eq_true rfl) (Nat.le_of_ble_eq_true rfl) (Nat.le_of_ble_eq_true rfl) (ck DX7_init_6 46 rfl) (fun a42 => ?_)
  refine n_putF 614 rfl ff_X7_251 rfl rfl rfl (ck DX7_init_6 47 rfl) ?_
  refine n_aload_n 615 rfl 0 rfl rfl (ck DX7_init_6 48 rfl) ?_
  refine n_bipush 617 rfl bp_8 (ck DX7_init_6 49 rfl) ?_
  refine n_newaC 619 rfl (atype := .int) (ty := .int) 0 (N' := 8) (x := (8, .inl (fun _ => 0))) ac_int rfl rfl (fun _ => rfl) (by decide) rfl (Nat.le_of_ble_eq_true rfl) (Nat.le_of_ble_eq_true rfl) (Nat.le_of_ble_eq_true rfl) (ck DX7_init_7 0 rfl) (fun a43 => ?_)
  refine n_putF 622 rfl ff_X7_254 rfl rfl rfl (ck DX7_init_7 1 rfl) ?_
  refine n_aload_n 623 rfl 0 rfl rfl (ck DX7_init_7 2 rfl) ?_
  refine n_iconst 624 rfl ic_0 (ck DX7_init_7 3 rfl) ?_
  refine n_put 627 rfl fw_X7_257 rfl rfl rfl (ck DX7_init_7 4 rfl) ?_
  refine n_aload_n 628 rfl 0 rfl rfl (ck DX7_init_7 5 rfl) ?_
  refine n_bipush 630 rfl bp_20 (ck DX7_init_7 6 rfl) ?_
  refine n_newaC 632 rfl (atype := .int) (ty := .int) 0 (N' := 20) (x := (20, .inl (fun _ => 0))) ac_int rfl rfl (fun _ => rfl) (by decide) rfl (Nat.le_of_ble_eq_true rfl) (Nat.le_of_ble_eq_true rfl) (Nat.le_of_ble_eq_true rfl) (ck DX7_init_7 7 rfl) (fun a44 => ?_)
  refine n_putF 635 rfl ff_X7_260 rfl rfl rfl (ck DX7_init_7 8 rfl) ?_
  refine n_aload_n 636 rfl 0 rfl rfl (ck DX7_init_7 9 rfl) ?_
  refine n_bipush 638 rfl bp_6 (ck DX7_init_7 10 rfl) ?_
  refine n_newaC 640 rfl (atype := .int) (ty := .int) 0 (N' := 6) (x := (6, .inl (fun _ => 0))) ac_int rfl rfl (fun _ => rfl) (by decide) rfl (Nat.le_of_ble_eq_true rfl) (Nat.le_of_ble_eq_true rfl) (Nat.le_of_ble_eq_true rfl) (ck DX7_init_7 11 rfl) (fun a45 => ?_)
  refine n_dup 641 rfl rfl (ck DX7_init_7 12 rfl) ?_
  refine n_iconst 642 rfl ic_0 (ck DX7_init_7 13 rfl) ?_
  refine n_iconst 643 rfl ic_m1 (ck DX7_init_7 14 rfl) ?_
  refine n_iastC 644 rfl (by unfold vp_in; decide) (ck DX7_init_7 15 rfl) ?_
  refine n_dup 645 rfl rfl (ck DX7_init_7 16 rfl) ?_
  refine n_iconst 646 rfl ic_1 (ck DX7_init_7 17 rfl) ?_
  refine n_iconst 647 rfl ic_m1 (ck DX7_init_7 18 rfl) ?_
  refine n_iastC 648 rfl (by unfold vp_in; decide) (ck DX7_init_7 19 rfl) ?_
  refine n_dup 649 rfl rfl (ck DX7_init_7 20 rfl) ?_
  refine n_iconst 650 rfl ic_2 (ck DX7_init_7 21 rfl) ?_
  refine n_iconst 651 rfl ic_m1 (ck DX7_init_7 22 rfl) ?_
  refine n_iastC 652 rfl (by unfold vp_in; decide) (ck DX7_init_7 23 rfl) ?_
  refine n_dup 653 rfl rfl (ck DX7_init_7 24 rfl) ?_
  refine n_iconst 654 rfl ic_3 (ck DX7_init_7 25 rfl) ?_
  refine n_iconst 655 rfl ic_m1 (ck DX7_init_7 26 rfl) ?_
  refine n_iastC 656 rfl (by unfold vp_in; decide) (ck DX7_init_7 27 rfl) ?_
  refine n_dup 657 rfl rfl (ck DX7_init_7 28 rfl) ?_
  refine n_iconst 658 rfl ic_4 (ck DX7_init_7 29 rfl) ?_
  refine n_iconst 659 rfl ic_m1 (ck DX7_init_7 30 rfl) ?_
  refine n_iastC 660 rfl (by unfold vp_in; decide) (ck DX7_init_7 31 rfl) ?_
  refine n_dup 661 rfl rfl (ck DX7_init_7 32 rfl) ?_
  refine n_iconst 662 rfl ic_5 (ck DX7_init_7 33 rfl) ?_
  refine n_iconst 663 rfl ic_m1 (ck DX7_init_7 34 rfl) ?_
  refine n_iastC 664 rfl (by unfold vp_in; decide) (ck DX7_init_7 35 rfl) ?_
  refine n_rowC (h00.1 141) row_141 ?_
  refine n_putF 667 rfl ff_X7_263 rfl rfl rfl (ck DX7_init_7 36 rfl) ?_
  refine n_aload_n 668 rfl 0 rfl rfl (ck DX7_init_7 37 rfl) ?_
  refine n_bipush 670 rfl bp_6 (ck DX7_init_7 38 rfl) ?_
  refine n_newaC 672 rfl (atype := .int) (ty := .int) 0 (N' := 6) (x := (6, .inl (fun _ => 0))) ac_int rfl rfl (fun _ => rfl) (by decide) rfl (Nat.le_of_ble_eq_true rfl) (Nat.le_of_ble_eq_true rfl) (Nat.le_of_ble_eq_true rfl) (ck DX7_init_7 39 rfl) (fun a46 => ?_)
  refine n_putF 675 rfl ff_X7_266 rfl rfl rfl (ck DX7_init_7 40 rfl) ?_
  refine n_aload_n 676 rfl 0 rfl rfl (ck DX7_init_7 41 rfl) ?_
  refine n_sipush 679 rfl sp_360 (ck DX7_init_7 42 rfl) ?_
  refine n_newaC 681 rfl (atype := .long) (ty := .long) 1 (N' := 360) (x := (360, .inr (.inl (fun _ => 0)))) ac_long rfl rfl (fun _ => rfl) (by decide) rfl (Nat.le_of_ble_eq_true rfl) (Nat.le_of_ble_eq_true rfl) (Nat.le_of_ble_eq_true rfl) (ck DX7_init_7 43 rfl) (fun a47 => ?_)
  refine n_putF 684 rfl ff_X7_269 rfl rfl rfl (ck DX7_init_7 44 rfl) ?_
  refine n_aload_n 685 rfl 0 rfl rfl (ck DX7_init_7 45 rfl) ?_
  refine n_bipush 687 rfl bp_60 (ck DX7_init_7 46 rfl) ?_
  refine n_newaC 689 rfl (atype := .long) (ty := .long) 1 (N' := 60) (x := (60, .inr (.inl (fun _ => 0)))) ac_long rfl rfl (fun _ => rfl) (by decide) rfl (Nat.le_of_ble_eq_true rfl) (Nat.le_of_ble_eq_true rfl) (Nat.le_of_ble_eq_true rfl) (ck DX7_init_7 47 rfl) (fun a48 => ?_)
  refine n_putF 692 rfl ff_X7_273 rfl rfl rfl (ck DX7_init_7 48 rfl) ?_
  obtain ⟨as, has⟩ : ∃ as : Nat → Nat, as = fun k => ([q, a1, a2, a3, a4, a5, a6, a7, a8, a9, a10, a11, a12, a13, a14, a15, a16, a17, a18, a19, a20, a21, a22, a23, a24, a25, a26, a27, a28, a29, a30, a31, a32, a33, a34, a35, a36, a37, a38, a39, a40, a41, a42, a43, a44, a45, a46, a47, a48] : List Nat).getD (k - 96) 0 := ⟨_, rfl⟩
  have e96 : as 96 = q := by rw [has]; rfl
  have e97 : as 97 = a1 := by rw [has]; rfl
  have e98 : as 98 = a2 := by rw [has]; rfl
  have e99 : as 99 = a3 := by rw [has]; rfl
  have e100 : as 100 = a4 := by rw [has]; rfl
  have e101 : as 101 = a5 := by rw [has]; rfl
  have e102 : as 102 = a6 := by rw [has]; rfl
  have e103 : as 103 = a7 := by rw [has]; rfl
  have e104 : as 104 = a8 := by rw [has]; rfl
  have e105 : as 105 = a9 := by rw [has]; rfl
  have e106 : as 106 = a10 := by rw [has]; rfl
  have e107 : as 107 = a11 := by rw [has]; rfl
  have e108 : as 108 = a12 := by rw [has]; rfl
  have e109 : as 109 = a13 := by rw [has]; rfl
  have e110 : as 110 = a14 := by rw [has]; rfl
  have e111 : as 111 = a15 := by rw [has]; rfl
  have e112 : as 112 = a16 := by rw [has]; rfl
  have e113 : as 113 = a17 := by rw [has]; rfl
  have e114 : as 114 = a18 := by rw [has]; rfl
  have e115 : as 115 = a19 := by rw [has]; rfl
  have e116 : as 116 = a20 := by rw [has]; rfl
  have e117 : as 117 = a21 := by rw [has]; rfl
  have e118 : as 118 = a22 := by rw [has]; rfl
  have e119 : as 119 = a23 := by rw [has]; rfl
  have e120 : as 120 = a24 := by rw [has]; rfl
  have e121 : as 121 = a25 := by rw [has]; rfl
  have e122 : as 122 = a26 := by rw [has]; rfl
  have e123 : as 123 = a27 := by rw [has]; rfl
  have e124 : as 124 = a28 := by rw [has]; rfl
  have e125 : as 125 = a29 := by rw [has]; rfl
  have e126 : as 126 = a30 := by rw [has]; rfl
  have e127 : as 127 = a31 := by rw [has]; rfl
  have e128 : as 128 = a32 := by rw [has]; rfl
  have e129 : as 129 = a33 := by rw [has]; rfl
  have e130 : as 130 = a34 := by rw [has]; rfl
  have e131 : as 131 = a35 := by rw [has]; rfl
  have e132 : as 132 = a36 := by rw [has]; rfl
  have e133 : as 133 = a37 := by rw [has]; rfl
  have e134 : as 134 = a38 := by rw [has]; rfl
  have e135 : as 135 = a39 := by rw [has]; rfl
  have e136 : as 136 = a40 := by rw [has]; rfl
  have e137 : as 137 = a41 := by rw [has]; rfl
  have e138 : as 138 = a42 := by rw [has]; rfl
  have e139 : as 139 = a43 := by rw [has]; rfl
  have e140 : as 140 = a44 := by rw [has]; rfl
  have e141 : as 141 = a45 := by rw [has]; rfl
  have e142 : as 142 = a46 := by rw [has]; rfl
  have e143 : as 143 = a47 := by rw [has]; rfl
  have e144 : as 144 = a48 := by rw [has]; rfl
  clear has
  refine n_end ⟨(ck DX7_init_7 49 rfl), rfl, as, e96, ?_⟩ (Nat.le_refl _) (Nat.le_refl _)
  refine consn (n := 48) sh_144 (Prod.ext e144.symm rfl) ?_
  refine consn (n := 47) sh_143 (Prod.ext e143.symm rfl) ?_
  refine consn (n := 46) sh_142 (Prod.ext e142.symm rfl) ?_
  refine consn (n := 45) sh_141 (Prod.ext e141.symm rfl) ?_
  refine consn (n := 44) sh_140 (Prod.ext e140.symm rfl) ?_
  refine consn (n := 43) sh_139 (Prod.ext e139.symm rfl) ?_
  refine consn (n := 42) sh_138 (Prod.ext e138.symm rfl) ?_
  refine consn (n := 41) sh_137 (Prod.ext e137.symm rfl) ?_
  refine consn (n := 40) sh_136 (Prod.ext e136.symm rfl) ?_
  refine consn (n := 39) sh_135 (Prod.ext e135.symm rfl) ?_
  refine consn (n := 38) sh_134 (Prod.ext e134.symm rfl) ?_
  refine consn (n := 37) sh_133 (Prod.ext e133.symm rfl) ?_
  refine consn (n := 36) sh_132 (Prod.ext e132.symm rfl) ?_
  refine consn (n := 35) sh_131 (Prod.ext e131.symm rfl) ?_
  refine consn (n := 34) sh_130 (Prod.ext e130.symm rfl) ?_
  refine consn (n := 33) sh_129 (Prod.ext e129.symm rfl) ?_
  refine consn (n := 32) sh_128 (Prod.ext e128.symm rfl) ?_
  refine consn (n := 31) sh_127 (Prod.ext e127.symm rfl) ?_
  refine consn (n := 30) sh_126 (Prod.ext e126.symm rfl) ?_
  refine consn (n := 29) sh_125 (Prod.ext e125.symm rfl) ?_
  refine consn (n := 28) sh_124 (Prod.ext e124.symm rfl) ?_
  refine consn (n := 27) sh_123 (Prod.ext e123.symm rfl) ?_
  refine consn (n := 26) sh_122 (Prod.ext e122.symm rfl) ?_
  refine consn (n := 25) sh_121 (Prod.ext e121.symm rfl) ?_
  refine consn (n := 24) sh_120 (Prod.ext e120.symm rfl) ?_
  refine consn (n := 23) sh_119 (Prod.ext e119.symm rfl) ?_
  refine consn (n := 22) sh_118 (Prod.ext e118.symm rfl) ?_
  refine consn (n := 21) sh_117 (Prod.ext e117.symm rfl) ?_
  refine consn (n := 20) sh_116 (Prod.ext e116.symm rfl) ?_
  refine consn (n := 19) sh_115 (Prod.ext e115.symm rfl) ?_
  refine consn (n := 18) sh_114 (Prod.ext e114.symm rfl) ?_
  refine consn (n := 17) sh_113 (Prod.ext e113.symm rfl) ?_
  refine consn (n := 16) sh_112 (Prod.ext e112.symm rfl) ?_
  refine consn (n := 15) sh_111 (Prod.ext e111.symm rfl) ?_
  refine consn (n := 14) sh_110 (Prod.ext e110.symm rfl) ?_
  refine consn (n := 13) sh_109 (Prod.ext e109.symm rfl) ?_
  refine consn (n := 12) sh_108 (Prod.ext e108.symm rfl) ?_
  refine consn (n := 11) sh_107 (Prod.ext e107.symm rfl) ?_
  refine consn (n := 10) sh_106 (Prod.ext e106.symm rfl) ?_
  refine consn (n := 9) sh_105 (Prod.ext e105.symm rfl) ?_
  refine consn (n := 8) sh_104 (Prod.ext e104.symm rfl) ?_
  refine consn (n := 7) sh_103 (Prod.ext e103.symm rfl) ?_
  refine consn (n := 6) sh_102 (Prod.ext e102.symm rfl) ?_
  refine consn (n := 5) sh_101 (Prod.ext e101.symm rfl) ?_
  refine consn (n := 4) sh_100 (Prod.ext e100.symm rfl) ?_
  refine consn (n := 3) sh_99 (Prod.ext e99.symm rfl) ?_
  refine consn (n := 2) sh_98 (Prod.ext e98.symm rfl) ?_
  refine consn (n := 1) sh_97 (Prod.ext e97.symm rfl) ?_
  refine onew sh_96 (obj_eq (as := as) (k := 96) (ci := 7) (N := 87) (ks := K7) e96.symm K7_len ?_)
  refine al1 ((show _ = Value.ref a48 from rfl).trans (congrArg Value.ref e144.symm)) ?_
  refine al1 ((show _ = Value.ref a47 from rfl).trans (congrArg Value.ref e143.symm)) ?_
  refine al1 ((show _ = Value.ref a46 from rfl).trans (congrArg Value.ref e142.symm)) ?_
  refine al1 ((show _ = Value.ref a45 from rfl).trans (congrArg Value.ref e141.symm)) ?_
  refine al1 ((show _ = Value.ref a44 from rfl).trans (congrArg Value.ref e140.symm)) ?_
  refine al1 rfl ?_
  refine al1 ((show _ = Value.ref a43 from rfl).trans (congrArg Value.ref e139.symm)) ?_
  refine al1 ((show _ = Value.ref a42 from rfl).trans (congrArg Value.ref e138.symm)) ?_
  refine al1 ((show _ = Value.ref a41 from rfl).trans (congrArg Value.ref e137.symm)) ?_
  refine al1 ((show _ = Value.ref a40 from rfl).trans (congrArg Value.ref e136.symm)) ?_
  refine al1 ((show _ = Value.ref a39 from rfl).trans (congrArg Value.ref e135.symm)) ?_
  refine al1 ((show _ = Value.ref a38 from rfl).trans (congrArg Value.ref e134.symm)) ?_
  refine al1 ((show _ = Value.ref a37 from rfl).trans (congrArg Value.ref e133.symm)) ?_
  refine al1 ((show _ = Value.ref a36 from rfl).trans (congrArg Value.ref e132.symm)) ?_
  refine al1 ((show _ = Value.ref a35 from rfl).trans (congrArg Value.ref e131.symm)) ?_
  refine al1 ((show _ = Value.ref a34 from rfl).trans (congrArg Value.ref e130.symm)) ?_
  refine al1 ((show _ = Value.ref a33 from rfl).trans (congrArg Value.ref e129.symm)) ?_
  refine al1 ((show _ = Value.ref a32 from rfl).trans (congrArg Value.ref e128.symm)) ?_
  refine al1 ((show _ = Value.ref a31 from rfl).trans (congrArg Value.ref e127.symm)) ?_
  refine al1 rfl ?_
  refine al1 rfl ?_
  refine al1 rfl ?_
  refine al1 rfl ?_
  refine al1 rfl ?_
  refine al1 rfl ?_
  refine al1 rfl ?_
  refine al1 rfl ?_
  refine al1 rfl ?_
  refine al1 rfl ?_
  refine al1 rfl ?_
  refine al1 ((show _ = Value.ref a30 from rfl).trans (congrArg Value.ref e126.symm)) ?_
  refine al1 ((show _ = Value.ref a29 from rfl).trans (congrArg Value.ref e125.symm)) ?_
  refine al1 ((show _ = Value.ref a28 from rfl).trans (congrArg Value.ref e124.symm)) ?_
  refine al1 ((show _ = Value.ref a27 from rfl).trans (congrArg Value.ref e123.symm)) ?_
  refine al1 rfl ?_
  refine al1 rfl ?_
  refine al1 ((show _ = Value.ref a26 from rfl).trans (congrArg Value.ref e122.symm)) ?_
  refine al1 ((show _ = Value.ref a25 from rfl).trans (congrArg Value.ref e121.symm)) ?_
  refine al1 rfl ?_
  refine al1 ((show _ = Value.ref a24 from rfl).trans (congrArg Value.ref e120.symm)) ?_
  refine al1 rfl ?_
  refine al1 rfl ?_
  refine al1 ((show _ = Value.ref a23 from rfl).trans (congrArg Value.ref e119.symm)) ?_
  refine al1 rfl ?_
  refine al1 ((show _ = Value.ref a22 from rfl).trans (congrArg Value.ref e118.symm)) ?_
  refine al1 ((show _ = Value.ref a21 from rfl).trans (congrArg Value.ref e117.symm)) ?_
  refine al1 ((show _ = Value.ref a20 from rfl).trans (congrArg Value.ref e116.symm)) ?_
  refine al1 ((show _ = Value.ref a19 from rfl).trans (congrArg Value.ref e115.symm)) ?_
  refine al1 rfl ?_
  refine al1 rfl ?_
  refine al1 rfl ?_
  refine al1 rfl ?_
  refine al1 rfl ?_
  refine al1 ((show _ = Value.ref a18 from rfl).trans (congrArg Value.ref e114.symm)) ?_
  refine al1 rfl ?_
  refine al1 rfl ?_
  refine al1 ((show _ = Value.ref a17 from rfl).trans (congrArg Value.ref e113.symm)) ?_
  refine al1 ((show _ = Value.ref a16 from rfl).trans (congrArg Value.ref e112.symm)) ?_
  refine al1 rfl ?_
  refine al1 rfl ?_
  refine al1 rfl ?_
  refine al1 ((show _ = Value.ref a15 from rfl).trans (congrArg Value.ref e111.symm)) ?_
  refine al1 ((show _ = Value.ref a14 from rfl).trans (congrArg Value.ref e110.symm)) ?_
  refine al1 ((show _ = Value.ref a13 from rfl).trans (congrArg Value.ref e109.symm)) ?_
  refine al1 ((show _ = Value.ref a12 from rfl).trans (congrArg Value.ref e108.symm)) ?_
  refine al1 ((show _ = Value.ref a11 from rfl).trans (congrArg Value.ref e107.symm)) ?_
  refine al1 ((show _ = Value.ref a10 from rfl).trans (congrArg Value.ref e106.symm)) ?_
  refine al1 ((show _ = Value.ref a9 from rfl).trans (congrArg Value.ref e105.symm)) ?_
  refine al1 ((show _ = Value.ref a8 from rfl).trans (congrArg Value.ref e104.symm)) ?_
  refine al1 rfl ?_
  refine al1 rfl ?_
  refine al1 rfl ?_
  refine al1 rfl ?_
  refine al1 rfl ?_
  refine al1 ((show _ = Value.ref a7 from rfl).trans (congrArg Value.ref e103.symm)) ?_
  refine al1 ((show _ = Value.ref a6 from rfl).trans (congrArg Value.ref e102.symm)) ?_
  refine al1 ((show _ = Value.ref a5 from rfl).trans (congrArg Value.ref e101.symm)) ?_
  refine al1 ((show _ = Value.ref a4 from rfl).trans (congrArg Value.ref e100.symm)) ?_
  refine al1 ((show _ = Value.ref a3 from rfl).trans (congrArg Value.ref e99.symm)) ?_
  refine al1 ((show _ = Value.ref a2 from rfl).trans (congrArg Value.ref e98.symm)) ?_
  refine al1 ((show _ = Value.ref a1 from rfl).trans (congrArg Value.ref e97.symm)) ?_
  refine al1 rfl ?_
  refine al1 rfl ?_
  refine al1 rfl ?_
  refine al1 rfl ?_
  refine al1 rfl ?_
  refine al1 rfl ?_
  exact al0
