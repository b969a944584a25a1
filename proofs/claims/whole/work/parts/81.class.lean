/-! the constructor of the class -/
section NF
variable {Y : MD} {d : Nat} {ini : Prop} {D : va_G} {α : Nat → ClassId} {kc ks : Nat} {Fi : FNN} {pc : Nat} {lv : List (Nat × Value)} {st : List Value} {ws : va_W} {cells slots : Nat}
theorem n_nilC {hd : Nat × va_E} {w : va_W} (kk : RunN Y d ini D α kc ks Fi pc lv st (hd :: (w ++ [])) cells slots) : RunN Y d ini D α kc ks Fi pc lv st (hd :: w) cells slots := by
  rw [List.append_nil] at kk; exact kk
theorem n_assC {hd : Nat × va_E} {w x y : va_W} (kk : RunN Y d ini D α kc ks Fi pc lv st (hd :: (w ++ (x ++ y))) cells slots) : RunN Y d ini D α kc ks Fi pc lv st (hd :: ((w ++ x) ++ y)) cells slots := by
  rw [List.append_assoc]; exact kk
/-- a world under another name: rows are what their places hold -/
def eqE (x y : Nat × va_E) : Prop := x.1 = y.1 ∧ ∀ (D : va_G) (H : Heap), va_at D CL x H → va_at D CL y H
def SimW (ws ws' : va_W) : Prop := ws.length = ws'.length ∧ ∀ (k : Nat) (y : Nat × va_E), ws'[k]? = some y → ∃ x, ws[k]? = some x ∧ eqE x y
theorem eqE.of {x y : Nat × va_E} (h : x = y) : eqE x y := by
  subst h; exact ⟨rfl, fun _ _ h => h⟩
theorem eqE.q {a b n : Nat} {cA : ClassId} {f g : Nat → Option Nat} (hab : a = b) (hfg : ∀ j, j < n → f j = g j) : eqE (a, .inl (cA, n, .inr (.inr (.inr (.inr f))))) (b, .inl (cA, n, .inr (.inr (.inr (.inr g))))) := by
  subst hab
  refine ⟨rfl, fun D H h => ?_⟩
  have h3 : H[a]? = some (arrV cA n (fun j => va_rf (f j))) := h
  show H[a]? = some (arrV cA n (fun j => va_rf (g j)))
  rw [h3]
  unfold arrV
  congr 2
  apply congrArg
  funext j
  exact congrArg va_rf (hfg j.val j.isLt)
theorem n_sim {ws' : va_W} (h : SimW ws ws') (kk : RunN Y d ini D α kc ks Fi pc lv st ws' cells slots) : RunN Y d ini D α kc ks Fi pc lv st ws cells slots := by
  intro p l e R s m args below meth c A Q C0 c1 c2 K H locs ls hP hD hS hl
  refine kk p l e R s m args below meth c A Q C0 c1 c2 K H locs ls (fun k y hk => ?_) ⟨fun i j x y hx hy hxy => ?_, fun k y hk => ?_⟩ hS hl
  · obtain ⟨x, g1, g2⟩ := h.2 k y hk
    exact g2.2 D H (hP k x g1)
  · obtain ⟨x2, g1, g2⟩ := h.2 i x hx
    obtain ⟨y2, g3, g4⟩ := h.2 j y hy
    exact hD.1 i j x2 y2 g1 g3 (by rw [g2.1, g4.1, hxy])
  · obtain ⟨x, g1, g2⟩ := h.2 k y hk
    rw [← g2.1]
    exact hD.2 k x g1
theorem sk_n {as : Nat → Nat} {D : va_G} {lo n : Nat} {c : SC} {hd x : Nat × va_E} {w : va_W} (hc : SH[lo + n]? = some c) (hx : eqE x (as (lo + n), cellE (as, α, D, fun _ => 0, 0, fun _ => 0) h00 (lo + n) c)) (h : SimW (hd :: w) (wldP as α D lo n)) : SimW (hd :: (w ++ [x])) (wldP as α D lo (n + 1)) := by
  rw [wp_snoc hc, ← List.cons_append]
  have h2 : (wldP as α D lo n).length = n := by
    have := (List.getElem?_eq_some_iff.mp hc).1
    unfold wldP
    rw [List.length_mapIdx, List.length_take, List.length_drop]
    omega
  have hl : (hd :: w).length = n := h.1.trans h2
  refine ⟨by rw [List.length_append, List.length_append, hl, h2]; rfl, ?_⟩
  intro k y hk
  by_cases hn : k < n
  · rw [List.getElem?_append_left (by omega)] at hk
    rw [List.getElem?_append_left (by omega)]
    exact h.2 k y hk
  · rw [List.getElem?_append_right (by omega), h2] at hk
    rw [List.getElem?_append_right (by omega), hl]
    cases e : k - n with
    | zero =>
      rw [e] at hk
      have e3 := Option.some.inj hk
      subst e3
      exact ⟨x, rfl, hx⟩
    | succ m => rw [e] at hk; exact absurd hk (by simp)
theorem sk_1 {as : Nat → Nat} {D : va_G} {lo : Nat} {c : SC} {hd : Nat × va_E} (hc : SH[lo + 0]? = some c) (hx : hd = (as (lo + 0), cellE (as, α, D, fun _ => 0, 0, fun _ => 0) h00 (lo + 0) c)) : SimW (hd :: []) (wldP as α D lo 1) := by
  rw [← onew hc hx]
  exact ⟨rfl, fun k y hk => ⟨y, hk, eqE.of rfl⟩⟩
theorem sk_x {hd x : Nat × va_E} {w t R : va_W} (h : SimW (hd :: ((w ++ [x]) ++ t)) R) : SimW (hd :: (w ++ (x :: t))) R := by
  rw [List.append_assoc] at h; exact h
theorem sk_0 {hd : Nat × va_E} {w R : va_W} (h : SimW (hd :: w) R) : SimW (hd :: (w ++ [])) R := by
  rw [List.append_nil]; exact h
theorem sk_A {hd : Nat × va_E} {w x y R : va_W} (h : SimW (hd :: ((w ++ x) ++ y)) R) : SimW (hd :: (w ++ (x ++ y))) R := by
  rw [List.append_assoc] at h; exact h
end NF
theorem it_O {d : Nat} {ini : Prop} {D : va_G} {α : Nat → ClassId} {kc ks : Nat} {Fi : FNN} {cells slots h0 h1 arr : Nat} {f : Nat → Value} {g : Nat → Option Nat} {wA wO : va_W} {i i2 : Int32} (hd : 2 ≤ d) (hi : ¬ 6 ≤ i) (hi2 : i + Int32.ofInt 1 = i2) (hin : vp_in i 6) (hf : f 10 = .ref arr) (hc : cells + 5 ≤ kc) (hs : slots + 313 ≤ ks) (kk : ∀ v a1 a2 a3 a4, RunN mX6_init d ini D α kc ks Fi 135 [(2, .int i2), (1, .ref h1), (0, .ref h0)] [] ((h0, .inr (6, mkF 15 f)) :: ((wA ++ [(arr, .inl (α 5, 6, .inr (.inr (.inr (.inr (va_up g i.toNatClampNeg (some v)))))))]) ++ (wO ++ [(v, .inr (2, [.ref a1, .ref a2, .ref a3, .ref a4, .int 0, .int 5, .int 2])), (a1, .inl (α 1, 100, .inl (fun _ => 0))), (a2, .inl (α 1, 100, .inl (fun _ => 0))), (a3, .inl (α 1, 100, .inl (fun _ => 0))), (a4, .inl (α 1, 6, .inl (fun _ => 0)))]))) (cells + 5) (slots + 313)) : RunN mX6_init d ini D α kc ks Fi 135 [(2, .int i), (1, .ref h1), (0, .ref h0)] [] ((h0, .inr (6, mkF 15 f)) :: ((wA ++ [(arr, .inl (α 5, 6, .inr (.inr (.inr (.inr g)))))]) ++ wO)) cells slots := by
  refine n_iload_n 136 rfl 0 rfl rfl (ck DX6_init_1 16 rfl) ?_
  refine n_bipush 138 rfl bp_6 (ck DX6_init_1 17 rfl) ?_
  refine n_icmpge_f 141 rfl 160 (ck DX6_init_1 18 rfl) (by decide) hi ?_
  refine n_aload_n 142 rfl 2 rfl rfl (ck DX6_init_1 19 rfl) ?_
  refine n_get 145 rfl fl_X6_53 rfl hf (ck DX6_init_1 20 rfl) ?_
  refine n_iload_n 146 rfl 0 rfl rfl (ck DX6_init_1 21 rfl) ?_
  refine n_new 149 rfl nw_X6_9 (by omega) (by omega) (ck DX6_init_1 22 rfl) (fun v => ?_)
  refine n_dup 150 rfl rfl (ck DX6_init_1 23 rfl) ?_
  refine n_initC (As := []) 153 rfl (nc_X2 v) hd ci_X6_11 rfl rfl (Nat.le_of_ble_eq_true rfl) (by omega) (by omega) (ck DX6_init_1 24 rfl) (fun w2 hw2 => ?_)
  obtain ⟨a1, a2, a3, a4, rfl⟩ := hw2
  refine n_assC ?_
  refine n_aast (t0 := 4) 154 rfl rfl cl_2 hin (ck DX6_init_1 25 rfl) ?_
  refine n_iinc 157 rfl 0 (ck DX6_init_1 26 rfl) rfl hi2 (by decide) rfl ?_
  refine n_goto 135 (ck DX6_init_1 27 rfl) (by decide) ?_
  exact kk v a1 a2 a3 a4
theorem it_T {d : Nat} {ini : Prop} {D : va_G} {α : Nat → ClassId} {kc ks : Nat} {Fi : FNN} {cells slots h0 h1 arr : Nat} {f : Nat → Value} {g : Nat → Option Nat} {wA wO : va_W} {i i2 : Int32} (hd : 2 ≤ d) (hi : ¬ 6 ≤ i) (hi2 : i + Int32.ofInt 1 = i2) (hin : vp_in i 6) (hf : f 14 = .ref arr) (hc : cells + 2 ≤ kc) (hs : slots + 63 ≤ ks) (kk : ∀ v a1, RunN mX6_init d ini D α kc ks Fi 193 [(2, .int i2), (1, .ref h1), (0, .ref h0)] [] ((h0, .inr (6, mkF 15 f)) :: ((wA ++ [(arr, .inl (α 6, 6, .inr (.inr (.inr (.inr (va_up g i.toNatClampNeg (some v)))))))]) ++ (wO ++ [(v, .inr (4, [.ref a1, .int (-1), .int 0])), (a1, .inl (α 2, 60, .inr (.inl (fun _ => 0))))]))) (cells + 2) (slots + 63)) : RunN mX6_init d ini D α kc ks Fi 193 [(2, .int i), (1, .ref h1), (0, .ref h0)] [] ((h0, .inr (6, mkF 15 f)) :: ((wA ++ [(arr, .inl (α 6, 6, .inr (.inr (.inr (.inr g)))))]) ++ wO)) cells slots := by
  refine n_iload_n 194 rfl 0 rfl rfl (ck DX6_init_1 44 rfl) ?_
  refine n_bipush 196 rfl bp_6 (ck DX6_init_1 45 rfl) ?_
  refine n_icmpge_f 199 rfl 218 (ck DX6_init_1 46 rfl) (by decide) hi ?_
  refine n_aload_n 200 rfl 2 rfl rfl (ck DX6_init_1 47 rfl) ?_
  refine n_get 203 rfl fl_X6_73 rfl hf (ck DX6_init_1 48 rfl) ?_
  refine n_iload_n 204 rfl 0 rfl rfl (ck DX6_init_1 49 rfl) ?_
  refine n_new 207 rfl nw_X6_71 (by omega) (by omega) (ck DX6_init_2 0 rfl) (fun v => ?_)
  refine n_dup 208 rfl rfl (ck DX6_init_2 1 rfl) ?_
  refine n_initNC (As := []) 211 rfl (nc_X4 v) hd ci_X6_77 rfl rfl (Nat.le_of_ble_eq_true rfl) (by omega) (by omega) (ck DX6_init_2 2 rfl) (fun w2 hw2 => ?_)
  obtain ⟨a1, rfl⟩ := hw2
  refine n_assC ?_
  refine n_aast (t0 := 5) 212 rfl rfl cl_4 hin (ck DX6_init_2 3 rfl) ?_
  refine n_iinc 215 rfl 0 (ck DX6_init_2 4 rfl) rfl hi2 (by decide) rfl ?_
  refine n_goto 193 (ck DX6_init_2 5 rfl) (by decide) ?_
  exact kk v a1
set_option maxRecDepth 20000 in
set_option maxHeartbeats 2000000 in
theorem nc_X6 {D : va_G} {α : Nat → ClassId} (q : Nat) : NC mX6_init 2 D α 95 3033 q [] (nwE 6 15 tyX6) (fun w => ∃ as : Nat → Nat, as 0 = q ∧ w = wldP as α D 0 96) := by
  refine NC_of (by decide +kernel) rfl (Nat.le_of_ble_eq_true rfl) ?_
  refine n_aload_n 1 rfl 0 rfl rfl (ck DX6_init_0 0 rfl) ?_
  refine n_objInit 4 rfl ob_X6 ob_ins ob_cod (by decide) (Nat.le_of_ble_eq_true rfl) (ck DX6_init_0 1 rfl) ?_
  refine n_new 7 rfl nw_X6_9 (Nat.le_of_ble_eq_true rfl) (Nat.le_of_ble_eq_true rfl) (ck DX6_init_0 2 rfl) (fun b1 => ?_)
  refine n_dup 8 rfl rfl (ck DX6_init_0 3 rfl) ?_
  refine n_initC (As := []) 11 rfl (nc_X2 b1) (by decide) ci_X6_11 rfl rfl (Nat.le_of_ble_eq_true rfl) (Nat.le_of_ble_eq_true rfl) (Nat.le_of_ble_eq_true rfl) (ck DX6_init_0 4 rfl) (fun w2 hw2 => ?_)
  obtain ⟨b2, b3, b4, b5, rfl⟩ := hw2
  refine n_astore_n 12 rfl (ck DX6_init_0 5 rfl) (by decide) rfl rfl ?_
  refine n_aload_n 13 rfl 1 rfl rfl (ck DX6_init_0 6 rfl) ?_
  refine n_new 16 rfl nw_X6_12 (Nat.le_of_ble_eq_true rfl) (Nat.le_of_ble_eq_true rfl) (ck DX6_init_0 7 rfl) (fun b6 => ?_)
  refine n_dup 17 rfl rfl (ck DX6_init_0 8 rfl) ?_
  refine n_aload_n 18 rfl 0 rfl rfl (ck DX6_init_0 9 rfl) ?_
  refine n_initC (As := [.ref b1]) 21 rfl (nc_X1 b6 b1) (by decide) ci_X6_14 rfl rfl (Nat.le_of_ble_eq_true rfl) (Nat.le_of_ble_eq_true rfl) (Nat.le_of_ble_eq_true rfl) (ck DX6_init_0 10 rfl) (fun w2 hw2 => ?_)
  obtain ⟨b7, b8, b9, b10, b11, b12, b13, rfl⟩ := hw2
  refine n_putF 24 rfl ff_X6_17 rfl rfl rfl (ck DX6_init_0 11 rfl) ?_
  refine n_aload_n 25 rfl 1 rfl rfl (ck DX6_init_0 12 rfl) ?_
  refine n_new 28 rfl nw_X6_12 (Nat.le_of_ble_eq_true rfl) (Nat.le_of_ble_eq_true rfl) (ck DX6_init_0 13 rfl) (fun b14 => ?_)
  refine n_dup 29 rfl rfl (ck DX6_init_0 14 rfl) ?_
  refine n_aload_n 30 rfl 0 rfl rfl (ck DX6_init_0 15 rfl) ?_
  refine n_initC (As := [.ref b1]) 33 rfl (nc_X1 b14 b1) (by decide) ci_X6_14 rfl rfl (Nat.le_of_ble_eq_true rfl) (Nat.le_of_ble_eq_true rfl) (Nat.le_of_ble_eq_true rfl) (ck DX6_init_0 16 rfl) (fun w2 hw2 => ?_)
  obtain ⟨b15, b16, b17, b18, b19, b20, b21, rfl⟩ := hw2
  refine n_putF 36 rfl ff_X6_23 rfl rfl rfl (ck DX6_init_0 17 rfl) ?_
  refine n_aload_n 37 rfl 1 rfl rfl (ck DX6_init_0 18 rfl) ?_
  refine n_new 40 rfl nw_X6_12 (Nat.le_of_ble_eq_true rfl) (Nat.le_of_ble_eq_true rfl) (ck DX6_init_0 19 rfl) (fun b22 => ?_)
  refine n_dup 41 rfl rfl (ck DX6_init_0 20 rfl) ?_
  refine n_aload_n 42 rfl 0 rfl rfl (ck DX6_init_0 21 rfl) ?_
  refine n_initC (As := [.ref b1]) 45 rfl (nc_X1 b22 b1) (by decide) ci_X6_14 rfl rfl (Nat.le_of_ble_eq_true rfl) (Nat.le_of_ble_eq_true rfl) (Nat.le_of_ble_eq_true rfl) (ck DX6_init_0 22 rfl) (fun w2 hw2 => ?_)
  obtain ⟨b23, b24, b25, b26, b27, b28, b29, rfl⟩ := hw2
  refine n_putF 48 rfl ff_X6_26 rfl rfl rfl (ck DX6_init_0 23 rfl) ?_
  refine n_aload_n 49 rfl 1 rfl rfl (ck DX6_init_0 24 rfl) ?_
  refine n_new 52 rfl nw_X6_29 (Nat.le_of_ble_eq_true rfl) (Nat.le_of_ble_eq_true rfl) (ck DX6_init_0 25 rfl) (fun b30 => ?_)
  refine n_dup 53 rfl rfl (ck DX6_init_0 26 rfl) ?_
  refine n_iconst 54 rfl ic_5 (ck DX6_init_0 27 rfl) ?_
  refine n_initC (As := [.int 5]) 57 rfl (nc_X3_5 b30) (by decide) ci_X6_31 rfl rfl (Nat.le_of_ble_eq_true rfl) (Nat.le_of_ble_eq_true rfl) (Nat.le_of_ble_eq_true rfl) (ck DX6_init_0 28 rfl) (fun w2 hw2 => ?_)
  obtain ⟨b31, b32, rfl⟩ := hw2
  refine n_putF 60 rfl ff_X6_34 rfl rfl rfl (ck DX6_init_0 29 rfl) ?_
  refine n_aload_n 61 rfl 1 rfl rfl (ck DX6_init_0 30 rfl) ?_
  refine n_new 64 rfl nw_X6_29 (Nat.le_of_ble_eq_true rfl) (Nat.le_of_ble_eq_true rfl) (ck DX6_init_0 31 rfl) (fun b33 => ?_)
  refine n_dup 65 rfl rfl (ck DX6_init_0 32 rfl) ?_
  refine n_bipush 67 rfl bp_10 (ck DX6_init_0 33 rfl) ?_
  refine n_initC (As := [.int 10]) 70 rfl (nc_X3_10 b33) (by decide) ci_X6_31 rfl rfl (Nat.le_of_ble_eq_true rfl) (Nat.le_of_ble_eq_true rfl) (Nat.le_of_ble_eq_true rfl) (ck DX6_init_0 34 rfl) (fun w2 hw2 => ?_)
  obtain ⟨b34, b35, rfl⟩ := hw2
  refine n_putF 73 rfl ff_X6_38 rfl rfl rfl (ck DX6_init_0 35 rfl) ?_
  refine n_aload_n 74 rfl 1 rfl rfl (ck DX6_init_0 36 rfl) ?_
  refine n_new 77 rfl nw_X6_29 (Nat.le_of_ble_eq_true rfl) (Nat.le_of_ble_eq_true rfl) (ck DX6_init_0 37 rfl) (fun b36 => ?_)
  refine n_dup 78 rfl rfl (ck DX6_init_0 38 rfl) ?_
  refine n_bipush 80 rfl bp_8 (ck DX6_init_0 39 rfl) ?_
  refine n_initC (As := [.int 8]) 83 rfl (nc_X3_8 b36) (by decide) ci_X6_31 rfl rfl (Nat.le_of_ble_eq_true rfl) (Nat.le_of_ble_eq_true rfl) (Nat.le_of_ble_eq_true rfl) (ck DX6_init_0 40 rfl) (fun w2 hw2 => ?_)
  obtain ⟨b37, b38, rfl⟩ := hw2
  refine n_putF 86 rfl ff_X6_41 rfl rfl rfl (ck DX6_init_0 41 rfl) ?_
  refine n_aload_n 87 rfl 1 rfl rfl (ck DX6_init_0 42 rfl) ?_
  refine n_new 90 rfl nw_X6_29 (Nat.le_of_ble_eq_true rfl) (Nat.le_of_ble_eq_true rfl) (ck DX6_init_0 43 rfl) (fun b39 => ?_)
  refine n_dup 91 rfl rfl (ck DX6_init_0 44 rfl) ?_
  refine n_iconst 92 rfl ic_5 (ck DX6_init_0 45 rfl) ?_
  refine n_initC (As := [.int 5]) 95 rfl (nc_X3_5 b39) (by decide) ci_X6_31 rfl rfl (Nat.le_of_ble_eq_true rfl) (Nat.le_of_ble_eq_true rfl) (Nat.le_of_ble_eq_true rfl) (ck DX6_init_0 46 rfl) (fun w2 hw2 => ?_)
  obtain ⟨b40, b41, rfl⟩ := hw2
  refine n_putF 98 rfl ff_X6_44 rfl rfl rfl (ck DX6_init_0 47 rfl) ?_
  refine n_aload_n 99 rfl 1 rfl rfl (ck DX6_init_0 48 rfl) ?_
  refine n_new 102 rfl nw_X6_29 (Nat.le_of_ble_eq_true rfl) (Nat.le_of_ble_eq_true rfl) (ck DX6_init_0 49 rfl) (fun b42 => ?_)
  refine n_dup 103 rfl rfl (ck DX6_init_1 0 rfl) ?_
  refine n_bipush 105 rfl bp_10 (ck DX6_init_1 1 rfl) ?_
  refine n_initC (As := [.int 10]) 108 rfl (nc_X3_10 b42) (by decide) ci_X6_31 rfl rfl (Nat.le_of_ble_eq_true rfl) (Nat.le_of_ble_eq_true rfl) (Nat.le_of_ble_eq_true rfl) (ck DX6_init_1 2 rfl) (fun w2 hw2 => ?_)
  obtain ⟨b43, b44, rfl⟩ := hw2
  refine n_putF 111 rfl ff_X6_47 rfl rfl rfl (ck DX6_init_1 3 rfl) ?_
  refine n_aload_n 112 rfl 1 rfl rfl (ck DX6_init_1 4 rfl) ?_
  refine n_new 115 rfl nw_X6_29 (Nat.le_of_ble_eq_true rfl) (Nat.le_of_ble_eq_true rfl) (ck DX6_init_1 5 rfl) (fun b45 => ?_)
  refine n_dup 116 rfl rfl (ck DX6_init_1 6 rfl) ?_
  refine n_bipush 118 rfl bp_8 (ck DX6_init_1 7 rfl) ?_
  refine n_initC (As := [.int 8]) 121 rfl (nc_X3_8 b45) (by decide) ci_X6_31 rfl rfl (Nat.le_of_ble_eq_true rfl) (Nat.le_of_ble_eq_true rfl) (Nat.le_of_ble_eq_true rfl) (ck DX6_init_1 8 rfl) (fun w2 hw2 => ?_)
  obtain ⟨b46, b47, rfl⟩ := hw2
  refine n_putF 124 rfl ff_X6_50 rfl rfl rfl (ck DX6_init_1 9 rfl) ?_
  refine n_aload_n 125 rfl 1 rfl rfl (ck DX6_init_1 10 rfl) ?_
  refine n_bipush 127 rfl bp_6 (ck DX6_init_1 11 rfl) ?_
  refine n_newqC 130 rfl 4 kl_X6_9 (Or.inl rfl) rfl (by decide) rfl (Nat.le_of_ble_eq_true rfl) (Nat.le_of_ble_eq_true rfl) (Nat.le_of_ble_eq_true rfl) (ck DX6_init_1 12 rfl) (fun b48 => ?_)
  refine n_putF 133 rfl ff_X6_53 rfl rfl rfl (ck DX6_init_1 13 rfl) ?_
  refine n_iconst 134 rfl ic_0 (ck DX6_init_1 14 rfl) ?_
  refine n_istore_n 135 rfl (ck DX6_init_1 15 rfl) (by decide) rfl rfl ?_
  refine n_nilC ?_
  refine it_O (i := 0) (i2 := 1) (by decide) (by decide) (by decide) (by unfold vp_in; decide) rfl (Nat.le_of_ble_eq_true rfl) (Nat.le_of_ble_eq_true rfl) (fun b49 b50 b51 b52 b53 => ?_)
  refine it_O (i := 1) (i2 := 2) (by decide) (by decide) (by decide) (by unfold vp_in; decide) rfl (Nat.le_of_ble_eq_true rfl) (Nat.le_of_ble_eq_true rfl) (fun b54 b55 b56 b57 b58 => ?_)
  refine it_O (i := 2) (i2 := 3) (by decide) (by decide) (by decide) (by unfold vp_in; decide) rfl (Nat.le_of_ble_eq_true rfl) (Nat.le_of_ble_eq_true rfl) (fun b59 b60 b61 b62 b63 => ?_)
  refine it_O (i := 3) (i2 := 4) (by decide) (by decide) (by decide) (by unfold vp_in; decide) rfl (Nat.le_of_ble_eq_true rfl) (Nat.le_of_ble_eq_true rfl) (fun b64 b65 b66 b67 b68 => ?_)
  refine it_O (i := 4) (i2 := 5) (by decide) (by decide) (by decide) (by unfold vp_in; decide) rfl (Nat.le_of_ble_eq_true rfl) (Nat.le_of_ble_eq_true rfl) (fun b69 b70 b71 b72 b73 => ?_)
  refine it_O (i := 5) (i2 := 6) (by decide) (by decide) (by decide) (by unfold vp_in; decide) rfl (Nat.le_of_ble_eq_true rfl) (Nat.le_of_ble_eq_true rfl) (fun b74 b75 b76 b77 b78 => ?_)
  refine n_iload_n 136 rfl 0 rfl rfl (ck DX6_init_1 16 rfl) ?_
  refine n_bipush 138 rfl bp_6 (ck DX6_init_1 17 rfl) ?_
  refine n_icmpge_t 160 (ck DX6_init_1 18 rfl) (by decide) (by decide) ?_
  refine n_aload_n 161 rfl 2 rfl rfl (ck DX6_init_1 28 rfl) ?_
  refine n_new 164 rfl nw_X6_57 (Nat.le_of_ble_eq_true rfl) (Nat.le_of_ble_eq_true rfl) (ck DX6_init_1 29 rfl) (fun b79 => ?_)
  refine n_dup 165 rfl rfl (ck DX6_init_1 30 rfl) ?_
  refine n_initNC (As := []) 168 rfl (nc_X5 b79) (by decide) ci_X6_59 rfl rfl (Nat.le_of_ble_eq_true rfl) (Nat.le_of_ble_eq_true rfl) (Nat.le_of_ble_eq_true rfl) (ck DX6_init_1 31 rfl) (fun w2 hw2 => ?_)
  obtain ⟨b80, rfl⟩ := hw2
  refine n_putF 171 rfl ff_X6_60 rfl rfl rfl (ck DX6_init_1 32 rfl) ?_
  refine n_aload_n 172 rfl 2 rfl rfl (ck DX6_init_1 33 rfl) ?_
  refine n_new 175 rfl nw_X6_64 (Nat.le_of_ble_eq_true rfl) (Nat.le_of_ble_eq_true rfl) (ck DX6_init_1 34 rfl) (fun b81 => ?_)
  refine n_dup 176 rfl rfl (ck DX6_init_1 35 rfl) ?_
  refine n_initNC (As := []) 179 rfl (nc_X0 b81) (by decide) ci_X6_66 rfl rfl (Nat.le_of_ble_eq_true rfl) (Nat.le_of_ble_eq_true rfl) (Nat.le_of_ble_eq_true rfl) (ck DX6_init_1 36 rfl) (fun w2 hw2 => ?_)
  obtain ⟨b82, rfl⟩ := hw2
  refine n_putF 182 rfl ff_X6_67 rfl rfl rfl (ck DX6_init_1 37 rfl) ?_
  refine n_aload_n 183 rfl 2 rfl rfl (ck DX6_init_1 38 rfl) ?_
  refine n_bipush 185 rfl bp_6 (ck DX6_init_1 39 rfl) ?_
  refine n_newqC 188 rfl 5 kl_X6_71 (Or.inr rfl) rfl (by decide) rfl (Nat.le_of_ble_eq_true rfl) (Nat.le_of_ble_eq_true rfl) (Nat.le_of_ble_eq_true rfl) (ck DX6_init_1 40 rfl) (fun b83 => ?_)
  refine n_putF 191 rfl ff_X6_73 rfl rfl rfl (ck DX6_init_1 41 rfl) ?_
  refine n_iconst 192 rfl ic_0 (ck DX6_init_1 42 rfl) ?_
  refine n_istore_n 193 rfl (ck DX6_init_1 43 rfl) (by decide) rfl rfl ?_
  refine n_nilC ?_
  refine it_T (i := 0) (i2 := 1) (by decide) (by decide) (by decide) (by unfold vp_in; decide) rfl (Nat.le_of_ble_eq_true rfl) (Nat.le_of_ble_eq_true rfl) (fun b84 b85 => ?_)
  refine it_T (i := 1) (i2 := 2) (by decide) (by decide) (by decide) (by unfold vp_in; decide) rfl (Nat.le_of_ble_eq_true rfl) (Nat.le_of_ble_eq_true rfl) (fun b86 b87 => ?_)
  refine it_T (i := 2) (i2 := 3) (by decide) (by decide) (by decide) (by unfold vp_in; decide) rfl (Nat.le_of_ble_eq_true rfl) (Nat.le_of_ble_eq_true rfl) (fun b88 b89 => ?_)
  refine it_T (i := 3) (i2 := 4) (by decide) (by decide) (by decide) (by unfold vp_in; decide) rfl (Nat.le_of_ble_eq_true rfl) (Nat.le_of_ble_eq_true rfl) (fun b90 b91 => ?_)
  refine it_T (i := 4) (i2 := 5) (by decide) (by decide) (by decide) (by unfold vp_in; decide) rfl (Nat.le_of_ble_eq_true rfl) (Nat.le_of_ble_eq_true rfl) (fun b92 b93 => ?_)
  refine it_T (i := 5) (i2 := 6) (by decide) (by decide) (by decide) (by unfold vp_in; decide) rfl (Nat.le_of_ble_eq_true rfl) (Nat.le_of_ble_eq_true rfl) (fun b94 b95 => ?_)
  refine n_iload_n 194 rfl 0 rfl rfl (ck DX6_init_1 44 rfl) ?_
  refine n_bipush 196 rfl bp_6 (ck DX6_init_1 45 rfl) ?_
  refine n_icmpge_t 218 (ck DX6_init_1 46 rfl) (by decide) (by decide) ?_
  obtain ⟨as, has⟩ : ∃ as : Nat → Nat, as = fun k => ([q, b1, b2, b3, b4, b5, b6, b7, b8, b9, b10, b11, b12, b13, b14, b15, b16, b17, b18, b19, b20, b21, b22, b23, b24, b25, b26, b27, b28, b29, b30, b31, b32, b33, b34, b35, b36, b37, b38, b39, b40, b41, b42, b43, b44, b45, b46, b47, b48, b49, b50, b51, b52, b53, b54, b55, b56, b57, b58, b59, b60, b61, b62, b63, b64, b65, b66, b67, b68, b69, b70, b71, b72, b73, b74, b75, b76, b77, b78, b79, b80, b81, b82, b83, b84, b85, b86, b87, b88, b89, b90, b91, b92, b93, b94, b95] : List Nat).getD k 0 := ⟨_, rfl⟩
  have e0 : as 0 = q := by rw [has]; rfl
  have e1 : as 1 = b1 := by rw [has]; rfl
  have e2 : as 2 = b2 := by rw [has]; rfl
  have e3 : as 3 = b3 := by rw [has]; rfl
  have e4 : as 4 = b4 := by rw [has]; rfl
  have e5 : as 5 = b5 := by rw [has]; rfl
  have e6 : as 6 = b6 := by rw [has]; rfl
  have e7 : as 7 = b7 := by rw [has]; rfl
  have e8 : as 8 = b8 := by rw [has]; rfl
  have e9 : as 9 = b9 := by rw [has]; rfl
  have e10 : as 10 = b10 := by rw [has]; rfl
  have e11 : as 11 = b11 := by rw [has]; rfl
  have e12 : as 12 = b12 := by rw [has]; rfl
  have e13 : as 13 = b13 := by rw [has]; rfl
  have e14 : as 14 = b14 := by rw [has]; rfl
  have e15 : as 15 = b15 := by rw [has]; rfl
  have e16 : as 16 = b16 := by rw [has]; rfl
  have e17 : as 17 = b17 := by rw [has]; rfl
  have e18 : as 18 = b18 := by rw [has]; rfl
  have e19 : as 19 = b19 := by rw [has]; rfl
  have e20 : as 20 = b20 := by rw [has]; rfl
  have e21 : as 21 = b21 := by rw [has]; rfl
  have e22 : as 22 = b22 := by rw [has]; rfl
  have e23 : as 23 = b23 := by rw [has]; rfl
  have e24 : as 24 = b24 := by rw [has]; rfl
  have e25 : as 25 = b25 := by rw [has]; rfl
  have e26 : as 26 = b26 := by rw [has]; rfl
  have e27 : as 27 = b27 := by rw [has]; rfl
  have e28 : as 28 = b28 := by rw [has]; rfl
  have e29 : as 29 = b29 := by rw [has]; rfl
  have e30 : as 30 = b30 := by rw [has]; rfl
  have e31 : as 31 = b31 := by rw [has]; rfl
  have e32 : as 32 = b32 := by rw [has]; rfl
  have e33 : as 33 = b33 := by rw [has]; rfl
  have e34 : as 34 = b34 := by rw [has]; rfl
  have e35 : as 35 = b35 := by rw [has]; rfl
  have e36 : as 36 = b36 := by rw [has]; rfl
  have e37 : as 37 = b37 := by rw [has]; rfl
  have e38 : as 38 = b38 := by rw [has]; rfl
  have e39 : as 39 = b39 := by rw [has]; rfl
  have e40 : as 40 = b40 := by rw [has]; rfl
  have e41 : as 41 = b41 := by rw [has]; rfl
  have e42 : as 42 = b42 := by rw [has]; rfl
  have e43 : as 43 = b43 := by rw [has]; rfl
  have e44 : as 44 = b44 := by rw [has]; rfl
  have e45 : as 45 = b45 := by rw [has]; rfl
  have e46 : as 46 = b46 := by rw [has]; rfl
  have e47 : as 47 = b47 := by rw [has]; rfl
  have e48 : as 48 = b48 := by rw [has]; rfl
  have e49 : as 49 = b49 := by rw [has]; rfl
  have e50 : as 50 = b50 := by rw [has]; rfl
  have e51 : as 51 = b51 := by rw [has]; rfl
  have e52 : as 52 = b52 := by rw [has]; rfl
  have e53 : as 53 = b53 := by rw [has]; rfl
  have e54 : as 54 = b54 := by rw [has]; rfl
  have e55 : as 55 = b55 := by rw [has]; rfl
  have e56 : as 56 = b56 := by rw [has]; rfl
  have e57 : as 57 = b57 := by rw [has]; rfl
  have e58 : as 58 = b58 := by rw [has]; rfl
  have e59 : as 59 = b59 := by rw [has]; rfl
  have e60 : as 60 = b60 := by rw [has]; rfl
  have e61 : as 61 = b61 := by rw [has]; rfl
  have e62 : as 62 = b62 := by rw [has]; rfl
  have e63 : as 63 = b63 := by rw [has]; rfl
  have e64 : as 64 = b64 := by rw [has]; rfl
  have e65 : as 65 = b65 := by rw [has]; rfl
  have e66 : as 66 = b66 := by rw [has]; rfl
  have e67 : as 67 = b67 := by rw [has]; rfl
  have e68 : as 68 = b68 := by rw [has]; rfl
  have e69 : as 69 = b69 := by rw [has]; rfl
  have e70 : as 70 = b70 := by rw [has]; rfl
  have e71 : as 71 = b71 := by rw [has]; rfl
  have e72 : as 72 = b72 := by rw [has]; rfl
  have e73 : as 73 = b73 := by rw [has]; rfl
  have e74 : as 74 = b74 := by rw [has]; rfl
  have e75 : as 75 = b75 := by rw [has]; rfl
  have e76 : as 76 = b76 := by rw [has]; rfl
  have e77 : as 77 = b77 := by rw [has]; rfl
  have e78 : as 78 = b78 := by rw [has]; rfl
  have e79 : as 79 = b79 := by rw [has]; rfl
  have e80 : as 80 = b80 := by rw [has]; rfl
  have e81 : as 81 = b81 := by rw [has]; rfl
  have e82 : as 82 = b82 := by rw [has]; rfl
  have e83 : as 83 = b83 := by rw [has]; rfl
  have e84 : as 84 = b84 := by rw [has]; rfl
  have e85 : as 85 = b85 := by rw [has]; rfl
  have e86 : as 86 = b86 := by rw [has]; rfl
  have e87 : as 87 = b87 := by rw [has]; rfl
  have e88 : as 88 = b88 := by rw [has]; rfl
  have e89 : as 89 = b89 := by rw [has]; rfl
  have e90 : as 90 = b90 := by rw [has]; rfl
  have e91 : as 91 = b91 := by rw [has]; rfl
  have e92 : as 92 = b92 := by rw [has]; rfl
  have e93 : as 93 = b93 := by rw [has]; rfl
  have e94 : as 94 = b94 := by rw [has]; rfl
  have e95 : as 95 = b95 := by rw [has]; rfl
  clear has
  refine n_sim (ws' := wldP as α D 0 96) ?_ (n_end ⟨(ck DX6_init_2 6 rfl), rfl, as, e0, rfl⟩ (Nat.le_refl _) (Nat.le_refl _))
  subst e95
  subst e94
  subst e93
  subst e92
  subst e91
  subst e90
  subst e89
  subst e88
  subst e87
  subst e86
  subst e85
  subst e84
  subst e83
  subst e82
  subst e81
  subst e80
  subst e79
  subst e78
  subst e77
  subst e76
  subst e75
  subst e74
  subst e73
  subst e72
  subst e71
  subst e70
  subst e69
  subst e68
  subst e67
  subst e66
  subst e65
  subst e64
  subst e63
  subst e62
  subst e61
  subst e60
  subst e59
  subst e58
  subst e57
  subst e56
  subst e55
  subst e54
  subst e53
  subst e52
  subst e51
  subst e50
  subst e49
  subst e48
  subst e47
  subst e46
  subst e45
  subst e44
  subst e43
  subst e42
  subst e41
  subst e40
  subst e39
  subst e38
  subst e37
  subst e36
  subst e35
  subst e34
  subst e33
  subst e32
  subst e31
  subst e30
  subst e29
  subst e28
  subst e27
  subst e26
  subst e25
  subst e24
  subst e23
  subst e22
  subst e21
  subst e20
  subst e19
  subst e18
  subst e17
  subst e16
  subst e15
  subst e14
  subst e13
  subst e12
  subst e11
  subst e10
  subst e9
  subst e8
  subst e7
  subst e6
  subst e5
  subst e4
  subst e3
  subst e2
  subst e1
  subst e0
  refine sk_A ?_
  refine sk_x ?_
  refine sk_x ?_
  refine sk_0 ?_
  refine sk_n (n := 95) sh_95 (eqE.of rfl) ?_
  refine sk_n (n := 94) sh_94 (eqE.of rfl) ?_
  refine sk_A ?_
  refine sk_x ?_
  refine sk_x ?_
  refine sk_0 ?_
  refine sk_n (n := 93) sh_93 (eqE.of rfl) ?_
  refine sk_n (n := 92) sh_92 (eqE.of rfl) ?_
  refine sk_A ?_
  refine sk_x ?_
  refine sk_x ?_
  refine sk_0 ?_
  refine sk_n (n := 91) sh_91 (eqE.of rfl) ?_
  refine sk_n (n := 90) sh_90 (eqE.of rfl) ?_
  refine sk_A ?_
  refine sk_x ?_
  refine sk_x ?_
  refine sk_0 ?_
  refine sk_n (n := 89) sh_89 (eqE.of rfl) ?_
  refine sk_n (n := 88) sh_88 (eqE.of rfl) ?_
  refine sk_A ?_
  refine sk_x ?_
  refine sk_x ?_
  refine sk_0 ?_
  refine sk_n (n := 87) sh_87 (eqE.of rfl) ?_
  refine sk_n (n := 86) sh_86 (eqE.of rfl) ?_
  refine sk_A ?_
  refine sk_x ?_
  refine sk_x ?_
  refine sk_0 ?_
  refine sk_n (n := 85) sh_85 (eqE.of rfl) ?_
  refine sk_n (n := 84) sh_84 (eqE.of rfl) ?_
  refine sk_0 ?_
  refine sk_n (n := 83) sh_83 (eqE.q rfl (al1 rfl (al1 rfl (al1 rfl (al1 rfl (al1 rfl (al1 rfl al0))))))) ?_
  refine sk_x ?_
  refine sk_x ?_
  refine sk_0 ?_
  refine sk_n (n := 82) sh_82 (eqE.of rfl) ?_
  refine sk_n (n := 81) sh_81 (eqE.of rfl) ?_
  refine sk_x ?_
  refine sk_x ?_
  refine sk_0 ?_
  refine sk_n (n := 80) sh_80 (eqE.of rfl) ?_
  refine sk_n (n := 79) sh_79 (eqE.of rfl) ?_
  refine sk_A ?_
  refine sk_x ?_
  refine sk_x ?_
  refine sk_x ?_
  refine sk_x ?_
  refine sk_x ?_
  refine sk_0 ?_
  refine sk_n (n := 78) sh_78 (eqE.of rfl) ?_
  refine sk_n (n := 77) sh_77 (eqE.of rfl) ?_
  refine sk_n (n := 76) sh_76 (eqE.of rfl) ?_
  refine sk_n (n := 75) sh_75 (eqE.of rfl) ?_
  refine sk_n (n := 74) sh_74 (eqE.of rfl) ?_
  refine sk_A ?_
  refine sk_x ?_
  refine sk_x ?_
  refine sk_x ?_
  refine sk_x ?_
  refine sk_x ?_
  refine sk_0 ?_
  refine sk_n (n := 73) sh_73 (eqE.of rfl) ?_
  refine sk_n (n := 72) sh_72 (eqE.of rfl) ?_
  refine sk_n (n := 71) sh_71 (eqE.of rfl) ?_
  refine sk_n (n := 70) sh_70 (eqE.of rfl) ?_
  refine sk_n (n := 69) sh_69 (eqE.of rfl) ?_
  refine sk_A ?_
  refine sk_x ?_
  refine sk_x ?_
  refine sk_x ?_
  refine sk_x ?_
  refine sk_x ?_
  refine sk_0 ?_
  refine sk_n (n := 68) sh_68 (eqE.of rfl) ?_
  refine sk_n (n := 67) sh_67 (eqE.of rfl) ?_
  refine sk_n (n := 66) sh_66 (eqE.of rfl) ?_
  refine sk_n (n := 65) sh_65 (eqE.of rfl) ?_
  refine sk_n (n := 64) sh_64 (eqE.of rfl) ?_
  refine sk_A ?_
  refine sk_x ?_
  refine sk_x ?_
  refine sk_x ?_
  refine sk_x ?_
  refine sk_x ?_
  refine sk_0 ?_
  refine sk_n (n := 63) sh_63 (eqE.of rfl) ?_
  refine sk_n (n := 62) sh_62 (eqE.of rfl) ?_
  refine sk_n (n := 61) sh_61 (eqE.of rfl) ?_
  refine sk_n (n := 60) sh_60 (eqE.of rfl) ?_
  refine sk_n (n := 59) sh_59 (eqE.of rfl) ?_
  refine sk_A ?_
  refine sk_x ?_
  refine sk_x ?_
  refine sk_x ?_
  refine sk_x ?_
  refine sk_x ?_
  refine sk_0 ?_
  refine sk_n (n := 58) sh_58 (eqE.of rfl) ?_
  refine sk_n (n := 57) sh_57 (eqE.of rfl) ?_
  refine sk_n (n := 56) sh_56 (eqE.of rfl) ?_
  refine sk_n (n := 55) sh_55 (eqE.of rfl) ?_
  refine sk_n (n := 54) sh_54 (eqE.of rfl) ?_
  refine sk_A ?_
  refine sk_x ?_
  refine sk_x ?_
  refine sk_x ?_
  refine sk_x ?_
  refine sk_x ?_
  refine sk_0 ?_
  refine sk_n (n := 53) sh_53 (eqE.of rfl) ?_
  refine sk_n (n := 52) sh_52 (eqE.of rfl) ?_
  refine sk_n (n := 51) sh_51 (eqE.of rfl) ?_
  refine sk_n (n := 50) sh_50 (eqE.of rfl) ?_
  refine sk_n (n := 49) sh_49 (eqE.of rfl) ?_
  refine sk_0 ?_
  refine sk_n (n := 48) sh_48 (eqE.q rfl (al1 rfl (al1 rfl (al1 rfl (al1 rfl (al1 rfl (al1 rfl al0))))))) ?_
  refine sk_x ?_
  refine sk_x ?_
  refine sk_x ?_
  refine sk_0 ?_
  refine sk_n (n := 47) sh_47 (eqE.of rfl) ?_
  refine sk_n (n := 46) sh_46 (eqE.of rfl) ?_
  refine sk_n (n := 45) sh_45 (eqE.of rfl) ?_
  refine sk_x ?_
  refine sk_x ?_
  refine sk_x ?_
  refine sk_0 ?_
  refine sk_n (n := 44) sh_44 (eqE.of rfl) ?_
  refine sk_n (n := 43) sh_43 (eqE.of rfl) ?_
  refine sk_n (n := 42) sh_42 (eqE.of rfl) ?_
  refine sk_x ?_
  refine sk_x ?_
  refine sk_x ?_
  refine sk_0 ?_
  refine sk_n (n := 41) sh_41 (eqE.of rfl) ?_
  refine sk_n (n := 40) sh_40 (eqE.of rfl) ?_
  refine sk_n (n := 39) sh_39 (eqE.of rfl) ?_
  refine sk_x ?_
  refine sk_x ?_
  refine sk_x ?_
  refine sk_0 ?_
  refine sk_n (n := 38) sh_38 (eqE.of rfl) ?_
  refine sk_n (n := 37) sh_37 (eqE.of rfl) ?_
  refine sk_n (n := 36) sh_36 (eqE.of rfl) ?_
  refine sk_x ?_
  refine sk_x ?_
  refine sk_x ?_
  refine sk_0 ?_
  refine sk_n (n := 35) sh_35 (eqE.of rfl) ?_
  refine sk_n (n := 34) sh_34 (eqE.of rfl) ?_
  refine sk_n (n := 33) sh_33 (eqE.of rfl) ?_
  refine sk_x ?_
  refine sk_x ?_
  refine sk_x ?_
  refine sk_0 ?_
  refine sk_n (n := 32) sh_32 (eqE.of rfl) ?_
  refine sk_n (n := 31) sh_31 (eqE.of rfl) ?_
  refine sk_n (n := 30) sh_30 (eqE.of rfl) ?_
  refine sk_x ?_
  refine sk_x ?_
  refine sk_x ?_
  refine sk_x ?_
  refine sk_x ?_
  refine sk_x ?_
  refine sk_x ?_
  refine sk_x ?_
  refine sk_0 ?_
  refine sk_n (n := 29) sh_29 (eqE.of rfl) ?_
  refine sk_n (n := 28) sh_28 (eqE.of rfl) ?_
  refine sk_n (n := 27) sh_27 (eqE.of rfl) ?_
  refine sk_n (n := 26) sh_26 (eqE.of rfl) ?_
  refine sk_n (n := 25) sh_25 (eqE.of rfl) ?_
  refine sk_n (n := 24) sh_24 (eqE.of rfl) ?_
  refine sk_n (n := 23) sh_23 (eqE.of rfl) ?_
  refine sk_n (n := 22) sh_22 (eqE.of rfl) ?_
  refine sk_x ?_
  refine sk_x ?_
  refine sk_x ?_
  refine sk_x ?_
  refine sk_x ?_
  refine sk_x ?_
  refine sk_x ?_
  refine sk_x ?_
  refine sk_0 ?_
  refine sk_n (n := 21) sh_21 (eqE.of rfl) ?_
  refine sk_n (n := 20) sh_20 (eqE.of rfl) ?_
  refine sk_n (n := 19) sh_19 (eqE.of rfl) ?_
  refine sk_n (n := 18) sh_18 (eqE.of rfl) ?_
  refine sk_n (n := 17) sh_17 (eqE.of rfl) ?_
  refine sk_n (n := 16) sh_16 (eqE.of rfl) ?_
  refine sk_n (n := 15) sh_15 (eqE.of rfl) ?_
  refine sk_n (n := 14) sh_14 (eqE.of rfl) ?_
  refine sk_x ?_
  refine sk_x ?_
  refine sk_x ?_
  refine sk_x ?_
  refine sk_x ?_
  refine sk_x ?_
  refine sk_x ?_
  refine sk_x ?_
  refine sk_0 ?_
  refine sk_n (n := 13) sh_13 (eqE.of rfl) ?_
  refine sk_n (n := 12) sh_12 (eqE.of rfl) ?_
  refine sk_n (n := 11) sh_11 (eqE.of rfl) ?_
  refine sk_n (n := 10) sh_10 (eqE.of rfl) ?_
  refine sk_n (n := 9) sh_9 (eqE.of rfl) ?_
  refine sk_n (n := 8) sh_8 (eqE.of rfl) ?_
  refine sk_n (n := 7) sh_7 (eqE.of rfl) ?_
  refine sk_n (n := 6) sh_6 (eqE.of rfl) ?_
  refine sk_x ?_
  refine sk_x ?_
  refine sk_x ?_
  refine sk_x ?_
  refine sk_x ?_
  refine sk_0 ?_
  refine sk_n (n := 5) sh_5 (eqE.of rfl) ?_
  refine sk_n (n := 4) sh_4 (eqE.of rfl) ?_
  refine sk_n (n := 3) sh_3 (eqE.of rfl) ?_
  refine sk_n (n := 2) sh_2 (eqE.of rfl) ?_
  refine sk_n (n := 1) sh_1 (eqE.of rfl) ?_
  refine sk_1 sh_0 (obj_eq (as := as) (k := 0) (ci := 6) (N := 15) (ks := [2, 2, 2, 2, 2, 2, 2, 2, 2, 0, 2, 0, 2, 2, 2]) rfl rfl ?_)
  exact al1 rfl (al1 rfl (al1 rfl (al1 rfl (al1 rfl (al1 rfl (al1 rfl (al1 rfl (al1 rfl (al1 rfl (al1 rfl (al1 rfl (al1 rfl (al1 rfl (al1 rfl (al0)))))))))))))))
