/-! constructors: their contract, and their calls -/
section ND
variable {Y : MD} {d : Nat} {ini : Prop} {D : va_G} {α : Nat → ClassId} {kc ks : Nat} {Fi : FNN} {pc : Nat} {lv : List (Nat × Value)} {st : List Value} {ws : va_W} {cells slots : Nat}
theorem n_icmpge_t {x y : Int32} {off : Int} (tgt : Nat) (hdg : decode Y.2.1 pc = .ok (.if_icmp .ge off, 3)) (ht : (pc : Int) + off = (tgt : Int)) (hc : y ≤ x) (kk : RunN Y d ini D α kc ks Fi tgt lv st ws cells slots) : RunN Y d ini D α kc ks Fi pc lv (.int y :: .int x :: st) ws cells slots := by
  intro p l e R s m args below meth c A Q C0 c1 c2 K H locs ls hP hD hS hl
  exact lv_icmp_ge C0.1.1 C0.1.2.1 hdg ht (fun _ => kk p l e R s m args below meth c A Q C0 c1 c2 K H locs ls hP hD hS hl) (fun q => absurd hc q)
theorem n_icmpge_f (n9 : Nat) (hp : pc + 3 = n9) {x y : Int32} {off : Int} (tgt : Nat) (hdg : decode Y.2.1 pc = .ok (.if_icmp .ge off, 3)) (ht : (pc : Int) + off = (tgt : Int)) (hc : ¬ y ≤ x) (kk : RunN Y d ini D α kc ks Fi n9 lv st ws cells slots) : RunN Y d ini D α kc ks Fi pc lv (.int y :: .int x :: st) ws cells slots := by
  subst hp
  intro p l e R s m args below meth c A Q C0 c1 c2 K H locs ls hP hD hS hl
  exact lv_icmp_ge C0.1.1 C0.1.2.1 hdg ht (fun q => absurd q hc) (fun _ => kk p l e R s m args below meth c A Q C0 c1 c2 K H locs ls hP hD hS hl)
/-- an object into a row of objects -/
theorem n_aast (n9 : Nat) (hp : pc + 1 = n9) {hd : Nat × va_E} {wA wO w' : va_W} {a v n t0 ci : Nat} {r : vw_C} {cA : ClassId} {f : Nat → Option Nat} {vs : List Value} {i : Int32} (ht : (TYa α)[t0]? = some (cA, .object r.1)) (hc : CL[ci]? = some r) (hin : vp_in i n) (hdg : decode Y.2.1 pc = .ok (.aastore, 1)) (kk : RunN Y d ini D α kc ks Fi n9 lv st (hd :: ((wA ++ [(a, .inl (cA, n, .inr (.inr (.inr (.inr (va_up f i.toNatClampNeg (some v)))))))]) ++ (wO ++ ((v, .inr (ci, vs)) :: w')))) cells slots) : RunN Y d ini D α kc ks Fi pc lv (.ref v :: .int i :: .ref a :: st) (hd :: ((wA ++ [(a, .inl (cA, n, .inr (.inr (.inr (.inr f)))))]) ++ (wO ++ ((v, .inr (ci, vs)) :: w')))) cells slots := by
  subst hp
  intro p l e R s m args below meth c A Q C0 c1 c2 K H locs ls hP hD hS hl
  have h1 : (hd :: ((wA ++ [(a, (.inl (cA, n, .inr (.inr (.inr (.inr f)))) : va_E))]) ++ (wO ++ ((v, .inr (ci, vs)) :: w'))))[wA.length + 1]? = some (a, .inl (cA, n, .inr (.inr (.inr (.inr f))))) := by
    rw [List.getElem?_cons_succ, List.getElem?_append_left (by simp), List.getElem?_append_right (Nat.le_refl _), Nat.sub_self]
    rfl
  have h2 : (hd :: ((wA ++ [(a, (.inl (cA, n, .inr (.inr (.inr (.inr f)))) : va_E))]) ++ (wO ++ ((v, .inr (ci, vs)) :: w'))))[wA.length + 1 + wO.length + 1]? = some (v, .inr (ci, vs)) := by
    rw [List.getElem?_cons_succ, List.getElem?_append_right (by simp), List.getElem?_append_right (by simp)]
    have e : wA.length + 1 + wO.length - (wA ++ [(a, (.inl (cA, n, .inr (.inr (.inr (.inr f)))) : va_E))]).length - wO.length = 0 := by simp
    rw [e]
    rfl
  refine va_astq C0.1.1 C0.1.2.1 C0.2.2.2.2.1 hP hD hS (wA.length + 1) t0 (wA.length + 1 + wO.length + 1) ci h1 ht h2 hc hin hdg (fun H1 locs1 hP hD hS => ?_)
  have e9 : (hd :: ((wA ++ [(a, (.inl (cA, n, .inr (.inr (.inr (.inr f)))) : va_E))]) ++ (wO ++ ((v, .inr (ci, vs)) :: w')))).set (wA.length + 1) (a, .inl (cA, n, .inr (.inr (.inr (.inr (va_up f i.toNatClampNeg (some v))))))) = hd :: ((wA ++ [(a, .inl (cA, n, .inr (.inr (.inr (.inr (va_up f i.toNatClampNeg (some v)))))))]) ++ (wO ++ ((v, .inr (ci, vs)) :: w'))) := by
    rw [List.set_cons_succ, List.set_append_left _ _ (by simp), List.set_append_right _ _ (Nat.le_refl _), Nat.sub_self]
    rfl
  rw [e9] at hP hD
  exact kk p l e R s m args below meth c A Q C0 c1 c2 K H1 locs1 ls hP hD hS hl
/-- the contract of a method that is handed one cell, and leaves others -/
def NC (Y : MD) (d : Nat) (D : va_G) (α : Nat → ClassId) (kc ks q : Nat) (As : List Value) (en : va_E) (Post : va_W → Prop) : Prop :=
  ∀ (l : Launch) (sz : Nat), Met l Y.1 (.code Y.1 Y.2.1 Y.2.2.1 Y.2.2.2 :: TBL) ({ frames := d, cells := kc, slots := ks, locals := 60 * d }) (va_Pc (.ref q :: As) (fun U => U.heap.size = sz ∧ va_P D CL [(q, en)] U.heap ∧ va_K D CL (TYa α) U ∧ va_D (fun _ => True) [(q, en)] ∧ KO U)) (va_Qv Post (fun w t => va_P D CL w t.heap ∧ va_D (va_A [(q, en)] sz) w) (va_A [(q, en)] sz)) kc ks (va_A [(q, en)] sz)
theorem NC_of {Y : MD} {d : Nat} {D : va_G} {α : Nat → ClassId} {kc ks q : Nat} {As : List Value} {en : va_E} {Post : va_W → Prop} (hy : plainName Y.1.cls = true) (hr : Y.2.2.2 = none) (hn : (lg_sl (.ref q :: As)).length ≤ Y.2.2.1)
    (hR : RunN Y d (Y.1.name = "<init>") D α kc ks (fun pc _ st w => decode Y.2.1 pc = .ok (.return_, 1) ∧ st = [] ∧ Post w) 0 (lv_args 0 (.ref q :: As)) [] [(q, en)] 0 0) : NC Y d D α kc ks q As en Post := by
  obtain ⟨y, code, nL, ret⟩ := Y
  intro l sz
  refine Met.ofW (cc := code) (maxL := nL) (ret := ret) hy rfl ?_
  intro p e s m args below meth c s₁ B hml hv
  obtain ⟨rfl, hsz, hP, hK, hD0, hO⟩ := hv
  have hts := atoms_spec (ws := .code y code nL ret :: TBL) B.pre
  have hown : s.vm.findClass y.cls = some m.cls := findClass_of_methodNamed B.named
  have hrt := B.returns
  have hlocks := B.notSynchronized
  subst hsz
  have hD := hD0.self (sz := s.heap.size)
  have hl := lv_entry (.ref q :: As) (n := nL) hn
  rw [lg_entry_eq]
  have hname : meth.name = y.name := (name_of_methodNamed B.named B.method).1
  refine hR p l e _ s m _ below meth c (va_A [(q, en)] s.heap.size) _ ⟨⟨B.exec, B.bytes, hml, hown, fun w hw => hts w (List.mem_cons_of_mem _ hw)⟩, Nat.le_refl d, Nat.le_refl _, fun q hq => Or.inr hq, hK, fun h => hname.trans h, hO⟩ (Nat.le_refl kc) (Nat.le_refl ks) ?_ s.heap [] _ hP hD va_S.rf hl
  intro H locs ls pcR lvR stR w hF hP9 hD9 hS9 hl9
  obtain ⟨f1, rfl, f3⟩ := hF
  exact W.vret B.exec B.bytes (hrt.trans hr) (fun t ht _ => ⟨⟨w, rfl, f3, by rw [ht]; exact hP9, hD9⟩, hS9.F ht⟩) hS9.2.2 f1 hlocks
theorem A_one {q sz a : Nat} {en : va_E} (h : va_A [(q, en)] sz a) : a = q ∨ sz ≤ a := by
  rcases h with ⟨k2, e2, h⟩ | h
  · cases k2 with
    | zero =>
      have e3 : (q, en) = (a, e2) := Option.some.inj h
      exact Or.inl (congrArg Prod.fst e3).symm
    | succ k3 => exact absurd h (by simp)
  · exact Or.inr h
theorem at_end (wr : va_W) (x : Nat × va_E) : (wr ++ [x])[wr.length]? = some x := by
  rw [List.getElem?_append_right (Nat.le_refl _), Nat.sub_self]; rfl
/-- what came back, beside the rest -/
theorem join_n {A0 : Nat → Prop} {D : va_G} {wr w1 : va_W} {q : Nat} {en : va_E} {H H1 : Heap} (hP : va_P D CL (wr ++ [(q, en)]) H) (hD : va_D A0 (wr ++ [(q, en)])) (hk : ∀ a : Nat, a < H.size → ¬ va_A [(q, en)] H.size a → H1[a]? = H[a]?) (hF : ∀ a, H.size ≤ a → A0 a) (hP1 : va_P D CL w1 H1) (hD1 : va_D (va_A [(q, en)] H.size) w1) : va_P D CL (wr ++ w1) H1 ∧ va_D A0 (wr ++ w1) := by
  have hq : (wr ++ [(q, en)])[wr.length]? = some (q, en) := by rw [List.getElem?_append_right (Nat.le_refl _), Nat.sub_self]; rfl
  have hw : ∀ (k : Nat) (x : Nat × va_E), wr[k]? = some x → (wr ++ [(q, en)])[k]? = some x := fun k x hx => by
    rw [List.getElem?_append_left (List.getElem?_eq_some_iff.mp hx).1]; exact hx
  have apart : ∀ (k : Nat) (x : Nat × va_E), wr[k]? = some x → x.1 < H.size ∧ ¬ va_A [(q, en)] H.size x.1 := by
    intro k x hx
    have hl := (hP k x (hw k x hx)).lt
    refine ⟨hl, fun h => ?_⟩
    rcases A_one h with h | h
    · have e4 := hD.1 k wr.length x (q, en) (hw k x hx) hq h
      have := (List.getElem?_eq_some_iff.mp hx).1
      omega
    · omega
  have hA : ∀ a, va_A [(q, en)] H.size a → A0 a := fun a h => by
    rcases A_one h with rfl | h
    · exact hD.2 _ _ hq
    · exact hF a h
  refine ⟨va_P.app (fun k x hx => (hP k x (hw k x hx)).kept (hk x.1 (apart k x hx).1 (apart k x hx).2)) hP1, va_D.app ⟨fun i j x y hx hy e => hD.1 i j x y (hw i x hx) (hw j y hy) e, fun k x hx => hD.2 k x (hw k x hx)⟩ (hD1.weaken (fun k x _ h => hA x.1 h)) (fun i j x y hx hy hxy => (apart i x hx).2 (by rw [hxy]; exact hD1.2 j y hy))⟩
def CI (own : String) (idx n : Nat) (Yc : MD) : Prop := Cond.methodLink own idx Yc.1 ∈ TBL ∧ Cond.instanceMethod Yc.1 ∈ TBL ∧ Yc.1.name = "<init>" ∧ Cond.initialized Yc.1.cls ∈ TBL ∧ Cond.code Yc.1 Yc.2.1 Yc.2.2.1 none ∈ TBL ∧ Yc.1.cls ≠ "java/lang/invoke/MethodHandle" ∧ Yc.1.cls ≠ "java/lang/invoke/VarHandle" ∧ (parseMethodDescriptor Yc.1.desc).map (fun d => d.parameters.length) = some n ∧ Yc.2.2.1 ≤ 30 ∧ Yc.2.2.2 = none
theorem n_pre {D : va_G} {α : Nat → ClassId} {wr : va_W} {q : Nat} {en : va_E} {s U : State} {H : Heap} (hK : va_K D CL (TYa α) s) (hO : KO s) (hP : va_P D CL (wr ++ [(q, en)]) H) (hU : U.heap = H) (hW : s.WarmedH U.vm) : U.heap.size = H.size ∧ va_P D CL [(q, en)] U.heap ∧ va_K D CL (TYa α) U ∧ va_D (fun _ => True) [(q, en)] ∧ KO U := by
  refine ⟨by rw [hU], ?_, va_K.moved hW.alike hK, ⟨fun i j x y hx hy _ => ?_, fun _ _ _ => trivial⟩, KO.warm hW hO⟩
  · rw [hU]
    intro k x hk
    cases k with
    | zero =>
      have e : (q, en) = x := Option.some.inj hk
      subst e
      exact hP wr.length _ (by rw [List.getElem?_append_right (Nat.le_refl _), Nat.sub_self]; rfl)
    | succ k => exact absurd hk (by simp)
  · cases i with
    | zero => cases j with
      | zero => rfl
      | succ j => exact absurd hy (by simp)
    | succ i => exact absurd hx (by simp)
theorem n_init (n9 : Nat) (hp : pc + 3 = n9) {Yc : MD} {dc idx n q kc' ks' : Nat} {As stk : List Value} {en : va_E} {wr : va_W} {Post : va_W → Prop} (hc : NC Yc dc D α kc' ks' q As en Post) (hd : dc + 1 ≤ d) (F : CI Y.1.cls idx n Yc) (hn : As.length = n) (hst : stk = As.reverse ++ .ref q :: st) (hcat : (st.map fun v => v.category).sum ≤ 8) (h1 : cells + kc' ≤ kc) (h2 : slots + ks' ≤ ks) (hdg : decode Y.2.1 pc = .ok (.invokespecial idx, 3)) (kk : ∀ w', Post w' → RunN Y d ini D α kc ks Fi n9 lv st (wr ++ w') (cells + kc') (slots + ks')) : RunN Y d ini D α kc ks Fi pc lv stk (wr ++ [(q, en)]) cells slots := by
  subst hp
  intro p l e R s m args below meth c A Q C0 c1 c2 K H locs ls hP hD hS hl
  subst hst
  obtain ⟨f1, f2, f3, f4, f5, f6, f7, f8, f9, f10⟩ := F
  obtain ⟨y, code, nL, ret⟩ := Yc
  have f11 : ret = none := f10
  subst f11
  have hts := C0.1.2.2.2.2
  have cw := cwI (R := R) (s := s) (args := args) (own := Y.1.cls) (index := idx) (y := y) (bytes := code) (maxL := nL) (ws := .code y code nL none :: TBL) (rm := { frames := dc, cells := kc', slots := ks', locals := 60 * dc }) (mc := kc') (ms := ks') n hts (good_Y (Yc := (y, code, nL, none)) f5) rfl rfl rfl (hts _ f4) (hts _ f1) (hts _ f2) f3 ⟨f6, f7, f8⟩ ⟨by have := C0.2.1; show dc + 1 ≤ R.frames; omega, by have := C0.2.2.1; have f12 : nL ≤ 30 := f9; show 8 + (nL + 11) + 60 * dc ≤ R.locals; omega⟩
  refine va_callv (va_runI (As := As) (rest := st) ⟨C0.1.1, C0.1.2.1, C0.1.2.2.1, C0.1.2.2.2.1, hts⟩ (hc l H.size) cw ⟨fun a U g mk q => by
      obtain ⟨q0, q1, q2, q3, q4, q5⟩ := q
      exact ⟨q0, q1, q2, va_K.moved (u := U) (U := U.calling g mk a) (Vm.Alike.refl U.vm) q3, q4, KO.same (s := U) (U := U.calling g mk a) rfl q5⟩, fun U hU hW => ⟨rfl, n_pre C0.2.2.2.2.1 C0.2.2.2.2.2.2 hP hU hW⟩⟩ rfl hn hl.1 rfl (lv_room hcat) hdg ⟨Nat.le_trans h1 c1, Nat.le_trans h2 c2⟩) hS (fun a _ ha => ?_) (fun a ha => ?_) (fun w t H1 locs1 ht _ hpost hB _ hk hS9 => ?_)
  · rcases A_one ha with rfl | h
    · exact hD.2 _ _ (at_end wr _)
    · exact C0.2.2.2.1 a (Nat.le_trans hS.1 h)
  · rcases A_one ha with rfl | h
    · exact hD.2 _ _ (at_end wr _)
    · exact C0.2.2.2.1 a (Nat.le_trans hS.1 h)
  · obtain ⟨g1, g2⟩ := hB
    rw [ht] at g1
    obtain ⟨j1, j2⟩ := join_n hP hD hk (fun a h => C0.2.2.2.1 a (Nat.le_trans hS.1 h)) g1 g2
    exact kk w hpost p l e R s m args below meth c A Q C0 c1 c2 K H1 locs1 ls j1 j2 hS9 hl
def CIN (own : String) (idx n : Nat) (Yc : MD) : Prop := (∀ s, KO s → va_Nw (.methodLinkNest own idx Yc.1 RX6) s) ∧ Cond.instanceMethod Yc.1 ∈ TBL ∧ Yc.1.name = "<init>" ∧ Cond.initialized Yc.1.cls ∈ TBL ∧ Cond.code Yc.1 Yc.2.1 Yc.2.2.1 none ∈ TBL ∧ Yc.1.cls ≠ "java/lang/invoke/MethodHandle" ∧ Yc.1.cls ≠ "java/lang/invoke/VarHandle" ∧ (parseMethodDescriptor Yc.1.desc).map (fun d => d.parameters.length) = some n ∧ Yc.2.2.1 ≤ 30 ∧ Yc.2.2.2 = none
theorem n_initN (n9 : Nat) (hp : pc + 3 = n9) {Yc : MD} {dc idx n q kc' ks' : Nat} {As stk : List Value} {en : va_E} {wr : va_W} {Post : va_W → Prop} (hc : NC Yc dc D α kc' ks' q As en Post) (hd : dc + 1 ≤ d) (F : CIN Y.1.cls idx n Yc) (hn : As.length = n) (hst : stk = As.reverse ++ .ref q :: st) (hcat : (st.map fun v => v.category).sum ≤ 8) (h1 : cells + kc' ≤ kc) (h2 : slots + ks' ≤ ks) (hdg : decode Y.2.1 pc = .ok (.invokespecial idx, 3)) (kk : ∀ w', Post w' → RunN Y d ini D α kc ks Fi n9 lv st (wr ++ w') (cells + kc') (slots + ks')) : RunN Y d ini D α kc ks Fi pc lv stk (wr ++ [(q, en)]) cells slots := by
  subst hp
  intro p l e R s m args below meth c A Q C0 c1 c2 K H locs ls hP hD hS hl
  subst hst
  obtain ⟨f1, f2, f3, f4, f5, f6, f7, f8, f9, f10⟩ := F
  obtain ⟨y, code, nL, ret⟩ := Yc
  have f11 : ret = none := f10
  subst f11
  have hts := C0.1.2.2.2.2
  have cw0 := va_cnB (R := R) (s := s) (args := args) (own := Y.1.cls) (host := RX6) (index := idx) (y := y) (bytes := code) (maxL := nL) (ret := none) (ws := .code y code nL none :: TBL) (rm := { frames := dc, cells := kc', slots := ks', locals := 60 * dc }) (mc := kc') (ms := ks') n hts (good_Y (Yc := (y, code, nL, none)) f5) rfl rfl rfl (f1 s C0.2.2.2.2.2.2) (hts _ f4) ⟨f6, f7, f8⟩ ⟨by have := C0.2.1; show dc + 1 ≤ R.frames; omega, by have := C0.2.2.1; have f12 : nL ≤ 30 := f9; show 8 + (nL + 11) + 60 * dc ≤ R.locals; omega⟩
  have cw : _ ∧ y.name = "<init>" ∧ (Cond.instanceMethod y).before args s = true := ⟨cw0, f3, hts _ f2⟩
  refine va_callv (va_runIN (As := As) (rest := st) ⟨C0.1.1, C0.1.2.1, C0.1.2.2.1, C0.1.2.2.2.1, hts⟩ (hc l H.size) cw ⟨fun a U g mk q => by
      obtain ⟨q0, q1, q2, q3, q4, q5⟩ := q
      exact ⟨q0, q1, q2, va_K.moved (u := U) (U := U.calling g mk a) (Vm.Alike.refl U.vm) q3, q4, KO.same (s := U) (U := U.calling g mk a) rfl q5⟩, fun U hU hW => ⟨rfl, n_pre C0.2.2.2.2.1 C0.2.2.2.2.2.2 hP hU hW⟩⟩ rfl hn hl.1 rfl (lv_room hcat) hdg ⟨Nat.le_trans h1 c1, Nat.le_trans h2 c2⟩) hS (fun a _ ha => ?_) (fun a ha => ?_) (fun w t H1 locs1 ht _ hpost hB _ hk hS9 => ?_)
  · rcases A_one ha with rfl | h
    · exact hD.2 _ _ (at_end wr _)
    · exact C0.2.2.2.1 a (Nat.le_trans hS.1 h)
  · rcases A_one ha with rfl | h
    · exact hD.2 _ _ (at_end wr _)
    · exact C0.2.2.2.1 a (Nat.le_trans hS.1 h)
  · obtain ⟨g1, g2⟩ := hB
    rw [ht] at g1
    obtain ⟨j1, j2⟩ := join_n hP hD hk (fun a h => C0.2.2.2.1 a (Nat.le_trans hS.1 h)) g1 g2
    exact kk w hpost p l e R s m args below meth c A Q C0 c1 c2 K H1 locs1 ls j1 j2 hS9 hl
/-- a method called on the first object -/
theorem n_callv (n9 : Nat) (hp : pc + 3 = n9) {Yc : MD} {dc idx n q ci kc' ks' : Nat} {As stk fs : List Value} {w : va_W} {T : u_T} {N : Nat} {Post : va_W → Prop} (hc : NC Yc dc D α kc' ks' q As (.inr (ci, fs)) Post) (hd : dc + 1 ≤ d) (F : CW Y.1.cls idx n Yc) (hr : Yc.2.2.2 = none) (hci : CL[ci]? = some (Yc.1.cls, T, N)) (hn : As.length = n) (hst : stk = As.reverse ++ .ref q :: st) (hcat : (st.map fun v => v.category).sum ≤ 8) (h1 : cells + kc' ≤ kc) (h2 : slots + ks' ≤ ks) (hdg : decode Y.2.1 pc = .ok (.invokevirtual idx, 3)) (kk : ∀ w', Post w' → RunN Y d ini D α kc ks Fi n9 lv st (w' ++ w) (cells + kc') (slots + ks')) : RunN Y d ini D α kc ks Fi pc lv stk ((q, .inr (ci, fs)) :: w) cells slots := by
  subst hp
  intro p l e R s m args below meth c A Q C0 c1 c2 K H locs ls hP0 hD0 hS hl
  subst hst
  have hP : va_P D CL (w ++ [(q, .inr (ci, fs))]) H := va_P.swap (a := []) (b := [(q, .inr (ci, fs))]) (c := w) hP0
  have hD : va_D A (w ++ [(q, .inr (ci, fs))]) := va_D.swap (a := []) (b := [(q, .inr (ci, fs))]) (c := w) hD0
  obtain ⟨f1, f2, f3, f4, f5, f6, f7, f8, f9⟩ := F
  have hts := C0.1.2.2.2.2
  have cw : CallW R s args Y.1.cls Yc.1.cls idx Yc.1 Yc.2.1 Yc.2.2.1 Yc.2.2.2 (.code Yc.1 Yc.2.1 Yc.2.2.1 Yc.2.2.2 :: TBL) ({ frames := dc, cells := kc', slots := ks', locals := 60 * dc }) kc' ks' n :=
    ⟨callB_of n hts (good_Y f5) rfl rfl rfl (hts _ f4) (hts _ f1) ⟨f6, f7, f8⟩ ⟨by have := C0.2.1; show dc + 1 ≤ R.frames; omega, by have := C0.2.2.1; show 8 + (Yc.2.2.1 + 11) + 60 * dc ≤ R.locals; omega⟩, hts _ f2, hts _ f3⟩
  refine va_callv (va_runV (As := As) (rest := st) ⟨C0.1.1, C0.1.2.1, C0.1.2.2.1, C0.1.2.2.2.1, hts⟩ (hc l H.size) cw ⟨fun a U g mk q => by
      obtain ⟨q0, q1, q2, q3, q4, q5⟩ := q
      exact ⟨q0, q1, q2, va_K.moved (u := U) (U := U.calling g mk a) (Vm.Alike.refl U.vm) q3, q4, KO.same (s := U) (U := U.calling g mk a) rfl q5⟩, va_recv C0.2.2.2.2.1 hP hci (at_end w _), fun U hU hW => ⟨rfl, n_pre C0.2.2.2.2.1 C0.2.2.2.2.2.2 hP hU hW⟩⟩ rfl hn hl.1 rfl (lv_room hcat) hdg ⟨Nat.le_trans h1 c1, Nat.le_trans h2 c2⟩) hS (fun a _ ha => ?_) (fun a ha => ?_) (fun w' t H1 locs1 ht _ hpost hB _ hk hS9 => ?_)
  · rcases A_one ha with rfl | h
    · exact hD.2 _ _ (at_end w _)
    · exact C0.2.2.2.1 a (Nat.le_trans hS.1 h)
  · rcases A_one ha with rfl | h
    · exact hD.2 _ _ (at_end w _)
    · exact C0.2.2.2.1 a (Nat.le_trans hS.1 h)
  · obtain ⟨g1, g2⟩ := hB
    rw [ht] at g1
    obtain ⟨j1, j2⟩ := join_n hP hD hk (fun a h => C0.2.2.2.1 a (Nat.le_trans hS.1 h)) g1 g2
    exact kk w' hpost p l e R s m args below meth c A Q C0 c1 c2 K H1 locs1 ls (va_P.swap (a := []) (b := w) (c := w') j1) (va_D.swap (a := []) (b := w) (c := w') j2) hS9 hl
end ND
