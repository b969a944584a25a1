/-! a world that grows: constructors -/
def TYa (α : Nat → ClassId) : List (ClassId × FieldType) := [(α 1, .int), (α 2, .long), (α 3, .byte), (α 4, .boolean), (α 5, .object RX2), (α 6, .object RX4)]
def mkF (N : Nat) (f : Nat → Value) : List Value := (List.range N).map f
theorem mkF_len (N : Nat) (f : Nat → Value) : (mkF N f).length = N := by simp [mkF]
theorem mkF_get {N j : Nat} {f : Nat → Value} (h : j < N) : (mkF N f)[j]? = some (f j) := by simp [mkF, h]
theorem mkF_V {N j : Nat} {f : Nat → Value} (h : j < N) : vp_V (mkF N f) j = f j := by
  unfold vp_V
  rw [List.getD_eq_getElem?_getD, mkF_get h]
  rfl
theorem mkF_set {N j : Nat} {f : Nat → Value} {v : Value} (h : j < N) : (mkF N f).set j v = mkF N (va_up f j v) := by
  apply List.ext_getElem?
  intro i
  rw [List.getElem?_set, mkF_len]
  by_cases e : j = i
  · subst e
    rw [if_pos rfl, if_pos h, mkF_get h, up_s]
  · rw [if_neg e]
    by_cases hi : i < N
    · rw [mkF_get hi, mkF_get hi, up_n _ _ (Ne.symm e)]
    · rw [List.getElem?_eq_none (by rw [mkF_len]; omega), List.getElem?_eq_none (by rw [mkF_len]; omega)]
/-- what else is asked of the tables: rows over made classes, links among nest mates -/
def KO (U : State) : Prop := va_AO RX2 U ∧ va_AO RX4 U ∧ va_Nw (.methodLinkNest RX6 59 yX5_init RX6) U ∧ va_Nw (.methodLinkNest RX6 66 yX0_init RX6) U ∧ va_Nw (.methodLinkNest RX6 77 yX4_init RX6) U
theorem KO.warm {s U : State} (hW : s.WarmedH U.vm) (h : KO s) : KO U := ⟨va_AO.moved hW.alike h.1, va_AO.moved hW.alike h.2.1, va_Nw.warmM hW h.2.2.1, va_Nw.warmM hW h.2.2.2.1, va_Nw.warmM hW h.2.2.2.2⟩
theorem KO.same {s U : State} (hv : s.vm = U.vm) (h : KO s) : KO U := ⟨va_AO.moved (by rw [hv]; exact Vm.Alike.refl U.vm) h.1, va_AO.moved (by rw [hv]; exact Vm.Alike.refl U.vm) h.2.1, va_Nw.same rfl hv h.2.2.1, va_Nw.same rfl hv h.2.2.2.1, va_Nw.same rfl hv h.2.2.2.2⟩
def CTN (Y : MD) (d : Nat) (ini : Prop) (D : va_G) (α : Nat → ClassId) (p : Program) (R : Room) (s : State) (m : MethodId) (args : Array Value) (c : Code) (meth : Method) (A : Nat → Prop) : Prop :=
  (p.tables.exec = Jvm.exec ∧ c.code = Y.2.1 ∧ c.maxLocals = Y.2.2.1 ∧ s.vm.findClass Y.1.cls = some m.cls ∧ ∀ w ∈ TBL, w.before args s = true) ∧ d ≤ R.frames ∧ 60 * d ≤ R.locals ∧ (∀ q, s.heap.size ≤ q → A q) ∧ va_K D CL (TYa α) s ∧ (ini → meth.name = "<init>") ∧ KO s
abbrev FNN : Type := Nat → List (Nat × Value) → List Value → va_W → Prop
def RunN (Y : MD) (d : Nat) (ini : Prop) (D : va_G) (α : Nat → ClassId) (kc ks : Nat) (Fi : FNN) (pc : Nat) (lv : List (Nat × Value)) (st : List Value) (ws : va_W) (cells slots : Nat) : Prop :=
  ∀ (p : Program) (l : Launch) (e : Env) (R : Room) (s : State) (m : MethodId) (args : Array Value) (below : List Frame) (meth : Method) (c : Code) (A : Nat → Prop) (Q : State → Prop),
    CTN Y d ini D α p R s m args c meth A → kc ≤ R.cells → ks ≤ R.slots →
    (∀ (H : Heap) (locs : List Loc) (ls : Array Slot) (pcR : Nat) (lvR : List (Nat × Value)) (stR : List Value) (w : va_W), Fi pcR lvR stR w → va_P D CL w H → va_D A w → va_S A s.heap H locs → lv_has ls Y.2.2.1 lvR → W p l e R s m args below meth c H locs kc ks Q (F0 m pcR ls stR)) →
    ∀ (H : Heap) (locs : List Loc) (ls : Array Slot), va_P D CL ws H → va_D A ws → va_S A s.heap H locs → lv_has ls Y.2.2.1 lv → W p l e R s m args below meth c H locs cells slots Q (F0 m pc ls st)
section NN
variable {Y : MD} {d : Nat} {ini : Prop} {D : va_G} {α : Nat → ClassId} {kc ks : Nat} {Fi : FNN} {pc : Nat} {lv : List (Nat × Value)} {st : List Value} {ws : va_W} {cells slots : Nat}
theorem n_end (hF : Fi pc lv st ws) (h1 : cells ≤ kc) (h2 : slots ≤ ks) : RunN Y d ini D α kc ks Fi pc lv st ws cells slots := by
  intro p l e R s m args below meth c A Q C0 c1 c2 K H locs ls hP hD hS hl
  exact W.widen h1 h2 (K H locs ls pc lv st ws hF hP hD hS hl)
theorem n_eq {ws' : va_W} (h : ws' = ws) (kk : RunN Y d ini D α kc ks Fi pc lv st ws' cells slots) : RunN Y d ini D α kc ks Fi pc lv st ws cells slots := h ▸ kk
theorem n_aload_n (n9 : Nat) (hp : pc + 1 = n9) {k : Fin 4} {i : Nat} {x : Nat} (n : Nat) (hk : lv[n]? = some (i, .ref x)) (hi : (k : Nat) = i) (hdg : decode Y.2.1 pc = .ok (.aload_n k, 1)) (kk : RunN Y d ini D α kc ks Fi n9 lv (.ref x :: st) ws cells slots) : RunN Y d ini D α kc ks Fi pc lv st ws cells slots := by
  subst hp
  intro p l e R s m args below meth c A Q C0 c1 c2 K H locs ls hP hD hS hl
  exact lv_aload_n C0.1.1 C0.1.2.1 hdg hi (lv_at hl n hk) (kk p l e R s m args below meth c A Q C0 c1 c2 K H locs ls hP hD hS hl)
theorem n_iload_n (n9 : Nat) (hp : pc + 1 = n9) {k : Fin 4} {i : Nat} {x : Int32} (n : Nat) (hk : lv[n]? = some (i, .int x)) (hi : (k : Nat) = i) (hdg : decode Y.2.1 pc = .ok (.iload_n k, 1)) (kk : RunN Y d ini D α kc ks Fi n9 lv (.int x :: st) ws cells slots) : RunN Y d ini D α kc ks Fi pc lv st ws cells slots := by
  subst hp
  intro p l e R s m args below meth c A Q C0 c1 c2 K H locs ls hP hD hS hl
  exact lv_iload_n C0.1.1 C0.1.2.1 hdg hi (lv_at hl n hk) (kk p l e R s m args below meth c A Q C0 c1 c2 K H locs ls hP hD hS hl)
theorem n_iconst (n9 : Nat) (hp : pc + 1 = n9) {n : Int} {v : Int32} (hv : Int32.ofInt n = v) (hdg : decode Y.2.1 pc = .ok (.iconst n, 1)) (kk : RunN Y d ini D α kc ks Fi n9 lv (.int v :: st) ws cells slots) : RunN Y d ini D α kc ks Fi pc lv st ws cells slots := by
  subst hp
  intro p l e R s m args below meth c A Q C0 c1 c2 K H locs ls hP hD hS hl
  exact lv_iconst C0.1.1 C0.1.2.1 hdg hv (kk p l e R s m args below meth c A Q C0 c1 c2 K H locs ls hP hD hS hl)
theorem n_bipush (n9 : Nat) (hp : pc + 2 = n9) {n : Int} {v : Int32} (hv : (Int8.ofInt n).toInt32 = v) (hdg : decode Y.2.1 pc = .ok (.bipush n, 2)) (kk : RunN Y d ini D α kc ks Fi n9 lv (.int v :: st) ws cells slots) : RunN Y d ini D α kc ks Fi pc lv st ws cells slots := by
  subst hp
  intro p l e R s m args below meth c A Q C0 c1 c2 K H locs ls hP hD hS hl
  exact lv_bipush C0.1.1 C0.1.2.1 hdg hv (kk p l e R s m args below meth c A Q C0 c1 c2 K H locs ls hP hD hS hl)
theorem n_sipush (n9 : Nat) (hp : pc + 3 = n9) {n : Int} {v : Int32} (hv : (Int16.ofInt n).toInt32 = v) (hdg : decode Y.2.1 pc = .ok (.sipush n, 3)) (kk : RunN Y d ini D α kc ks Fi n9 lv (.int v :: st) ws cells slots) : RunN Y d ini D α kc ks Fi pc lv st ws cells slots := by
  subst hp
  intro p l e R s m args below meth c A Q C0 c1 c2 K H locs ls hP hD hS hl
  exact lv_sipush C0.1.1 C0.1.2.1 hdg hv (kk p l e R s m args below meth c A Q C0 c1 c2 K H locs ls hP hD hS hl)
theorem n_ldc (n9 : Nat) (hp : pc + 2 = n9) {index : Nat} {v : Int32} (hw : Cond.constant Y.1.cls index v ∈ TBL) (hdg : decode Y.2.1 pc = .ok (.ldc index, 2)) (kk : RunN Y d ini D α kc ks Fi n9 lv (.int v :: st) ws cells slots) : RunN Y d ini D α kc ks Fi pc lv st ws cells slots := by
  subst hp
  intro p l e R s m args below meth c A Q C0 c1 c2 K H locs ls hP hD hS hl
  exact lv_ldc C0.1.1 C0.1.2.1 C0.1.2.2.2.1 (C0.1.2.2.2.2 _ hw) hdg (kk p l e R s m args below meth c A Q C0 c1 c2 K H locs ls hP hD hS hl)
theorem n_dup (n9 : Nat) (hp : pc + 1 = n9) {v : Value} (hv : v.category = 1) (hdg : decode Y.2.1 pc = .ok (.dup, 1)) (kk : RunN Y d ini D α kc ks Fi n9 lv (v :: v :: st) ws cells slots) : RunN Y d ini D α kc ks Fi pc lv (v :: st) ws cells slots := by
  subst hp
  intro p l e R s m args below meth c A Q C0 c1 c2 K H locs ls hP hD hS hl
  exact lv_dup C0.1.1 C0.1.2.1 hdg hv (kk p l e R s m args below meth c A Q C0 c1 c2 K H locs ls hP hD hS hl)
theorem n_goto {off : Int} (tgt : Nat) (hdg : decode Y.2.1 pc = .ok (.goto off, 3)) (ht : (pc : Int) + off = (tgt : Int)) (kk : RunN Y d ini D α kc ks Fi tgt lv st ws cells slots) : RunN Y d ini D α kc ks Fi pc lv st ws cells slots := by
  intro p l e R s m args below meth c A Q C0 c1 c2 K H locs ls hP hD hS hl
  exact lv_goto C0.1.1 C0.1.2.1 hdg ht (kk p l e R s m args below meth c A Q C0 c1 c2 K H locs ls hP hD hS hl)
theorem n_istore_n (n9 : Nat) (hp : pc + 1 = n9) {lv' : List (Nat × Value)} {k : Fin 4} {i : Nat} {x : Int32} (hdg : decode Y.2.1 pc = .ok (.istore_n k, 1)) (hn : i < Y.2.2.1) (hl' : (i, Value.int x) :: lv.filter (fun q => !(q.1 == i) && !(q.1 + 1 == i && q.2.category == 2)) = lv') (hi : (k : Nat) = i) (kk : RunN Y d ini D α kc ks Fi n9 lv' st ws cells slots) : RunN Y d ini D α kc ks Fi pc lv (.int x :: st) ws cells slots := by
  subst hp
  intro p l e R s m args below meth c A Q C0 c1 c2 K H locs ls hP hD hS hl
  exact lv_istore_n C0.1.1 C0.1.2.1 hdg hi hl hn hl' (fun ls' hl9 => kk p l e R s m args below meth c A Q C0 c1 c2 K H locs ls' hP hD hS hl9)
theorem n_astore_n (n9 : Nat) (hp : pc + 1 = n9) {lv' : List (Nat × Value)} {k : Fin 4} {i : Nat} {x : Nat} (hdg : decode Y.2.1 pc = .ok (.astore_n k, 1)) (hn : i < Y.2.2.1) (hl' : (i, Value.ref x) :: lv.filter (fun q => !(q.1 == i) && !(q.1 + 1 == i && q.2.category == 2)) = lv') (hi : (k : Nat) = i) (kk : RunN Y d ini D α kc ks Fi n9 lv' st ws cells slots) : RunN Y d ini D α kc ks Fi pc lv (.ref x :: st) ws cells slots := by
  subst hp
  intro p l e R s m args below meth c A Q C0 c1 c2 K H locs ls hP hD hS hl
  exact lv_astore_n C0.1.1 C0.1.2.1 hdg hi hl hn hl' (fun ls' hl9 => kk p l e R s m args below meth c A Q C0 c1 c2 K H locs ls' hP hD hS hl9)
theorem n_iinc (n9 : Nat) (hp : pc + 3 = n9) {lv' : List (Nat × Value)} {i : Nat} {x v : Int32} {n : Int} (k : Nat) (hdg : decode Y.2.1 pc = .ok (.iinc i n, 3)) (hk : lv[k]? = some (i, .int x)) (hv : x + Int32.ofInt n = v) (hn : i < Y.2.2.1) (hl' : (i, Value.int v) :: lv.filter (fun q => !(q.1 == i) && !(q.1 + 1 == i && q.2.category == 2)) = lv') (kk : RunN Y d ini D α kc ks Fi n9 lv' st ws cells slots) : RunN Y d ini D α kc ks Fi pc lv st ws cells slots := by
  subst hp
  intro p l e R s m args below meth c A Q C0 c1 c2 K H locs ls hP hD hS hl
  exact lv_iinc C0.1.1 C0.1.2.1 hdg hl hk hv hn hl' (fun ls' hl9 => kk p l e R s m args below meth c A Q C0 c1 c2 K H locs ls' hP hD hS hl9)
theorem n_sub {lv' : List (Nat × Value)} (qs : List Nat) (hs : lv_pick lv qs = lv') (kk : RunN Y d ini D α kc ks Fi pc lv' st ws cells slots) : RunN Y d ini D α kc ks Fi pc lv st ws cells slots := by
  intro p l e R s m args below meth c A Q C0 c1 c2 K H locs ls hP hD hS hl
  exact kk p l e R s m args below meth c A Q C0 c1 c2 K H locs ls hP hD hS (lv_sub hl qs hs)
/-- array classes are one to a type -/
theorem ra_uniq {s : State} {a b : ClassId} {ty : FieldType} (h1 : va_RA s a ty) (h2 : va_RA s b ty) : a = b := by
  cases ty with
  | object C =>
    obtain ⟨-, -, -, -, -, h⟩ := h1
    obtain ⟨-, -, -, -, -, g⟩ := h2
    exact Option.some.inj (h.symm.trans g)
  | _ => exact Option.some.inj (h1.symm.trans h2)
theorem n_newa (n9 : Nat) (hp : pc + 2 = n9) {atype : ArrayType} {ty : FieldType} (t0 : Nat) {n : Int32} {N' : Nat} {x : vp_A} {cA : ClassId} (harr : Cond.arrayClass (newarray.typeOf atype) ∈ TBL) (hty : newarray.typeOf atype = ty) (ht : (TYa α)[t0]? = some (cA, ty)) (hx : ∀ cA : ClassId, vp_cell cA x = arrV cA N' (fun _ => defaultValue ty)) (hn : ¬ n < 0) (hN : n.toNatClampNeg = N') (hb : N' * componentBytes ty ≤ 536870912) (h1 : cells + 1 ≤ kc) (h2 : slots + N' ≤ ks) (hdg : decode Y.2.1 pc = .ok (.newarray atype, 2)) (kk : ∀ q, RunN Y d ini D α kc ks Fi n9 lv (.ref q :: st) (ws ++ [(q, .inl (cA, x))]) (cells + 1) (slots + N')) : RunN Y d ini D α kc ks Fi pc lv (.int n :: st) ws cells slots := by
  subst hp
  intro p l e R s m args below meth c A Q C0 c1 c2 K H locs ls hP hD hS hl
  refine va_newa C0.1.1 C0.1.2.1 (C0.1.2.2.2.2 _ harr) hty C0.2.2.2.2.1 hP hD hS C0.2.2.2.1 hx hn hN hb (Nat.le_trans h1 c1) (Nat.le_trans h2 c2) hdg (fun q cA2 H1 hK hP hD hS => ?_)
  have hl6 : (TYa α).length = 6 := rfl
  have e1 := (hK.2 6 (cA2, ty) (by rw [List.getElem?_append_right (by rw [hl6]; omega), hl6]; rfl)).2
  have e2 := (C0.2.2.2.2.1.2 t0 _ ht).2
  have e3 : cA2 = cA := ra_uniq e1 e2
  subst e3
  exact kk q p l e R s m args below meth c A Q C0 c1 c2 K H1 locs ls hP hD hS hl
theorem n_newq (n9 : Nat) (hp : pc + 3 = n9) {C : String} {index : Nat} (t0 : Nat) {n : Int32} {N' : Nat} {cA : ClassId} (hcl : Cond.classLink Y.1.cls index C ∈ TBL) (hov : C = RX2 ∨ C = RX4) (ht : (TYa α)[t0]? = some (cA, .object C)) (hn : ¬ n < 0) (hN : n.toNatClampNeg = N') (hb : N' * 4 ≤ 536870912) (h1 : cells + 1 ≤ kc) (h2 : slots + N' ≤ ks) (hdg : decode Y.2.1 pc = .ok (.anewarray index, 3)) (kk : ∀ q, RunN Y d ini D α kc ks Fi n9 lv (.ref q :: st) (ws ++ [(q, .inl (cA, N', .inr (.inr (.inr (.inr (fun _ => none))))))]) (cells + 1) (slots + N')) : RunN Y d ini D α kc ks Fi pc lv (.int n :: st) ws cells slots := by
  subst hp
  intro p l e R s m args below meth c A Q C0 c1 c2 K H locs ls hP hD hS hl
  refine va_newq C0.1.1 C0.1.2.1 C0.1.2.2.2.1 (C0.1.2.2.2.2 _ hcl) (hov.elim (fun e9 => e9 ▸ C0.2.2.2.2.2.2.1) (fun e9 => e9 ▸ C0.2.2.2.2.2.2.2.1)) C0.2.2.2.2.1 hP hD hS C0.2.2.2.1 hn hN hb (Nat.le_trans h1 c1) (Nat.le_trans h2 c2) hdg (fun q cA2 H1 hK hP hD hS => ?_)
  have hl6 : (TYa α).length = 6 := rfl
  have e1 := (hK.2 6 (cA2, .object C) (by rw [List.getElem?_append_right (by rw [hl6]; omega), hl6]; rfl)).2
  have e2 := (C0.2.2.2.2.1.2 t0 _ ht).2
  have e3 : cA2 = cA := ra_uniq e1 e2
  subst e3
  exact kk q p l e R s m args below meth c A Q C0 c1 c2 K H1 locs ls hP hD hS hl
/-- what is needed of a class to make an object of it -/
def NWc (own : String) (idx ci N : Nat) (ty : Nat → FieldType) : Prop := ∃ C T, CL[ci]? = some (C, T, N) ∧ Cond.classLink own idx C ∈ TBL ∧ Cond.instantiable C N ∈ TBL ∧ Cond.initialized C ∈ TBL ∧ (∀ w ∈ u_ws C T N, w ∈ TBL) ∧ ∀ k, k < N → parseFieldDescriptor (T k).2.2.1 = some (ty k)
def nwE (ci N : Nat) (ty : Nat → FieldType) : va_E := .inr (ci, mkF N (fun j => defaultValue (ty j)))
theorem n_new (n9 : Nat) (hp : pc + 3 = n9) {index ci N : Nat} {ty : Nat → FieldType} (F : NWc Y.1.cls index ci N ty) (h1 : cells + 1 ≤ kc) (h2 : slots + N ≤ ks) (hdg : decode Y.2.1 pc = .ok (.new index, 3)) (kk : ∀ q, RunN Y d ini D α kc ks Fi n9 lv (.ref q :: st) (ws ++ [(q, nwE ci N ty)]) (cells + 1) (slots + N)) : RunN Y d ini D α kc ks Fi pc lv st ws cells slots := by
  subst hp
  intro p l e R s m args below meth c A Q C0 c1 c2 K H locs ls hP hD hS hl
  obtain ⟨C, T, g1, g2, g3, g4, g5, g6⟩ := F
  have hts := C0.1.2.2.2.2
  exact va_new C0.1.1 C0.1.2.1 hts g5 ty g6 C0.1.2.2.2.1 (hts _ g2) (hts _ g3) (hts _ g4) C0.2.2.2.2.1 hP hD hS C0.2.2.2.1 g1 (fs := mkF N (fun j => defaultValue (ty j))) (fun j hj => (mkF_V (f := fun j => defaultValue (ty j)) hj).symm) (Nat.le_trans h1 c1) (Nat.le_trans h2 c2) hdg (fun q H1 hP hD hS => kk q p l e R s m args below meth c A Q C0 c1 c2 K H1 locs ls hP hD hS hl)
theorem clN {ci N N2 : Nat} {C : String} {T : u_T} (h : (CL[ci]?).map (fun q => q.2.2) = some N) (g : CL[ci]? = some (C, T, N2)) : N2 = N := by
  rw [g] at h; exact Option.some.inj h
/-- a field of the first object is written -/
theorem n_put (n9 : Nat) (hp : pc + 3 = n9) {idx ci j N h0 : Nat} {f : Nat → Value} {v : Value} {ty : FieldType} {w : va_W} (F : FW Y.1.cls idx ci j ty) (hN : (CL[ci]?).map (fun q => q.2.2) = some N) (hn : narrow ty v = v) (hf : fits ty v = true) (hdg : decode Y.2.1 pc = .ok (.putfield idx, 3)) (kk : RunN Y d ini D α kc ks Fi n9 lv st ((h0, .inr (ci, mkF N (va_up f j v))) :: w) cells slots) : RunN Y d ini D α kc ks Fi pc lv (v :: .ref h0 :: st) ((h0, .inr (ci, mkF N f)) :: w) cells slots := by
  subst hp
  intro p l e R s m args below meth c A Q C0 c1 c2 K H locs ls hP hD hS hl
  obtain ⟨C, T, N2, g1, g2, g3, g4, g5, ⟨ty0, g6⟩, g7, g8, g9⟩ := F
  have e9 := clN hN g1
  subst e9
  refine va_put (ref := C) C0.1.1 C0.1.2.1 C0.1.2.2.2.2 g5 ty0 g6 g7 C0.1.2.2.2.1 C0.2.2.2.2.1 hP hD hS 0 rfl g1 j g2 (C0.1.2.2.2.2 _ g4) (by rw [g3]; exact fun _ h9 => h9) g8 g9 hn hf (by rw [mkF_len]; exact g2) hdg (fun H1 locs1 hP hD hS => ?_)
  rw [List.set_cons_zero, mkF_set g2] at hP hD
  exact kk p l e R s m args below meth c A Q C0 c1 c2 K H1 locs1 ls hP hD hS hl
def FLF (own : String) (idx ci j N : Nat) (ty : FieldType) : Prop := ∃ C T, CL[ci]? = some (C, T, N) ∧ j < N ∧ (T j).1 = C ∧ C = own ∧ Cond.fieldLink own idx C (T j).2.1 (T j).2.2.1 ∈ TBL ∧ (∀ w ∈ u_ws C T N, w ∈ TBL) ∧ (∃ ty0 : Nat → FieldType, ∀ k, k < N → parseFieldDescriptor (T k).2.2.1 = some (ty0 k)) ∧ (∀ a, a < N → ∀ b, b < N → a ≠ b → (T a).2.1 ≠ (T b).2.1) ∧ (T j).2.2.2 = true ∧ parseFieldDescriptor (T j).2.2.1 = some ty
theorem n_putF (n9 : Nat) (hp : pc + 3 = n9) {idx ci j N h0 : Nat} {f : Nat → Value} {v : Value} {ty : FieldType} {w : va_W} (F : FLF Y.1.cls idx ci j N ty) (hi : ini) (hn : narrow ty v = v) (hf : fits ty v = true) (hdg : decode Y.2.1 pc = .ok (.putfield idx, 3)) (kk : RunN Y d ini D α kc ks Fi n9 lv st ((h0, .inr (ci, mkF N (va_up f j v))) :: w) cells slots) : RunN Y d ini D α kc ks Fi pc lv (v :: .ref h0 :: st) ((h0, .inr (ci, mkF N f)) :: w) cells slots := by
  subst hp
  intro p l e R s m args below meth c A Q C0 c1 c2 K H locs ls hP hD hS hl
  obtain ⟨C, T, g1, g2, g3, g10, g4, g5, ⟨ty0, g6⟩, g7, g8, g9⟩ := F
  refine va_putF (ref := C) C0.1.1 C0.1.2.1 C0.1.2.2.2.2 g5 ty0 g6 g7 C0.1.2.2.2.1 C0.2.2.2.2.1 hP hD hS 0 rfl g1 j g2 (C0.1.2.2.2.2 _ g4) (by rw [g3]; exact fun _ h9 => h9) g8 (C0.2.2.2.2.2.1 hi) (g3.trans g10) g9 hn hf (by rw [mkF_len]; exact g2) hdg (fun H1 locs1 hP hD hS => ?_)
  rw [List.set_cons_zero, mkF_set g2] at hP hD
  exact kk p l e R s m args below meth c A Q C0 c1 c2 K H1 locs1 ls hP hD hS hl
theorem n_get (n9 : Nat) (hp : pc + 3 = n9) {idx ci j N h0 : Nat} {f : Nat → Value} {v : Value} {w : va_W} (F : FL Y.1.cls idx ci j) (hN : (CL[ci]?).map (fun q => q.2.2) = some N) (hv : f j = v) (hdg : decode Y.2.1 pc = .ok (.getfield idx, 3)) (kk : RunN Y d ini D α kc ks Fi n9 lv (v :: st) ((h0, .inr (ci, mkF N f)) :: w) cells slots) : RunN Y d ini D α kc ks Fi pc lv (.ref h0 :: st) ((h0, .inr (ci, mkF N f)) :: w) cells slots := by
  subst hp
  intro p l e R s m args below meth c A Q C0 c1 c2 K H locs ls hP hD hS hl
  obtain ⟨C, T, N2, g1, g2, g3, g4, g5⟩ := F
  have e9 := clN hN g1
  subst e9
  exact va_get (ref := C) C0.1.1 C0.1.2.1 C0.1.2.2.2.2 g5 C0.1.2.2.2.1 C0.2.2.2.2.1 hP 0 rfl g1 j g2 (C0.1.2.2.2.2 _ g4) (by rw [g3]; exact fun _ h9 => h9) (v := v) (by rw [mkF_get g2, hv]) hdg (kk p l e R s m args below meth c A Q C0 c1 c2 K H locs ls hP hD hS hl)
/-- the newest row is written -/
theorem n_iast (n9 : Nat) (hp : pc + 1 = n9) {q n : Nat} {f : Nat → Int32} {i x : Int32} {w : va_W} (hb : vp_in i n) (hdg : decode Y.2.1 pc = .ok (.iastore, 1)) (kk : RunN Y d ini D α kc ks Fi n9 lv st (w ++ [(q, .inl (α 1, n, .inl (upd f i.toNatClampNeg x)))]) cells slots) : RunN Y d ini D α kc ks Fi pc lv (.int x :: .int i :: .ref q :: st) (w ++ [(q, .inl (α 1, n, .inl f))]) cells slots := by
  subst hp
  intro p l e R s m args below meth c A Q C0 c1 c2 K H locs ls hP hD hS hl
  refine va_iast C0.1.1 C0.1.2.1 C0.2.2.2.2.1 hP hD hS w.length 0 (show (w ++ [(q, (.inl (α 1, n, .inl f) : va_E))])[w.length]? = some (q, .inl (α 1, n, .inl f)) by simp) rfl hb hdg (fun H1 locs1 hP hD hS => ?_)
  have e9 : (w ++ [(q, (.inl (α 1, n, .inl f) : va_E))]).set w.length (q, .inl (α 1, n, .inl (upd f i.toNatClampNeg x))) = w ++ [(q, .inl (α 1, n, .inl (upd f i.toNatClampNeg x)))] := by simp
  rw [e9] at hP hD
  exact kk p l e R s m args below meth c A Q C0 c1 c2 K H1 locs1 ls hP hD hS hl
theorem n_objInit (n9 : Nat) (hp : pc + 3 = n9) {idx a : Nat} (hl1 : Cond.methodLink Y.1.cls idx Lib.objectInit ∈ TBL) (hl2 : Cond.instanceMethod Lib.objectInit ∈ TBL) (hl3 : Cond.code Lib.objectInit ⟨#[0xb1]⟩ 1 none ∈ TBL) (hd : 1 ≤ d) (hcat : (st.map fun v => v.category).sum ≤ 8) (hdg : decode Y.2.1 pc = .ok (.invokespecial idx, 3)) (kk : RunN Y d ini D α kc ks Fi n9 lv st ws cells slots) : RunN Y d ini D α kc ks Fi pc lv (.ref a :: st) ws cells slots := by
  subst hp
  intro p l e R s m args below meth c A Q C0 c1 c2 K H locs ls hP hD hS hl
  have hts := C0.1.2.2.2.2
  refine W.objInit C0.1.1 C0.1.2.1 C0.1.2.2.2.1 (hts _ hl1) (hts _ hl2) (hts _ hl3) rfl (by rw [C0.1.2.2.1]; exact hl.1) rfl hdg (Nat.le_trans hd C0.2.1) (by have := C0.2.2.1; show 2 * 0 + (st.map fun v => v.category).sum + 12 ≤ R.locals; omega) ?_
  refine W.eq (g2 := F0 m (pc + 3) ls st) rfl ?_
  exact kk p l e R s m args below meth c A Q C0 c1 c2 K H locs ls hP hD hS hl
end NN
