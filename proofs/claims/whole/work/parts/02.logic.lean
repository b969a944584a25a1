/-! THE LOGIC: one world for all objects (class, reference), a state of numbers, and what a piece of code makes of it -/
def TBL : List Cond := lw_tbl.filter goodWord
theorem tbl_in (i : Nat) {w : Cond} (h : tables_1[i]? = some w) (hg : goodWord w = true) : w ∈ TBL := List.mem_filter.mpr ⟨List.mem_append_right _ (List.mem_of_getElem? h), hg⟩
theorem tbl_sel (i : Nat) {q : MethodName × Nat} (h : lw_privs[i]? = some q) : Cond.selects q.1.cls q.1 q.1 ∈ TBL := List.mem_filter.mpr ⟨List.mem_append_left _ (List.mem_map.mpr ⟨q, List.mem_of_getElem? h, rfl⟩), by first | rfl | simp [goodWord, Cond.onTables, Cond.keeps, Cond.steady]⟩
abbrev HP : Type := (Nat → Nat → Int32) × (Nat → Nat → Int64) × (Nat → Option Nat)
abbrev SC : Type := Nat × Nat × List Nat
abbrev XE : Type := (Nat → Nat) × (Nat → ClassId) × va_G × (Nat → Nat) × Nat × (Nat → Int32)
abbrev MD : Type := MethodName × ByteArray × Nat × Option FieldType
def CL : List vw_C := [(RX0, TX0, 5), (RX1, TX1, 14), (RX2, TX2, 7), (RX3, TX3, 3), (RX4, TX4, 3), (RX5, TX5, 4), (RX6, TX6, 15), (RX7, TX7, 87)]
def TY (X : XE) : List (ClassId × FieldType) := [(X.2.1 1, .int), (X.2.1 2, .long), (X.2.1 3, .byte), (X.2.1 4, .boolean), (X.2.1 5, .object RX2), (X.2.1 6, .object RX4)]
def L6 : List Nat := [6, 14, 22, 30, 33, 36, 39, 42, 45, 0, 48, 0, 79, 81, 83]
def L7 : List Nat := [0, 0, 0, 0, 0, 0, 97, 98, 99, 100, 101, 102, 103, 0, 0, 0, 0, 0, 104, 105, 106, 107, 108, 109, 110, 111, 0, 0, 0, 112, 113, 0, 0, 114, 0, 0, 0, 0, 0, 115, 116, 117, 118, 0, 119, 0, 0, 120, 0, 121, 122, 0, 0, 123, 124, 125, 126, 0, 0, 0, 0, 0, 0, 0, 0, 0, 0, 0, 127, 128, 129, 130, 131, 132, 133, 134, 135, 136, 137, 138, 139, 0, 140, 141, 142, 143, 144]
/-- which cell a field that never changes names -/
def lr (k ci j : Nat) : Nat := if ci = 6 then L6.getD j 0 else if ci = 7 then L7.getD j 0 else k + 1 + j
def lra (t j : Nat) : Nat := if t = 5 then 49 + 5 * j else 84 + 2 * j
def fval (ad : Nat → Nat) (h : HP) (k ci j t : Nat) : Value := if t = 0 then .int (h.1 k j) else if t = 2 then .ref (ad (lr k ci j)) else va_rf ((h.2.2 k).map ad)
def cellE (X : XE) (h : HP) (k : Nat) (c : SC) : va_E := if c.1 = 0 then .inr (c.2.1, c.2.2.mapIdx (fun j t => fval X.1 h k c.2.1 j t)) else if c.1 = 1 then .inl (X.2.1 1, c.2.1, .inl (h.1 k)) else if c.1 = 2 then .inl (X.2.1 2, c.2.1, .inr (.inl (h.2.1 k))) else if c.1 = 3 then .inl (X.2.1 3, c.2.1, .inl (h.1 k)) else if c.1 = 4 then .inl (X.2.1 4, c.2.1, .inl (h.1 k)) else .inl (X.2.1 c.1, c.2.1, .inr (.inr (.inr (.inr (fun j => some (X.1 (lra c.1 j)))))))
def SH : List SC := [(0, 6, [2, 2, 2, 2, 2, 2, 2, 2, 2, 0, 2, 0, 2, 2, 2]), (0, 2, [2, 2, 2, 2, 0, 0, 0]), (1, 100, []), (1, 100, []), (1, 100, []), (1, 6, []), (0, 1, [2, 2, 2, 2, 2, 2, 2, 0, 0, 0, 0, 0, 0, 3]), (1, 6, []), (1, 6, []), (1, 6, []), (1, 6, []), (1, 6, []), (1, 24, []), (1, 3, []), (0, 1, [2, 2, 2, 2, 2, 2, 2, 0, 0, 0, 0, 0, 0, 3]), (1, 6, []), (1, 6, []), (1, 6, []), (1, 6, []), (1, 6, []), (1, 24, []), (1, 3, []), (0, 1, [2, 2, 2, 2, 2, 2, 2, 0, 0, 0, 0, 0, 0, 3]), (1, 6, []), (1, 6, []), (1, 6, []), (1, 6, []), (1, 6, []), (1, 24, []), (1, 3, []), (0, 3, [2, 2, 0]), (1, 5, []), (1, 5, []), (0, 3, [2, 2, 0]), (1, 10, []), (1, 10, []), (0, 3, [2, 2, 0]), (1, 8, []), (1, 8, []), (0, 3, [2, 2, 0]), (1, 5, []), (1, 5, []), (0, 3, [2, 2, 0]), (1, 10, []), (1, 10, []), (0, 3, [2, 2, 0]), (1, 8, []), (1, 8, []), (5, 6, []), (0, 2, [2, 2, 2, 2, 0, 0, 0]), (1, 100, []), (1, 100, []), (1, 100, []), (1, 6, []), (0, 2, [2, 2, 2, 2, 0, 0, 0]), (1, 100, []), (1, 100, []), (1, 100, []), (1, 6, []), (0, 2, [2, 2, 2, 2, 0, 0, 0]), (1, 100, []), (1, 100, []), (1, 100, []), (1, 6, []), (0, 2, [2, 2, 2, 2, 0, 0, 0]), (1, 100, []), (1, 100, []), (1, 100, []), (1, 6, []), (0, 2, [2, 2, 2, 2, 0, 0, 0]), (1, 100, []), (1, 100, []), (1, 100, []), (1, 6, []), (0, 2, [2, 2, 2, 2, 0, 0, 0]), (1, 100, []), (1, 100, []), (1, 100, []), (1, 6, []), (0, 5, [2, 3, 0, 0]), (3, 100, []), (0, 0, [2, 0, 0, 0, 0]), (1, 20, []), (6, 6, []), (0, 4, [2, 0, 0]), (2, 60, []), (0, 4, [2, 0, 0]), (2, 60, []), (0, 4, [2, 0, 0]), (2, 60, []), (0, 4, [2, 0, 0]), (2, 60, []), (0, 4, [2, 0, 0]), (2, 60, []), (0, 4, [2, 0, 0]), (2, 60, []), (0, 7, [0, 0, 0, 0, 0, 0, 2, 2, 2, 2, 2, 2, 2, 0, 0, 0, 0, 0, 2, 2, 2, 2, 2, 2, 2, 2, 0, 0, 0, 2, 2, 0, 0, 2, 0, 0, 0, 0, 0, 2, 2, 2, 2, 0, 2, 0, 0, 2, 0, 2, 2, 0, 0, 2, 2, 2, 2, 0, 0, 0, 0, 0, 0, 0, 0, 0, 0, 0, 2, 2, 2, 2, 2, 2, 2, 2, 2, 2, 2, 2, 2, 0, 2, 2, 2, 2, 2]), (1, 6, []), (1, 6, []), (1, 6, []), (1, 6, []), (1, 6, []), (1, 24, []), (1, 3, []), (1, 100, []), (1, 6, []), (1, 60, []), (1, 60, []), (1, 60, []), (1, 60, []), (1, 600, []), (1, 101, []), (1, 16, []), (4, 100, []), (1, 3, []), (1, 6, []), (1, 6, []), (1, 6, []), (1, 3, []), (1, 3, []), (1, 3, []), (1, 5, []), (1, 5, []), (1, 10, []), (1, 10, []), (1, 8, []), (1, 8, []), (1, 6, []), (1, 6, []), (1, 6, []), (1, 6, []), (1, 6, []), (1, 24, []), (1, 3, []), (1, 5, []), (1, 5, []), (1, 10, []), (1, 10, []), (1, 8, []), (1, 8, []), (1, 20, []), (1, 6, []), (1, 6, []), (2, 360, []), (2, 60, [])]
def wld (X : XE) (h : HP) : va_W := SH.mapIdx (fun k c => (X.1 k, cellE X h k c))
theorem wld_at (X : XE) (h : HP) {k : Nat} {c : SC} (hk : SH[k]? = some c) : (wld X h)[k]? = some (X.1 k, cellE X h k c) := by simp [wld, hk]
theorem wld_inv (X : XE) (h : HP) {k : Nat} {q : Nat × va_E} (hk : (wld X h)[k]? = some q) : ∃ c, SH[k]? = some c ∧ q = (X.1 k, cellE X h k c) := by
  simp only [wld, List.getElem?_mapIdx, Option.map_eq_some_iff] at hk
  obtain ⟨c, h1, h2⟩ := hk
  exact ⟨c, h1, h2.symm⟩
theorem wld_set (X : XE) (h h' : HP) {k : Nat} {c : SC} {e : va_E} (hk : SH[k]? = some c) (he : cellE X h' k c = e) (ho : ∀ j c', SH[j]? = some c' → j ≠ k → cellE X h' j c' = cellE X h j c') : (wld X h).set k (X.1 k, e) = wld X h' := by
  subst he
  apply List.ext_getElem?
  intro i
  rw [List.getElem?_set]
  by_cases hi : k = i
  · subst hi
    have hl : k < (wld X h).length := (List.getElem?_eq_some_iff.mp (wld_at X h hk)).1
    rw [if_pos rfl, if_pos hl, wld_at X h' hk]
  · rw [if_neg hi]
    cases hs : SH[i]? with
    | none => simp [wld, hs]
    | some c' => rw [wld_at X h hs, wld_at X h' hs, ho i c' hs (fun e => hi e.symm)]
/-- addresses don't depend on what the cells hold -/
theorem wld_D {A : Nat → Prop} {X : XE} {h h' : HP} (hD : va_D A (wld X h)) : va_D A (wld X h') := by
  refine ⟨fun i j p q hp hq e => ?_, fun k q hk => ?_⟩
  · obtain ⟨c, h1, rfl⟩ := wld_inv X h' hp
    obtain ⟨c', h1', rfl⟩ := wld_inv X h' hq
    exact hD.1 i j _ _ (wld_at X h h1) (wld_at X h h1') e
  · obtain ⟨c, h1, rfl⟩ := wld_inv X h' hk
    have h2 := hD.2 k _ (wld_at X h h1)
    exact h2
theorem wld_A {X : XE} {h h' : HP} {sz q : Nat} (hq : va_A (wld X h) sz q) : va_A (wld X h') sz q := by
  rcases hq with ⟨k, e, hk⟩ | hq
  · obtain ⟨c, h1, h2⟩ := wld_inv X h hk
    exact Or.inl ⟨k, cellE X h' k c, by rw [wld_at X h' h1]; cases h2; rfl⟩
  · exact Or.inr hq
def si (h : HP) (k j : Nat) (v : Int32) : HP := (va_up h.1 k (va_up (h.1 k) j v), h.2)
def sl (h : HP) (k j : Nat) (v : Int64) : HP := (h.1, va_up h.2.1 k (va_up (h.2.1 k) j v), h.2.2)
def sr (h : HP) (k : Nat) (v : Option Nat) : HP := (h.1, h.2.1, va_up h.2.2 k v)
/-- what never changes, outside the world: the tables, the texts, the script -/
def EX (X : XE) (A : Nat → Prop) (U : State) (H : Heap) : Prop :=
  (va_Z RX6 "KIND_ABOVE" "[I" (.ref (X.2.2.2.1 0)) A U H ∧ va_T .int (X.2.2.2.1 0) 7 (fun j => .int (([-1, 0, 0, 0, 1, 2, 3] : List Int32).getD j 0)) A U H ∧
  va_Z RX0 "BODIES" "[I" (.ref (X.2.2.2.1 1)) A U H ∧ va_T .int (X.2.2.2.1 1) 21 (fun j => .int (([10, 11, 12, 0, 20, 0, 30, 0, 0, 0, 0, 40, 50, 51, 0, 0, 0, 60, 71, 70, 0] : List Int32).getD j 0)) A U H) ∧
  (va_Z "java/lang/String" "COMPACT_STRINGS" "Z" (.int 1) A U H ∧ vk_S 2 [16, 6] [[102, 105, 114, 109, 119, 101, 97, 107, 119, 105, 110, 100, 108, 97, 115, 104], [112, 107, 118, 108, 119, 100]] (fun i => X.2.2.2.1 (2 + i)) (fun i => X.2.2.2.1 (4 + i)) A U H) ∧
  (va_X (X.2.2.2.1 6) X.2.2.2.2.1 X.2.2.2.2.2 U H ∧ X.2.2.2.1 6 < H.size ∧ ¬ A (X.2.2.2.1 6)) ∧
  (vk_R RX5 71 "firmweakwindlash" (X.2.2.2.1 2) U ∧ vk_R RX5 63 "pkvlwd" (X.2.2.2.1 3) U ∧ va_Nw (.fieldLinkNest RX0 39 RX6 "KIND_ABOVE" "[I" RX6) U ∧ va_Zq "jdk/internal/util/Preconditions" "SIOOBE_FORMATTER" "Ljava/util/function/BiFunction;" A U H)
theorem EX.kept {X : XE} {A : Nat → Prop} {U : State} {H H1 : Heap} (h : EX X A U H) (hz : H.size ≤ H1.size) (hq : ∀ a : Nat, a < H.size → ¬ A a → H1[a]? = H[a]?) : EX X A U H1 := by
  obtain ⟨⟨a1, a2, a3, a4⟩, ⟨b1, b2⟩, ⟨c1, c2, c3⟩, d1, d2, d3, d4⟩ := h
  exact ⟨⟨a1.kept hq, a2.kept hq, a3.kept hq, a4.kept hq⟩, ⟨b1.kept hq, b2.kept hq⟩, ⟨c1.kept (hq _ c2 c3), Nat.lt_of_lt_of_le c2 hz, c3⟩, d1, d2, d3, d4.kept hq⟩
theorem EX.narrow {X : XE} {A B : Nat → Prop} {U : State} {H : Heap} (h : EX X A U H) (hAB : ∀ q, B q → A q) : EX X B U H := by
  obtain ⟨⟨a1, a2, a3, a4⟩, ⟨b1, b2⟩, ⟨c1, c2, c3⟩, d1, d2, d3, d4⟩ := h
  exact ⟨⟨a1.narrow hAB, a2.narrow hAB, a3.narrow hAB, a4.narrow hAB⟩, ⟨b1.narrow hAB, b2.narrow hAB⟩, ⟨c1, c2, fun z => c3 (hAB _ z)⟩, d1, d2, d3, d4.narrow hAB⟩
theorem EX.warm {X : XE} {A : Nat → Prop} {s U : State} {H : Heap} (hW : s.WarmedH U.vm) (h : EX X A s H) : EX X A U H := by
  obtain ⟨⟨a1, a2, a3, a4⟩, ⟨b1, b2⟩, ⟨c1, c2, c3⟩, d1, d2, d3, d4⟩ := h
  have hv := hW.alike
  exact ⟨⟨a1.moved hv, a2.moved hv, a3.moved hv, a4.moved hv⟩, ⟨b1.moved hv, b2.moved hv⟩, ⟨c1.moved hv, c2, c3⟩, vk_R.warm hW d1, vk_R.warm hW d2, va_Nw.warmF hW d3, d4.moved hv⟩
theorem EX.same {X : XE} {A : Nat → Prop} {u U : State} {H : Heap} (hvm : U.vm = u.vm) (h : EX X A u H) : EX X A U H := by
  obtain ⟨⟨a1, a2, a3, a4⟩, ⟨b1, b2⟩, ⟨c1, c2, c3⟩, d1, d2, d3, d4⟩ := h
  have hv : u.vm.Alike U.vm := by rw [hvm]; exact Vm.Alike.refl u.vm
  exact ⟨⟨a1.moved hv, a2.moved hv, a3.moved hv, a4.moved hv⟩, ⟨b1.moved hv, b2.moved hv⟩, ⟨c1.moved hv, c2, c3⟩, vk_R.same hvm d1, vk_R.same hvm d2, va_Nw.same rfl hvm.symm d3, d4.moved hv⟩
def CTX (Y : MD) (d : Nat) (X : XE) (p : Program) (R : Room) (s : State) (m : MethodId) (args : Array Value) (c : Code) (A : Nat → Prop) : Prop :=
  (p.tables.exec = Jvm.exec ∧ c.code = Y.2.1 ∧ c.maxLocals = Y.2.2.1 ∧ s.vm.findClass Y.1.cls = some m.cls ∧ ∀ w ∈ TBL, w.before args s = true) ∧ d ≤ R.frames ∧ 60 * d ≤ R.locals ∧ (∀ q, s.heap.size ≤ q → A q) ∧ EX X A s s.heap ∧ va_K X.2.2.1 CL (TY X) s
def INV (X : XE) (A : Nat → Prop) (s : State) (H : Heap) (locs : List Loc) (h : HP) : Prop := va_P X.2.2.1 CL (wld X h) H ∧ va_D A (wld X h) ∧ va_S A s.heap H locs
def RTI (ret : Option FieldType) (i : Instr) (r : Option Value) : Prop := (i = .ireturn ∧ ∃ (v : Int32) (ty : FieldType), r = some (.int v) ∧ ret = some ty ∧ narrow ty (.int v) = .int v) ∨ (i = .lreturn ∧ ∃ v, r = some (.long v) ∧ ret = some .long) ∨ (i = .return_ ∧ r = none ∧ ret = none)
/-- from here the code comes to its return, with r, and the numbers h' -/
def Run (Y : MD) (d : Nat) (X : XE) (pc : Nat) (lv : List (Nat × Value)) (st : List Value) (h : HP) (r : Option Value) (h' : HP) : Prop :=
  ∀ (p : Program) (l : Launch) (e : Env) (R : Room) (s : State) (m : MethodId) (args : Array Value) (below : List Frame) (meth : Method) (c : Code) (A : Nat → Prop) (cells slots : Nat) (Q : State → Prop),
    CTX Y d X p R s m args c A → cells ≤ R.cells → slots ≤ R.slots →
    (∀ (H : Heap) (locs : List Loc) (ls : Array Slot) (pcR : Nat) (i : Instr), decode Y.2.1 pcR = .ok (i, 1) → RTI Y.2.2.2 i r → INV X A s H locs h' → W p l e R s m args below meth c H locs cells slots Q (F0 m pcR ls r.toList)) →
    ∀ (H : Heap) (locs : List Loc) (ls : Array Slot), INV X A s H locs h → lv_has ls Y.2.2.1 lv → W p l e R s m args below meth c H locs cells slots Q (F0 m pc ls st)
def QV (r : Option Value) (B : State → Prop) (A : Nat → Prop) : Array Value → State → Outcome → State → Prop := fun _ st oc t => (oc = .returned r ∧ B t) ∧ va_F A st t
/-- the contract: called with these, from the numbers h, any call of the method answers r and leaves h' -/
def CC (Y : MD) (d : Nat) (X : XE) (as : List Value) (h : HP) (r : Option Value) (h' : HP) : Prop :=
  ∀ (l : Launch) (sz : Nat), Met l Y.1 (.code Y.1 Y.2.1 Y.2.2.1 Y.2.2.2 :: TBL) ({ frames := d, cells := 0, slots := 0, locals := 60 * d }) (va_Pc as (fun U => U.heap.size = sz ∧ va_P X.2.2.1 CL (wld X h) U.heap ∧ va_K X.2.2.1 CL (TY X) U ∧ va_D (fun _ => True) (wld X h) ∧ EX X (va_A (wld X h) sz) U U.heap)) (QV r (fun t => va_P X.2.2.1 CL (wld X h') t.heap) (va_A (wld X h) sz)) 0 0 (va_A (wld X h) sz)
set_option maxHeartbeats 4000000 in
theorem CC_of {Y : MD} {d : Nat} {X : XE} {as : List Value} {h h' : HP} {r : Option Value} (hy : plainName Y.1.cls = true) (hn : (lg_sl as).length ≤ Y.2.2.1) (hR : Run Y d X 0 (lv_args 0 as) [] h r h') : CC Y d X as h r h' := by
  obtain ⟨y, code, nL, ret⟩ := Y
  intro l sz
  refine Met.ofW (cc := code) (maxL := nL) (ret := ret) hy rfl ?_
  intro p e s m args below meth c s₁ B hml hv
  obtain ⟨rfl, hsz, hP, hK, hD0, hE⟩ := hv
  have hts := atoms_spec (ws := .code y code nL ret :: TBL) B.pre
  have hown : s.vm.findClass y.cls = some m.cls := findClass_of_methodNamed B.named
  have hrt := B.returns
  have hlocks := B.notSynchronized
  subst hsz
  have hD := hD0.self (sz := s.heap.size)
  have hl := lv_entry as (n := nL) hn
  rw [lg_entry_eq]
  refine hR p l e _ s m as.toArray below meth c (va_A (wld X h) s.heap.size) 0 0 _ ⟨⟨B.exec, B.bytes, hml, hown, fun w hw => hts w (List.mem_cons_of_mem _ hw)⟩, Nat.le_refl d, Nat.le_refl _, fun q hq => Or.inr hq, hE, hK⟩ (Nat.le_refl 0) (Nat.le_refl 0) ?_ s.heap [] _ ⟨hP, hD, va_S.rf⟩ hl
  intro H locs ls pcR i hdg hi hI
  obtain ⟨hP9, hD9, hS9⟩ := hI
  have hq : ∀ t : State, t.heap = H → s.WarmedH t.vm → QV r (fun t => va_P X.2.2.1 CL (wld X h') t.heap) (va_A (wld X h) s.heap.size) as.toArray s (.returned r) t := fun t ht _ => ⟨⟨rfl, by show va_P X.2.2.1 CL (wld X h') t.heap; rw [ht]; exact hP9⟩, hS9.F ht⟩
  rcases hi with ⟨rfl, v, ty, rfl, he, hnn⟩ | ⟨rfl, v, rfl, he⟩ | ⟨rfl, rfl, he⟩
  · exact W.zret (v := v) B.exec B.bytes (hrt.trans he) hnn hq hS9.2.2 hdg hlocks
  · exact W.lret (v := v) B.exec B.bytes (hrt.trans he) hq hS9.2.2 hdg hlocks
  · exact W.vret B.exec B.bytes (hrt.trans he) hq hS9.2.2 hdg hlocks
section VCG
variable {p : Program} {l : Launch} {e : Env} {R : Room} {s : State} {m : MethodId} {args : Array Value} {below : List Frame} {meth : Method} {c : Code} {H : Heap} {locs : List Loc} {cells slots : Nat} {Q : State → Prop}
variable {pc : Nat} {ls : Array Slot} {rest st0 : List Value} {a : Array Value} {A0 A1 : Nat → Prop} {H0 : Heap} {free : Addr → Prop}
theorem va_callg {r : Option Value} {B : State → Prop} (hr : va_Run p l e R s m args below meth c H locs cells slots 0 0 (F0 m pc ls st0) rest (QV r B A1 a) free) (hS : va_S A0 H0 H locs) (hA : ∀ q, q < H.size → A1 q → A0 q) (hf : ∀ q, free q → A0 q)
    (kk : ∀ (t : State) (H1 : Heap) (locs1 : List Loc), t.heap = H1 → B t → H.size ≤ H1.size → (∀ q : Nat, q < H.size → ¬ A1 q → H1[q]? = H[q]?) → va_S A0 H0 H1 locs1 → W p l e R s m args below meth c H1 locs1 cells slots Q (F0 m (pc + 3) ls (r.toList ++ rest))) : W p l e R s m args below meth c H locs cells slots Q (F0 m pc ls st0) := by
  intro T hT X
  obtain ⟨v, st₀, t, T', L, h0, X', hL, e1, e2, ⟨⟨hv, hb⟩, hz, hk⟩, st⟩ := hr T hT X
  cases hv
  rw [h0] at hz hk
  obtain ⟨t2, a1, b1⟩ := kk t T'.heap (locs ++ L) e1.symm hb (by rw [e1]; exact hz) (fun q h1 h2 => by rw [e1]; exact hk q h1 h2)
    ⟨Nat.le_trans hS.1 (by rw [e1]; exact hz), fun q h1 h2 => by rw [e1, hk q (Nat.lt_of_lt_of_le h1 hS.1) (fun z => h2 (hA q (Nat.lt_of_lt_of_le h1 hS.1) z))]; exact hS.2.1 q h1 h2, fun q hq => by
      rcases List.mem_append.mp hq with h | h
      · exact hS.2.2 q h
      · exact hf _ (hL q h)⟩ T' rfl X'
  exact ⟨t2, st t2 a1, b1⟩
end VCG
