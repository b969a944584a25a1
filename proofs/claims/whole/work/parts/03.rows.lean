section RR
variable {Y : MD} {d : Nat} {X : XE} {pc : Nat} {lv : List (Nat × Value)} {st : List Value} {h h1 h2 h' : HP} {r : Option Value}
theorem r_iload_n (n9 : Nat) (hp : pc + 1 = n9) {k : Fin 4} {i : Nat} {x : Int32} (n : Nat) (hk : lv[n]? = some (i, .int x)) (hi : (k : Nat) = i) (hdg : decode Y.2.1 pc = .ok (.iload_n k, 1)) (kk : Run Y d X n9 lv (.int x :: st) h r h') : Run Y d X pc lv (st) h r h' := by
  subst hp
  intro p l e R s m args below meth c A cells slots Q C0 c1 c2 K H locs ls hI hl
  exact lv_iload_n C0.1.1 C0.1.2.1 hdg hi (lv_at hl n hk) (kk p l e R s m args below meth c A cells slots Q C0 c1 c2 K H locs ls hI hl)
theorem r_iload (n9 : Nat) (hp : pc + 2 = n9) {i : Nat} {x : Int32} (n : Nat) (hk : lv[n]? = some (i, .int x)) (hdg : decode Y.2.1 pc = .ok (.iload i, 2)) (kk : Run Y d X n9 lv (.int x :: st) h r h') : Run Y d X pc lv (st) h r h' := by
  subst hp
  intro p l e R s m args below meth c A cells slots Q C0 c1 c2 K H locs ls hI hl
  exact lv_iload C0.1.1 C0.1.2.1 hdg (lv_at hl n hk) (kk p l e R s m args below meth c A cells slots Q C0 c1 c2 K H locs ls hI hl)
theorem r_aload_n (n9 : Nat) (hp : pc + 1 = n9) {k : Fin 4} {i : Nat} {x : Nat} (n : Nat) (hk : lv[n]? = some (i, .ref x)) (hi : (k : Nat) = i) (hdg : decode Y.2.1 pc = .ok (.aload_n k, 1)) (kk : Run Y d X n9 lv (.ref x :: st) h r h') : Run Y d X pc lv (st) h r h' := by
  subst hp
  intro p l e R s m args below meth c A cells slots Q C0 c1 c2 K H locs ls hI hl
  exact lv_aload_n C0.1.1 C0.1.2.1 hdg hi (lv_at hl n hk) (kk p l e R s m args below meth c A cells slots Q C0 c1 c2 K H locs ls hI hl)
theorem r_aload (n9 : Nat) (hp : pc + 2 = n9) {i : Nat} {x : Nat} (n : Nat) (hk : lv[n]? = some (i, .ref x)) (hdg : decode Y.2.1 pc = .ok (.aload i, 2)) (kk : Run Y d X n9 lv (.ref x :: st) h r h') : Run Y d X pc lv (st) h r h' := by
  subst hp
  intro p l e R s m args below meth c A cells slots Q C0 c1 c2 K H locs ls hI hl
  exact lv_aload C0.1.1 C0.1.2.1 hdg (lv_at hl n hk) (kk p l e R s m args below meth c A cells slots Q C0 c1 c2 K H locs ls hI hl)
theorem r_lload_n (n9 : Nat) (hp : pc + 1 = n9) {k : Fin 4} {i : Nat} {x : Int64} (n : Nat) (hk : lv[n]? = some (i, .long x)) (hi : (k : Nat) = i) (hdg : decode Y.2.1 pc = .ok (.lload_n k, 1)) (kk : Run Y d X n9 lv (.long x :: st) h r h') : Run Y d X pc lv (st) h r h' := by
  subst hp
  intro p l e R s m args below meth c A cells slots Q C0 c1 c2 K H locs ls hI hl
  exact lv_lload_n C0.1.1 C0.1.2.1 hdg hi (lv_at hl n hk) (kk p l e R s m args below meth c A cells slots Q C0 c1 c2 K H locs ls hI hl)
theorem r_lload (n9 : Nat) (hp : pc + 2 = n9) {i : Nat} {x : Int64} (n : Nat) (hk : lv[n]? = some (i, .long x)) (hdg : decode Y.2.1 pc = .ok (.lload i, 2)) (kk : Run Y d X n9 lv (.long x :: st) h r h') : Run Y d X pc lv (st) h r h' := by
  subst hp
  intro p l e R s m args below meth c A cells slots Q C0 c1 c2 K H locs ls hI hl
  exact lv_lload C0.1.1 C0.1.2.1 hdg (lv_at hl n hk) (kk p l e R s m args below meth c A cells slots Q C0 c1 c2 K H locs ls hI hl)
theorem r_istore_n (n9 : Nat) (hp : pc + 1 = n9) {lv' : List (Nat × Value)} {k : Fin 4} {i : Nat} {x : Int32} (hdg : decode Y.2.1 pc = .ok (.istore_n k, 1)) (hn : i < Y.2.2.1) (hl' : (i, Value.int x) :: lv.filter (fun q => !(q.1 == i) && !(q.1 + 1 == i && q.2.category == 2)) = lv') (hi : (k : Nat) = i) (kk : Run Y d X n9 lv' st h r h') : Run Y d X pc lv (.int x :: st) h r h' := by
  subst hp
  intro p l e R s m args below meth c A cells slots Q C0 c1 c2 K H locs ls hI hl
  exact lv_istore_n C0.1.1 C0.1.2.1 hdg hi hl hn hl' (fun ls' hl9 => kk p l e R s m args below meth c A cells slots Q C0 c1 c2 K H locs ls' hI hl9)
theorem r_istore (n9 : Nat) (hp : pc + 2 = n9) {lv' : List (Nat × Value)} {i : Nat} {x : Int32} (hdg : decode Y.2.1 pc = .ok (.istore i, 2)) (hn : i < Y.2.2.1) (hl' : (i, Value.int x) :: lv.filter (fun q => !(q.1 == i) && !(q.1 + 1 == i && q.2.category == 2)) = lv') (kk : Run Y d X n9 lv' st h r h') : Run Y d X pc lv (.int x :: st) h r h' := by
  subst hp
  intro p l e R s m args below meth c A cells slots Q C0 c1 c2 K H locs ls hI hl
  exact lv_istore C0.1.1 C0.1.2.1 hdg hl hn hl' (fun ls' hl9 => kk p l e R s m args below meth c A cells slots Q C0 c1 c2 K H locs ls' hI hl9)
theorem r_astore_n (n9 : Nat) (hp : pc + 1 = n9) {lv' : List (Nat × Value)} {k : Fin 4} {i : Nat} {x : Nat} (hdg : decode Y.2.1 pc = .ok (.astore_n k, 1)) (hn : i < Y.2.2.1) (hl' : (i, Value.ref x) :: lv.filter (fun q => !(q.1 == i) && !(q.1 + 1 == i && q.2.category == 2)) = lv') (hi : (k : Nat) = i) (kk : Run Y d X n9 lv' st h r h') : Run Y d X pc lv (.ref x :: st) h r h' := by
  subst hp
  intro p l e R s m args below meth c A cells slots Q C0 c1 c2 K H locs ls hI hl
  exact lv_astore_n C0.1.1 C0.1.2.1 hdg hi hl hn hl' (fun ls' hl9 => kk p l e R s m args below meth c A cells slots Q C0 c1 c2 K H locs ls' hI hl9)
theorem r_astore (n9 : Nat) (hp : pc + 2 = n9) {lv' : List (Nat × Value)} {i : Nat} {x : Nat} (hdg : decode Y.2.1 pc = .ok (.astore i, 2)) (hn : i < Y.2.2.1) (hl' : (i, Value.ref x) :: lv.filter (fun q => !(q.1 == i) && !(q.1 + 1 == i && q.2.category == 2)) = lv') (kk : Run Y d X n9 lv' st h r h') : Run Y d X pc lv (.ref x :: st) h r h' := by
  subst hp
  intro p l e R s m args below meth c A cells slots Q C0 c1 c2 K H locs ls hI hl
  exact lv_astore C0.1.1 C0.1.2.1 hdg hl hn hl' (fun ls' hl9 => kk p l e R s m args below meth c A cells slots Q C0 c1 c2 K H locs ls' hI hl9)
theorem r_iinc (n9 : Nat) (hp : pc + 3 = n9) {lv' : List (Nat × Value)} {i : Nat} {x v : Int32} {n : Int} (k : Nat) (hdg : decode Y.2.1 pc = .ok (.iinc i n, 3)) (hk : lv[k]? = some (i, .int x)) (hv : x + Int32.ofInt n = v) (hn : i < Y.2.2.1) (hl' : (i, Value.int v) :: lv.filter (fun q => !(q.1 == i) && !(q.1 + 1 == i && q.2.category == 2)) = lv') (kk : Run Y d X n9 lv' st h r h') : Run Y d X pc lv st h r h' := by
  subst hp
  intro p l e R s m args below meth c A cells slots Q C0 c1 c2 K H locs ls hI hl
  exact lv_iinc C0.1.1 C0.1.2.1 hdg hl hk hv hn hl' (fun ls' hl9 => kk p l e R s m args below meth c A cells slots Q C0 c1 c2 K H locs ls' hI hl9)
theorem r_sub {lv' : List (Nat × Value)} (ks : List Nat) (hs : lv_pick lv ks = lv') (kk : Run Y d X pc lv' st h r h') : Run Y d X pc lv st h r h' := by
  intro p l e R s m args below meth c A cells slots Q C0 c1 c2 K H locs ls hI hl
  exact kk p l e R s m args below meth c A cells slots Q C0 c1 c2 K H locs ls hI (lv_sub hl ks hs)
theorem r_iconst (n9 : Nat) (hp : pc + 1 = n9) {n : Int} {v : Int32} (hv : Int32.ofInt n = v) (hdg : decode Y.2.1 pc = .ok (.iconst n, 1)) (kk : Run Y d X n9 lv (.int v :: st) h r h') : Run Y d X pc lv (st) h r h' := by
  subst hp
  intro p l e R s m args below meth c A cells slots Q C0 c1 c2 K H locs ls hI hl
  exact lv_iconst C0.1.1 C0.1.2.1 hdg hv (kk p l e R s m args below meth c A cells slots Q C0 c1 c2 K H locs ls hI hl)
theorem r_bipush (n9 : Nat) (hp : pc + 2 = n9) {n : Int} {v : Int32} (hv : (Int8.ofInt n).toInt32 = v) (hdg : decode Y.2.1 pc = .ok (.bipush n, 2)) (kk : Run Y d X n9 lv (.int v :: st) h r h') : Run Y d X pc lv (st) h r h' := by
  subst hp
  intro p l e R s m args below meth c A cells slots Q C0 c1 c2 K H locs ls hI hl
  exact lv_bipush C0.1.1 C0.1.2.1 hdg hv (kk p l e R s m args below meth c A cells slots Q C0 c1 c2 K H locs ls hI hl)
theorem r_sipush (n9 : Nat) (hp : pc + 3 = n9) {n : Int} {v : Int32} (hv : (Int16.ofInt n).toInt32 = v) (hdg : decode Y.2.1 pc = .ok (.sipush n, 3)) (kk : Run Y d X n9 lv (.int v :: st) h r h') : Run Y d X pc lv (st) h r h' := by
  subst hp
  intro p l e R s m args below meth c A cells slots Q C0 c1 c2 K H locs ls hI hl
  exact lv_sipush C0.1.1 C0.1.2.1 hdg hv (kk p l e R s m args below meth c A cells slots Q C0 c1 c2 K H locs ls hI hl)
theorem r_lconst (n9 : Nat) (hp : pc + 1 = n9) {n : Fin 2} {v : Int64} (hv : Int64.ofNat (n : Nat) = v) (hdg : decode Y.2.1 pc = .ok (.lconst n, 1)) (kk : Run Y d X n9 lv (.long v :: st) h r h') : Run Y d X pc lv (st) h r h' := by
  subst hp
  intro p l e R s m args below meth c A cells slots Q C0 c1 c2 K H locs ls hI hl
  exact lv_lconst C0.1.1 C0.1.2.1 hdg hv (kk p l e R s m args below meth c A cells slots Q C0 c1 c2 K H locs ls hI hl)
theorem r_ldc (n9 : Nat) (hp : pc + 2 = n9) {index : Nat} {v : Int32} (hw : Cond.constant Y.1.cls index v ∈ TBL) (hdg : decode Y.2.1 pc = .ok (.ldc index, 2)) (kk : Run Y d X n9 lv (.int v :: st) h r h') : Run Y d X pc lv (st) h r h' := by
  subst hp
  intro p l e R s m args below meth c A cells slots Q C0 c1 c2 K H locs ls hI hl
  exact lv_ldc C0.1.1 C0.1.2.1 C0.1.2.2.2.1 (C0.1.2.2.2.2 _ hw) hdg (kk p l e R s m args below meth c A cells slots Q C0 c1 c2 K H locs ls hI hl)
theorem r_ldcw (n9 : Nat) (hp : pc + 3 = n9) {index : Nat} {v : Int32} (hw : Cond.constant Y.1.cls index v ∈ TBL) (hdg : decode Y.2.1 pc = .ok (.ldc_w index, 3)) (kk : Run Y d X n9 lv (.int v :: st) h r h') : Run Y d X pc lv (st) h r h' := by
  subst hp
  intro p l e R s m args below meth c A cells slots Q C0 c1 c2 K H locs ls hI hl
  exact lv_ldcw C0.1.1 C0.1.2.1 C0.1.2.2.2.1 (C0.1.2.2.2.2 _ hw) hdg (kk p l e R s m args below meth c A cells slots Q C0 c1 c2 K H locs ls hI hl)
theorem r_ldc2 (n9 : Nat) (hp : pc + 3 = n9) {index : Nat} {v : Int64} (hw : Cond.constantLong Y.1.cls index v ∈ TBL) (hdg : decode Y.2.1 pc = .ok (.ldc2_w index, 3)) (kk : Run Y d X n9 lv (.long v :: st) h r h') : Run Y d X pc lv (st) h r h' := by
  subst hp
  intro p l e R s m args below meth c A cells slots Q C0 c1 c2 K H locs ls hI hl
  exact lv_ldc2 C0.1.1 C0.1.2.1 C0.1.2.2.2.1 (C0.1.2.2.2.2 _ hw) hdg (kk p l e R s m args below meth c A cells slots Q C0 c1 c2 K H locs ls hI hl)
theorem r_iadd (n9 : Nat) (hp : pc + 1 = n9) {x y : Int32} (hdg : decode Y.2.1 pc = .ok (.iadd, 1)) (kk : Run Y d X n9 lv (.int (x + y) :: st) h r h') : Run Y d X pc lv (.int y :: .int x :: st) h r h' := by
  subst hp
  intro p l e R s m args below meth c A cells slots Q C0 c1 c2 K H locs ls hI hl
  exact lv_iadd C0.1.1 C0.1.2.1 hdg (kk p l e R s m args below meth c A cells slots Q C0 c1 c2 K H locs ls hI hl)
theorem r_isub (n9 : Nat) (hp : pc + 1 = n9) {x y : Int32} (hdg : decode Y.2.1 pc = .ok (.isub, 1)) (kk : Run Y d X n9 lv (.int (x - y) :: st) h r h') : Run Y d X pc lv (.int y :: .int x :: st) h r h' := by
  subst hp
  intro p l e R s m args below meth c A cells slots Q C0 c1 c2 K H locs ls hI hl
  exact lv_isub C0.1.1 C0.1.2.1 hdg (kk p l e R s m args below meth c A cells slots Q C0 c1 c2 K H locs ls hI hl)
theorem r_imul (n9 : Nat) (hp : pc + 1 = n9) {x y : Int32} (hdg : decode Y.2.1 pc = .ok (.imul, 1)) (kk : Run Y d X n9 lv (.int (x * y) :: st) h r h') : Run Y d X pc lv (.int y :: .int x :: st) h r h' := by
  subst hp
  intro p l e R s m args below meth c A cells slots Q C0 c1 c2 K H locs ls hI hl
  exact lv_imul C0.1.1 C0.1.2.1 hdg (kk p l e R s m args below meth c A cells slots Q C0 c1 c2 K H locs ls hI hl)
theorem r_iand (n9 : Nat) (hp : pc + 1 = n9) {x y : Int32} (hdg : decode Y.2.1 pc = .ok (.iand, 1)) (kk : Run Y d X n9 lv (.int (x &&& y) :: st) h r h') : Run Y d X pc lv (.int y :: .int x :: st) h r h' := by
  subst hp
  intro p l e R s m args below meth c A cells slots Q C0 c1 c2 K H locs ls hI hl
  exact lv_iand C0.1.1 C0.1.2.1 hdg (kk p l e R s m args below meth c A cells slots Q C0 c1 c2 K H locs ls hI hl)
theorem r_ior (n9 : Nat) (hp : pc + 1 = n9) {x y : Int32} (hdg : decode Y.2.1 pc = .ok (.ior, 1)) (kk : Run Y d X n9 lv (.int (x ||| y) :: st) h r h') : Run Y d X pc lv (.int y :: .int x :: st) h r h' := by
  subst hp
  intro p l e R s m args below meth c A cells slots Q C0 c1 c2 K H locs ls hI hl
  exact lv_ior C0.1.1 C0.1.2.1 hdg (kk p l e R s m args below meth c A cells slots Q C0 c1 c2 K H locs ls hI hl)
theorem r_ixor (n9 : Nat) (hp : pc + 1 = n9) {x y : Int32} (hdg : decode Y.2.1 pc = .ok (.ixor, 1)) (kk : Run Y d X n9 lv (.int (x ^^^ y) :: st) h r h') : Run Y d X pc lv (.int y :: .int x :: st) h r h' := by
  subst hp
  intro p l e R s m args below meth c A cells slots Q C0 c1 c2 K H locs ls hI hl
  exact lv_ixor C0.1.1 C0.1.2.1 hdg (kk p l e R s m args below meth c A cells slots Q C0 c1 c2 K H locs ls hI hl)
theorem r_ishl (n9 : Nat) (hp : pc + 1 = n9) {x y : Int32} (hdg : decode Y.2.1 pc = .ok (.ishl, 1)) (kk : Run Y d X n9 lv (.int (x <<< (y &&& 31)) :: st) h r h') : Run Y d X pc lv (.int y :: .int x :: st) h r h' := by
  subst hp
  intro p l e R s m args below meth c A cells slots Q C0 c1 c2 K H locs ls hI hl
  exact lv_ishl C0.1.1 C0.1.2.1 hdg (kk p l e R s m args below meth c A cells slots Q C0 c1 c2 K H locs ls hI hl)
theorem r_iushr (n9 : Nat) (hp : pc + 1 = n9) {x y : Int32} (hdg : decode Y.2.1 pc = .ok (.iushr, 1)) (kk : Run Y d X n9 lv (.int (x.toUInt32 >>> (y.toUInt32 &&& Int32.toUInt32 31)).toInt32 :: st) h r h') : Run Y d X pc lv (.int y :: .int x :: st) h r h' := by
  subst hp
  intro p l e R s m args below meth c A cells slots Q C0 c1 c2 K H locs ls hI hl
  exact lv_iushr C0.1.1 C0.1.2.1 hdg rfl (kk p l e R s m args below meth c A cells slots Q C0 c1 c2 K H locs ls hI hl)
theorem r_idiv (n9 : Nat) (hp : pc + 1 = n9) {x y : Int32} (hne : ¬ y = 0) (hdg : decode Y.2.1 pc = .ok (.idiv, 1)) (kk : Run Y d X n9 lv (.int (x / y) :: st) h r h') : Run Y d X pc lv (.int y :: .int x :: st) h r h' := by
  subst hp
  intro p l e R s m args below meth c A cells slots Q C0 c1 c2 K H locs ls hI hl
  exact lv_idiv C0.1.1 C0.1.2.1 hdg hne (kk p l e R s m args below meth c A cells slots Q C0 c1 c2 K H locs ls hI hl)
theorem r_irem (n9 : Nat) (hp : pc + 1 = n9) {x y : Int32} (hne : ¬ y = 0) (hdg : decode Y.2.1 pc = .ok (.irem, 1)) (kk : Run Y d X n9 lv (.int (x - x / y * y) :: st) h r h') : Run Y d X pc lv (.int y :: .int x :: st) h r h' := by
  subst hp
  intro p l e R s m args below meth c A cells slots Q C0 c1 c2 K H locs ls hI hl
  exact lv_irem C0.1.1 C0.1.2.1 hdg hne (kk p l e R s m args below meth c A cells slots Q C0 c1 c2 K H locs ls hI hl)
theorem r_ineg (n9 : Nat) (hp : pc + 1 = n9) {x : Int32} (hdg : decode Y.2.1 pc = .ok (.ineg, 1)) (kk : Run Y d X n9 lv (.int (-x) :: st) h r h') : Run Y d X pc lv (.int x :: st) h r h' := by
  subst hp
  intro p l e R s m args below meth c A cells slots Q C0 c1 c2 K H locs ls hI hl
  exact lv_ineg C0.1.1 C0.1.2.1 hdg (kk p l e R s m args below meth c A cells slots Q C0 c1 c2 K H locs ls hI hl)
theorem r_i2l (n9 : Nat) (hp : pc + 1 = n9) {x : Int32} (hdg : decode Y.2.1 pc = .ok (.i2l, 1)) (kk : Run Y d X n9 lv (.long x.toInt64 :: st) h r h') : Run Y d X pc lv (.int x :: st) h r h' := by
  subst hp
  intro p l e R s m args below meth c A cells slots Q C0 c1 c2 K H locs ls hI hl
  exact lv_i2l C0.1.1 C0.1.2.1 hdg rfl (kk p l e R s m args below meth c A cells slots Q C0 c1 c2 K H locs ls hI hl)
theorem r_l2i (n9 : Nat) (hp : pc + 1 = n9) {x : Int64} (hdg : decode Y.2.1 pc = .ok (.l2i, 1)) (kk : Run Y d X n9 lv (.int x.toInt32 :: st) h r h') : Run Y d X pc lv (.long x :: st) h r h' := by
  subst hp
  intro p l e R s m args below meth c A cells slots Q C0 c1 c2 K H locs ls hI hl
  exact lv_l2i C0.1.1 C0.1.2.1 hdg rfl (kk p l e R s m args below meth c A cells slots Q C0 c1 c2 K H locs ls hI hl)
theorem r_i2b (n9 : Nat) (hp : pc + 1 = n9) {x : Int32} (hdg : decode Y.2.1 pc = .ok (.i2b, 1)) (kk : Run Y d X n9 lv (.int x.toInt8.toInt32 :: st) h r h') : Run Y d X pc lv (.int x :: st) h r h' := by
  subst hp
  intro p l e R s m args below meth c A cells slots Q C0 c1 c2 K H locs ls hI hl
  exact lv_i2b C0.1.1 C0.1.2.1 hdg rfl (kk p l e R s m args below meth c A cells slots Q C0 c1 c2 K H locs ls hI hl)
theorem r_i2s (n9 : Nat) (hp : pc + 1 = n9) {x : Int32} (hdg : decode Y.2.1 pc = .ok (.i2s, 1)) (kk : Run Y d X n9 lv (.int x.toInt16.toInt32 :: st) h r h') : Run Y d X pc lv (.int x :: st) h r h' := by
  subst hp
  intro p l e R s m args below meth c A cells slots Q C0 c1 c2 K H locs ls hI hl
  exact lv_i2s C0.1.1 C0.1.2.1 hdg rfl (kk p l e R s m args below meth c A cells slots Q C0 c1 c2 K H locs ls hI hl)
theorem r_i2c (n9 : Nat) (hp : pc + 1 = n9) {x : Int32} (hdg : decode Y.2.1 pc = .ok (.i2c, 1)) (kk : Run Y d X n9 lv (.int (x.toUInt32 % 65536).toInt32 :: st) h r h') : Run Y d X pc lv (.int x :: st) h r h' := by
  subst hp
  intro p l e R s m args below meth c A cells slots Q C0 c1 c2 K H locs ls hI hl
  exact lv_i2c C0.1.1 C0.1.2.1 hdg rfl (kk p l e R s m args below meth c A cells slots Q C0 c1 c2 K H locs ls hI hl)
theorem r_land (n9 : Nat) (hp : pc + 1 = n9) {x y : Int64} (hdg : decode Y.2.1 pc = .ok (.land, 1)) (kk : Run Y d X n9 lv (.long (x &&& y) :: st) h r h') : Run Y d X pc lv (.long y :: .long x :: st) h r h' := by
  subst hp
  intro p l e R s m args below meth c A cells slots Q C0 c1 c2 K H locs ls hI hl
  exact lv_land C0.1.1 C0.1.2.1 hdg (kk p l e R s m args below meth c A cells slots Q C0 c1 c2 K H locs ls hI hl)
theorem r_lor (n9 : Nat) (hp : pc + 1 = n9) {x y : Int64} (hdg : decode Y.2.1 pc = .ok (.lor, 1)) (kk : Run Y d X n9 lv (.long (x ||| y) :: st) h r h') : Run Y d X pc lv (.long y :: .long x :: st) h r h' := by
  subst hp
  intro p l e R s m args below meth c A cells slots Q C0 c1 c2 K H locs ls hI hl
  exact lv_lor C0.1.1 C0.1.2.1 hdg (kk p l e R s m args below meth c A cells slots Q C0 c1 c2 K H locs ls hI hl)
theorem r_lshl (n9 : Nat) (hp : pc + 1 = n9) {x : Int64} {y : Int32} (hdg : decode Y.2.1 pc = .ok (.lshl, 1)) (kk : Run Y d X n9 lv (.long (x <<< (y.toInt64 &&& 63)) :: st) h r h') : Run Y d X pc lv (.int y :: .long x :: st) h r h' := by
  subst hp
  intro p l e R s m args below meth c A cells slots Q C0 c1 c2 K H locs ls hI hl
  exact lv_lshl C0.1.1 C0.1.2.1 hdg rfl (kk p l e R s m args below meth c A cells slots Q C0 c1 c2 K H locs ls hI hl)
theorem r_lcmp (n9 : Nat) (hp : pc + 1 = n9) {x y : Int64} (hdg : decode Y.2.1 pc = .ok (.lcmp, 1)) (kk : Run Y d X n9 lv (.int (lg_cmp x y) :: st) h r h') : Run Y d X pc lv (.long y :: .long x :: st) h r h' := by
  subst hp
  intro p l e R s m args below meth c A cells slots Q C0 c1 c2 K H locs ls hI hl
  exact W.lcmp C0.1.1 C0.1.2.1 hdg (kk p l e R s m args below meth c A cells slots Q C0 c1 c2 K H locs ls hI hl)
theorem r_dup (n9 : Nat) (hp : pc + 1 = n9) {v : Value} (hv : v.category = 1) (hdg : decode Y.2.1 pc = .ok (.dup, 1)) (kk : Run Y d X n9 lv (v :: v :: st) h r h') : Run Y d X pc lv (v :: st) h r h' := by
  subst hp
  intro p l e R s m args below meth c A cells slots Q C0 c1 c2 K H locs ls hI hl
  exact lv_dup C0.1.1 C0.1.2.1 hdg hv (kk p l e R s m args below meth c A cells slots Q C0 c1 c2 K H locs ls hI hl)
theorem r_pop (n9 : Nat) (hp : pc + 1 = n9) {v : Value} (hv : v.category = 1) (hdg : decode Y.2.1 pc = .ok (.pop, 1)) (kk : Run Y d X n9 lv (st) h r h') : Run Y d X pc lv (v :: st) h r h' := by
  subst hp
  intro p l e R s m args below meth c A cells slots Q C0 c1 c2 K H locs ls hI hl
  exact lv_pop C0.1.1 C0.1.2.1 hdg hv (kk p l e R s m args below meth c A cells slots Q C0 c1 c2 K H locs ls hI hl)
theorem r_dup2 (n9 : Nat) (hp : pc + 1 = n9) {v u : Value} (hv : v.category = 1) (hu : u.category = 1) (hdg : decode Y.2.1 pc = .ok (.dup2, 1)) (kk : Run Y d X n9 lv (v :: u :: v :: u :: st) h r h') : Run Y d X pc lv (v :: u :: st) h r h' := by
  subst hp
  intro p l e R s m args below meth c A cells slots Q C0 c1 c2 K H locs ls hI hl
  exact lv_dup2_11 C0.1.1 C0.1.2.1 hdg hv hu (kk p l e R s m args below meth c A cells slots Q C0 c1 c2 K H locs ls hI hl)
theorem r_goto {off : Int} (tgt : Nat) (hdg : decode Y.2.1 pc = .ok (.goto off, 3)) (ht : (pc : Int) + off = (tgt : Int)) (kk : Run Y d X tgt lv st h r h') : Run Y d X pc lv st h r h' := by
  intro p l e R s m args below meth c A cells slots Q C0 c1 c2 K H locs ls hI hl
  exact lv_goto C0.1.1 C0.1.2.1 hdg ht (kk p l e R s m args below meth c A cells slots Q C0 c1 c2 K H locs ls hI hl)
theorem r_if_eq_t {x : Int32} {off : Int} (tgt : Nat) (hdg : decode Y.2.1 pc = .ok (.ifCond .eq off, 3)) (ht : (pc : Int) + off = (tgt : Int)) (hc : x = 0) (kk : Run Y d X tgt lv st h r h') : Run Y d X pc lv (.int x :: st) h r h' := by
  intro p l e R s m args below meth c A cells slots Q C0 c1 c2 K H locs ls hI hl
  exact lv_if_eq C0.1.1 C0.1.2.1 hdg ht (fun _ => (kk p l e R s m args below meth c A cells slots Q C0 c1 c2 K H locs ls hI hl)) (fun q => absurd hc q)
theorem r_if_eq_f (n9 : Nat) (hp : pc + 3 = n9) {x : Int32} {off : Int} (tgt : Nat) (hdg : decode Y.2.1 pc = .ok (.ifCond .eq off, 3)) (ht : (pc : Int) + off = (tgt : Int)) (hc : ¬ x = 0) (kk : Run Y d X n9 lv st h r h') : Run Y d X pc lv (.int x :: st) h r h' := by
  subst hp
  intro p l e R s m args below meth c A cells slots Q C0 c1 c2 K H locs ls hI hl
  exact lv_if_eq C0.1.1 C0.1.2.1 hdg ht (fun q => absurd q hc) (fun _ => (kk p l e R s m args below meth c A cells slots Q C0 c1 c2 K H locs ls hI hl))
theorem r_icmp_eq_t {x y : Int32} {off : Int} (tgt : Nat) (hdg : decode Y.2.1 pc = .ok (.if_icmp .eq off, 3)) (ht : (pc : Int) + off = (tgt : Int)) (hc : x = y) (kk : Run Y d X tgt lv st h r h') : Run Y d X pc lv (.int y :: .int x :: st) h r h' := by
  intro p l e R s m args below meth c A cells slots Q C0 c1 c2 K H locs ls hI hl
  exact lv_icmp_eq C0.1.1 C0.1.2.1 hdg ht (fun _ => (kk p l e R s m args below meth c A cells slots Q C0 c1 c2 K H locs ls hI hl)) (fun q => absurd hc q)
theorem r_icmp_eq_f (n9 : Nat) (hp : pc + 3 = n9) {x y : Int32} {off : Int} (tgt : Nat) (hdg : decode Y.2.1 pc = .ok (.if_icmp .eq off, 3)) (ht : (pc : Int) + off = (tgt : Int)) (hc : ¬ x = y) (kk : Run Y d X n9 lv st h r h') : Run Y d X pc lv (.int y :: .int x :: st) h r h' := by
  subst hp
  intro p l e R s m args below meth c A cells slots Q C0 c1 c2 K H locs ls hI hl
  exact lv_icmp_eq C0.1.1 C0.1.2.1 hdg ht (fun q => absurd q hc) (fun _ => (kk p l e R s m args below meth c A cells slots Q C0 c1 c2 K H locs ls hI hl))
theorem r_if_ne_t (n9 : Nat) (hp : pc + 3 = n9) {x : Int32} {off : Int} (tgt : Nat) (hdg : decode Y.2.1 pc = .ok (.ifCond .ne off, 3)) (ht : (pc : Int) + off = (tgt : Int)) (hc : x = 0) (kk : Run Y d X n9 lv st h r h') : Run Y d X pc lv (.int x :: st) h r h' := by
  subst hp
  intro p l e R s m args below meth c A cells slots Q C0 c1 c2 K H locs ls hI hl
  exact lv_if_ne C0.1.1 C0.1.2.1 hdg ht (fun q => absurd hc q) (fun _ => (kk p l e R s m args below meth c A cells slots Q C0 c1 c2 K H locs ls hI hl))
theorem r_if_ne_f {x : Int32} {off : Int} (tgt : Nat) (hdg : decode Y.2.1 pc = .ok (.ifCond .ne off, 3)) (ht : (pc : Int) + off = (tgt : Int)) (hc : ¬ x = 0) (kk : Run Y d X tgt lv st h r h') : Run Y d X pc lv (.int x :: st) h r h' := by
  intro p l e R s m args below meth c A cells slots Q C0 c1 c2 K H locs ls hI hl
  exact lv_if_ne C0.1.1 C0.1.2.1 hdg ht (fun _ => (kk p l e R s m args below meth c A cells slots Q C0 c1 c2 K H locs ls hI hl)) (fun q => absurd q hc)
theorem r_icmp_ne_t (n9 : Nat) (hp : pc + 3 = n9) {x y : Int32} {off : Int} (tgt : Nat) (hdg : decode Y.2.1 pc = .ok (.if_icmp .ne off, 3)) (ht : (pc : Int) + off = (tgt : Int)) (hc : x = y) (kk : Run Y d X n9 lv st h r h') : Run Y d X pc lv (.int y :: .int x :: st) h r h' := by
  subst hp
  intro p l e R s m args below meth c A cells slots Q C0 c1 c2 K H locs ls hI hl
  exact lv_icmp_ne C0.1.1 C0.1.2.1 hdg ht (fun q => absurd hc q) (fun _ => (kk p l e R s m args below meth c A cells slots Q C0 c1 c2 K H locs ls hI hl))
theorem r_icmp_ne_f {x y : Int32} {off : Int} (tgt : Nat) (hdg : decode Y.2.1 pc = .ok (.if_icmp .ne off, 3)) (ht : (pc : Int) + off = (tgt : Int)) (hc : ¬ x = y) (kk : Run Y d X tgt lv st h r h') : Run Y d X pc lv (.int y :: .int x :: st) h r h' := by
  intro p l e R s m args below meth c A cells slots Q C0 c1 c2 K H locs ls hI hl
  exact lv_icmp_ne C0.1.1 C0.1.2.1 hdg ht (fun _ => (kk p l e R s m args below meth c A cells slots Q C0 c1 c2 K H locs ls hI hl)) (fun q => absurd q hc)
theorem r_if_lt_t {x : Int32} {off : Int} (tgt : Nat) (hdg : decode Y.2.1 pc = .ok (.ifCond .lt off, 3)) (ht : (pc : Int) + off = (tgt : Int)) (hc : x < 0) (kk : Run Y d X tgt lv st h r h') : Run Y d X pc lv (.int x :: st) h r h' := by
  intro p l e R s m args below meth c A cells slots Q C0 c1 c2 K H locs ls hI hl
  exact lv_if_lt C0.1.1 C0.1.2.1 hdg ht (fun _ => (kk p l e R s m args below meth c A cells slots Q C0 c1 c2 K H locs ls hI hl)) (fun q => absurd hc q)
theorem r_if_lt_f (n9 : Nat) (hp : pc + 3 = n9) {x : Int32} {off : Int} (tgt : Nat) (hdg : decode Y.2.1 pc = .ok (.ifCond .lt off, 3)) (ht : (pc : Int) + off = (tgt : Int)) (hc : ¬ x < 0) (kk : Run Y d X n9 lv st h r h') : Run Y d X pc lv (.int x :: st) h r h' := by
  subst hp
  intro p l e R s m args below meth c A cells slots Q C0 c1 c2 K H locs ls hI hl
  exact lv_if_lt C0.1.1 C0.1.2.1 hdg ht (fun q => absurd q hc) (fun _ => (kk p l e R s m args below meth c A cells slots Q C0 c1 c2 K H locs ls hI hl))
theorem r_icmp_lt_t {x y : Int32} {off : Int} (tgt : Nat) (hdg : decode Y.2.1 pc = .ok (.if_icmp .lt off, 3)) (ht : (pc : Int) + off = (tgt : Int)) (hc : x < y) (kk : Run Y d X tgt lv st h r h') : Run Y d X pc lv (.int y :: .int x :: st) h r h' := by
  intro p l e R s m args below meth c A cells slots Q C0 c1 c2 K H locs ls hI hl
  exact lv_icmp_lt C0.1.1 C0.1.2.1 hdg ht (fun _ => (kk p l e R s m args below meth c A cells slots Q C0 c1 c2 K H locs ls hI hl)) (fun q => absurd hc q)
theorem r_icmp_lt_f (n9 : Nat) (hp : pc + 3 = n9) {x y : Int32} {off : Int} (tgt : Nat) (hdg : decode Y.2.1 pc = .ok (.if_icmp .lt off, 3)) (ht : (pc : Int) + off = (tgt : Int)) (hc : ¬ x < y) (kk : Run Y d X n9 lv st h r h') : Run Y d X pc lv (.int y :: .int x :: st) h r h' := by
  subst hp
  intro p l e R s m args below meth c A cells slots Q C0 c1 c2 K H locs ls hI hl
  exact lv_icmp_lt C0.1.1 C0.1.2.1 hdg ht (fun q => absurd q hc) (fun _ => (kk p l e R s m args below meth c A cells slots Q C0 c1 c2 K H locs ls hI hl))
theorem r_if_ge_t {x : Int32} {off : Int} (tgt : Nat) (hdg : decode Y.2.1 pc = .ok (.ifCond .ge off, 3)) (ht : (pc : Int) + off = (tgt : Int)) (hc : 0 ≤ x) (kk : Run Y d X tgt lv st h r h') : Run Y d X pc lv (.int x :: st) h r h' := by
  intro p l e R s m args below meth c A cells slots Q C0 c1 c2 K H locs ls hI hl
  exact lv_if_ge C0.1.1 C0.1.2.1 hdg ht (fun _ => (kk p l e R s m args below meth c A cells slots Q C0 c1 c2 K H locs ls hI hl)) (fun q => absurd hc q)
theorem r_if_ge_f (n9 : Nat) (hp : pc + 3 = n9) {x : Int32} {off : Int} (tgt : Nat) (hdg : decode Y.2.1 pc = .ok (.ifCond .ge off, 3)) (ht : (pc : Int) + off = (tgt : Int)) (hc : ¬ 0 ≤ x) (kk : Run Y d X n9 lv st h r h') : Run Y d X pc lv (.int x :: st) h r h' := by
  subst hp
  intro p l e R s m args below meth c A cells slots Q C0 c1 c2 K H locs ls hI hl
  exact lv_if_ge C0.1.1 C0.1.2.1 hdg ht (fun q => absurd q hc) (fun _ => (kk p l e R s m args below meth c A cells slots Q C0 c1 c2 K H locs ls hI hl))
theorem r_icmp_ge_t {x y : Int32} {off : Int} (tgt : Nat) (hdg : decode Y.2.1 pc = .ok (.if_icmp .ge off, 3)) (ht : (pc : Int) + off = (tgt : Int)) (hc : y ≤ x) (kk : Run Y d X tgt lv st h r h') : Run Y d X pc lv (.int y :: .int x :: st) h r h' := by
  intro p l e R s m args below meth c A cells slots Q C0 c1 c2 K H locs ls hI hl
  exact lv_icmp_ge C0.1.1 C0.1.2.1 hdg ht (fun _ => (kk p l e R s m args below meth c A cells slots Q C0 c1 c2 K H locs ls hI hl)) (fun q => absurd hc q)
theorem r_icmp_ge_f (n9 : Nat) (hp : pc + 3 = n9) {x y : Int32} {off : Int} (tgt : Nat) (hdg : decode Y.2.1 pc = .ok (.if_icmp .ge off, 3)) (ht : (pc : Int) + off = (tgt : Int)) (hc : ¬ y ≤ x) (kk : Run Y d X n9 lv st h r h') : Run Y d X pc lv (.int y :: .int x :: st) h r h' := by
  subst hp
  intro p l e R s m args below meth c A cells slots Q C0 c1 c2 K H locs ls hI hl
  exact lv_icmp_ge C0.1.1 C0.1.2.1 hdg ht (fun q => absurd q hc) (fun _ => (kk p l e R s m args below meth c A cells slots Q C0 c1 c2 K H locs ls hI hl))
theorem r_if_gt_t {x : Int32} {off : Int} (tgt : Nat) (hdg : decode Y.2.1 pc = .ok (.ifCond .gt off, 3)) (ht : (pc : Int) + off = (tgt : Int)) (hc : 0 < x) (kk : Run Y d X tgt lv st h r h') : Run Y d X pc lv (.int x :: st) h r h' := by
  intro p l e R s m args below meth c A cells slots Q C0 c1 c2 K H locs ls hI hl
  exact lv_if_gt C0.1.1 C0.1.2.1 hdg ht (fun _ => (kk p l e R s m args below meth c A cells slots Q C0 c1 c2 K H locs ls hI hl)) (fun q => absurd hc q)
theorem r_if_gt_f (n9 : Nat) (hp : pc + 3 = n9) {x : Int32} {off : Int} (tgt : Nat) (hdg : decode Y.2.1 pc = .ok (.ifCond .gt off, 3)) (ht : (pc : Int) + off = (tgt : Int)) (hc : ¬ 0 < x) (kk : Run Y d X n9 lv st h r h') : Run Y d X pc lv (.int x :: st) h r h' := by
  subst hp
  intro p l e R s m args below meth c A cells slots Q C0 c1 c2 K H locs ls hI hl
  exact lv_if_gt C0.1.1 C0.1.2.1 hdg ht (fun q => absurd q hc) (fun _ => (kk p l e R s m args below meth c A cells slots Q C0 c1 c2 K H locs ls hI hl))
theorem r_icmp_gt_t {x y : Int32} {off : Int} (tgt : Nat) (hdg : decode Y.2.1 pc = .ok (.if_icmp .gt off, 3)) (ht : (pc : Int) + off = (tgt : Int)) (hc : y < x) (kk : Run Y d X tgt lv st h r h') : Run Y d X pc lv (.int y :: .int x :: st) h r h' := by
  intro p l e R s m args below meth c A cells slots Q C0 c1 c2 K H locs ls hI hl
  exact lv_icmp_gt C0.1.1 C0.1.2.1 hdg ht (fun _ => (kk p l e R s m args below meth c A cells slots Q C0 c1 c2 K H locs ls hI hl)) (fun q => absurd hc q)
theorem r_icmp_gt_f (n9 : Nat) (hp : pc + 3 = n9) {x y : Int32} {off : Int} (tgt : Nat) (hdg : decode Y.2.1 pc = .ok (.if_icmp .gt off, 3)) (ht : (pc : Int) + off = (tgt : Int)) (hc : ¬ y < x) (kk : Run Y d X n9 lv st h r h') : Run Y d X pc lv (.int y :: .int x :: st) h r h' := by
  subst hp
  intro p l e R s m args below meth c A cells slots Q C0 c1 c2 K H locs ls hI hl
  exact lv_icmp_gt C0.1.1 C0.1.2.1 hdg ht (fun q => absurd q hc) (fun _ => (kk p l e R s m args below meth c A cells slots Q C0 c1 c2 K H locs ls hI hl))
theorem r_if_le_t {x : Int32} {off : Int} (tgt : Nat) (hdg : decode Y.2.1 pc = .ok (.ifCond .le off, 3)) (ht : (pc : Int) + off = (tgt : Int)) (hc : x ≤ 0) (kk : Run Y d X tgt lv st h r h') : Run Y d X pc lv (.int x :: st) h r h' := by
  intro p l e R s m args below meth c A cells slots Q C0 c1 c2 K H locs ls hI hl
  exact lv_if_le C0.1.1 C0.1.2.1 hdg ht (fun _ => (kk p l e R s m args below meth c A cells slots Q C0 c1 c2 K H locs ls hI hl)) (fun q => absurd hc q)
theorem r_if_le_f (n9 : Nat) (hp : pc + 3 = n9) {x : Int32} {off : Int} (tgt : Nat) (hdg : decode Y.2.1 pc = .ok (.ifCond .le off, 3)) (ht : (pc : Int) + off = (tgt : Int)) (hc : ¬ x ≤ 0) (kk : Run Y d X n9 lv st h r h') : Run Y d X pc lv (.int x :: st) h r h' := by
  subst hp
  intro p l e R s m args below meth c A cells slots Q C0 c1 c2 K H locs ls hI hl
  exact lv_if_le C0.1.1 C0.1.2.1 hdg ht (fun q => absurd q hc) (fun _ => (kk p l e R s m args below meth c A cells slots Q C0 c1 c2 K H locs ls hI hl))
theorem r_icmp_le_t {x y : Int32} {off : Int} (tgt : Nat) (hdg : decode Y.2.1 pc = .ok (.if_icmp .le off, 3)) (ht : (pc : Int) + off = (tgt : Int)) (hc : x ≤ y) (kk : Run Y d X tgt lv st h r h') : Run Y d X pc lv (.int y :: .int x :: st) h r h' := by
  intro p l e R s m args below meth c A cells slots Q C0 c1 c2 K H locs ls hI hl
  exact lv_icmp_le C0.1.1 C0.1.2.1 hdg ht (fun _ => (kk p l e R s m args below meth c A cells slots Q C0 c1 c2 K H locs ls hI hl)) (fun q => absurd hc q)
theorem r_icmp_le_f (n9 : Nat) (hp : pc + 3 = n9) {x y : Int32} {off : Int} (tgt : Nat) (hdg : decode Y.2.1 pc = .ok (.if_icmp .le off, 3)) (ht : (pc : Int) + off = (tgt : Int)) (hc : ¬ x ≤ y) (kk : Run Y d X n9 lv st h r h') : Run Y d X pc lv (.int y :: .int x :: st) h r h' := by
  subst hp
  intro p l e R s m args below meth c A cells slots Q C0 c1 c2 K H locs ls hI hl
  exact lv_icmp_le C0.1.1 C0.1.2.1 hdg ht (fun q => absurd q hc) (fun _ => (kk p l e R s m args below meth c A cells slots Q C0 c1 c2 K H locs ls hI hl))
theorem tsw_o {x : Int32} (lo : Int) (n : Nat) (h : ∀ k, k < n → x.toInt ≠ lo + (k : Int)) : x.toInt < lo ∨ lo + (n : Int) - 1 < x.toInt := by
  by_cases q : x.toInt < lo
  · exact Or.inl q
  · by_cases q2 : lo + (n : Int) - 1 < x.toInt
    · exact Or.inr q2
    · exact absurd (show x.toInt = lo + (((x.toInt - lo).toNat : Nat) : Int) by omega) (h (x.toInt - lo).toNat (by omega))
theorem ne_int {x v : Int32} (h : ¬ x = v) : x.toInt ≠ v.toInt := fun e => h (Int32.toInt_inj.mp e)
theorem r_tsw_in {dflt lo hi : Int} {offs : Array Int} {len : Nat} {x v : Int32} {off : Int} (tgt : Nat) (hdg : decode Y.2.1 pc = .ok (.tableswitch dflt lo hi offs, len)) (hc : x = v) (hv1 : ¬ v.toInt < lo) (hv2 : ¬ hi < v.toInt) (ho : offs[(v.toInt - lo).toNat]? = some off) (ht : (pc : Int) + off = (tgt : Int)) (kk : Run Y d X tgt lv st h r h') : Run Y d X pc lv (.int x :: st) h r h' := by
  intro p l e R s m args below meth c A cells slots Q C0 c1 c2 K H locs ls hI hl
  subst hc
  exact lv_tableIn C0.1.1 C0.1.2.1 hdg hv1 hv2 ho ht (kk p l e R s m args below meth c A cells slots Q C0 c1 c2 K H locs ls hI hl)
theorem r_tsw_out {dflt lo hi : Int} {offs : Array Int} {len : Nat} {x : Int32} (tgt : Nat) (hdg : decode Y.2.1 pc = .ok (.tableswitch dflt lo hi offs, len)) (hx : x.toInt < lo ∨ hi < x.toInt) (ht : (pc : Int) + dflt = (tgt : Int)) (kk : Run Y d X tgt lv st h r h') : Run Y d X pc lv (.int x :: st) h r h' := by
  intro p l e R s m args below meth c A cells slots Q C0 c1 c2 K H locs ls hI hl
  exact lv_tableOut C0.1.1 C0.1.2.1 hdg hx ht (kk p l e R s m args below meth c A cells slots Q C0 c1 c2 K H locs ls hI hl)
theorem r_lsw {dflt : Int} {ps : Array (Int × Int)} {len : Nat} {x : Int32} {off : Int} (tgt : Nat) (hdg : decode Y.2.1 pc = .ok (.lookupswitch dflt ps, len)) (hp : (ps.toList.zip (ps.toList.drop 1)).all (fun (a, next) => a.1 < next.1) = true) (ho : Op.lookupswitch.offset ps.toList dflt x.toInt = off) (ht : (pc : Int) + off = (tgt : Int)) (kk : Run Y d X tgt lv st h r h') : Run Y d X pc lv (.int x :: st) h r h' := by
  intro p l e R s m args below meth c A cells slots Q C0 c1 c2 K H locs ls hI hl
  exact lv_lookup C0.1.1 C0.1.2.1 hdg hp ho ht (kk p l e R s m args below meth c A cells slots Q C0 c1 c2 K H locs ls hI hl)
theorem r_top {x y : Int32} (e : y = x) (kk : Run Y d X pc lv (.int y :: st) h r h') : Run Y d X pc lv (.int x :: st) h r h' := e ▸ kk
theorem r_topl {x y : Int64} (e : y = x) (kk : Run Y d X pc lv (.long y :: st) h r h') : Run Y d X pc lv (.long x :: st) h r h' := e ▸ kk
theorem r_heap (e : h1 = h) (kk : Run Y d X pc lv st h1 r h') : Run Y d X pc lv st h r h' := e ▸ kk
theorem r_iret {v : Int32} {ty : FieldType} (hy : Y.2.2.2 = some ty) (hn : narrow ty (.int v) = .int v) (hdg : decode Y.2.1 pc = .ok (.ireturn, 1)) : Run Y d X pc lv [.int v] h (some (.int v)) h := by
  intro p l e R s m args below meth c A cells slots Q C0 c1 c2 K H locs ls hI hl
  exact K H locs ls pc _ hdg (Or.inl ⟨rfl, v, ty, rfl, hy, hn⟩) hI
theorem r_lret {v : Int64} (hy : Y.2.2.2 = some .long) (hdg : decode Y.2.1 pc = .ok (.lreturn, 1)) : Run Y d X pc lv [.long v] h (some (.long v)) h := by
  intro p l e R s m args below meth c A cells slots Q C0 c1 c2 K H locs ls hI hl
  exact K H locs ls pc _ hdg (Or.inr (Or.inl ⟨rfl, v, rfl, hy⟩)) hI
theorem r_vret (hy : Y.2.2.2 = none) (hdg : decode Y.2.1 pc = .ok (.return_, 1)) : Run Y d X pc lv [] h none h := by
  intro p l e R s m args below meth c A cells slots Q C0 c1 c2 K H locs ls hI hl
  exact K H locs ls pc _ hdg (Or.inr (Or.inr ⟨rfl, rfl, hy⟩)) hI
end RR
theorem si_row (h : HP) (k j : Nat) (v : Int32) : (si h k j v).1 k = upd (h.1 k) j v := by funext a; simp [si, va_up, upd]
theorem sl_row (h : HP) (k j : Nat) (v : Int64) : (sl h k j v).2.1 k = vp_updL (h.2.1 k) j v := by funext a; simp [sl, va_up, vp_updL]
/-- a field of ours, as an instruction of the class own names it -/
def FL (own : String) (idx ci j : Nat) : Prop := ∃ C T N, CL[ci]? = some (C, T, N) ∧ j < N ∧ (T j).1 = C ∧ Cond.fieldLink own idx C (T j).2.1 (T j).2.2.1 ∈ TBL ∧ (∀ w ∈ u_ws C T N, w ∈ TBL)
def FW (own : String) (idx ci j : Nat) (ty : FieldType) : Prop := ∃ C T N, CL[ci]? = some (C, T, N) ∧ j < N ∧ (T j).1 = C ∧ Cond.fieldLink own idx C (T j).2.1 (T j).2.2.1 ∈ TBL ∧ (∀ w ∈ u_ws C T N, w ∈ TBL) ∧ (∃ ty0 : Nat → FieldType, ∀ k, k < N → parseFieldDescriptor (T k).2.2.1 = some (ty0 k)) ∧ (∀ a, a < N → ∀ b, b < N → a ≠ b → (T a).2.1 ≠ (T b).2.1) ∧ (T j).2.2.2 = false ∧ parseFieldDescriptor (T j).2.2.1 = some ty
theorem cell_obj (X : XE) (h : HP) (k ci : Nat) (ks : List Nat) : cellE X h k (0, ci, ks) = .inr (ci, ks.mapIdx (fun j t => fval X.1 h k ci j t)) := rfl
theorem cell_i (X : XE) (h : HP) (k n : Nat) (ks : List Nat) : cellE X h k (1, n, ks) = .inl (X.2.1 1, n, .inl (h.1 k)) := rfl
theorem cell_l (X : XE) (h : HP) (k n : Nat) (ks : List Nat) : cellE X h k (2, n, ks) = .inl (X.2.1 2, n, .inr (.inl (h.2.1 k))) := rfl
theorem cell_b (X : XE) (h : HP) (k n : Nat) (ks : List Nat) : cellE X h k (3, n, ks) = .inl (X.2.1 3, n, .inl (h.1 k)) := rfl
theorem cell_z (X : XE) (h : HP) (k n : Nat) (ks : List Nat) : cellE X h k (4, n, ks) = .inl (X.2.1 4, n, .inl (h.1 k)) := rfl
theorem fval_si {ad : Nat → Nat} {h : HP} {k j : Nat} {v : Int32} {k' ci j' t : Nat} (hne : ¬ (k' = k ∧ j' = j)) : fval ad (si h k j v) k' ci j' t = fval ad h k' ci j' t := by
  unfold fval si
  by_cases hk : k' = k
  · subst hk
    have hj : j' ≠ j := fun e => hne ⟨rfl, e⟩
    simp [va_up, hj]
  · simp [va_up, hk]
theorem fval_sr {ad : Nat → Nat} {h : HP} {k : Nat} {v : Option Nat} {k' ci j' t : Nat} (hne : k' ≠ k ∨ t ≠ 3 ∧ (t = 0 ∨ t = 2)) : fval ad (sr h k v) k' ci j' t = fval ad h k' ci j' t := by
  unfold fval sr
  rcases hne with hk | ⟨-, rfl | rfl⟩
  · simp [va_up, hk]
  · rfl
  · rfl
theorem cellE_si_ne {X : XE} {h : HP} {k j : Nat} {v : Int32} {k' : Nat} {c : SC} (hk : k' ≠ k) : cellE X (si h k j v) k' c = cellE X h k' c := by
  have e1 : (si h k j v).1 k' = h.1 k' := by unfold si; simp [va_up, hk]
  have e2 : ∀ ci : Nat, (fun j' t => fval X.1 (si h k j v) k' ci j' t) = (fun j' t => fval X.1 h k' ci j' t) := fun ci => by
    funext j' t; exact fval_si (fun q => hk q.1)
  unfold cellE
  rw [e1, e2]
  rfl
theorem cellE_sl_ne {X : XE} {h : HP} {k j : Nat} {v : Int64} {k' : Nat} {c : SC} (hk : k' ≠ k) : cellE X (sl h k j v) k' c = cellE X h k' c := by
  have e1 : (sl h k j v).2.1 k' = h.2.1 k' := by unfold sl; simp [va_up, hk]
  unfold cellE
  rw [e1]
  rfl
theorem cellE_sr_ne {X : XE} {h : HP} {k : Nat} {v : Option Nat} {k' : Nat} {c : SC} (hk : k' ≠ k) : cellE X (sr h k v) k' c = cellE X h k' c := by
  have e2 : ∀ ci : Nat, (fun j' t => fval X.1 (sr h k v) k' ci j' t) = (fun j' t => fval X.1 h k' ci j' t) := fun ci => by
    funext j' t; exact fval_sr (Or.inl hk)
  unfold cellE
  rw [e2]
  rfl
theorem si_obj {X : XE} {h : HP} {k j ci : Nat} {ks : List Nat} {v : Int32} (hj : ks[j]? = some 0) : cellE X (si h k j v) k (0, ci, ks) = .inr (ci, (ks.mapIdx (fun j t => fval X.1 h k ci j t)).set j (.int v)) := by
  rw [cell_obj]
  congr 2
  apply List.ext_getElem?
  intro i
  rw [List.getElem?_set, List.getElem?_mapIdx, List.getElem?_mapIdx]
  by_cases hi : j = i
  · subst hi
    have hl := (List.getElem?_eq_some_iff.mp hj).1
    rw [if_pos rfl, if_pos (by simpa using hl), hj]
    simp [fval, si, va_up]
  · rw [if_neg hi]
    cases ks[i]? with
    | none => rfl
    | some t => exact congrArg some (fval_si (fun q => hi q.2.symm))
theorem sr_obj {X : XE} {h : HP} {k j ci : Nat} {ks : List Nat} {q : Nat} (hj : ks[j]? = some 3) (ho : ∀ i t, ks[i]? = some t → i ≠ j → t = 0 ∨ t = 2) : cellE X (sr h k (some q)) k (0, ci, ks) = .inr (ci, (ks.mapIdx (fun j t => fval X.1 h k ci j t)).set j (.ref (X.1 q))) := by
  rw [cell_obj]
  congr 2
  apply List.ext_getElem?
  intro i
  rw [List.getElem?_set, List.getElem?_mapIdx, List.getElem?_mapIdx]
  by_cases hi : j = i
  · subst hi
    have hl := (List.getElem?_eq_some_iff.mp hj).1
    rw [if_pos rfl, if_pos (by simpa using hl), hj]
    simp [fval, sr, va_up, va_rf]
  · rw [if_neg hi]
    cases ht : ks[i]? with
    | none => rfl
    | some t =>
      have h2 := ho i t ht (fun e => hi e.symm)
      exact congrArg some (fval_sr (Or.inr ⟨by rcases h2 with rfl | rfl <;> decide, h2⟩))
section RF
variable {Y : MD} {d : Nat} {X : XE} {pc : Nat} {lv : List (Nat × Value)} {st : List Value} {h h1 h2 h' : HP} {r : Option Value}
theorem r_geti (n9 : Nat) (hp : pc + 3 = n9) {k ci idx j : Nat} {ks : List Nat} (hk : SH[k]? = some (0, ci, ks)) (hj : ks[j]? = some 0) (F : FL Y.1.cls idx ci j) (hdg : decode Y.2.1 pc = .ok (.getfield idx, 3)) (kk : Run Y d X n9 lv (.int (h.1 k j) :: st) h r h') : Run Y d X pc lv (.ref (X.1 k) :: st) h r h' := by
  subst hp
  intro p l e R s m args below meth c A cells slots Q C0 c1 c2 K H locs ls hI hl
  obtain ⟨C, T, N, g1, g2, g3, g4, g5⟩ := F
  exact va_get (ref := C) C0.1.1 C0.1.2.1 C0.1.2.2.2.2 g5 C0.1.2.2.2.1 C0.2.2.2.2.2 hI.1 k (wld_at X h hk) g1 j g2 (C0.1.2.2.2.2 _ g4) (by rw [g3]; exact fun _ h9 => h9) (v := .int (h.1 k j)) (by rw [List.getElem?_mapIdx, hj]; rfl) hdg (kk p l e R s m args below meth c A cells slots Q C0 c1 c2 K H locs ls hI hl)
theorem r_getr (n9 : Nat) (hp : pc + 3 = n9) {k ci idx j : Nat} {ks : List Nat} {q : Nat} (hq : lr k ci j = q) (hk : SH[k]? = some (0, ci, ks)) (hj : ks[j]? = some 2) (F : FL Y.1.cls idx ci j) (hdg : decode Y.2.1 pc = .ok (.getfield idx, 3)) (kk : Run Y d X n9 lv (.ref (X.1 q) :: st) h r h') : Run Y d X pc lv (.ref (X.1 k) :: st) h r h' := by
  subst hp
  intro p l e R s m args below meth c A cells slots Q C0 c1 c2 K H locs ls hI hl
  obtain ⟨C, T, N, g1, g2, g3, g4, g5⟩ := F
  exact va_get (ref := C) C0.1.1 C0.1.2.1 C0.1.2.2.2.2 g5 C0.1.2.2.2.1 C0.2.2.2.2.2 hI.1 k (wld_at X h hk) g1 j g2 (C0.1.2.2.2.2 _ g4) (by rw [g3]; exact fun _ h9 => h9) (v := .ref (X.1 q)) (by rw [List.getElem?_mapIdx, hj]; subst hq; rfl) hdg (kk p l e R s m args below meth c A cells slots Q C0 c1 c2 K H locs ls hI hl)
theorem r_gets (n9 : Nat) (hp : pc + 3 = n9) {k ci idx j : Nat} {ks : List Nat} {q : Nat} (hq : h.2.2 k = some q) (hk : SH[k]? = some (0, ci, ks)) (hj : ks[j]? = some 3) (F : FL Y.1.cls idx ci j) (hdg : decode Y.2.1 pc = .ok (.getfield idx, 3)) (kk : Run Y d X n9 lv (.ref (X.1 q) :: st) h r h') : Run Y d X pc lv (.ref (X.1 k) :: st) h r h' := by
  subst hp
  intro p l e R s m args below meth c A cells slots Q C0 c1 c2 K H locs ls hI hl
  obtain ⟨C, T, N, g1, g2, g3, g4, g5⟩ := F
  exact va_get (ref := C) C0.1.1 C0.1.2.1 C0.1.2.2.2.2 g5 C0.1.2.2.2.1 C0.2.2.2.2.2 hI.1 k (wld_at X h hk) g1 j g2 (C0.1.2.2.2.2 _ g4) (by rw [g3]; exact fun _ h9 => h9) (v := .ref (X.1 q)) (by rw [List.getElem?_mapIdx, hj]; simp [fval, hq, va_rf]) hdg (kk p l e R s m args below meth c A cells slots Q C0 c1 c2 K H locs ls hI hl)
theorem r_puti (n9 : Nat) (hp : pc + 3 = n9) {k ci idx j : Nat} {ks : List Nat} {v : Int32} {ty : FieldType} (hk : SH[k]? = some (0, ci, ks)) (hj : ks[j]? = some 0) (F : FW Y.1.cls idx ci j ty) (hn : narrow ty (.int v) = .int v) (hf : fits ty (.int v) = true) (hdg : decode Y.2.1 pc = .ok (.putfield idx, 3)) (kk : Run Y d X n9 lv st (si h k j v) r h') : Run Y d X pc lv (.int v :: .ref (X.1 k) :: st) h r h' := by
  subst hp
  intro p l e9 R s m args below meth c A cells slots Q C0 c1 c2 K H locs ls hI hl
  obtain ⟨C, T, N, g1, g2, g3, g4, g5, ⟨ty0, g6⟩, g7, g8, g9⟩ := F
  refine va_put (ref := C) C0.1.1 C0.1.2.1 C0.1.2.2.2.2 g5 ty0 g6 g7 C0.1.2.2.2.1 C0.2.2.2.2.2 hI.1 hI.2.1 hI.2.2 k (wld_at X h hk) g1 j g2 (C0.1.2.2.2.2 _ g4) (by rw [g3]; exact fun _ h9 => h9) g8 g9 hn hf (by simpa using (List.getElem?_eq_some_iff.mp hj).1) hdg (fun H1 locs1 hP hD hS => ?_)
  have e := wld_set X h (si h k j v) hk (si_obj hj) (fun j' c' _ hne => cellE_si_ne hne)
  rw [e] at hP hD
  exact kk p l e9 R s m args below meth c A cells slots Q C0 c1 c2 K H1 locs1 ls ⟨hP, hD, hS⟩ hl
theorem r_puts (n9 : Nat) (hp : pc + 3 = n9) {k ci idx j q : Nat} {ks : List Nat} {ty : FieldType} (hk : SH[k]? = some (0, ci, ks)) (hj : ks[j]? = some 3) (ho : ∀ i t, ks[i]? = some t → i ≠ j → t = 0 ∨ t = 2) (F : FW Y.1.cls idx ci j ty) (hn : narrow ty (.ref (X.1 q)) = .ref (X.1 q)) (hf : fits ty (.ref (X.1 q)) = true) (hdg : decode Y.2.1 pc = .ok (.putfield idx, 3)) (kk : Run Y d X n9 lv st (sr h k (some q)) r h') : Run Y d X pc lv (.ref (X.1 q) :: .ref (X.1 k) :: st) h r h' := by
  subst hp
  intro p l e9 R s m args below meth c A cells slots Q C0 c1 c2 K H locs ls hI hl
  obtain ⟨C, T, N, g1, g2, g3, g4, g5, ⟨ty0, g6⟩, g7, g8, g9⟩ := F
  refine va_put (ref := C) C0.1.1 C0.1.2.1 C0.1.2.2.2.2 g5 ty0 g6 g7 C0.1.2.2.2.1 C0.2.2.2.2.2 hI.1 hI.2.1 hI.2.2 k (wld_at X h hk) g1 j g2 (C0.1.2.2.2.2 _ g4) (by rw [g3]; exact fun _ h9 => h9) g8 g9 hn hf (by simpa using (List.getElem?_eq_some_iff.mp hj).1) hdg (fun H1 locs1 hP hD hS => ?_)
  have e := wld_set X h (sr h k (some q)) hk (sr_obj hj ho) (fun j' c' _ hne => cellE_sr_ne hne)
  rw [e] at hP hD
  exact kk p l e9 R s m args below meth c A cells slots Q C0 c1 c2 K H1 locs1 ls ⟨hP, hD, hS⟩ hl
theorem r_iald (n9 : Nat) (hp : pc + 1 = n9) {k n : Nat} {ks : List Nat} {i : Int32} (hk : SH[k]? = some (1, n, ks)) (hb : vp_in i n) (hdg : decode Y.2.1 pc = .ok (.iaload, 1)) (kk : Run Y d X n9 lv (.int (h.1 k i.toNatClampNeg) :: st) h r h') : Run Y d X pc lv (.int i :: .ref (X.1 k) :: st) h r h' := by
  subst hp
  intro p l e R s m args below meth c A cells slots Q C0 c1 c2 K H locs ls hI hl
  exact va_iald C0.1.1 C0.1.2.1 C0.2.2.2.2.2 hI.1 k 0 (wld_at X h hk) rfl hb hdg (kk p l e R s m args below meth c A cells slots Q C0 c1 c2 K H locs ls hI hl)
theorem r_bald (n9 : Nat) (hp : pc + 1 = n9) {k n : Nat} {ks : List Nat} {i : Int32} (hk : SH[k]? = some (3, n, ks)) (hb : vp_in i n) (hdg : decode Y.2.1 pc = .ok (.baload, 1)) (kk : Run Y d X n9 lv (.int (h.1 k i.toNatClampNeg) :: st) h r h') : Run Y d X pc lv (.int i :: .ref (X.1 k) :: st) h r h' := by
  subst hp
  intro p l e R s m args below meth c A cells slots Q C0 c1 c2 K H locs ls hI hl
  exact va_bald C0.1.1 C0.1.2.1 C0.2.2.2.2.2 hI.1 k 2 (wld_at X h hk) rfl hb hdg (kk p l e R s m args below meth c A cells slots Q C0 c1 c2 K H locs ls hI hl)
theorem r_zald (n9 : Nat) (hp : pc + 1 = n9) {k n : Nat} {ks : List Nat} {i : Int32} (hk : SH[k]? = some (4, n, ks)) (hb : vp_in i n) (hdg : decode Y.2.1 pc = .ok (.baload, 1)) (kk : Run Y d X n9 lv (.int (h.1 k i.toNatClampNeg) :: st) h r h') : Run Y d X pc lv (.int i :: .ref (X.1 k) :: st) h r h' := by
  subst hp
  intro p l e R s m args below meth c A cells slots Q C0 c1 c2 K H locs ls hI hl
  exact va_zald C0.1.1 C0.1.2.1 C0.2.2.2.2.2 hI.1 k 3 (wld_at X h hk) rfl hb hdg (kk p l e R s m args below meth c A cells slots Q C0 c1 c2 K H locs ls hI hl)
theorem r_lald (n9 : Nat) (hp : pc + 1 = n9) {k n : Nat} {ks : List Nat} {i : Int32} (hk : SH[k]? = some (2, n, ks)) (hb : vp_in i n) (hdg : decode Y.2.1 pc = .ok (.laload, 1)) (kk : Run Y d X n9 lv (.long (h.2.1 k i.toNatClampNeg) :: st) h r h') : Run Y d X pc lv (.int i :: .ref (X.1 k) :: st) h r h' := by
  subst hp
  intro p l e R s m args below meth c A cells slots Q C0 c1 c2 K H locs ls hI hl
  exact va_lald C0.1.1 C0.1.2.1 C0.2.2.2.2.2 hI.1 k 1 (wld_at X h hk) rfl hb hdg (kk p l e R s m args below meth c A cells slots Q C0 c1 c2 K H locs ls hI hl)
theorem r_iast (n9 : Nat) (hp : pc + 1 = n9) {k n : Nat} {ks : List Nat} {i : Int32} {x : Int32} (hk : SH[k]? = some (1, n, ks)) (hb : vp_in i n) (hdg : decode Y.2.1 pc = .ok (.iastore, 1)) (kk : Run Y d X n9 lv st (si h k i.toNatClampNeg x) r h') : Run Y d X pc lv (.int x :: .int i :: .ref (X.1 k) :: st) h r h' := by
  subst hp
  intro p l e9 R s m args below meth c A cells slots Q C0 c1 c2 K H locs ls hI hl
  refine va_iast C0.1.1 C0.1.2.1 C0.2.2.2.2.2 hI.1 hI.2.1 hI.2.2 k 0 (wld_at X h hk) rfl hb hdg (fun H1 locs1 hP hD hS => ?_)
  have e := wld_set X h (si h k i.toNatClampNeg x) hk (by rw [cell_i, si_row]) (fun j' c' _ hne => cellE_si_ne hne)
  rw [e] at hP hD
  exact kk p l e9 R s m args below meth c A cells slots Q C0 c1 c2 K H1 locs1 ls ⟨hP, hD, hS⟩ hl
theorem r_bast (n9 : Nat) (hp : pc + 1 = n9) {k n : Nat} {ks : List Nat} {i : Int32} {x : Int32} (hk : SH[k]? = some (3, n, ks)) (hb : vp_in i n) (hdg : decode Y.2.1 pc = .ok (.bastore, 1)) (kk : Run Y d X n9 lv st (si h k i.toNatClampNeg (vp_nar .byte x)) r h') : Run Y d X pc lv (.int x :: .int i :: .ref (X.1 k) :: st) h r h' := by
  subst hp
  intro p l e9 R s m args below meth c A cells slots Q C0 c1 c2 K H locs ls hI hl
  refine va_bast C0.1.1 C0.1.2.1 C0.2.2.2.2.2 hI.1 hI.2.1 hI.2.2 k 2 (wld_at X h hk) rfl hb hdg (fun H1 locs1 hP hD hS => ?_)
  have e := wld_set X h (si h k i.toNatClampNeg (vp_nar .byte x)) hk (by rw [cell_b, si_row]) (fun j' c' _ hne => cellE_si_ne hne)
  rw [e] at hP hD
  exact kk p l e9 R s m args below meth c A cells slots Q C0 c1 c2 K H1 locs1 ls ⟨hP, hD, hS⟩ hl
theorem r_zast (n9 : Nat) (hp : pc + 1 = n9) {k n : Nat} {ks : List Nat} {i : Int32} {x : Int32} (hk : SH[k]? = some (4, n, ks)) (hb : vp_in i n) (hdg : decode Y.2.1 pc = .ok (.bastore, 1)) (kk : Run Y d X n9 lv st (si h k i.toNatClampNeg (vp_nar .boolean x)) r h') : Run Y d X pc lv (.int x :: .int i :: .ref (X.1 k) :: st) h r h' := by
  subst hp
  intro p l e9 R s m args below meth c A cells slots Q C0 c1 c2 K H locs ls hI hl
  refine va_zast C0.1.1 C0.1.2.1 C0.2.2.2.2.2 hI.1 hI.2.1 hI.2.2 k 3 (wld_at X h hk) rfl hb hdg (fun H1 locs1 hP hD hS => ?_)
  have e := wld_set X h (si h k i.toNatClampNeg (vp_nar .boolean x)) hk (by rw [cell_z, si_row]) (fun j' c' _ hne => cellE_si_ne hne)
  rw [e] at hP hD
  exact kk p l e9 R s m args below meth c A cells slots Q C0 c1 c2 K H1 locs1 ls ⟨hP, hD, hS⟩ hl
theorem r_last (n9 : Nat) (hp : pc + 1 = n9) {k n : Nat} {ks : List Nat} {i : Int32} {x : Int64} (hk : SH[k]? = some (2, n, ks)) (hb : vp_in i n) (hdg : decode Y.2.1 pc = .ok (.lastore, 1)) (kk : Run Y d X n9 lv st (sl h k i.toNatClampNeg x) r h') : Run Y d X pc lv (.long x :: .int i :: .ref (X.1 k) :: st) h r h' := by
  subst hp
  intro p l e9 R s m args below meth c A cells slots Q C0 c1 c2 K H locs ls hI hl
  refine va_last C0.1.1 C0.1.2.1 C0.2.2.2.2.2 hI.1 hI.2.1 hI.2.2 k 1 (wld_at X h hk) rfl hb hdg (fun H1 locs1 hP hD hS => ?_)
  have e := wld_set X h (sl h k i.toNatClampNeg x) hk (by rw [cell_l, sl_row]) (fun j' c' _ hne => cellE_sl_ne hne)
  rw [e] at hP hD
  exact kk p l e9 R s m args below meth c A cells slots Q C0 c1 c2 K H1 locs1 ls ⟨hP, hD, hS⟩ hl
theorem r_aald (n9 : Nat) (hp : pc + 1 = n9) {k n t q : Nat} {ks : List Nat} {i : Int32} (hk : SH[k]? = some (t, n, ks)) (ht : t = 5 ∨ t = 6) (hq : lra t i.toNatClampNeg = q) (hb : vp_in i n) (hdg : decode Y.2.1 pc = .ok (.aaload, 1)) (kk : Run Y d X n9 lv (.ref (X.1 q) :: st) h r h') : Run Y d X pc lv (.int i :: .ref (X.1 k) :: st) h r h' := by
  subst hp
  intro p l e R s m args below meth c A cells slots Q C0 c1 c2 K H locs ls hI hl
  subst hq
  rcases ht with rfl | rfl
  · exact va_aldq C0.1.1 C0.1.2.1 C0.2.2.2.2.2 hI.1 k 4 (wld_at X h hk) rfl hb hdg (kk p l e R s m args below meth c A cells slots Q C0 c1 c2 K H locs ls hI hl)
  · exact va_aldq C0.1.1 C0.1.2.1 C0.2.2.2.2.2 hI.1 k 5 (wld_at X h hk) rfl hb hdg (kk p l e R s m args below meth c A cells slots Q C0 c1 c2 K H locs ls hI hl)
theorem r_alen (n9 : Nat) (hp : pc + 1 = n9) {k n : Nat} {ks : List Nat} {v : Int32} (hk : SH[k]? = some (1, n, ks)) (hv : Int32.ofNat n = v) (hdg : decode Y.2.1 pc = .ok (.arraylength, 1)) (kk : Run Y d X n9 lv (.int v :: st) h r h') : Run Y d X pc lv (.ref (X.1 k) :: st) h r h' := by
  subst hp
  intro p l e R s m args below meth c A cells slots Q C0 c1 c2 K H locs ls hI hl
  exact va_alen C0.1.1 C0.1.2.1 C0.2.2.2.2.2 hI.1 k 0 (wld_at X h hk) rfl hv hdg (kk p l e R s m args below meth c A cells slots Q C0 c1 c2 K H locs ls hI hl)
theorem r_slen (n9 : Nat) (hp : pc + 1 = n9) {v : Int32} (hv : Int32.ofNat X.2.2.2.2.1 = v) (hdg : decode Y.2.1 pc = .ok (.arraylength, 1)) (kk : Run Y d X n9 lv (.int v :: st) h r h') : Run Y d X pc lv (.ref (X.2.2.2.1 6) :: st) h r h' := by
  subst hp
  intro p l e R s m args below meth c A cells slots Q C0 c1 c2 K H locs ls hI hl
  subst hv
  obtain ⟨-, -, ⟨x1, x2, x3⟩, -⟩ := C0.2.2.2.2.1
  exact va_slen C0.1.1 C0.1.2.1 x1 x2 x3 hI.2.2 hdg (kk p l e R s m args below meth c A cells slots Q C0 c1 c2 K H locs ls hI hl)
theorem r_sald (n9 : Nat) (hp : pc + 1 = n9) {i : Int32} (hb : vp_in i X.2.2.2.2.1) (hdg : decode Y.2.1 pc = .ok (.iaload, 1)) (kk : Run Y d X n9 lv (.int (X.2.2.2.2.2 i.toNatClampNeg) :: st) h r h') : Run Y d X pc lv (.int i :: .ref (X.2.2.2.1 6) :: st) h r h' := by
  subst hp
  intro p l e R s m args below meth c A cells slots Q C0 c1 c2 K H locs ls hI hl
  obtain ⟨-, -, ⟨x1, x2, x3⟩, -⟩ := C0.2.2.2.2.1
  exact va_sld C0.1.1 C0.1.2.1 x1 x2 x3 hI.2.2 hb hdg (kk p l e R s m args below meth c A cells slots Q C0 c1 c2 K H locs ls hI hl)
theorem r_gka (n9 : Nat) (hp : pc + 3 = n9) {index : Nat} (hw : Cond.fieldLink Y.1.cls index RX6 "KIND_ABOVE" "[I" ∈ TBL) (hdg : decode Y.2.1 pc = .ok (.getstatic index, 3)) (kk : Run Y d X n9 lv (.ref (X.2.2.2.1 0) :: st) h r h') : Run Y d X pc lv st h r h' := by
  subst hp
  intro p l e R s m args below meth c A cells slots Q C0 c1 c2 K H locs ls hI hl
  exact va_gets C0.1.1 C0.1.2.1 C0.2.2.2.2.1.1.1 hI.2.2 C0.1.2.2.2.1 (C0.1.2.2.2.2 _ hw) (fun _ h9 => h9) hdg (kk p l e R s m args below meth c A cells slots Q C0 c1 c2 K H locs ls hI hl)
theorem r_gkn (n9 : Nat) (hp : pc + 3 = n9) (hY : Y.1.cls = RX0) (hdg : decode Y.2.1 pc = .ok (.getstatic 39, 3)) (kk : Run Y d X n9 lv (.ref (X.2.2.2.1 0) :: st) h r h') : Run Y d X pc lv st h r h' := by
  subst hp
  intro p l e R s m args below meth c A cells slots Q C0 c1 c2 K H locs ls hI hl
  exact va_getsN C0.1.1 C0.1.2.1 C0.2.2.2.2.1.1.1 hI.2.2 (by rw [← hY]; exact C0.1.2.2.2.1) (va_Nw.use rfl C0.2.2.2.2.1.2.2.2.2.2.1) (fun _ h9 => h9) hdg (kk p l e R s m args below meth c A cells slots Q C0 c1 c2 K H locs ls hI hl)
theorem r_gbo (n9 : Nat) (hp : pc + 3 = n9) {index : Nat} (hw : Cond.fieldLink Y.1.cls index RX0 "BODIES" "[I" ∈ TBL) (hdg : decode Y.2.1 pc = .ok (.getstatic index, 3)) (kk : Run Y d X n9 lv (.ref (X.2.2.2.1 1) :: st) h r h') : Run Y d X pc lv st h r h' := by
  subst hp
  intro p l e R s m args below meth c A cells slots Q C0 c1 c2 K H locs ls hI hl
  exact va_gets C0.1.1 C0.1.2.1 C0.2.2.2.2.1.1.2.2.1 hI.2.2 C0.1.2.2.2.1 (C0.1.2.2.2.2 _ hw) (fun _ h9 => h9) hdg (kk p l e R s m args below meth c A cells slots Q C0 c1 c2 K H locs ls hI hl)
theorem r_ka (n9 : Nat) (hp : pc + 1 = n9) {i : Int32} (hb : vp_in i 7) (hdg : decode Y.2.1 pc = .ok (.iaload, 1)) (kk : Run Y d X n9 lv (.int (([-1, 0, 0, 0, 1, 2, 3] : List Int32).getD i.toNatClampNeg 0) :: st) h r h') : Run Y d X pc lv (.int i :: .ref (X.2.2.2.1 0) :: st) h r h' := by
  subst hp
  intro p l e R s m args below meth c A cells slots Q C0 c1 c2 K H locs ls hI hl
  exact va_ti C0.1.1 C0.1.2.1 C0.2.2.2.2.1.1.2.1 hI.2.2 hb rfl hdg (kk p l e R s m args below meth c A cells slots Q C0 c1 c2 K H locs ls hI hl)
theorem r_bo (n9 : Nat) (hp : pc + 1 = n9) {i : Int32} (hb : vp_in i 21) (hdg : decode Y.2.1 pc = .ok (.iaload, 1)) (kk : Run Y d X n9 lv (.int (([10, 11, 12, 0, 20, 0, 30, 0, 0, 0, 0, 40, 50, 51, 0, 0, 0, 60, 71, 70, 0] : List Int32).getD i.toNatClampNeg 0) :: st) h r h') : Run Y d X pc lv (.int i :: .ref (X.2.2.2.1 1) :: st) h r h' := by
  subst hp
  intro p l e R s m args below meth c A cells slots Q C0 c1 c2 K H locs ls hI hl
  exact va_ti C0.1.1 C0.1.2.1 C0.2.2.2.2.1.1.2.2.2 hI.2.2 hb rfl hdg (kk p l e R s m args below meth c A cells slots Q C0 c1 c2 K H locs ls hI hl)
theorem r_max (n9 : Nat) (hp : pc + 3 = n9) {x y : Int32} {index : Nat} (hd : 1 ≤ d) (w1 : Cond.methodLink Y.1.cls index Lib.Math.max.name ∈ TBL) (w2 : Cond.static Lib.Math.max.name ∈ TBL) (w3 : Cond.initialized "java/lang/Math" ∈ TBL) (w4 : Cond.code Lib.Math.max.name Lib.Math.max.code 2 (some .int) ∈ TBL) (hcat : (st.map fun v => v.category).sum ≤ 8) (hdg : decode Y.2.1 pc = .ok (.invokestatic index, 3)) (kk : Run Y d X n9 lv (.int (if x < y then y else x) :: st) h r h') : Run Y d X pc lv (.int y :: .int x :: st) h r h' := by
  subst hp
  intro p l e R s m args below meth c A cells slots Q C0 c1 c2 K H locs ls hI hl
  exact va_mmax C0.1.1 C0.1.2.1 (by rw [C0.1.2.2.1]; exact hl.1.symm) C0.1.2.2.2.1 (C0.1.2.2.2.2 _ w1) (C0.1.2.2.2.2 _ w2) (C0.1.2.2.2.2 _ w3) (C0.1.2.2.2.2 _ w4) (Nat.le_trans hd C0.2.1) (by have := C0.2.2.1; omega) c1 c2 hdg (kk p l e R s m args below meth c A cells slots Q C0 c1 c2 K H locs ls hI hl)
theorem r_min (n9 : Nat) (hp : pc + 3 = n9) {x y : Int32} {index : Nat} (hd : 1 ≤ d) (w1 : Cond.methodLink Y.1.cls index Lib.Math.min.name ∈ TBL) (w2 : Cond.static Lib.Math.min.name ∈ TBL) (w3 : Cond.initialized "java/lang/Math" ∈ TBL) (w4 : Cond.code Lib.Math.min.name Lib.Math.min.code 2 (some .int) ∈ TBL) (hcat : (st.map fun v => v.category).sum ≤ 8) (hdg : decode Y.2.1 pc = .ok (.invokestatic index, 3)) (kk : Run Y d X n9 lv (.int (if y < x then y else x) :: st) h r h') : Run Y d X pc lv (.int y :: .int x :: st) h r h' := by
  subst hp
  intro p l e R s m args below meth c A cells slots Q C0 c1 c2 K H locs ls hI hl
  exact va_mmin C0.1.1 C0.1.2.1 (by rw [C0.1.2.2.1]; exact hl.1.symm) C0.1.2.2.2.1 (C0.1.2.2.2.2 _ w1) (C0.1.2.2.2.2 _ w2) (C0.1.2.2.2.2 _ w3) (C0.1.2.2.2.2 _ w4) (Nat.le_trans hd C0.2.1) (by have := C0.2.2.1; omega) c1 c2 hdg (kk p l e R s m args below meth c A cells slots Q C0 c1 c2 K H locs ls hI hl)
theorem nfw : nativeFrameWords "java/lang/System" "arraycopy" 5 + 11 ≤ 40 := by decide +kernel
def cpk (i n : Int32) (k : Nat) : Bool := !(decide (i < 0)) && !(decide (n < 0)) && decide (i.toNatClampNeg + n.toNatClampNeg ≤ k)
theorem cpk_of {i n : Int32} {k : Nat} (h : cpk i n k = true) : ¬ i < 0 ∧ ¬ n < 0 ∧ i.toNatClampNeg + n.toNatClampNeg ≤ k := by simpa [cpk, and_assoc] using h
def ci (h : HP) (a b : Nat) (sp dp n : Int32) : HP := (va_up h.1 b (va_cpy (h.1 a) (h.1 b) sp.toNatClampNeg dp.toNatClampNeg n.toNatClampNeg), h.2)
def cl (h : HP) (a b : Nat) (sp dp n : Int32) : HP := (h.1, va_up h.2.1 b (va_cpy (h.2.1 a) (h.2.1 b) sp.toNatClampNeg dp.toNatClampNeg n.toNatClampNeg), h.2.2)
theorem ci_row (h : HP) (a b : Nat) (sp dp n : Int32) : (ci h a b sp dp n).1 b = va_cpy (h.1 a) (h.1 b) sp.toNatClampNeg dp.toNatClampNeg n.toNatClampNeg := by simp [ci, va_up]
theorem cl_row (h : HP) (a b : Nat) (sp dp n : Int32) : (cl h a b sp dp n).2.1 b = va_cpy (h.2.1 a) (h.2.1 b) sp.toNatClampNeg dp.toNatClampNeg n.toNatClampNeg := by simp [cl, va_up]
theorem r_copyi (n9 : Nat) (hp : pc + 3 = n9) {a b na nb index : Nat} {ka kb : List Nat} {sp dp n : Int32} (hd : 1 ≤ d) (ha : SH[a]? = some (1, na, ka)) (hb : SH[b]? = some (1, nb, kb)) (g1 : cpk sp n na = true) (g2 : cpk dp n nb = true) (w1 : Cond.methodLink Y.1.cls index arraycopyName ∈ TBL) (w2 : Cond.native arraycopyName ∈ TBL) (w3 : Cond.static arraycopyName ∈ TBL) (w4 : Cond.initialized "java/lang/System" ∈ TBL) (hcat : (st.map fun v => v.category).sum ≤ 8) (hdg : decode Y.2.1 pc = .ok (.invokestatic index, 3)) (kk : Run Y d X n9 lv st (ci h a b sp dp n) r h') : Run Y d X pc lv (.int n :: .int dp :: .ref (X.1 b) :: .int sp :: .ref (X.1 a) :: st) h r h' := by
  subst hp
  intro p l e9 R s m args below meth c A cells slots Q C0 c1 c2 K H locs ls hI hl
  obtain ⟨a1, a2, a3⟩ := cpk_of g1
  obtain ⟨b1, -, b3⟩ := cpk_of g2
  refine va_copyi C0.1.1 C0.1.2.1 (by rw [C0.1.2.2.1]; exact hl.1.symm) C0.1.2.2.2.1 (C0.1.2.2.2.2 _ w1) (C0.1.2.2.2.2 _ w2) (C0.1.2.2.2.2 _ w3) (C0.1.2.2.2.2 _ w4) C0.2.2.2.2.2 hI.1 hI.2.1 hI.2.2 a b 0 0 (wld_at X h ha) (wld_at X h hb) rfl rfl rfl a1 b1 a2 a3 b3 (fun _ _ => rfl) (Nat.le_trans hd C0.2.1) (by have h9 := C0.2.2.1; have q := nfw; omega) hdg (fun H1 locs1 hP hD hS => ?_)
  have e := wld_set X h (ci h a b sp dp n) hb (by rw [cell_i, ci_row]) (fun j' c' _ hne => by unfold cellE fval ci; simp [va_up, hne])
  rw [e] at hP hD
  exact kk p l e9 R s m args below meth c A cells slots Q C0 c1 c2 K H1 locs1 ls ⟨hP, hD, hS⟩ hl
theorem r_copyl (n9 : Nat) (hp : pc + 3 = n9) {a b na nb index : Nat} {ka kb : List Nat} {sp dp n : Int32} (hd : 1 ≤ d) (ha : SH[a]? = some (2, na, ka)) (hb : SH[b]? = some (2, nb, kb)) (g1 : cpk sp n na = true) (g2 : cpk dp n nb = true) (w1 : Cond.methodLink Y.1.cls index arraycopyName ∈ TBL) (w2 : Cond.native arraycopyName ∈ TBL) (w3 : Cond.static arraycopyName ∈ TBL) (w4 : Cond.initialized "java/lang/System" ∈ TBL) (hcat : (st.map fun v => v.category).sum ≤ 8) (hdg : decode Y.2.1 pc = .ok (.invokestatic index, 3)) (kk : Run Y d X n9 lv st (cl h a b sp dp n) r h') : Run Y d X pc lv (.int n :: .int dp :: .ref (X.1 b) :: .int sp :: .ref (X.1 a) :: st) h r h' := by
  subst hp
  intro p l e9 R s m args below meth c A cells slots Q C0 c1 c2 K H locs ls hI hl
  obtain ⟨a1, a2, a3⟩ := cpk_of g1
  obtain ⟨b1, -, b3⟩ := cpk_of g2
  refine va_copyl C0.1.1 C0.1.2.1 (by rw [C0.1.2.2.1]; exact hl.1.symm) C0.1.2.2.2.1 (C0.1.2.2.2.2 _ w1) (C0.1.2.2.2.2 _ w2) (C0.1.2.2.2.2 _ w3) (C0.1.2.2.2.2 _ w4) C0.2.2.2.2.2 hI.1 hI.2.1 hI.2.2 a b 1 1 (wld_at X h ha) (wld_at X h hb) rfl rfl rfl a1 b1 a2 a3 b3 (fun _ _ => rfl) (Nat.le_trans hd C0.2.1) (by have h9 := C0.2.2.1; have q := nfw; omega) hdg (fun H1 locs1 hP hD hS => ?_)
  have e := wld_set X h (cl h a b sp dp n) hb (by rw [cell_l, cl_row]) (fun j' c' _ hne => by unfold cellE fval cl; simp [va_up, hne])
  rw [e] at hP hD
  exact kk p l e9 R s m args below meth c A cells slots Q C0 c1 c2 K H1 locs1 ls ⟨hP, hD, hS⟩ hl
/-- how a call of Yc is linked from the class own: virtual; static -/
def CW (own : String) (idx n : Nat) (Yc : MD) : Prop := Cond.methodLink own idx Yc.1 ∈ TBL ∧ Cond.instanceMethod Yc.1 ∈ TBL ∧ Cond.selects Yc.1.cls Yc.1 Yc.1 ∈ TBL ∧ Cond.initialized Yc.1.cls ∈ TBL ∧ Cond.code Yc.1 Yc.2.1 Yc.2.2.1 Yc.2.2.2 ∈ TBL ∧ Yc.1.cls ≠ "java/lang/invoke/MethodHandle" ∧ Yc.1.cls ≠ "java/lang/invoke/VarHandle" ∧ (parseMethodDescriptor Yc.1.desc).map (fun d => d.parameters.length) = some n ∧ Yc.2.2.1 ≤ 30
def CSt (own : String) (idx n : Nat) (Yc : MD) : Prop := Cond.methodLink own idx Yc.1 ∈ TBL ∧ Cond.static Yc.1 ∈ TBL ∧ Cond.initialized Yc.1.cls ∈ TBL ∧ Cond.code Yc.1 Yc.2.1 Yc.2.2.1 Yc.2.2.2 ∈ TBL ∧ Yc.1.cls ≠ "java/lang/invoke/MethodHandle" ∧ Yc.1.cls ≠ "java/lang/invoke/VarHandle" ∧ (parseMethodDescriptor Yc.1.desc).map (fun d => d.parameters.length) = some n ∧ Yc.2.2.1 ≤ 30
theorem good_TBL {w : Cond} (h : w ∈ TBL) : w ∈ TBL ∧ ((w.onTables && w.keeps) = true ∨ ∃ ty, w = .arrayClass ty) := ⟨h, good_of_word (List.mem_filter.mp h).2⟩
theorem good_Y {Yc : MD} (h : Cond.code Yc.1 Yc.2.1 Yc.2.2.1 Yc.2.2.2 ∈ TBL) : GoodIn TBL (.code Yc.1 Yc.2.1 Yc.2.2.1 Yc.2.2.2 :: TBL) := fun w hw => by
  rcases List.mem_cons.mp hw with rfl | hw
  · exact good_TBL h
  · exact good_TBL hw
/-- what a callee needs of the state, from what the caller has -/
theorem call_pre {X : XE} {A : Nat → Prop} {s U : State} {H : Heap} {locs : List Loc} {h : HP} (hI : INV X A s H locs h) (hE : EX X A s s.heap) (hK : va_K X.2.2.1 CL (TY X) s) (hA : ∀ q, s.heap.size ≤ q → A q) (hU : U.heap = H) (hW : s.WarmedH U.vm) : U.heap.size = H.size ∧ va_P X.2.2.1 CL (wld X h) U.heap ∧ va_K X.2.2.1 CL (TY X) U ∧ va_D (fun _ => True) (wld X h) ∧ EX X (va_A (wld X h) H.size) U U.heap := by
  refine ⟨by rw [hU], by rw [hU]; exact hI.1, va_K.moved hW.alike hK, hI.2.1.weaken (fun _ _ _ _ => trivial), ?_⟩
  rw [hU]
  refine ((hE.kept hI.2.2.1 hI.2.2.2.1).narrow (B := va_A (wld X h) H.size) (fun q hq => ?_)).warm hW
  rcases hq with ⟨k, e, hk⟩ | hq
  · exact hI.2.1.2 k (q, e) hk
  · exact hA q (Nat.le_trans hI.2.2.1 hq)
theorem call_free {X : XE} {A : Nat → Prop} {s : State} {H : Heap} {locs : List Loc} {h : HP} (hI : INV X A s H locs h) (hA : ∀ q, s.heap.size ≤ q → A q) : ∀ q, va_A (wld X h) H.size q → A q := fun q hq => by
  rcases hq with ⟨k, e, hk⟩ | hq
  · exact hI.2.1.2 k (q, e) hk
  · exact hA q (Nat.le_trans hI.2.2.1 hq)
theorem r_callV (n9 : Nat) (hp : pc + 3 = n9) {Yc : MD} {dc k ci idx n : Nat} {ks : List Nat} {As stk : List Value} {rc : Option Value} {T : u_T} {N : Nat} (hc : CC Yc dc X (.ref (X.1 k) :: As) h rc h1) (hd : dc + 1 ≤ d) (F : CW Y.1.cls idx n Yc) (hk : SH[k]? = some (0, ci, ks)) (hci : CL[ci]? = some (Yc.1.cls, T, N)) (hn : As.length = n) (hst : stk = As.reverse ++ .ref (X.1 k) :: st) (hcat : (st.map fun v => v.category).sum ≤ 8) (hdg : decode Y.2.1 pc = .ok (.invokevirtual idx, 3)) (kk : Run Y d X n9 lv (rc.toList ++ st) h1 r h') : Run Y d X pc lv stk h r h' := by
  subst hp
  intro p l e R s m args below meth c A cells slots Q C0 c1 c2 K H locs ls hI hl
  subst hst
  obtain ⟨f1, f2, f3, f4, f5, f6, f7, f8, f9⟩ := F
  have hts := C0.1.2.2.2.2
  have cw : CallW R s args Y.1.cls Yc.1.cls idx Yc.1 Yc.2.1 Yc.2.2.1 Yc.2.2.2 (.code Yc.1 Yc.2.1 Yc.2.2.1 Yc.2.2.2 :: TBL) ({ frames := dc, cells := 0, slots := 0, locals := 60 * dc }) 0 0 n :=
    ⟨callB_of n hts (good_Y f5) rfl rfl rfl (hts _ f4) (hts _ f1) ⟨f6, f7, f8⟩ ⟨by have := C0.2.1; show dc + 1 ≤ R.frames; omega, by have := C0.2.2.1; show 8 + (Yc.2.2.1 + 11) + 60 * dc ≤ R.locals; omega⟩, hts _ f2, hts _ f3⟩
  refine va_callg (va_runV (As := As) (rest := st) ⟨C0.1.1, C0.1.2.1, C0.1.2.2.1, C0.1.2.2.2.1, hts⟩ (hc l H.size) cw ⟨fun a U g mk q => by
      obtain ⟨q0, q1, q2, q3, q4, q5⟩ := q
      exact ⟨q0, q1, q2, va_K.moved (u := U) (U := U.calling g mk a) (Vm.Alike.refl U.vm) q3, q4, EX.same rfl q5⟩, va_recv C0.2.2.2.2.2 hI.1 hci (wld_at X h hk), fun U hU hW => ⟨rfl, call_pre hI C0.2.2.2.2.1 C0.2.2.2.2.2 C0.2.2.2.1 hU hW⟩⟩ rfl hn hl.1 rfl (lv_room hcat) hdg ⟨c1, c2⟩) hI.2.2 (fun q _ hq => call_free hI C0.2.2.2.1 q hq) (call_free hI C0.2.2.2.1) (fun t H1 locs1 ht hB _ _ hS => ?_)
  rw [ht] at hB
  exact kk p l e R s m args below meth c A cells slots Q C0 c1 c2 K H1 locs1 ls ⟨hB, wld_D hI.2.1, hS⟩ hl
theorem r_callS (n9 : Nat) (hp : pc + 3 = n9) {Yc : MD} {dc idx n : Nat} {As stk : List Value} {rc : Option Value} (hc : CC Yc dc X As h rc h1) (hd : dc + 1 ≤ d) (F : CSt Y.1.cls idx n Yc) (hn : As.length = n) (hst : stk = As.reverse ++ st) (hcat : (st.map fun v => v.category).sum ≤ 8) (hdg : decode Y.2.1 pc = .ok (.invokestatic idx, 3)) (kk : Run Y d X n9 lv (rc.toList ++ st) h1 r h') : Run Y d X pc lv stk h r h' := by
  subst hp
  intro p l e R s m args below meth c A cells slots Q C0 c1 c2 K H locs ls hI hl
  subst hst
  obtain ⟨f1, f3, f4, f5, f6, f7, f8, f9⟩ := F
  have hts := C0.1.2.2.2.2
  have cw : CallB R s args Y.1.cls idx Yc.1 Yc.2.1 Yc.2.2.1 Yc.2.2.2 (.code Yc.1 Yc.2.1 Yc.2.2.1 Yc.2.2.2 :: TBL) ({ frames := dc, cells := 0, slots := 0, locals := 60 * dc }) 0 0 n ∧ (Cond.static Yc.1).before args s = true :=
    ⟨callB_of n hts (good_Y f5) rfl rfl rfl (hts _ f4) (hts _ f1) ⟨f6, f7, f8⟩ ⟨by have := C0.2.1; show dc + 1 ≤ R.frames; omega, by have := C0.2.2.1; show 8 + (Yc.2.2.1 + 11) + 60 * dc ≤ R.locals; omega⟩, hts _ f3⟩
  refine va_callg (va_runS (As := As) (rest := st) ⟨C0.1.1, C0.1.2.1, C0.1.2.2.1, C0.1.2.2.2.1, hts⟩ (hc l H.size) cw ⟨fun a U g mk q => by
      obtain ⟨q0, q1, q2, q3, q4, q5⟩ := q
      exact ⟨q0, q1, q2, va_K.moved (u := U) (U := U.calling g mk a) (Vm.Alike.refl U.vm) q3, q4, EX.same rfl q5⟩, fun U hU hW => ⟨rfl, call_pre hI C0.2.2.2.2.1 C0.2.2.2.2.2 C0.2.2.2.1 hU hW⟩⟩ rfl hn hl.1 rfl (lv_room hcat) hdg ⟨c1, c2⟩) hI.2.2 (fun q _ hq => call_free hI C0.2.2.2.1 q hq) (call_free hI C0.2.2.2.1) (fun t H1 locs1 ht hB _ _ hS => ?_)
  rw [ht] at hB
  exact kk p l e R s m args below meth c A cells slots Q C0 c1 c2 K H1 locs1 ls ⟨hB, wld_D hI.2.1, hS⟩ hl
theorem r_callVi (n9 : Nat) (hp : pc + 3 = n9) {v : Int32} {Yc : MD} {dc k ci idx n : Nat} {ks : List Nat} {As stk : List Value} {T : u_T} {N : Nat} (hc : CC Yc dc X (.ref (X.1 k) :: As) h (some (.int v)) h1) (hd : dc + 1 ≤ d) (F : CW Y.1.cls idx n Yc) (hk : SH[k]? = some (0, ci, ks)) (hci : CL[ci]? = some (Yc.1.cls, T, N)) (hn : As.length = n) (hst : stk = As.reverse ++ .ref (X.1 k) :: st) (hcat : (st.map fun v => v.category).sum ≤ 8) (hdg : decode Y.2.1 pc = .ok (.invokevirtual idx, 3)) (kk : Run Y d X n9 lv (.int v :: st) h1 r h') : Run Y d X pc lv stk h r h' := r_callV _ hp hc hd F hk hci hn hst hcat hdg kk
theorem r_callVl (n9 : Nat) (hp : pc + 3 = n9) {v : Int64} {Yc : MD} {dc k ci idx n : Nat} {ks : List Nat} {As stk : List Value} {T : u_T} {N : Nat} (hc : CC Yc dc X (.ref (X.1 k) :: As) h (some (.long v)) h1) (hd : dc + 1 ≤ d) (F : CW Y.1.cls idx n Yc) (hk : SH[k]? = some (0, ci, ks)) (hci : CL[ci]? = some (Yc.1.cls, T, N)) (hn : As.length = n) (hst : stk = As.reverse ++ .ref (X.1 k) :: st) (hcat : (st.map fun v => v.category).sum ≤ 8) (hdg : decode Y.2.1 pc = .ok (.invokevirtual idx, 3)) (kk : Run Y d X n9 lv (.long v :: st) h1 r h') : Run Y d X pc lv stk h r h' := r_callV _ hp hc hd F hk hci hn hst hcat hdg kk
theorem r_callVv (n9 : Nat) (hp : pc + 3 = n9) {Yc : MD} {dc k ci idx n : Nat} {ks : List Nat} {As stk : List Value} {T : u_T} {N : Nat} (hc : CC Yc dc X (.ref (X.1 k) :: As) h none h1) (hd : dc + 1 ≤ d) (F : CW Y.1.cls idx n Yc) (hk : SH[k]? = some (0, ci, ks)) (hci : CL[ci]? = some (Yc.1.cls, T, N)) (hn : As.length = n) (hst : stk = As.reverse ++ .ref (X.1 k) :: st) (hcat : (st.map fun v => v.category).sum ≤ 8) (hdg : decode Y.2.1 pc = .ok (.invokevirtual idx, 3)) (kk : Run Y d X n9 lv st h1 r h') : Run Y d X pc lv stk h r h' := r_callV _ hp hc hd F hk hci hn hst hcat hdg kk
theorem r_callSi (n9 : Nat) (hp : pc + 3 = n9) {v : Int32} {Yc : MD} {dc idx n : Nat} {As stk : List Value} (hc : CC Yc dc X As h (some (.int v)) h1) (hd : dc + 1 ≤ d) (F : CSt Y.1.cls idx n Yc) (hn : As.length = n) (hst : stk = As.reverse ++ st) (hcat : (st.map fun v => v.category).sum ≤ 8) (hdg : decode Y.2.1 pc = .ok (.invokestatic idx, 3)) (kk : Run Y d X n9 lv (.int v :: st) h1 r h') : Run Y d X pc lv stk h r h' := r_callS _ hp hc hd F hn hst hcat hdg kk
theorem r_callSl (n9 : Nat) (hp : pc + 3 = n9) {v : Int64} {Yc : MD} {dc idx n : Nat} {As stk : List Value} (hc : CC Yc dc X As h (some (.long v)) h1) (hd : dc + 1 ≤ d) (F : CSt Y.1.cls idx n Yc) (hn : As.length = n) (hst : stk = As.reverse ++ st) (hcat : (st.map fun v => v.category).sum ≤ 8) (hdg : decode Y.2.1 pc = .ok (.invokestatic idx, 3)) (kk : Run Y d X n9 lv (.long v :: st) h1 r h') : Run Y d X pc lv stk h r h' := r_callS _ hp hc hd F hn hst hcat hdg kk
theorem r_callSv (n9 : Nat) (hp : pc + 3 = n9) {Yc : MD} {dc idx n : Nat} {As stk : List Value} (hc : CC Yc dc X As h none h1) (hd : dc + 1 ≤ d) (F : CSt Y.1.cls idx n Yc) (hn : As.length = n) (hst : stk = As.reverse ++ st) (hcat : (st.map fun v => v.category).sum ≤ 8) (hdg : decode Y.2.1 pc = .ok (.invokestatic idx, 3)) (kk : Run Y d X n9 lv st h1 r h') : Run Y d X pc lv stk h r h' := r_callS _ hp hc hd F hn hst hcat hdg kk
end RF
def gd {β : Type} (b : Bool) (k : Option β) : Option β := if b = true then k else none
def lt {α β : Type} (x : α) (k : α → Option β) : Option β := k x
def bo {α β : Type} (x : Option α) (k : α → Option β) : Option β := match x with
  | some a => k a
  | none => none
def bd {α β : Type} (x : Option (α × HP)) (k : α → HP → Option β) : Option β := match x with
  | some (a, h) => k a h
  | none => none
theorem gd_so {β : Type} {b : Bool} {k : Option β} {y : β} (h : gd b k = some y) : b = true ∧ k = some y := by
  cases b with
  | false => cases h
  | true => exact ⟨rfl, h⟩
theorem lt_so {α β : Type} {x : α} {k : α → Option β} {y : β} (h : lt x k = some y) : ∃ z, z = x ∧ k z = some y := ⟨x, rfl, h⟩
theorem bo_so {α β : Type} {x : Option α} {k : α → Option β} {y : β} (h : bo x k = some y) : ∃ a, x = some a ∧ k a = some y := by
  cases x with
  | none => cases h
  | some a => exact ⟨a, rfl, h⟩
theorem bd_so {α β : Type} {x : Option (α × HP)} {k : α → HP → Option β} {y : β} (h : bd x k = some y) : ∃ a h1, x = some (a, h1) ∧ k a h1 = some y := by
  cases x with
  | none => cases h
  | some a => exact ⟨a.1, a.2, rfl, h⟩
theorem if_so {α : Type} {c : Prop} [Decidable c] {a b : Option α} {y : α} (h : (if c then a else b) = some y) : (c ∧ a = some y) ∨ (¬ c ∧ b = some y) := by
  by_cases hc : c
  · rw [if_pos hc] at h; exact Or.inl ⟨hc, h⟩
  · rw [if_neg hc] at h; exact Or.inr ⟨hc, h⟩
def inb (i : Int32) (n : Nat) : Bool := !(decide (i < 0)) && decide (i.toNatClampNeg < n)
theorem inb_vp {i : Int32} {n : Nat} (h : inb i n = true) : vp_in i n := by
  simp only [inb, Bool.and_eq_true, Bool.not_eq_true', decide_eq_false_iff_not, decide_eq_true_eq] at h
  intro q
  rcases q with q | q
  · exact h.1 q
  · omega
def nz (y : Int32) : Bool := !(decide (y = 0))
theorem nz_of {y : Int32} (h : nz y = true) : ¬ y = 0 := by simpa [nz] using h
def zok (v : Int32) : Bool := decide (v = 0) || decide (v = 1)
theorem zok_nar {v : Int32} (h : zok v = true) : narrow .boolean (.int v) = .int v := by
  simp only [zok, Bool.or_eq_true, decide_eq_true_eq] at h
  rcases h with rfl | rfl <;> rfl
def FU : Nat := 100000
