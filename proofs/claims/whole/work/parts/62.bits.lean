/-! bits of a number, the newest lowest -/
def bq (x : Int32) (i : Nat) : Bool := x.toBitVec.getLsbD i
theorem bq_n (x : Int32) (i : Nat) : bq x i = x.toBitVec.toNat.testBit i := (BitVec.testBit_toNat _).symm
theorem bq_xor1 (x : Int32) {i : Nat} (h : i < 32) : bq (x ^^^ 1) i = (bq x i ^^ decide (i = 0)) := by
  unfold bq
  rw [Int32.toBitVec_xor, BitVec.getLsbD_xor]
  congr 1
  exact (show ∀ i : Fin 32, (1 : Int32).toBitVec.getLsbD i.val = decide (i.val = 0) by decide) ⟨i, h⟩
theorem bq_or (x y : Int32) (i : Nat) : bq (x ||| y) i = (bq x i || bq y i) := by
  unfold bq; rw [Int32.toBitVec_or, BitVec.getLsbD_or]
theorem bq_and (x y : Int32) (i : Nat) : bq (x &&& y) i = (bq x i && bq y i) := by
  unfold bq; rw [Int32.toBitVec_and, BitVec.getLsbD_and]
theorem bq_m2 {i : Nat} (h : i < 32) : bq (-2) i = !decide (i = 0) := (show ∀ i : Fin 32, bq (-2) i.val = !decide (i.val = 0) by decide) ⟨i, h⟩
theorem bq_1 {i : Nat} (h : i < 32) : bq 1 i = decide (i = 0) := (show ∀ i : Fin 32, bq 1 i.val = decide (i.val = 0) by decide) ⟨i, h⟩
theorem bq_0 {i : Nat} (h : i < 32) : bq 0 i = false := (show ∀ i : Fin 32, bq 0 i.val = false by decide) ⟨i, h⟩
theorem bq_sr (x : Int32) (i : Nat) : bq ((Int32.toUInt32 x >>> (Int32.toUInt32 1 &&& Int32.toUInt32 31)).toInt32) i = bq x (i + 1) := by
  rw [bq_n, bq_n, pk_ushr x 1 1 (by decide), Nat.testBit_div_two_pow]
theorem bq_sl (x : Int32) {i : Nat} (h : i < 32) : bq (x <<< ((1 : Int32) &&& 31)) i = (decide (1 ≤ i) && bq x (i - 1)) := by
  rw [bq_n, bq_n, pk_shl x (1 &&& 31) 1 (by decide), Nat.testBit_mod_two_pow, Nat.mul_comm, Nat.testBit_two_pow_mul]
  simp [h]
theorem bq_hi (x : Int32) {i : Nat} (h : 32 ≤ i) : bq x i = false := by
  unfold bq; exact BitVec.getLsbD_of_ge _ _ h
theorem bq_ext {x y : Int32} (h : ∀ i, i < 32 → bq x i = bq y i) : x = y := by
  apply Int32.toBitVec_inj.mp
  apply BitVec.eq_of_getLsbD_eq
  exact h
theorem bq_lo (x : Int32) : (x &&& 1 = 1) ↔ bq x 0 = true := by
  constructor
  · intro e
    have := congrArg (fun z => bq z 0) e
    have this2 : bq (x &&& 1) 0 = bq 1 0 := this
    rw [bq_and, bq_1 (by omega)] at this2
    simpa using this2
  · intro e
    apply bq_ext
    intro i hi
    rw [bq_and, bq_1 hi]
    by_cases z : i = 0
    · subst z; rw [e]; rfl
    · simp [z]
/-- the number is the row of outcomes -/
def STK (x : Int32) (st : List Bool) : Prop := st.length ≤ 31 ∧ ∀ i, i < 32 → bq x i = st.getD i false
theorem STK_0 : STK 0 [] := ⟨by decide, fun i hi => by rw [bq_0 hi]; rfl⟩
theorem gD_s (b : Bool) (st : List Bool) (i : Nat) : (b :: st).getD (i + 1) false = st.getD i false := rfl
theorem gD_z (b : Bool) (st : List Bool) : (b :: st).getD 0 false = b := rfl
theorem gD_hi {st : List Bool} {i : Nat} (h : st.length ≤ i) : st.getD i false = false := by
  rw [List.getD_eq_getElem?_getD, List.getElem?_eq_none h]; rfl
theorem STK.next {x : Int32} {st : List Bool} (s : STK x st) (i : Nat) : bq x i = st.getD i false := by
  by_cases h : i < 32
  · exact s.2 i h
  · rw [bq_hi x (by omega), gD_hi (by have := s.1; omega)]
theorem STK.not {x : Int32} {b : Bool} {st : List Bool} (s : STK x (b :: st)) : STK (x ^^^ 1) ((!b) :: st) := by
  refine ⟨s.1, fun i hi => ?_⟩
  rw [bq_xor1 x hi, s.2 i hi]
  cases i with
  | zero => rw [gD_z, gD_z]; cases b <;> rfl
  | succ i => rw [gD_s, gD_s]; simp
theorem STK.and {x : Int32} {a b : Bool} {st : List Bool} (s : STK x (b :: a :: st)) : STK ((Int32.toUInt32 x >>> (Int32.toUInt32 1 &&& Int32.toUInt32 31)).toInt32 &&& (x ||| -2)) ((a && b) :: st) := by
  refine ⟨by have := s.1; simp only [List.length_cons] at this ⊢; omega, fun i hi => ?_⟩
  rw [bq_and, bq_sr, bq_or, bq_m2 hi, s.next, s.next]
  cases i with
  | zero => simp only [gD_s, gD_z]; simp
  | succ i => simp only [gD_s]; simp
theorem STK.or {x : Int32} {a b : Bool} {st : List Bool} (s : STK x (b :: a :: st)) : STK ((Int32.toUInt32 x >>> (Int32.toUInt32 1 &&& Int32.toUInt32 31)).toInt32 ||| (x &&& 1)) ((a || b) :: st) := by
  refine ⟨by have := s.1; simp only [List.length_cons] at this ⊢; omega, fun i hi => ?_⟩
  rw [bq_or, bq_sr, bq_and, bq_1 hi, s.next, s.next]
  cases i with
  | zero => simp only [gD_s, gD_z]; simp
  | succ i => simp only [gD_s]; simp
theorem STK.pop {x : Int32} {b : Bool} {st : List Bool} (s : STK x (b :: st)) : STK ((Int32.toUInt32 x >>> (Int32.toUInt32 1 &&& Int32.toUInt32 31)).toInt32) st ∧ (x &&& 1 = 1 ↔ b = true) := by
  refine ⟨⟨by have := s.1; simp only [List.length_cons] at this ⊢; omega, fun i hi => ?_⟩, ?_⟩
  · rw [bq_sr, s.next]; rfl
  · rw [bq_lo, s.next]; rfl
theorem STK.push0 {x : Int32} {st : List Bool} (s : STK x st) (h : st.length ≤ 30) : STK (x <<< ((1 : Int32) &&& 31) ||| 0) (false :: st) := by
  refine ⟨by simp only [List.length_cons]; omega, fun i hi => ?_⟩
  rw [bq_or, bq_sl x hi, bq_0 hi, s.next]
  cases i with
  | zero => rfl
  | succ i => rw [gD_s]; simp
theorem STK.push1 {x : Int32} {st : List Bool} (s : STK x st) (h : st.length ≤ 30) : STK (x <<< ((1 : Int32) &&& 31) ||| 1) (true :: st) := by
  refine ⟨by simp only [List.length_cons]; omega, fun i hi => ?_⟩
  rw [bq_or, bq_sl x hi, bq_1 hi, s.next]
  cases i with
  | zero => rfl
  | succ i => rw [gD_s]; simp
