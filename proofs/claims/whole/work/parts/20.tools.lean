/-! LEVEL B: what the functions answer -/
theorem gd_t {β : Type} {k : Option β} : gd true k = k := rfl
theorem gd_b {β : Type} {b : Bool} {k : Option β} (h : b = true) : gd b k = k := by subst h; rfl
theorem bo_s {α β : Type} {a : α} {k : α → Option β} : bo (some a) k = k a := rfl
theorem bd_s {α β : Type} {a : α} {h : HP} {k : α → HP → Option β} : bd (some (a, h)) k = k a h := rfl
theorem lt_e {α β : Type} {x : α} {k : α → Option β} : lt x k = k x := rfl
theorem li (n : Nat) : (OfNat.ofNat n : Int32) = nI n := rfl
theorem inb_n {j n : Nat} (h : j < n) (hn : n < 2147483648) : inb (nI j) n = true := by
  have h2 : j < 2 ^ 31 := by omega
  simp only [inb, nI_clamp h2, Bool.and_eq_true, Bool.not_eq_true', decide_eq_false_iff_not, decide_eq_true_eq]
  exact ⟨nI_pos h2, h⟩
theorem cl_n {j : Nat} (h : j < 2147483648) : (nI j).toNatClampNeg = j := nI_clamp (by omega)
theorem le_n {a b : Nat} (ha : a < 2147483648) (hb : b < 2147483648) : nI a ≤ nI b ↔ a ≤ b := nI_leI (by omega) (by omega)
theorem lt_n {a b : Nat} (ha : a < 2147483648) (hb : b < 2147483648) : nI a < nI b ↔ a < b := nI_ltI (by omega) (by omega)
theorem eq_n {a b : Nat} (ha : a < 2147483648) (hb : b < 2147483648) : nI a = nI b ↔ a = b := nI_eq (by omega) (by omega)
theorem sub_n {a b : Nat} (h : b ≤ a) : nI a - nI b = nI (a - b) := pk_sub h
theorem add_n (a b : Nat) : nI a + nI b = nI (a + b) := nI_add a b
theorem mul_n (a b : Nat) : nI a * nI b = nI (a * b) := pk_mul a b
theorem div_n {a b : Nat} (ha : a < 2147483648) (h0 : 0 < b) (hb : b < 2147483648) : nI a / nI b = nI (a / b) := pk_div (by omega) h0 (by omega)
theorem rem_n {a b : Nat} (ha : a < 2147483648) (h0 : 0 < b) (hb : b < 2147483648) : nI a - nI a / nI b * nI b = nI (a % b) := pk_rem (by omega) h0 (by omega)
theorem ms_lt {a b : Nat} (ha : a < 1073741824) (hb : b < 1073741824) : nI a - nI b < 0 ↔ a < b := by
  rw [Int32.lt_iff_toInt_lt, pk_sub_toInt (by omega) (by omega)]
  show (a : Int) - b < 0 ↔ _
  omega
theorem zle_ms {a b : Nat} (ha : a < 1073741824) (hb : b < 1073741824) : 0 ≤ nI a - nI b ↔ b ≤ a := by
  rw [Int32.le_iff_toInt_le, pk_sub_toInt (by omega) (by omega)]
  show (0 : Int) ≤ (a : Int) - b ↔ _
  omega
/-- a number that is looked at: below, above, or one of the n -/
theorem tri (x : Int32) {n : Nat} (hn : n < 2147483648) : x < 0 ∨ nI n ≤ x ∨ ∃ j, j < n ∧ x = nI j := pk_ix x (by omega)
theorem si_1 (h : HP) (k j : Nat) (v : Int32) (a b : Nat) : (si h k j v).1 a b = if a = k then (if b = j then v else h.1 a b) else h.1 a b := by
  by_cases ha : a = k
  · subst ha; simp [si, va_up]
  · simp [si, va_up, ha]
theorem si_r {h : HP} {k j : Nat} {v : Int32} {c : Nat} (hc : c ≠ k) : (si h k j v).1 c = h.1 c := by funext a; rw [si_1, if_neg hc]
theorem si_w (h : HP) (k j : Nat) (v : Int32) : (si h k j v).1 k = va_up (h.1 k) j v := by funext a; simp [si, va_up]
theorem up_s {α : Type} (f : Nat → α) (k : Nat) (v : α) : va_up f k v k = v := if_pos rfl
theorem up_n {α : Type} (f : Nat → α) {k j : Nat} (v : α) (hj : j ≠ k) : va_up f k v j = f j := if_neg hj
theorem si_2 (h : HP) (k j : Nat) (v : Int32) : (si h k j v).2 = h.2 := rfl
theorem sl_1 (h : HP) (k j : Nat) (v : Int64) : (sl h k j v).1 = h.1 := rfl
theorem sl_2 (h : HP) (k j : Nat) (v : Int64) (a b : Nat) : (sl h k j v).2.1 a b = if a = k then (if b = j then v else h.2.1 a b) else h.2.1 a b := by
  by_cases ha : a = k
  · subst ha; simp [sl, va_up]
  · simp [sl, va_up, ha]
theorem sl_3 (h : HP) (k j : Nat) (v : Int64) : (sl h k j v).2.2 = h.2.2 := rfl
theorem sr_1 (h : HP) (k : Nat) (v : Option Nat) : (sr h k v).1 = h.1 := rfl
theorem sr_2 (h : HP) (k : Nat) (v : Option Nat) : (sr h k v).2.1 = h.2.1 := rfl
theorem sr_3 (h : HP) (k : Nat) (v : Option Nat) (a : Nat) : (sr h k v).2.2 a = if a = k then v else h.2.2 a := rfl
theorem ci_1 (h : HP) (x y : Nat) (sp dp n : Int32) (a b : Nat) : (ci h x y sp dp n).1 a b = if a = y then (if dp.toNatClampNeg ≤ b ∧ b < dp.toNatClampNeg + n.toNatClampNeg then h.1 x (sp.toNatClampNeg + (b - dp.toNatClampNeg)) else h.1 a b) else h.1 a b := by
  by_cases ha : a = y
  · subst ha; simp [ci, va_up, va_cpy]
  · simp [ci, va_up, ha]
theorem ci_2 (h : HP) (x y : Nat) (sp dp n : Int32) : (ci h x y sp dp n).2 = h.2 := rfl
theorem cpl_1 (h : HP) (x y : Nat) (sp dp n : Int32) : (cl h x y sp dp n).1 = h.1 := rfl
theorem cpl_3 (h : HP) (x y : Nat) (sp dp n : Int32) : (cl h x y sp dp n).2.2 = h.2.2 := rfl
theorem cpl_2 (h : HP) (x y : Nat) (sp dp n : Int32) (a b : Nat) : (cl h x y sp dp n).2.1 a b = if a = y then (if dp.toNatClampNeg ≤ b ∧ b < dp.toNatClampNeg + n.toNatClampNeg then h.2.1 x (sp.toNatClampNeg + (b - dp.toNatClampNeg)) else h.2.1 a b) else h.2.1 a b := by
  by_cases ha : a = y
  · subst ha; simp [cl, va_up, va_cpy]
  · simp [cl, va_up, ha]
/-- the calls of a fixed range -/
def rng (x lo hi : Int32) : Int32 := if x < lo then 0 else if hi < x then 0 else 1
theorem E_within (x lo hi : Int32) : f_X6_within x lo hi = some (rng x lo hi) := by
  unfold f_X6_within rng
  by_cases h1 : x < lo <;> by_cases h2 : hi < x <;> simp [h1, h2]
theorem E_in (x lo hi : Int32) : f_X7_in x lo hi = some (rng x lo hi) := by
  unfold f_X7_in rng
  by_cases h1 : x < lo <;> by_cases h2 : hi < x <;> simp [h1, h2]
theorem rngc (x : Int32) {lo hi : Int32} (l m : Nat) (hl : lo = nI l) (hh : hi = nI m) (hm : m < 1000000) (hlm : l ≤ m) : rng x lo hi = 0 ∧ (∀ j, l ≤ j → j ≤ m → x ≠ nI j) ∨ ∃ j, l ≤ j ∧ j ≤ m ∧ x = nI j ∧ rng x lo hi = 1 := by
  subst hl; subst hh
  unfold rng
  by_cases q : x < 0
  · left
    refine ⟨?_, fun j _ _ e => ?_⟩
    · rw [if_pos]
      rw [Int32.lt_iff_toInt_lt] at q ⊢
      rw [nI_toInt (by omega)]
      have : (0 : Int32).toInt = 0 := by decide
      omega
    · subst e; exact nI_pos (by omega) q
  · obtain ⟨j, hj, rfl⟩ := nI_of q
    by_cases q1 : j < l
    · left
      refine ⟨if_pos ((lt_n (by omega) (by omega)).mpr q1), fun j' h1 h2 e => ?_⟩
      have := (eq_n (by omega) (by omega)).mp e
      omega
    · by_cases q2 : m < j
      · left
        refine ⟨by rw [if_neg (fun z => q1 ((lt_n (by omega) (by omega)).mp z)), if_pos ((lt_n (by omega) (by omega)).mpr q2)], fun j' h1 h2 e => ?_⟩
        have := (eq_n (by omega) (by omega)).mp e
        omega
      · right
        exact ⟨j, by omega, by omega, rfl, by rw [if_neg (fun z => q1 ((lt_n (by omega) (by omega)).mp z)), if_neg (fun z => q2 ((lt_n (by omega) (by omega)).mp z))]⟩
theorem i32_ring1 (a b : Int32) : a - b + (10 - b) = a - 2 * b + 10 := by grind
/-- what stays: all cells but those of S -/
def Fc (S : Nat → Prop) (h h' : HP) : Prop := (∀ c, ¬ S c → h'.1 c = h.1 c) ∧ h'.2 = h.2
theorem Fc.rf {S : Nat → Prop} {h : HP} : Fc S h h := ⟨fun _ _ => rfl, rfl⟩
theorem Fc.trans {S T U : Nat → Prop} {h h1 h2 : HP} (a : Fc S h h1) (b : Fc T h1 h2) (hS : ∀ c, S c → U c) (hT : ∀ c, T c → U c) : Fc U h h2 :=
  ⟨fun c hc => (b.1 c (fun q => hc (hT c q))).trans (a.1 c (fun q => hc (hS c q))), b.2.trans a.2⟩
theorem Fc.mono {S U : Nat → Prop} {h h1 : HP} (a : Fc S h h1) (hS : ∀ c, S c → U c) : Fc U h h1 := ⟨fun c hc => a.1 c (fun q => hc (hS c q)), a.2⟩
theorem Fc.si {S : Nat → Prop} {h : HP} {k j : Nat} {v : Int32} (hk : S k) : Fc S h (si h k j v) := ⟨fun c hc => by
  have : c ≠ k := fun e => hc (e ▸ hk)
  funext a; rw [si_1, if_neg this], rfl⟩
