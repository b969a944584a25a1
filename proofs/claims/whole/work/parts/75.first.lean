/-! the heap behind the constructors -/
def h00 : HP := (fun k j => if k = 96 then (if j = 2 then 1 else if j = 14 ∨ j = 58 then -1 else if j = 31 then 99999 else if j = 32 then 9999 else 0) else if k = 6 ∨ k = 14 ∨ k = 22 then (if j = 9 then 1 else 0) else if k = 1 ∨ k = 49 ∨ k = 54 ∨ k = 59 ∨ k = 64 ∨ k = 69 ∨ k = 74 then (if j = 5 then 5 else if j = 6 then 2 else 0) else if k = 84 ∨ k = 86 ∨ k = 88 ∨ k = 90 ∨ k = 92 ∨ k = 94 then (if j = 1 then -1 else 0) else if k = 112 then nI (wordL j) else if k = 141 then (if j < 6 then -1 else 0) else 0, fun _ _ => 0, fun k => if k = 6 ∨ k = 14 ∨ k = 22 then some 1 else none)
theorem h00_z {k : Nat} (h : ¬ (k = 96 ∨ k = 6 ∨ k = 14 ∨ k = 22 ∨ k = 1 ∨ k = 49 ∨ k = 54 ∨ k = 59 ∨ k = 64 ∨ k = 69 ∨ k = 74 ∨ k = 84 ∨ k = 86 ∨ k = 88 ∨ k = 90 ∨ k = 92 ∨ k = 94 ∨ k = 112 ∨ k = 141)) (j : Nat) : h00.1 k j = 0 := by
  show (if k = 96 then _ else _) = (0 : Int32)
  rw [if_neg (by omega), if_neg (by omega), if_neg (by omega), if_neg (by omega), if_neg (by omega), if_neg (by omega)]
theorem h00_96 (j : Nat) : h00.1 96 j = if j = 2 then 1 else if j = 14 ∨ j = 58 then -1 else if j = 31 then 99999 else if j = 32 then 9999 else 0 := rfl
theorem h00_6 (j : Nat) : h00.1 6 j = if j = 9 then 1 else 0 := rfl
theorem h00_dm : dv 6 h00 = mv h00 := by
  refine Prod.ext (funext fun j => ?_) (funext fun i => funext fun j => ?_)
  · show (if j < 6 then h00.1 6 (7 + j) else 0) = (if j < 6 then h00.1 96 j else 0)
    by_cases hj : j < 6
    · rw [if_pos hj, if_pos hj]
      have a1 : j = 0 ∨ j = 1 ∨ j = 2 ∨ j = 3 ∨ j = 4 ∨ j = 5 := by omega
      rcases a1 with rfl | rfl | rfl | rfl | rfl | rfl <;> rfl
    · rw [if_neg hj, if_neg hj]
  · show (if j < wdt (h00.1 6 8) i then h00.1 (6 + (i + 1)) j else 0) = (if j < wdt (h00.1 96 1) i then h00.1 (97 + i) j else 0)
    have e : h00.1 6 8 = h00.1 96 1 := rfl
    rw [e]
    by_cases hj : j < wdt (h00.1 96 1) i
    · rw [if_pos hj, if_pos hj]
      have hi : i < 7 := by
        unfold wdt at hj
        by_cases q : i < 7
        · exact q
        · rw [if_neg (by omega), if_neg (by omega), if_neg (by omega)] at hj; omega
      rw [h00_z (by omega), h00_z (by omega)]
    · rw [if_neg hj, if_neg hj]
theorem dv00 {i j : Nat} (hi : i < 5) (hj : j < 6) : (dv 6 h00).2 i j = nI 0 := by
  rw [dv_a 6 h00 hi hj, h00_z (by omega)]; rfl
theorem IV00 : IVxq h00 := by
  refine ⟨clmq, 0, 0, fun _ => clmq, ⟨h00_dm, rfl, rfl, ?_, ?_, by omega, rfl⟩, ⟨by omega, rfl, rfl, ⟨rfl, rfl, rfl, ⟨2, by omega, rfl⟩, ?_⟩, fun i hi => absurd hi (Nat.not_lt_zero i), Or.inl ⟨rfl, rfl, rfl⟩⟩, ⟨0, by omega, rfl, rfl, fun i hi => absurd hi (Nat.not_lt_zero i)⟩, ⟨0, by omega, rfl, rfl, fun i hi => absurd hi (Nat.not_lt_zero i)⟩, ⟨0, by omega, rfl, rfl, fun i hi => absurd hi (Nat.not_lt_zero i)⟩, Or.inl ⟨rfl, rfl⟩, ⟨0, by omega, rfl, rfl, fun i hi => absurd hi (Nat.not_lt_zero i), fun i _ => rfl⟩, ⟨0, by omega, rfl, rfl, fun j _ hj => absurd hj (Nat.not_lt_zero j)⟩, fun t ht => ?_⟩
  · exact ⟨0, 0, by omega, by omega, rfl, rfl, fun j hj => absurd hj (Nat.not_lt_zero j), ⟨1, by omega, rfl⟩, ⟨0, by omega, rfl⟩, ⟨0, by omega, rfl⟩, ⟨0, by omega, rfl⟩, fun p hp => ⟨⟨0, by omega, dv00 (by omega) hp⟩, ⟨0, by omega, dv00 (by omega) hp⟩, ⟨0, by omega, dv00 (by omega) hp⟩, ⟨0, by omega, dv00 (by omega) hp⟩⟩⟩
  · intro i j hij hj
    exact absurd hj (Nat.not_lt_zero j)
  · intro g q hg
    obtain ⟨f, hf⟩ := FZ_s
    have e4 : g.1 1 4 = 0 := by rw [hg 1 (by omega) (by omega)]; rfl
    rw [hf, f_X2_heart_L83, e4, if_pos (by decide)]
    rfl
  · have a1 : t = 0 ∨ t = 1 ∨ t = 2 ∨ t = 3 ∨ t = 4 ∨ t = 5 := by omega
    rcases a1 with rfl | rfl | rfl | rfl | rfl | rfl <;> exact ⟨⟨0, by omega, rfl, rfl, Or.inl ⟨rfl, rfl⟩⟩, rfl, fun j _ => rfl⟩
theorem law_00 {L : Nat} {xs : Nat → Int32} (hL : L ≤ 3072) : ∃ h', f_L_law_L18 L xs FZ 0 h00 = some (1, h') := law_loop hL IV00
