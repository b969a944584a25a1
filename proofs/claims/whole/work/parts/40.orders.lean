/-! all orders by number are all rows that are orders -/
theorem fo_cong {α : Type} {st st2 : Nat → α → α} {i i2 : Nat} : ∀ (c : Nat) (s : α), (∀ j, j < c → ∀ s, st (i + j) s = st2 (i2 + j) s) → fo st c i s = fo st2 c i2 s := by
  intro c s h
  have := fo_str (st := st) (st2 := st2) (w := 1) (w2 := 1) (i := i) (i2 := i2) c s (fun j hj s => by rw [Nat.one_mul]; exact h j hj s)
  rw [Nat.one_mul] at this
  exact this
theorem stp_other {O : OS} {a : AS} {n kk i : Nat} (hK : sK a = kk) (h : vd n i → rK i ≠ kk) (s : SR) : stp (wv n 2 O a) i s = s := by
  rcases vd_dec n i with hv | hv
  · apply stp_none
    rw [wv_val hv]
    show wL O a i = none
    unfold wL; rw [pI_f (fun l => h hv (l.1.trans hK))]
  · exact stp_inv hv s
theorem dgt1 {v : Nat} : dgt 1 v 0 = v % 6 := rfl
theorem dgt20 {v : Nat} : dgt 2 v 0 = v / 6 % 6 := rfl
theorem dgt21 {v : Nat} : dgt 2 v 1 = v % 6 := rfl
theorem dgt30 {v : Nat} : dgt 3 v 0 = v / 6 / 6 % 6 := rfl
theorem dgt31 {v : Nat} : dgt 3 v 1 = v / 6 % 6 := rfl
theorem dgt32 {v : Nat} : dgt 3 v 2 = v % 6 := rfl
theorem ix1 {v : Nat} : ix 1 v = 49 * (v % 6) := by unfold ix; rw [dgt1]; simp
theorem ix2 {v : Nat} : ix 2 v = 49 * (v / 6 % 6) + 7 * (v % 6 + 1) := by unfold ix; rw [dgt20, dgt21]; simp
theorem ix3 {v : Nat} : ix 3 v = 49 * (v / 6 / 6 % 6) + (7 * (v / 6 % 6 + 1) + (v % 6 + 1)) := by unfold ix; rw [dgt30, dgt31, dgt32]; simp
theorem rK_at {a m t i : Nat} (hm : m < 7) (ht : t < 7) (h : i = 49 * a + (7 * m + t)) : rK i = if m = 0 then 1 else if t = 0 then 2 else 3 := by rw [h]; exact rK_dig hm ht
theorem vd_at {n a m t i : Nat} (hm : m < 7) (ht : t < 7) (h : i = 49 * a + (7 * m + t)) (hv : vd n i) : m = 0 → t = 0 := by rw [h] at hv; exact ((vd_dig hm ht).mp hv).2.1
theorem ord1 {O : OS} {a : AS} {n : Nat} (hK : sK a = 1) (s : SR) : fo (stp (wv n 2 O a)) 294 0 s = fo (fun ν => stp (wv n 2 O a) (ix 1 ν)) 6 0 s := by
  refine fo_str (w := 49) (w2 := 1) 6 s (fun j hj s => ?_)
  rw [fo_c (show 49 = 1 + 48 by omega), fo_add 1]
  rw [fo_id 48 _ _ (fun x x1 x2 s => stp_other hK (fun hv => by
    have h1 := rK_at (a := j) (m := (x - 49 * j) / 7) (t := (x - 49 * j) % 7) (i := x) (by omega) (by omega) (by omega)
    have h2 := vd_at (a := j) (m := (x - 49 * j) / 7) (t := (x - 49 * j) % 7) (i := x) (by omega) (by omega) (by omega) hv
    rw [h1, if_neg (by omega)]
    split <;> omega) s)]
  show stp (wv n 2 O a) (0 + 49 * j) s = stp (wv n 2 O a) (ix 1 (0 + 1 * j)) s
  rw [ix1, show 0 + 49 * j = 49 * ((0 + 1 * j) % 6) by omega]
theorem ord2 {O : OS} {a : AS} {n : Nat} (hK : sK a = 2) (s : SR) : fo (stp (wv n 2 O a)) 294 0 s = fo (fun ν => stp (wv n 2 O a) (ix 2 ν)) 36 0 s := by
  refine fo_str (w := 49) (w2 := 6) 6 s (fun j hj s => ?_)
  rw [fo_c (show 49 = 7 + 7 * 6 by omega), fo_add 7]
  rw [fo_id 7 _ _ (fun x x1 x2 s => stp_other hK (fun hv => by
    have h1 := rK_at (a := j) (m := 0) (t := x - 49 * j) (i := x) (by omega) (by omega) (by omega)
    rw [h1, if_pos rfl]; omega) s)]
  refine fo_str (w := 7) (w2 := 1) 6 s (fun b hb s => ?_)
  rw [fo_c (show 7 = 1 + 6 by omega), fo_add 1]
  rw [fo_id 6 _ _ (fun x x1 x2 s => stp_other hK (fun hv => by
    have h1 := rK_at (a := j) (m := b + 1) (t := x - 49 * j - 7 * (b + 1)) (i := x) (by omega) (by omega) (by omega)
    rw [h1, if_neg (by omega), if_neg (by omega)]; omega) s)]
  show stp (wv n 2 O a) (0 + 49 * j + 7 + 7 * b) s = stp (wv n 2 O a) (ix 2 (0 + 6 * j + 1 * b)) s
  rw [ix2, show 0 + 49 * j + 7 + 7 * b = 49 * ((0 + 6 * j + 1 * b) / 6 % 6) + 7 * ((0 + 6 * j + 1 * b) % 6 + 1) by omega]
theorem ord3 {O : OS} {a : AS} {n : Nat} (hK : sK a = 3) (s : SR) : fo (stp (wv n 2 O a)) 294 0 s = fo (fun ν => stp (wv n 2 O a) (ix 3 ν)) 216 0 s := by
  refine fo_str (w := 49) (w2 := 36) 6 s (fun j hj s => ?_)
  rw [fo_c (show 49 = 7 + 7 * 6 by omega), fo_add 7]
  rw [fo_id 7 _ _ (fun x x1 x2 s => stp_other hK (fun hv => by
    have h1 := rK_at (a := j) (m := 0) (t := x - 49 * j) (i := x) (by omega) (by omega) (by omega)
    rw [h1, if_pos rfl]; omega) s)]
  refine fo_str (w := 7) (w2 := 6) 6 s (fun b hb s => ?_)
  rw [fo_c (show 7 = 1 + 6 by omega), fo_add 1]
  rw [fo_id 1 _ _ (fun x x1 x2 s => stp_other hK (fun hv => by
    have h1 := rK_at (a := j) (m := b + 1) (t := 0) (i := x) (by omega) (by omega) (by omega)
    rw [h1, if_neg (by omega), if_pos rfl]; omega) s)]
  refine fo_cong 6 s (fun c hc s => ?_)
  show stp (wv n 2 O a) (0 + 49 * j + 7 + 7 * b + 1 + c) s = stp (wv n 2 O a) (ix 3 (0 + 36 * j + 6 * b + c)) s
  rw [ix3, show 0 + 49 * j + 7 + 7 * b + 1 + c = 49 * ((0 + 36 * j + 6 * b + c) / 6 / 6 % 6) + (7 * ((0 + 36 * j + 6 * b + c) / 6 % 6 + 1) + ((0 + 36 * j + 6 * b + c) % 6 + 1)) by omega]
theorem fo_some {w : Nat → Option Nat} {s : SR} : ∀ (c i : Nat), s ≠ none → fo (stp w) c i s ≠ none := by
  intro c
  induction c generalizing s with
  | zero => intro i h; exact h
  | succ c ih =>
    intro i h
    refine ih (s := stp w i s) (i + 1) ?_
    unfold stp
    cases w i with
    | none => exact h
    | some v =>
      cases s with
      | none => exact absurd rfl h
      | some x => obtain ⟨j, u⟩ := x; dsimp only; split <;> simp
theorem fo_hit {w : Nat → Option Nat} {x : Nat} (hx : w x ≠ none) : ∀ (c i : Nat) (s : SR), i ≤ x → x < i + c → fo (stp w) c i s ≠ none := by
  intro c
  induction c with
  | zero => intro i s a b; omega
  | succ c ih =>
    intro i s a b
    by_cases z : i = x
    · subst z
      refine fo_some c (i + 1) ?_
      unfold stp
      cases hv : w i with
      | none => exact absurd hv hx
      | some v =>
        cases s with
        | none => simp
        | some y => obtain ⟨j, u⟩ := y; dsimp only; split <;> simp
    · exact ih (i + 1) _ (by omega) (by omega)
theorem best_own {O : OS} {a : AS} {n kk : Nat} (h1 : 1 ≤ kk) (h3 : kk ≤ 3) (hn : n ≤ 6) (hK : sK a = kk) (hm : ∀ j, j < kk → ∃ m, m < n ∧ a.2 6 j = nI m) (hd : DM a) : bestS n 2 O a ≠ none := by
  have fin : ∀ v, (∀ j, j < kk → a.2 6 j = nI (dgt kk v j)) → bestS n 2 O a ≠ none := by
    intro v hv
    have own : OWN a kk (ix kk v) := by
      intro x hx
      refine ⟨⟨x, hx, by rw [ix_E h3 hx]; exact hv x hx⟩, fun j hj z => ?_⟩
      rw [ix_E h3 (by omega), ix_E h3 hx] at z
      exact hd j x hj (by omega) (by rw [hv j (by omega), hv x hx, z])
    obtain ⟨p1, p2⟩ := (own_iff (i := ix kk v) h3 hK ix_lt hm hn (ix_K h1 h3) (ix_z h1 h3)).mpr own
    refine fo_hit (x := ix kk v) ?_ 294 0 none (Nat.zero_le _) (by have := @ix_lt kk v; omega)
    rw [wv_val p1]
    show wL O a (ix kk v) ≠ none
    unfold wL; rw [pI_t p2]; simp
  have : kk = 1 ∨ kk = 2 ∨ kk = 3 := by omega
  rcases this with rfl | rfl | rfl
  · obtain ⟨m0, a0, e0⟩ := hm 0 (by omega)
    refine fin m0 (fun j hj => ?_)
    rw [show j = 0 by omega, dgt1, show m0 % 6 = m0 by omega]; exact e0
  · obtain ⟨m0, a0, e0⟩ := hm 0 (by omega)
    obtain ⟨m1, a1, e1⟩ := hm 1 (by omega)
    refine fin (6 * m0 + m1) (fun j hj => ?_)
    have : j = 0 ∨ j = 1 := by omega
    rcases this with rfl | rfl
    · rw [dgt20, show (6 * m0 + m1) / 6 % 6 = m0 by omega]; exact e0
    · rw [dgt21, show (6 * m0 + m1) % 6 = m1 by omega]; exact e1
  · obtain ⟨m0, a0, e0⟩ := hm 0 (by omega)
    obtain ⟨m1, a1, e1⟩ := hm 1 (by omega)
    obtain ⟨m2, a2, e2⟩ := hm 2 (by omega)
    refine fin (36 * m0 + 6 * m1 + m2) (fun j hj => ?_)
    have : j = 0 ∨ j = 1 ∨ j = 2 := by omega
    rcases this with rfl | rfl | rfl
    · rw [dgt30, show (36 * m0 + 6 * m1 + m2) / 6 / 6 % 6 = m0 by omega]; exact e0
    · rw [dgt31, show (36 * m0 + 6 * m1 + m2) / 6 % 6 = m1 by omega]; exact e1
    · rw [dgt32, show (36 * m0 + 6 * m1 + m2) % 6 = m2 by omega]; exact e2
theorem best_none {O : OS} {a : AS} {n : Nat} (hK : sK a = 0) : bestS n 2 O a = none :=
  fo_id 294 0 none (fun j _ _ s => stp_other hK (fun _ => by have := (rK_le j).1; omega) s)
theorem C_longest {O : OS} {h : HP} (q : AQ O h) (hd : DM (dv 6 h)) (x1 : Int32) : ∃ r h1 h2, f_X6_longest x1 h = some (r, h1) ∧ f_X7_longest x1 h1 = some (r, h2) ∧ AZ h h2 := by
  rcases rngc x1 (lo := 0) (hi := 3) 0 3 rfl rfl (by omega) (by omega) with ⟨hz, -⟩ | ⟨k, -, hk, rfl, hp⟩
  · refine halves q (fun _ => -1) (fun _ => ⟨h, ?_, FC.rf⟩) (fun g qm => ⟨g, ?_, qm.rf⟩)
    · unfold f_X6_longest; rw [E_within, bo_s, hz, if_pos rfl]
    · unfold f_X7_longest; rw [E_in, bo_s, hz, if_pos rfl]
  obtain ⟨n, hn, e6, e96⟩ := q.pieces
  have h0 : (dv 6 h).1 0 = nI n := (dv_s 6 h (show 0 < 6 by omega)).trans e6
  obtain ⟨g, e, fc⟩ := B1_longest (k := k) hn q.qc h0 hk
  obtain ⟨qm, em⟩ := q.qm fc
  obtain ⟨kk, hk3, hkk, hK, hm⟩ := q.qc.2.g.1.1.k
  have hmn : ∀ j, j < kk → ∃ m, m < n ∧ (dv 6 h).2 6 j = nI m := by
    obtain ⟨n', k', c1, c2, c3, c4, c5, -⟩ := q.2.2.2.2.2
    have : n' = n := (eq_n (by omega) (by omega)).mp (c3.symm.trans h0)
    subst this
    have : k' = kk := (eq_n (by omega) (by omega)).mp (c4.symm.trans hkk)
    subst this
    exact c5
  have e1 : g.1 96 1 = nI kk := by rw [← mv_s g (show 1 < 6 by omega), em]; exact hkk
  have go : ∃ g', f_X7_longest (nI k) g = some (bL (bestS n 2 O (dv 6 h)) k, g') ∧ BZ g g' := by
    unfold f_X7_longest
    rw [E_in, bo_s, hp, if_neg one_ne, e1]
    have lit : ∀ m : Nat, m < 10 → (nI kk = nI m ↔ kk = m) := fun m hm => eq_n (by omega) (by omega)
    by_cases z : kk = 0
    · rw [if_pos (show nI kk = 0 from (lit 0 (by omega)).mpr z), best_none (by omega)]
      exact ⟨g, rfl, qm.rf⟩
    · have bo := best_own (O := O) (n := n) (show 1 ≤ kk by omega) hk3 hn hK hmn hd
      rw [if_neg (show ¬ nI kk = 0 from fun y => z ((lit 0 (by omega)).mp y))]
      have : kk = 1 ∨ kk = 2 ∨ kk = 3 := by omega
      rcases this with rfl | rfl | rfl
      · rw [if_pos (show nI 1 = 1 from rfl)]
        unfold bestS at bo ⊢
        rw [ord1 hK] at bo ⊢
        exact B7_long_L57 (all := 6) hn h0 (by omega) (by omega) hkk hmn hk (by omega) 6 0 none g FZ (by omega) (by have := FZ_ge; omega) qm em trivial (fun j u e => by cases e) bo
      · rw [if_neg (show ¬ nI 2 = 1 by decide), if_pos (show nI 2 = 2 from rfl)]
        unfold bestS at bo ⊢
        rw [ord2 hK] at bo ⊢
        exact B7_long_L57 (all := 36) hn h0 (by omega) (by omega) hkk hmn hk (by omega) 36 0 none g FZ (by omega) (by have := FZ_ge; omega) qm em trivial (fun j u e => by cases e) bo
      · rw [if_neg (show ¬ nI 3 = 1 by decide), if_neg (show ¬ nI 3 = 2 by decide)]
        unfold bestS at bo ⊢
        rw [ord3 hK] at bo ⊢
        exact B7_long_L57 (all := 216) hn h0 (by omega) (by omega) hkk hmn hk (by omega) 216 0 none g FZ (by omega) (by have := FZ_ge; omega) qm em trivial (fun j u e => by cases e) bo
  obtain ⟨g2, e2, bz⟩ := go
  exact ⟨_, g, g2, e, e2, g, fc, bz⟩
