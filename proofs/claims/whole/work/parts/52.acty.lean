/-! act: the reference's half -/
def K7q (kk p : Nat) (v : Int32) (bs : List Int32) (h : HP) : Prop := h.1 96 81 = nI bs.length ∧ h.1 97 p = nI kk ∧ h.1 98 p = v ∧ ∀ j, j < 20 → j < bs.length → h.1 140 j = bs.getD j 0
def LF7 (h h' : HP) : Prop := (∀ c, c ≠ 96 → c ≠ 140 → h'.1 c = h.1 c) ∧ (∀ j, j ≠ 81 → h'.1 96 j = h.1 96 j) ∧ h'.2 = h.2
theorem LF7.trans {h h1 h2 : HP} (a : LF7 h h1) (b : LF7 h1 h2) : LF7 h h2 := ⟨fun c x y => (b.1 c x y).trans (a.1 c x y), fun j y => (b.2.1 j y).trans (a.2.1 j y), b.2.2.trans a.2.2⟩
def SCq (kk p : Nat) (v : Int32) (f : Int32 → HP → Option (Int32 × HP)) (V : Int32 → Int32) (B : List Int32) (lim : Nat) : Prop := ∀ (x : Int32) (bs : List Int32) (h : HP), bs.length ≤ lim → K7q kk p v bs h → ∃ h', f x h = some (V x, h') ∧ K7q kk p v (bs ++ B) h' ∧ LF7 h h'
theorem E_body {kk p : Nat} {v b : Int32} {bs : List Int32} {h : HP} (k : K7q kk p v bs h) (hl : bs.length ≤ 1000) : ∃ h', f_X7_body b h = some h' ∧ K7q kk p v (bs ++ [b]) h' ∧ LF7 h h' := by
  obtain ⟨k1, k2, k3, k4⟩ := k
  have len : (bs ++ [b]).length = bs.length + 1 := List.length_append
  by_cases z : bs.length < 20
  · refine ⟨si (si h 140 bs.length b) 96 81 (nI (bs.length + 1)), ?_, ⟨by rw [si_w, up_s, len], by rw [si_r (by omega), si_r (by omega)]; exact k2, by rw [si_r (by omega), si_r (by omega)]; exact k3, fun j hj hl => ?_⟩, fun c h1 h2 => by rw [si_r h1, si_r h2], fun j hj => by rw [si_w, up_n _ _ hj, si_r (by omega)], rfl⟩
    · unfold f_X7_body
      rw [k1, if_neg (by rw [show (20 : Int32) = nI 20 from rfl, le_n (by omega) (by omega)]; omega), gd_b (inb_n z (by omega)), cl_n (by omega), lt_e, si_r (show (96 : Nat) ≠ 140 by omega), k1, one_n, lt_e]
    · rw [len] at hl
      rw [si_r (by omega), si_w, getD_app]
      by_cases e : j = bs.length
      · subst e; rw [up_s, if_neg (by omega), if_pos rfl]
      · rw [up_n _ _ e, if_pos (by omega)]; exact k4 j hj (by omega)
  · refine ⟨si h 96 81 (nI (bs.length + 1)), ?_, ⟨by rw [si_w, up_s, len], by rw [si_r (by omega)]; exact k2, by rw [si_r (by omega)]; exact k3, fun j hj hl => ?_⟩, fun c h1 h2 => by rw [si_r h1], fun j hj => by rw [si_w, up_n _ _ hj], rfl⟩
    · unfold f_X7_body
      rw [k1, if_pos (by rw [show (20 : Int32) = nI 20 from rfl, le_n (by omega) (by omega)]; omega), one_n, lt_e]
    · rw [si_r (by omega), getD_app, if_pos (by omega)]; exact k4 j hj (by omega)
theorem SCq.lim {kk p : Nat} {v : Int32} {f : Int32 → HP → Option (Int32 × HP)} {V : Int32 → Int32} {B : List Int32} {l l2 : Nat} (c : SCq kk p v f V B l) (hl : l2 ≤ l) : SCq kk p v f V B l2 := fun x bs h a => c x bs h (by omega)
theorem s_b0 {kk p : Nat} {v : Int32} : SCq kk p v (fun x h => f_X7_pieceBends (nI p) x h) (fun x => x + nI p) [10] 1000 := by
  intro x bs h hl k
  obtain ⟨h', e, k', f'⟩ := E_body (b := 10) k hl
  exact ⟨h', by dsimp only; unfold f_X7_pieceBends; rw [e, bo_s], k', f'⟩
/-- one body, then another call -/
theorem oneS {kk p l l' : Nat} {v b : Int32} {F f : Int32 → HP → Option (Int32 × HP)} {V fx fV : Int32 → Int32} {B : List Int32} (hl : l + 1 ≤ l') (hl1 : l ≤ 1000) (c : SCq kk p v f V B l') (J : ∀ (x : Int32) (bs : List Int32) (h : HP), K7q kk p v bs h → ∃ fv : Int32 → HP → Option (Int32 × HP), F x h = (bo (f_X7_body b h) fun g => bd (f (fx x) g) fun u g' => fv u g') ∧ ∀ u g' bs', K7q kk p v bs' g' → fv u g' = some (fV u, g')) : SCq kk p v F (fun x => fV (V (fx x))) (b :: B) l := by
  intro x bs h hb k
  obtain ⟨g, e, k', f'⟩ := E_body (b := b) k (by omega)
  obtain ⟨fv, j1, j2⟩ := J x bs h k
  obtain ⟨h', c1, c2, c3⟩ := c (fx x) (bs ++ [b]) g (by rw [List.length_append]; show bs.length + 1 ≤ l'; omega) k'
  exact ⟨h', by rw [j1, e, bo_s, c1, bd_s, j2 _ _ _ c2], by rw [← ap1]; exact c2, f'.trans c3⟩
theorem s_bend {kk p : Nat} {v : Int32} (hk : kk ≤ 6) (hp : p < 6) : SCq kk p v (fun x h => f_X7_bendsAct (nI p) x h) (bendV kk (nI p) v) (bendB kk) 900 := by
  have i6 := inb_n hp (show (6 : Nat) < 2147483648 by omega)
  have z : ∀ k, (k = 0 ∨ k = 1 ∨ k = 3) → SCq k p v (fun x h => f_X7_bendsAct (nI p) x h) (fun x => x + nI p) [10] 900 := fun k a x bs h hl kq => by
    obtain ⟨h', e, r⟩ := s_b0 (v := v) x bs h (by omega) kq
    refine ⟨h', ?_, r⟩
    have e' : f_X7_pieceBends (nI p) x h = some (x + nI p, h') := e
    dsimp only
    unfold f_X7_bendsAct
    rw [gd_b i6, cl_n (by omega), kq.2.1, lt_e, e', bd_s]
    rcases a with rfl | rfl | rfl
    · rw [if_neg (by decide), if_neg (by decide), if_neg (by decide), if_neg (by decide), if_neg (by decide)]
    · rw [if_neg (by decide), if_neg (by decide), if_neg (by decide), if_neg (by decide), if_neg (by decide)]
    · rw [if_neg (by decide), if_pos (show nI 3 = 3 from rfl)]
  refine kinds (P := fun kk => SCq kk p v (fun x h => f_X7_bendsAct (nI p) x h) (bendV kk (nI p) v) (bendB kk) 900) hk (z 0 (by omega)) (z 1 (by omega)) ?_ (z 3 (by omega)) ?_ ?_ ?_
  · refine oneS (l' := 1000) (fV := fun u => u) (fx := fun x => x * 3) (by omega) (by omega) s_b0 (fun x bs h kq => ⟨fun u g' => some (u, g'), ?_, fun _ _ _ _ => rfl⟩)
    unfold f_X7_bendsAct; rw [gd_b i6, cl_n (by omega), kq.2.1, lt_e, if_pos (show nI 2 = 2 from rfl)]
  · refine oneS (l' := 1000) (fV := fun u => -u) (fx := fun x => x) (by omega) (by omega) s_b0 (fun x bs h kq => ⟨fun u g' => some (-u, g'), ?_, fun _ _ _ _ => rfl⟩)
    unfold f_X7_bendsAct; rw [gd_b i6, cl_n (by omega), kq.2.1, lt_e, if_neg (by decide), if_neg (by decide), if_pos (show nI 4 = 4 from rfl)]
  · refine oneS (l' := 1000) (fV := fun u => u) (fx := fun x => x * 3) (by omega) (by omega) s_b0 (fun x bs h kq => ⟨fun u g' => some (u, g'), ?_, fun _ _ _ _ => rfl⟩)
    unfold f_X7_bendsAct; rw [gd_b i6, cl_n (by omega), kq.2.1, lt_e, if_neg (by decide), if_neg (by decide), if_neg (by decide), if_pos (show nI 5 = 5 from rfl)]
  · refine oneS (l' := 1000) (fV := fun u => u ^^^ v) (fx := fun x => x) (by omega) (by omega) s_b0 (fun x bs h kq => ⟨fun u g' => some (u ^^^ g'.1 98 p, g'), ?_, fun u _ _ q => by dsimp only; rw [q.2.2.1]⟩)
    unfold f_X7_bendsAct; rw [gd_b i6, cl_n (by omega), kq.2.1, lt_e, if_neg (by decide), if_neg (by decide), if_neg (by decide), if_neg (by decide), if_pos (show nI 6 = 6 from rfl)]; simp only [gd_b i6]
theorem s_phold {kk p : Nat} {v : Int32} (hk : kk ≤ 6) (hp : p < 6) : SCq kk p v (fun x h => f_X7_pieceHolds (nI p) x h) (pholdV kk (nI p) v) (pholdB kk) 800 := by
  have i6 := inb_n hp (show (6 : Nat) < 2147483648 by omega)
  refine oneS (l' := 900) (fV := fun u => u - v) (fx := fun x => x) (by omega) (by omega) (s_bend hk hp) (fun x bs h kq => ⟨fun u g' => some (u - g'.1 98 p, g'), ?_, fun u _ _ q => by dsimp only; rw [q.2.2.1]⟩)
  unfold f_X7_pieceHolds; simp only [gd_b i6, cl_n (show p < 2147483648 by omega)]
theorem s_ohold {kk p : Nat} {v : Int32} (hk : kk ≤ 6) (hp : p < 6) : SCq kk p v (fun x h => f_X7_oarHolds (nI p) x h) (oholdV kk (nI p) v) (oholdB kk) 700 :=
  oneS (l' := 800) (fV := fun u => u ^^^ 6) (fx := fun x => x) (by omega) (by omega) (s_phold hk hp) (fun x bs h kq => ⟨fun u g' => some (u ^^^ 6, g'), rfl, fun _ _ _ _ => rfl⟩)
theorem s_hold {kk p : Nat} {v : Int32} (hk : kk ≤ 6) (hp : p < 6) : SCq kk p v (fun x h => f_X7_holdsAct (nI p) x h) (holdV kk (nI p) v) (holdB kk) 600 := by
  have i6 := inb_n hp (show (6 : Nat) < 2147483648 by omega)
  have z : ∀ k, k ≤ 6 → (k = 0 ∨ k = 2 ∨ k = 3 ∨ k = 5) → SCq k p v (fun x h => f_X7_holdsAct (nI p) x h) (pholdV k (nI p) v) (pholdB k) 600 := fun k hk a x bs h hl kq => by
    obtain ⟨h', e, r⟩ := s_phold (v := v) hk hp x bs h (by omega) kq
    refine ⟨h', ?_, r⟩
    have e' : f_X7_pieceHolds (nI p) x h = some (pholdV k (nI p) v x, h') := e
    dsimp only
    unfold f_X7_holdsAct
    rw [gd_b i6, cl_n (by omega), kq.2.1, lt_e, e', bd_s]
    rcases a with rfl | rfl | rfl | rfl <;> rw [if_neg (by decide), if_neg (by decide), if_neg (by decide)]
  refine kinds (P := fun kk => SCq kk p v (fun x h => f_X7_holdsAct (nI p) x h) (holdV kk (nI p) v) (holdB kk) 600) hk (z 0 (by omega) (by omega)) ?_ (z 2 (by omega) (by omega)) (z 3 (by omega) (by omega)) ?_ (z 5 (by omega) (by omega)) ?_
  · intro x bs h hl kq
    obtain ⟨h', e, r⟩ := s_ohold (v := v) (by omega) hp x bs h (by omega) kq
    refine ⟨h', ?_, r⟩
    have e' : f_X7_oarHolds (nI p) x h = some (oholdV 1 (nI p) v x, h') := e
    dsimp only
    unfold f_X7_holdsAct
    rw [gd_b i6, cl_n (by omega), kq.2.1, lt_e, e', bd_s, if_pos (show nI 1 = 1 from rfl)]
    rfl
  · refine oneS (l' := 700) (fV := fun u => u) (fx := fun x => x + 1) (by omega) (by omega) (s_ohold (by omega) hp) (fun x bs h kq => ⟨fun u g' => some (u, g'), ?_, fun _ _ _ _ => rfl⟩)
    unfold f_X7_holdsAct; rw [gd_b i6, cl_n (by omega), kq.2.1, lt_e, if_neg (by decide), if_pos (show nI 4 = 4 from rfl)]
  · intro x bs h hl kq
    obtain ⟨g, e, k1, f1⟩ := E_body (b := 70) kq (by omega)
    obtain ⟨g2, e2, k2, f2⟩ := s_phold (v := v) (by omega) hp x (bs ++ [70]) g (by rw [List.length_append]; show bs.length + 1 ≤ 800; omega) k1
    obtain ⟨g3, e3, k3, f3⟩ := s_b0 2 (bs ++ [70] ++ pholdB 6) g2 (by rw [List.length_append, List.length_append]; show bs.length + 1 + 3 ≤ 1000; omega) k2
    have e2' : f_X7_pieceHolds (nI p) x g = _ := e2
    have e3' : f_X7_pieceBends (nI p) 2 g2 = _ := e3
    refine ⟨g3, ?_, ?_, f1.trans (f2.trans f3)⟩
    · dsimp only
      unfold f_X7_holdsAct
      rw [gd_b i6, cl_n (by omega), kq.2.1, lt_e, if_neg (by decide), if_neg (by decide), if_pos (show nI 6 = 6 from rfl), e, bo_s, e2', bd_s, e3', bd_s]
      rfl
    · have := k3
      rw [List.append_assoc, List.append_assoc] at this
      exact this
theorem s_ptell {kk p : Nat} {v : Int32} (hk : kk ≤ 6) (hp : p < 6) : SCq kk p v (fun x h => f_X7_pieceTells (nI p) x h) (ptellV kk (nI p) v) (ptellB kk) 500 :=
  oneS (l' := 600) (fV := fun u => u * 2) (fx := fun x => x) (by omega) (by omega) (s_hold hk hp) (fun x bs h kq => ⟨fun u g' => some (u * 2, g'), rfl, fun _ _ _ _ => rfl⟩)
theorem s_tell {kk p : Nat} {v : Int32} (hk : kk ≤ 6) (hp : p < 6) : SCq kk p v (fun x h => f_X7_tellsAct (nI p) x h) (tellV kk (nI p) v) (tellB kk) 400 := by
  have i6 := inb_n hp (show (6 : Nat) < 2147483648 by omega)
  have z : ∀ k, k ≤ 6 → (k = 0 ∨ k = 1 ∨ k = 2 ∨ k = 4) → SCq k p v (fun x h => f_X7_tellsAct (nI p) x h) (ptellV k (nI p) v) (ptellB k) 400 := fun k hk a x bs h hl kq => by
    obtain ⟨h', e, r⟩ := s_ptell (v := v) hk hp x bs h (by omega) kq
    refine ⟨h', ?_, r⟩
    have e' : f_X7_pieceTells (nI p) x h = some (ptellV k (nI p) v x, h') := e
    dsimp only
    unfold f_X7_tellsAct
    rw [gd_b i6, cl_n (by omega), kq.2.1, lt_e, e', bd_s]
    rcases a with rfl | rfl | rfl | rfl
    · rw [if_neg (by decide), if_neg (by decide), if_neg (by decide), if_neg (by decide)]
    · rw [if_neg (by decide), if_neg (by decide), if_neg (by decide), if_neg (by decide)]
    · rw [if_neg (by decide), if_neg (by decide), if_neg (by decide), if_neg (by decide)]
    · rw [if_neg (by decide), if_pos (show nI 4 = 4 from rfl)]
  have t : ∀ k, k ≤ 6 → (k = 3 ∨ k = 6) → (ptellB k).length ≤ 20 → SCq k p v (fun x h => f_X7_tellsAct (nI p) x h) (fun x => ptellV k (nI p) v x + holdV k (nI p) v 1) (40 :: (ptellB k ++ holdB k)) 400 := fun k hk a hl20 x bs h hl kq => by
    obtain ⟨g, e, k1, f1⟩ := E_body (b := 40) kq (by omega)
    obtain ⟨g2, e2, k2, f2⟩ := s_ptell (v := v) hk hp x (bs ++ [40]) g (by rw [List.length_append]; show bs.length + 1 ≤ 500; omega) k1
    obtain ⟨g3, e3, k3, f3⟩ := s_hold (v := v) hk hp 1 (bs ++ [40] ++ ptellB k) g2 (by rw [List.length_append, List.length_append]; show bs.length + 1 + (ptellB k).length ≤ 600; omega) k2
    have e2' : f_X7_pieceTells (nI p) x g = _ := e2
    have e3' : f_X7_holdsAct (nI p) 1 g2 = _ := e3
    refine ⟨g3, ?_, ?_, f1.trans (f2.trans f3)⟩
    · dsimp only
      unfold f_X7_tellsAct f_X7_tellsAct_J36
      rw [gd_b i6, cl_n (by omega), kq.2.1, lt_e, e, bo_s, e2', bd_s, e3', bd_s]
      rcases a with rfl | rfl
      · rw [if_pos (show nI 3 = 3 from rfl)]
      · rw [if_neg (by decide), if_neg (by decide), if_neg (by decide), if_pos (show nI 6 = 6 from rfl)]
    · have := k3
      rw [List.append_assoc, List.append_assoc] at this
      exact this
  refine kinds (P := fun kk => SCq kk p v (fun x h => f_X7_tellsAct (nI p) x h) (tellV kk (nI p) v) (tellB kk) 400) hk (z 0 (by omega) (by omega)) (z 1 (by omega) (by omega)) (z 2 (by omega) (by omega)) (t 3 (by omega) (by omega) (by decide)) (z 4 (by omega) (by omega)) ?_ (t 6 (by omega) (by omega) (by decide))
  refine oneS (l' := 500) (fV := fun u => u) (fx := fun x => x - nI p) (by omega) (by omega) (s_ptell (by omega) hp) (fun x bs h kq => ⟨fun u g' => some (u, g'), ?_, fun _ _ _ _ => rfl⟩)
  unfold f_X7_tellsAct; rw [gd_b i6, cl_n (by omega), kq.2.1, lt_e, if_neg (by decide), if_neg (by decide), if_pos (show nI 5 = 5 from rfl)]
theorem IVq.act {O : OS} {n m : Nat} {T : Nat → OS} {h h' : HP} (v : IVq O n m T h) (f : Kq (fun c => c = 81 ∨ c = 82 ∨ c = 140) (fun j => j = 81) N_q N_q h h') (a' : ACTq h') : IVq O n m T h' := by
  obtain ⟨d, o, s, p, b, i, t, a, tp⟩ := v
  exact ⟨d.kp f (fun c _ _ => by omega) (fun c _ _ => by omega) (fun j _ => by omega) (by omega) (by omega),
    o.kp f (by omega) (fun c z => by unfold OCcq at z; omega) (fun c _ _ => by omega) (by omega) (by omega) (fun z => z),
    s.kp f (by omega) (by omega) (fun c _ _ => by omega) (fun c _ _ => by omega) (by omega),
    p.kp f (by omega) (by omega) (fun c _ _ => by omega) (fun c _ _ => by omega) (by omega),
    b.kp f (by omega) (by omega) (fun c _ _ => by omega) (fun c _ _ => by omega) (by omega),
    i.kp f (by omega) (fun c _ _ => by omega) (fun c _ _ => by omega) (fun c _ _ => by omega) (fun j _ _ => by omega) (fun z => z),
    t.kp f (by omega) (by omega) (by omega) (by omega) (by omega), a',
    tp.kp f (fun c _ _ => ⟨by omega, fun z => z⟩) (fun c _ _ => ⟨by omega, fun z => z⟩)⟩
theorem E_start {h : HP} (K p v : Int32) (x4 x5 : Int32) : ∃ g, f_X0_start K p v x4 x5 h = (bd (f_X0_run 50 K x4 x5 0 g) fun v11 g9 => some (v11, g9)) ∧ K6q K p v [] g ∧ LF6 h g := by
  refine ⟨si (si (si (si h 81 2 K) 81 3 p) 81 4 v) 81 1 0, ?_, ⟨by rw [si_w, up_s]; rfl, ?_, ?_, ?_, fun j _ hj => by cases hj⟩, fun c h1 _ => by rw [si_r h1, si_r h1, si_r h1, si_r h1], rfl⟩
  · have e : (si (si (si (si h 81 2 K) 81 3 p) 81 4 v) 81 1 0).1 81 2 = K := by rw [si_w, up_n _ _ (by omega), si_w, up_n _ _ (by omega), si_w, up_n _ _ (by omega), si_w, up_s]
    unfold f_X0_start
    simp only [lt_e]
    rw [e]
  · rw [si_w, up_n _ _ (by omega), si_w, up_n _ _ (by omega), si_w, up_n _ _ (by omega), si_w, up_s]
  · rw [si_w, up_n _ _ (by omega), si_w, up_n _ _ (by omega), si_w, up_s]
  · rw [si_w, up_n _ _ (by omega), si_w, up_s]
theorem tellB_len : ∀ k, k ≤ 6 → (bendB k).length ≤ 100 ∧ (holdB k).length ≤ 100 ∧ (tellB k).length ≤ 100 := fun k hk => by
  refine kinds (P := fun k => (bendB k).length ≤ 100 ∧ (holdB k).length ≤ 100 ∧ (tellB k).length ≤ 100) hk ?_ ?_ ?_ ?_ ?_ ?_ ?_ <;> decide
theorem C_act {O : OS} {n m : Nat} {T : Nat → OS} {h : HP} (w : IVq O n m T h) (x1 x2 x3 : Int32) : ∃ r h1 h2, f_X6_act x1 x2 x3 h = some (r, h1) ∧ f_X7_act x1 x2 x3 h1 = some (r, h2) ∧ IVxq h2 := by
  have d := w.1
  have n6 := d.2.2.2.2.2.1
  have e0 := d.2.2.2.2.2.2
  have e9 := d.mv0
  have clear : f_X6_act x1 x2 x3 h = some (0, si h 81 1 0) → f_X7_act x1 x2 x3 (si h 81 1 0) = some (0, si (si h 81 1 0) 96 81 0) → ∃ r h1 h2, f_X6_act x1 x2 x3 h = some (r, h1) ∧ f_X7_act x1 x2 x3 h1 = some (r, h2) ∧ IVxq h2 := fun a b => by
    refine ⟨0, _, _, a, b, O, n, m, T, w.act ((Kq.rf.wr (by omega) (by omega)).pl rfl) ⟨0, by omega, ?_, ?_, fun j _ hj => by omega⟩⟩
    · rw [si_r (by omega), si_w, up_s]; rfl
    · rw [si_w, up_s]; rfl
  have e9' : ∀ g : HP, g.1 96 = h.1 96 → (si g 96 81 0).1 96 0 = nI n := fun g eg => by rw [si_w, up_n _ _ (by omega), eg]; exact e9
  rcases piecec x1 n6 with ⟨p1, p2, -⟩ | ⟨p, hp, rfl, p1, p2⟩
  · refine clear ?_ ?_
    · unfold f_X6_act; rw [E_hasq n h e0, p1, bo_s, if_pos rfl, lt_e]
    · unfold f_X7_act; rw [lt_e, E_isPq n _ (e9' _ (si_r (by omega))), p2, bo_s, if_pos rfl]
  · rcases rngc x2 (lo := 0) (hi := 2) 0 2 rfl rfl (by omega) (by omega) with ⟨q1, -⟩ | ⟨a, -, ha, rfl, q1⟩
    · refine clear ?_ ?_
      · unfold f_X6_act; rw [E_hasq n h e0, p1, bo_s, if_neg one_ne, E_within, q1, bo_s, if_pos rfl, lt_e]
      · unfold f_X7_act; rw [lt_e, E_isPq n _ (e9' _ (si_r (by omega))), p2, bo_s, if_neg one_ne, E_in, q1, bo_s, if_pos rfl]
    · obtain ⟨kk, v, hkk, hv, k1, k2, v1, v2⟩ := d.kind (p := p) (by omega)
      have i6 := inb_n (show p < 6 by omega) (show (6 : Nat) < 2147483648 by omega)
      obtain ⟨g, eg, kg, fg⟩ := E_start (h := h) (nI kk) (nI p) (nI v) (nI a) x3
      have go : ∀ (V : Int32 → Int32) (B : List Int32) (l o : Nat), B.length ≤ 100 → RCq (nI kk) (nI p) (nI v) 50 kk a V B l o → (∀ g2 : HP, K7q kk p (nI v) [] g2 → ∃ h', (if nI a = 0 then (bd (f_X7_bendsAct (nI p) x3 g2) fun v12 g10 => some (v12, g10)) else (if nI a = 1 then (bd (f_X7_holdsAct (nI p) x3 g2) fun v16 g14 => some (v16, g14)) else (bd (f_X7_tellsAct (nI p) x3 g2) fun v19 g17 => some (v19, g17)))) = some (V x3, h') ∧ K7q kk p (nI v) ([] ++ B) h' ∧ LF7 g2 h') → ∃ r h1 h2, f_X6_act (nI p) (nI a) x3 h = some (r, h1) ∧ f_X7_act (nI p) (nI a) x3 h1 = some (r, h2) ∧ IVxq h2 := fun V B l o hB c s => by
        obtain ⟨h1, c1, c2, c3⟩ := c x3 0 [] g (Nat.zero_le _) (Nat.zero_le _) kg
        have f1 := fg.trans c3
        have r96 : h1.1 96 = h.1 96 := f1.1 96 (by omega) (by omega)
        obtain ⟨h2, s1, s2, s3⟩ := s (si h1 96 81 0) ⟨by rw [si_w, up_s]; rfl, by rw [si_r (by omega), f1.1 97 (by omega) (by omega)]; exact k2, by rw [si_r (by omega), f1.1 98 (by omega) (by omega)]; exact v2, fun j _ hj => by cases hj⟩
        have c2' : K6q (nI kk) (nI p) (nI v) B h1 := c2
        have s2' : K7q kk p (nI v) B h2 := s2
        refine ⟨V x3, h1, h2, ?_, ?_, O, n, m, T, w.act ⟨fun c hc q => ?_, fun j q => ?_, fun c _ => ?_, fun c _ => ?_⟩ ⟨B.length, by omega, ?_, s2'.1, fun j hj hl => ?_⟩⟩
        · unfold f_X6_act; rw [E_hasq n h e0, p1, bo_s, if_neg one_ne, E_within, q1, bo_s, if_neg one_ne, gd_b i6, gd_b i6, cl_n (by omega), k1, v1, eg]
          have c1' : f_X0_run 50 (nI kk) (nI a) x3 0 g = _ := c1
          rw [c1', bd_s, bd_s]
        · unfold f_X7_act; rw [lt_e, E_isPq n _ (e9' _ r96), p2, bo_s, if_neg one_ne, E_in, q1, bo_s, if_neg one_ne]
          exact s1
        · rw [s3.1 c hc (by omega), si_r hc, f1.1 c (by omega) (by omega)]
        · rw [s3.2.1 j q, si_w, up_n _ _ q, r96]
        · rw [s3.2.2]; show h1.2.1 c = _; rw [f1.2]
        · rw [s3.2.2]; show h1.2.2 c = _; rw [f1.2]
        · rw [s3.1 81 (by omega) (by omega), si_r (by omega)]; exact c2'.1
        · rw [s3.1 82 (by omega) (by omega), si_r (by omega), c2'.2.2.2.2 j hj hl, s2'.2.2.2 j hj hl]
      have al : a = 0 ∨ a = 1 ∨ a = 2 := by omega
      obtain ⟨l1, l2, l3⟩ := tellB_len kk hkk
      rcases al with rfl | rfl | rfl
      · refine go _ _ _ _ l1 (c_bend 48 hkk) (fun g2 kq => ?_)
        obtain ⟨h', s1, s2⟩ := s_bend (v := nI v) hkk (show p < 6 by omega) x3 [] g2 (Nat.zero_le _) kq
        have s1' : f_X7_bendsAct (nI p) x3 g2 = _ := s1
        exact ⟨h', by rw [if_pos (show nI 0 = 0 from rfl), s1', bd_s], s2⟩
      · refine go _ _ _ _ l2 (c_hold 45 hkk) (fun g2 kq => ?_)
        obtain ⟨h', s1, s2⟩ := s_hold (v := nI v) hkk (show p < 6 by omega) x3 [] g2 (Nat.zero_le _) kq
        have s1' : f_X7_holdsAct (nI p) x3 g2 = _ := s1
        exact ⟨h', by rw [if_neg (by decide), if_pos (show nI 1 = 1 from rfl), s1', bd_s], s2⟩
      · refine go _ _ _ _ l3 (c_tell 43 hkk) (fun g2 kq => ?_)
        obtain ⟨h', s1, s2⟩ := s_tell (v := nI v) hkk (show p < 6 by omega) x3 [] g2 (Nat.zero_le _) kq
        have s1' : f_X7_tellsAct (nI p) x3 g2 = _ := s1
        exact ⟨h', by rw [if_neg (by decide), if_neg (by decide), s1', bd_s], s2⟩
