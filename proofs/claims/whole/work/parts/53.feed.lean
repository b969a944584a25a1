/-! feed -/
theorem byte_f : ∀ b : Fin 128, (nI b.val).toInt8.toInt32 = nI b.val := by decide
theorem byte_n {b : Nat} (h : b ≤ 127) : (nI b).toInt8.toInt32 = nI b := byte_f ⟨b, by omega⟩
theorem IVq.txt {O : OS} {n m : Nat} {T : Nat → OS} {h h' : HP} (v : IVq O n m T h) (f : Kq (fun c => c = 79 ∨ c = 80 ∨ c = 104) (fun j => j = 15) N_q N_q h h') (t' : TXTq h') : IVq O n m T h' := by
  obtain ⟨d, o, s, p, b, i, t, a, tp⟩ := v
  exact ⟨d.kp f (fun c _ _ => by omega) (fun c _ _ => by omega) (fun j _ => by omega) (by omega) (by omega),
    o.kp f (by omega) (fun c z => by unfold OCcq at z; omega) (fun c _ _ => by omega) (by omega) (by omega) (fun z => z),
    s.kp f (by omega) (by omega) (fun c _ _ => by omega) (fun c _ _ => by omega) (by omega),
    p.kp f (by omega) (by omega) (fun c _ _ => by omega) (fun c _ _ => by omega) (by omega),
    b.kp f (by omega) (by omega) (fun c _ _ => by omega) (fun c _ _ => by omega) (by omega),
    i.kp f (by omega) (fun c _ _ => by omega) (fun c _ _ => by omega) (fun c _ _ => by omega) (fun j _ _ => by omega) (fun z => z),
    t', a.kp f (by omega) (by omega) (by omega) (by omega),
    tp.kp f (fun c _ _ => ⟨by omega, fun z => z⟩) (fun c _ _ => ⟨by omega, fun z => z⟩)⟩
theorem C_feed {O : OS} {n m : Nat} {T : Nat → OS} {h : HP} (w : IVq O n m T h) (x1 : Int32) : ∃ r h1 h2, f_X6_feed x1 h = some (r, h1) ∧ f_X7_feed x1 h1 = some (r, h2) ∧ IVxq h2 := by
  have stay : ∀ r, f_X6_feed x1 h = some (r, h) → f_X7_feed x1 h = some (r, h) → ∃ r h1 h2, f_X6_feed x1 h = some (r, h1) ∧ f_X7_feed x1 h1 = some (r, h2) ∧ IVxq h2 := fun r a b => ⟨r, h, h, a, b, O, n, m, T, w⟩
  obtain ⟨s, t1, t2, t3, t4, t5⟩ := w.2.2.2.2.2.2.1
  rcases rngc x1 (lo := 0) (hi := 127) 0 127 rfl rfl (by omega) (by omega) with ⟨q1, -⟩ | ⟨b, -, hb, rfl, q1⟩
  · refine stay (-2) ?_ ?_
    · unfold f_X6_feed; rw [E_within, q1, bo_s, if_pos rfl]
    · unfold f_X7_feed; rw [E_in, q1, bo_s, if_pos rfl]
  · by_cases z : s = 100
    · subst z
      refine stay (-4) ?_ ?_
      · unfold f_X6_feed f_X5_add; rw [E_within, q1, bo_s, if_neg one_ne, t2, if_neg (show ¬ nI 100 < 100 by decide), bd_s, if_pos rfl]
      · unfold f_X7_feed; rw [E_in, q1, bo_s, if_neg one_ne, t3, if_pos (show nI 100 = 100 from rfl)]
    · have hs : s < 100 := by omega
      have i100 := inb_n hs (show (100 : Nat) < 2147483648 by omega)
      generalize hg : si (si h 80 s (nI b)) 79 3 (nI (s + 1)) = g
      have g96 : g.1 96 = h.1 96 := by rw [← hg, si_r (by omega), si_r (by omega)]
      have g3 : g.1 79 3 = nI (s + 1) := by rw [← hg, si_w, up_s]
      have e7 : g.1 96 15 = nI s := by rw [g96]; exact t3
      have f : Kq (fun c => c = 79 ∨ c = 80 ∨ c = 104) (fun j => j = 15) N_q N_q h (si (si g 104 s (nI b)) 96 15 (nI (s + 1))) := by
        rw [← hg]
        exact (((Kq.rf.wr (by omega) (by omega)).wr (by omega) (by omega)).wr (by omega) (by omega)).pl rfl
      refine ⟨nI (s + 1), g, si (si g 104 s (nI b)) 96 15 (nI (s + 1)), ?_, ?_, O, n, m, T, w.txt f ⟨s + 1, by omega, ?_, ?_, fun i hi => ?_, ?_⟩⟩
      · unfold f_X6_feed f_X5_add
        rw [E_within, q1, bo_s, if_neg one_ne, t2, if_pos (by rw [show (100 : Int32) = nI 100 from rfl, lt_n (by omega) (by omega)]; exact hs), gd_b i100, cl_n (by omega), vp_nar_byte, byte_n hb, byte_n hb, lt_e, si_r (show (79 : Nat) ≠ 80 by omega), t2, one_n, lt_e, hg, bd_s, if_neg one_ne, g3]
      · unfold f_X7_feed
        rw [E_in, q1, bo_s, if_neg one_ne, e7, if_neg (by rw [show (100 : Int32) = nI 100 from rfl, eq_n (by omega) (by omega)]; exact z), gd_b i100, cl_n (by omega), lt_e, si_r (show (96 : Nat) ≠ 104 by omega), e7, one_n, lt_e, si_w, up_s]
      · rw [si_r (by omega), si_r (by omega)]; exact g3
      · rw [si_w, up_s]
      · rw [si_r (show (80 : Nat) ≠ 96 by omega), si_r (show (80 : Nat) ≠ 104 by omega), si_r (show (104 : Nat) ≠ 96 by omega), si_w, ← hg, si_r (show (80 : Nat) ≠ 79 by omega), si_w, si_r (show (104 : Nat) ≠ 79 by omega), si_r (show (104 : Nat) ≠ 80 by omega)]
        by_cases e : i = s
        · subst e; rw [up_s, up_s]; exact ⟨b, hb, rfl, rfl⟩
        · rw [up_n _ _ e, up_n _ _ e]; exact t4 i (by omega)
      · rw [f.1 112 (by omega) (by omega)]; exact t5
