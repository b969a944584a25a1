/-! what holds between the calls -/
def Kq (S J L R : Nat → Prop) (h h' : HP) : Prop := (∀ c, c ≠ 96 → ¬ S c → h'.1 c = h.1 c) ∧ (∀ j, ¬ J j → h'.1 96 j = h.1 96 j) ∧ (∀ c, ¬ L c → h'.2.1 c = h.2.1 c) ∧ ∀ c, ¬ R c → h'.2.2 c = h.2.2 c
theorem Kq.rf {S J L R : Nat → Prop} {h : HP} : Kq S J L R h h := ⟨fun _ _ _ => rfl, fun _ _ => rfl, fun _ _ => rfl, fun _ _ => rfl⟩
theorem Kq.trans {S J L R : Nat → Prop} {h h1 h2 : HP} (a : Kq S J L R h h1) (b : Kq S J L R h1 h2) : Kq S J L R h h2 :=
  ⟨fun c hc q => (b.1 c hc q).trans (a.1 c hc q), fun j q => (b.2.1 j q).trans (a.2.1 j q), fun c q => (b.2.2.1 c q).trans (a.2.2.1 c q), fun c q => (b.2.2.2 c q).trans (a.2.2.2 c q)⟩
theorem Kq.wr {S J L R : Nat → Prop} {h h1 : HP} {k j : Nat} {v : Int32} (a : Kq S J L R h h1) (hk : k ≠ 96) (hS : S k) : Kq S J L R h (si h1 k j v) :=
  ⟨fun c hc q => (si_r (show c ≠ k from fun e => q (e ▸ hS))).trans (a.1 c hc q), fun j' q => by rw [si_r (Ne.symm hk)]; exact a.2.1 j' q, a.2.2.1, a.2.2.2⟩
theorem Kq.pl {S J L R : Nat → Prop} {h h1 : HP} {j : Nat} {v : Int32} (a : Kq S J L R h h1) (hJ : J j) : Kq S J L R h (si h1 96 j v) :=
  ⟨fun c hc q => (si_r hc).trans (a.1 c hc q), fun j' q => by rw [si_w, up_n _ _ (show j' ≠ j from fun e => q (by rw [e]; exact hJ))]; exact a.2.1 j' q, a.2.2.1, a.2.2.2⟩
def D6q (n : Nat) (h : HP) : Prop := dv 6 h = mv h ∧ h.1 96 31 = 99999 ∧ h.1 96 32 = 9999 ∧ WFA (dv 6 h) ∧ DM (dv 6 h) ∧ n ≤ 6 ∧ h.1 6 7 = nI n
def PRq (cs pl ra mx : Nat) (P : Int32 → Int32 → Prop) (h : HP) : Prop := ∃ k, k ≤ mx ∧ h.1 cs 2 = nI k ∧ h.1 96 pl = nI k ∧ ∀ i, i < k → h.1 (cs + 1) i = h.1 ra i ∧ h.1 (cs + 2) i = h.1 (ra + 1) i ∧ P (h.1 (cs + 1) i) (h.1 (cs + 2) i)
def PSn (_ b : Int32) : Prop := ∃ t, t ≤ 20 ∧ b = nI t
def PBk (n : Nat) (a b : Int32) : Prop := (∃ m, m < n ∧ a = nI m) ∧ ∃ l, l ≤ 99 ∧ b = nI l
def clmq : OS := (5, 2, fun _ => 20)
def CURq (O : OS) (m : Nat) (T : Nat → OS) (oc : Option Nat) (the : Int32) : Prop := (oc = some 1 ∧ the = -1 ∧ O = clmq) ∨ ∃ i, i < m ∧ oc = some (49 + 5 * i) ∧ the = nI i ∧ O = T i
def AGq (i : Nat) (h g : HP) : Prop := g.1 105 i = h.1 105 i ∧ (∀ c, 106 ≤ c → c ≤ 109 → ∀ j, j < 10 → g.1 c (10 * i + j) = h.1 c (10 * i + j)) ∧ ∀ j, j < 100 → g.1 110 (100 * i + j) = h.1 110 (100 * i + j)
def RFOq (O : OS) (i : Nat) (h : HP) : Prop := ∀ g, AGq i h g → g.1 96 14 = nI i → MD_ O g
def OCNq (O : OS) (m : Nat) (T : Nat → OS) (h : HP) : Prop := m ≤ 6 ∧ h.1 0 11 = nI m ∧ h.1 96 13 = nI m ∧ OceC clmq h 1 ∧ (∀ i, i < m → OceC (T i) h (49 + 5 * i) ∧ OW (T i) ∧ RFOq (T i) i h) ∧ CURq O m T (h.2.2 6) (h.1 96 14)
def iv (h : HP) : AS := (fun j => if j < 6 then h.1 96 (59 + j) else 0, fun i j => if j < wdt (h.1 96 60) i then h.1 (127 + i) j else 0)
def IMGq (m : Nat) (T : Nat → OS) (h : HP) : Prop := (h.1 0 9 = 0 ∧ h.1 96 57 = 0) ∨ (h.1 0 9 = 1 ∧ h.1 96 57 = 1 ∧ ∃ n O, dv 14 h = iv h ∧ WFA (dv 14 h) ∧ DM (dv 14 h) ∧ n ≤ 6 ∧ h.1 14 7 = nI n ∧ CURq O m T (h.2.2 14) (h.1 96 58) ∧ PRq 39 65 134 5 PSn h ∧ PRq 42 66 136 10 (PRw n) h ∧ PRq 45 67 138 8 (PBk n) h)
def wordL (i : Nat) : Nat := [102, 105, 114, 109, 119, 101, 97, 107, 119, 105, 110, 100, 108, 97, 115, 104].getD i 0
def TXTq (h : HP) : Prop := ∃ s, s ≤ 100 ∧ h.1 79 3 = nI s ∧ h.1 96 15 = nI s ∧ (∀ i, i < s → ∃ b, b ≤ 127 ∧ h.1 80 i = nI b ∧ h.1 104 i = nI b) ∧ ∀ i, i < 16 → h.1 112 i = nI (wordL i)
def ACTq (h : HP) : Prop := ∃ a, a ≤ 1000 ∧ h.1 81 1 = nI a ∧ h.1 96 81 = nI a ∧ ∀ j, j < 20 → j < a → h.1 82 j = h.1 140 j
def TPSq (h : HP) : Prop := ∀ t, t < 6 → (∃ z, z ≤ 60 ∧ h.1 (84 + 2 * t) 2 = nI z ∧ h.1 142 t = nI z ∧ (h.1 141 t = -1 ∧ z = 0 ∨ ∃ q, q ≤ 4 ∧ h.1 141 t = nI q)) ∧ h.1 (84 + 2 * t) 1 = h.1 141 t ∧ ∀ j, j < 60 → h.2.1 (85 + 2 * t) j = h.2.1 143 (60 * t + j)
def IVq (O : OS) (n m : Nat) (T : Nat → OS) (h : HP) : Prop := D6q n h ∧ OCNq O m T h ∧ PRq 30 48 121 5 PSn h ∧ PRq 33 51 123 10 (PRw n) h ∧ PRq 36 52 125 8 (PBk n) h ∧ IMGq m T h ∧ TXTq h ∧ ACTq h ∧ TPSq h
def IVxq (h : HP) : Prop := ∃ O n m T, IVq O n m T h
/-! what of it stays when cells change -/
theorem D6q.kp {S J L R : Nat → Prop} {n : Nat} {h h' : HP} (d : D6q n h) (f : Kq S J L R h h') (h6 : ∀ c, 6 ≤ c → c ≤ 13 → ¬ S c) (h9 : ∀ c, 97 ≤ c → c ≤ 103 → ¬ S c) (hJ : ∀ j, j < 6 → ¬ J j) (h31 : ¬ J 31) (h32 : ¬ J 32) : D6q n h' := by
  obtain ⟨d1, d2, d3, d4, d5, d6, d7⟩ := d
  have e1 : dv 6 h' = dv 6 h := dv_fr (fun c a b => f.1 c (by omega) (h6 c a (by omega)))
  have e2 : mv h' = mv h := mv_fr (fun j hj => f.2.1 j (hJ j hj)) (fun c a b => f.1 c (by omega) (h9 c a b))
  refine ⟨by rw [e1, e2]; exact d1, by rw [f.2.1 31 h31]; exact d2, by rw [f.2.1 32 h32]; exact d3, by rw [e1]; exact d4, by rw [e1]; exact d5, d6, by rw [f.1 6 (by omega) (h6 6 (by omega) (by omega))]; exact d7⟩
theorem PRq.kp {S J L R : Nat → Prop} {cs pl ra mx : Nat} {P : Int32 → Int32 → Prop} {h h' : HP} (p : PRq cs pl ra mx P h) (f : Kq S J L R h h') (hc : cs + 2 < 96) (hr : 96 < ra) (h1 : ∀ c, cs ≤ c → c ≤ cs + 2 → ¬ S c) (h2 : ∀ c, ra ≤ c → c ≤ ra + 1 → ¬ S c) (hJ : ¬ J pl) : PRq cs pl ra mx P h' := by
  obtain ⟨k, p1, p2, p3, p4⟩ := p
  refine ⟨k, p1, by rw [f.1 cs (by omega) (h1 cs (by omega) (by omega))]; exact p2, by rw [f.2.1 pl hJ]; exact p3, fun i hi => ?_⟩
  rw [f.1 (cs + 1) (by omega) (h1 _ (by omega) (by omega)), f.1 (cs + 2) (by omega) (h1 _ (by omega) (by omega)), f.1 ra (by omega) (h2 _ (by omega) (by omega)), f.1 (ra + 1) (by omega) (h2 _ (by omega) (by omega))]
  exact p4 i hi
theorem PRq.imp {cs pl ra mx : Nat} {P Q : Int32 → Int32 → Prop} {h : HP} (p : PRq cs pl ra mx P h) (q : ∀ a b, P a b → Q a b) : PRq cs pl ra mx Q h := by
  obtain ⟨k, p1, p2, p3, p4⟩ := p
  exact ⟨k, p1, p2, p3, fun i hi => ⟨(p4 i hi).1, (p4 i hi).2.1, q _ _ (p4 i hi).2.2⟩⟩
/-- the cells of the class's oceans, but the facts -/
def OCcq (c : Nat) : Prop := (1 ≤ c ∧ c ≤ 4) ∨ (49 ≤ c ∧ c ≤ 78 ∧ ¬ isF c)
theorem OCc_oc {oc c : Nat} (h : isOc oc = true) (h1 : oc ≤ c) (h2 : c ≤ oc + 3) : OCcq c := by
  have h3 := notF_oc h h1 h2
  have h4 := isOc_n h
  unfold OCcq
  rcases h4 with h4 | ⟨h4, h5, h6⟩
  · left; omega
  · right; exact ⟨by omega, by omega, h3⟩
theorem RFOq.ag {O : OS} {i : Nat} {h h' : HP} (r : RFOq O i h) (a : AGq i h h') : RFOq O i h' := fun g x y => r g ⟨x.1.trans a.1, fun c p q j hj => (x.2.1 c p q j hj).trans (a.2.1 c p q j hj), fun j hj => (x.2.2 j hj).trans (a.2.2 j hj)⟩ y
theorem OCNq.kp {S J L R : Nat → Prop} {O : OS} {m : Nat} {T : Nat → OS} {h h' : HP} (o : OCNq O m T h) (f : Kq S J L R h h') (h0 : ¬ S 0) (hc : ∀ c, OCcq c → ¬ S c) (hr : ∀ c, 105 ≤ c → c ≤ 110 → ¬ S c) (hJ1 : ¬ J 13) (hJ2 : ¬ J 14) (hR : ¬ R 6) : OCNq O m T h' := by
  obtain ⟨o1, o2, o3, o4, o5, o6⟩ := o
  refine ⟨o1, by rw [f.1 0 (by omega) h0]; exact o2, by rw [f.2.1 13 hJ1]; exact o3, o4.fr (fun c a b => f.1 c (by omega) (hc c (OCc_oc o4.1 a b))), fun i hi => ?_, by rw [f.2.2.2 6 hR, f.2.1 14 hJ2]; exact o6⟩
  obtain ⟨q1, q2, q3⟩ := o5 i hi
  refine ⟨q1.fr (fun c a b => f.1 c (by omega) (hc c (OCc_oc q1.1 a b))), q2, q3.ag ⟨by rw [f.1 105 (by omega) (hr _ (by omega) (by omega))], fun c a b j _ => by rw [f.1 c (by omega) (hr c (by omega) (by omega))], fun j _ => by rw [f.1 110 (by omega) (hr _ (by omega) (by omega))]⟩⟩
theorem iv_fr {h h' : HP} (h0 : ∀ j, j < 6 → h'.1 96 (59 + j) = h.1 96 (59 + j)) (hc : ∀ c, 127 ≤ c → c ≤ 133 → h'.1 c = h.1 c) : iv h' = iv h := by
  unfold iv
  congr 1
  · funext j
    by_cases hj : j < 6
    · rw [if_pos hj, if_pos hj, h0 j hj]
    · rw [if_neg hj, if_neg hj]
  · funext i j
    rw [show h'.1 96 60 = h.1 96 60 from h0 1 (by omega)]
    by_cases hj : j < wdt (h.1 96 60) i
    · rw [if_pos hj, if_pos hj]
      have hi : i < 7 := by
        unfold wdt at hj
        by_cases q : i < 7
        · exact q
        · rw [if_neg (by omega), if_neg (by omega), if_neg (by omega)] at hj; omega
      rw [hc (127 + i) (by omega) (by omega)]
    · rw [if_neg hj, if_neg hj]
theorem IMGq.kp {S J L R : Nat → Prop} {m : Nat} {T : Nat → OS} {h h' : HP} (o : IMGq m T h) (f : Kq S J L R h h') (h0 : ¬ S 0) (h1 : ∀ c, 14 ≤ c → c ≤ 21 → ¬ S c) (h2 : ∀ c, 39 ≤ c → c ≤ 47 → ¬ S c) (h3 : ∀ c, 127 ≤ c → c ≤ 139 → ¬ S c) (hJ : ∀ j, 57 ≤ j → j ≤ 67 → ¬ J j) (hR : ¬ R 14) : IMGq m T h' := by
  have e0 : h'.1 0 9 = h.1 0 9 := by rw [f.1 0 (by omega) h0]
  have e1 : h'.1 96 57 = h.1 96 57 := f.2.1 57 (hJ _ (by omega) (by omega))
  rcases o with ⟨a, b⟩ | ⟨a, b, n, O, q1, q2, q3, q4, q5, q6, q7, q8, q9⟩
  · exact Or.inl ⟨e0.trans a, e1.trans b⟩
  · have d : dv 14 h' = dv 14 h := dv_fr (fun c a b => f.1 c (by omega) (h1 c a (by omega)))
    have i : iv h' = iv h := iv_fr (fun j _ => f.2.1 _ (hJ _ (by omega) (by omega))) (fun c a b => f.1 c (by omega) (h3 c a (by omega)))
    exact Or.inr ⟨e0.trans a, e1.trans b, n, O, by rw [d, i]; exact q1, by rw [d]; exact q2, by rw [d]; exact q3, q4, by rw [f.1 14 (by omega) (h1 _ (by omega) (by omega))]; exact q5, by rw [f.2.2.2 14 hR, f.2.1 58 (hJ _ (by omega) (by omega))]; exact q6,
      q7.kp f (by omega) (by omega) (fun c a b => h2 c (by omega) (by omega)) (fun c a b => h3 c (by omega) (by omega)) (hJ _ (by omega) (by omega)),
      q8.kp f (by omega) (by omega) (fun c a b => h2 c (by omega) (by omega)) (fun c a b => h3 c (by omega) (by omega)) (hJ _ (by omega) (by omega)),
      q9.kp f (by omega) (by omega) (fun c a b => h2 c (by omega) (by omega)) (fun c a b => h3 c (by omega) (by omega)) (hJ _ (by omega) (by omega))⟩
theorem TXTq.kp {S J L R : Nat → Prop} {h h' : HP} (t : TXTq h) (f : Kq S J L R h h') (h1 : ¬ S 79) (h2 : ¬ S 80) (h3 : ¬ S 104) (h4 : ¬ S 112) (hJ : ¬ J 15) : TXTq h' := by
  obtain ⟨s, t1, t2, t3, t4, t5⟩ := t
  exact ⟨s, t1, by rw [f.1 79 (by omega) h1]; exact t2, by rw [f.2.1 15 hJ]; exact t3, by rw [f.1 80 (by omega) h2, f.1 104 (by omega) h3]; exact t4, by rw [f.1 112 (by omega) h4]; exact t5⟩
theorem ACTq.kp {S J L R : Nat → Prop} {h h' : HP} (t : ACTq h) (f : Kq S J L R h h') (h1 : ¬ S 81) (h2 : ¬ S 82) (h3 : ¬ S 140) (hJ : ¬ J 81) : ACTq h' := by
  obtain ⟨a, t1, t2, t3, t4⟩ := t
  exact ⟨a, t1, by rw [f.1 81 (by omega) h1]; exact t2, by rw [f.2.1 81 hJ]; exact t3, by rw [f.1 82 (by omega) h2, f.1 140 (by omega) h3]; exact t4⟩
theorem TPSq.kp {S J L R : Nat → Prop} {h h' : HP} (t : TPSq h) (f : Kq S J L R h h') (h1 : ∀ c, 84 ≤ c → c ≤ 95 → ¬ S c ∧ ¬ L c) (h2 : ∀ c, 141 ≤ c → c ≤ 143 → ¬ S c ∧ ¬ L c) : TPSq h' := by
  intro k hk
  rw [f.1 (84 + 2 * k) (by omega) (h1 _ (by omega) (by omega)).1, f.1 141 (by omega) (h2 _ (by omega) (by omega)).1, f.1 142 (by omega) (h2 _ (by omega) (by omega)).1, f.2.2.1 (85 + 2 * k) (h1 _ (by omega) (by omega)).2, f.2.2.1 143 (h2 _ (by omega) (by omega)).2]
  exact t k hk
