/-! act: contracts of the class's run -/
def RCq (K p v : Int32) (n k a : Nat) (V : Int32 → Int32) (B : List Int32) (lim ol : Nat) : Prop := ∀ (x : Int32) (o : Nat) (bs : List Int32) (h : HP), o ≤ ol → bs.length ≤ lim → K6q K p v bs h → ∃ h', f_X0_run n (nI k) (nI a) x (nI o) h = some (V x, h') ∧ K6q K p v (bs ++ B) h' ∧ LF6 h h'
theorem begq {K p v b : Int32} {bs : List Int32} {h : HP} {n k a o w : Nat} (x : Int32) (kk : K6q K p v bs h) (hl : bs.length ≤ 1000) (hk : k ≤ 6) (ha : a ≤ 2) (hw : ownF k a = w) (hb : bodF w a = b) (ho : o ≤ 40) : ∃ h0 g, f_X0_run (n + 1) (nI k) (nI a) x (nI o) h = f_X0_run_J53 (f_X0_run n) x (nI o) (nI w) b h0 ∧ h0.1 81 1 = nI bs.length ∧ si h0 81 1 (nI (bs.length + 1)) = g ∧ K6q K p v (bs ++ [b]) g ∧ LF6 h g := by
  subst hb
  refine ⟨nb6 (bodF w a) bs.length h, lg6 (bodF w a) bs.length h, E_run kk hl hk ha hw ho, by rw [nb6_c (by omega)]; exact kk.1, rfl, kk.log.1, kk.log.2⟩
theorem ap1 {bs B : List Int32} {b : Int32} : bs ++ [b] ++ B = bs ++ (b :: B) := by rw [List.append_assoc]; rfl
/-- a body that calls one other -/
theorem oneq {K p v b : Int32} {n k a w k2 a2 l' o' l ol : Nat} {V fx fV : Int32 → Int32} {B : List Int32} (hk : k ≤ 6) (ha : a ≤ 2) (hw : ownF k a = w) (hb : bodF w a = b) (hl : l + 1 ≤ l') (hl1 : l ≤ 1000) (ho : ol + 1 ≤ o') (ho1 : ol ≤ 40)
    (J : ∀ (x : Int32) (o r : Nat) (bs : List Int32) (h0 g : HP), h0.1 81 1 = nI r → si h0 81 1 (nI (r + 1)) = g → K6q K p v bs g → ∃ fv : Int32 → HP → Int32, f_X0_run_J53 (f_X0_run n) x (nI o) (nI w) b h0 = (bd (f_X0_run n (nI k2) (nI a2) (fx x) (nI o + 1) g) fun u g' => some (fv u g', g')) ∧ ∀ u g' bs', K6q K p v bs' g' → fv u g' = fV u)
    (c : RCq K p v n k2 a2 V B l' o') : RCq K p v (n + 1) k a (fun x => fV (V (fx x))) (b :: B) l ol := by
  intro x o bs h hol hbl kk
  obtain ⟨h0, g, e1, e2, e3, k1, f1⟩ := begq (n := n) x kk (by omega) hk ha hw hb (show o ≤ 40 by omega)
  obtain ⟨fv, j1, j2⟩ := J x o bs.length (bs ++ [b]) h0 g e2 e3 k1
  obtain ⟨h', c1, c2, c3⟩ := c (fx x) (o + 1) (bs ++ [b]) g (by omega) (by rw [List.length_append]; show bs.length + 1 ≤ l'; omega) k1
  refine ⟨h', ?_, by rw [← ap1]; exact c2, f1.trans c3⟩
  rw [e1, j1, one_n, c1, bd_s, j2 _ _ _ c2]
/-- a body that calls two others -/
theorem twoq {K p v b : Int32} {n k a w k2 a2 k3 a3 l' o' l3 o3 l ol : Nat} {V V3 : Int32 → Int32} {B B3 : List Int32} {y : Int32} (hk : k ≤ 6) (ha : a ≤ 2) (hw : ownF k a = w) (hb : bodF w a = b) (hl : l + 1 ≤ l') (hl3 : l + 1 + B.length ≤ l3) (hl1 : l ≤ 1000) (ho : ol + 1 ≤ o') (ho3 : ol + 1 ≤ o3) (ho1 : ol ≤ 40)
    (J : ∀ (x : Int32) (o r : Nat) (bs : List Int32) (h0 g : HP), h0.1 81 1 = nI r → si h0 81 1 (nI (r + 1)) = g → K6q K p v bs g → ∃ fk : HP → Int32, f_X0_run_J53 (f_X0_run n) x (nI o) (nI w) b h0 = (bd (f_X0_run n (nI k2) (nI a2) x (nI o + 1) g) fun u g' => bd (f_X0_run n (fk g') (nI a3) y (nI o + 1) g') fun u' g'' => some (u + u', g'')) ∧ ∀ g' bs', K6q K p v bs' g' → fk g' = nI k3)
    (c : RCq K p v n k2 a2 V B l' o') (c3 : RCq K p v n k3 a3 V3 B3 l3 o3) : RCq K p v (n + 1) k a (fun x => V x + V3 y) (b :: (B ++ B3)) l ol := by
  intro x o bs h hol hbl kk
  obtain ⟨h0, g, e1, e2, e3, k1, f1⟩ := begq (n := n) x kk (by omega) hk ha hw hb (show o ≤ 40 by omega)
  obtain ⟨fk, j1, j2⟩ := J x o bs.length (bs ++ [b]) h0 g e2 e3 k1
  obtain ⟨h', d1, d2, d3⟩ := c x (o + 1) (bs ++ [b]) g (by omega) (by rw [List.length_append]; show bs.length + 1 ≤ l'; omega) k1
  obtain ⟨h'', q1, q2, q3⟩ := c3 y (o + 1) (bs ++ [b] ++ B) h' (by omega) (by rw [List.length_append, List.length_append]; show bs.length + 1 + B.length ≤ l3; omega) d2
  refine ⟨h'', ?_, ?_, f1.trans (d3.trans q3)⟩
  · rw [e1, j1, one_n, d1, bd_s, j2 _ _ d2, q1, bd_s]
  · rw [← ap1, ← List.append_assoc]; exact q2
def bendV (kk : Nat) (p v x : Int32) : Int32 := if kk = 2 ∨ kk = 5 then x * 3 + p else if kk = 4 then -(x + p) else if kk = 6 then (x + p) ^^^ v else x + p
def bendB (kk : Nat) : List Int32 := if kk = 2 ∨ kk = 5 then [30, 10] else if kk = 4 then [50, 10] else if kk = 6 then [71, 10] else [10]
def pholdV (kk : Nat) (p v x : Int32) : Int32 := bendV kk p v x - v
def pholdB (kk : Nat) : List Int32 := 11 :: bendB kk
def oholdV (kk : Nat) (p v x : Int32) : Int32 := pholdV kk p v x ^^^ 6
def oholdB (kk : Nat) : List Int32 := 20 :: pholdB kk
def holdV (kk : Nat) (p v x : Int32) : Int32 := if kk = 1 then oholdV kk p v x else if kk = 4 then oholdV kk p v (x + 1) else if kk = 6 then pholdV kk p v x + (2 + p) else pholdV kk p v x
def holdB (kk : Nat) : List Int32 := if kk = 1 then oholdB kk else if kk = 4 then 51 :: oholdB kk else if kk = 6 then 70 :: (pholdB kk ++ [10]) else pholdB kk
def ptellV (kk : Nat) (p v x : Int32) : Int32 := holdV kk p v x * 2
def ptellB (kk : Nat) : List Int32 := 12 :: holdB kk
def tellV (kk : Nat) (p v x : Int32) : Int32 := if kk = 3 ∨ kk = 6 then ptellV kk p v x + holdV kk p v 1 else if kk = 5 then ptellV kk p v (x - p) else ptellV kk p v x
def tellB (kk : Nat) : List Int32 := if kk = 3 ∨ kk = 6 then 40 :: (ptellB kk ++ holdB kk) else if kk = 5 then 60 :: ptellB kk else ptellB kk
theorem kinds {P : Nat → Prop} {k : Nat} (h : k ≤ 6) (h0 : P 0) (h1 : P 1) (h2 : P 2) (h3 : P 3) (h4 : P 4) (h5 : P 5) (h6 : P 6) : P k := by
  have a1 : k = 0 ∨ k = 1 ∨ k = 2 ∨ k = 3 ∨ k = 4 ∨ k = 5 ∨ k = 6 := by omega
  rcases a1 with rfl | rfl | rfl | rfl | rfl | rfl | rfl <;> assumption
theorem c_b0 {K p v : Int32} (n : Nat) {k : Nat} (hk : k ≤ 6) (hw : ownF k 0 = 0) : RCq K p v (n + 1) k 0 (fun x => x + p) [10] 1000 40 := by
  intro x o bs h hol hbl kk
  obtain ⟨h0, g, e1, e2, e3, k1, f1⟩ := begq (n := n) x kk (by omega) hk (by omega) hw (show bodF 0 0 = 10 from rfl) (show o ≤ 40 by omega)
  exact ⟨g, by rw [e1, J53_10 _ (by omega) e2 e3 (show _ = (-1 : Int32) from rfl), k1.2.2.1], k1, f1⟩
theorem RCq.lim {K p v : Int32} {n k a l ol l2 o2 : Nat} {V : Int32 → Int32} {B : List Int32} (c : RCq K p v n k a V B l ol) (hl : l2 ≤ l) (ho : o2 ≤ ol) : RCq K p v n k a V B l2 o2 := fun x o bs h a b => c x o bs h (by omega) (by omega)
theorem c_bend {K p v : Int32} (n : Nat) {kk : Nat} (hk : kk ≤ 6) : RCq K p v (n + 2) kk 0 (bendV kk p v) (bendB kk) 900 39 := by
  have z : ∀ k, k ≤ 6 → ownF k 0 = 0 → RCq K p v (n + 2) k 0 (fun x => x + p) [10] 900 39 := fun k a b => (c_b0 (n + 1) a b).lim (by omega) (by omega)
  have t : ∀ k, k ≤ 6 → ownF k 0 = 2 → RCq K p v (n + 2) k 0 (fun x => x * 3 + p) [30, 10] 900 39 := fun k a b =>
    oneq (fV := fun u => u) (fx := fun x => x * 3) (k2 := 0) (a2 := 0) a (by omega) b (show bodF 2 0 = 30 from rfl) (by omega) (by omega) (by omega) (by omega) (fun x o r bs h0 g e2 e3 k1 => ⟨fun u _ => u, J53_30 _ (by omega) e2 e3 rfl, fun _ _ _ _ => rfl⟩) (c_b0 n (by omega) rfl)
  refine kinds (P := fun kk => RCq K p v (n + 2) kk 0 (bendV kk p v) (bendB kk) 900 39) hk (z 0 (by omega) rfl) (z 1 (by omega) rfl) (t 2 (by omega) rfl) (z 3 (by omega) rfl) ?_ (t 5 (by omega) rfl) ?_
  · exact oneq (fV := fun u => -u) (fx := fun x => x) (k2 := 1) (a2 := 0) (by omega) (by omega) (show ownF 4 0 = 4 from rfl) (show bodF 4 0 = 50 from rfl) (by omega) (by omega) (by omega) (by omega) (fun x o r bs h0 g e2 e3 k1 => ⟨fun u _ => -u, J53_50 _ (by omega) e2 e3 rfl, fun _ _ _ _ => rfl⟩) (c_b0 n (by omega) rfl)
  · exact oneq (fV := fun u => u ^^^ v) (fx := fun x => x) (k2 := 3) (a2 := 0) (by omega) (by omega) (show ownF 6 0 = 6 from rfl) (show bodF 6 0 = 71 from rfl) (by omega) (by omega) (by omega) (by omega) (fun x o r bs h0 g e2 e3 k1 => ⟨fun u g' => u ^^^ g'.1 81 4, J53_71 _ (by omega) e2 e3 rfl, fun u _ _ q => congrArg (fun z => u ^^^ z) q.2.2.2.1⟩) (c_b0 n (by omega) rfl)
theorem c_phold {p v : Int32} (n : Nat) {kk k : Nat} (hk : kk ≤ 6) (h1 : k ≤ 6) (hw : ownF k 1 = 0) : RCq (nI kk) p v (n + 3) k 1 (pholdV kk p v) (pholdB kk) 800 38 :=
  oneq (fV := fun u => u - v) (fx := fun x => x) (k2 := kk) (a2 := 0) h1 (by omega) hw (show bodF 0 1 = 11 from rfl) (by omega) (by omega) (by omega) (by omega) (fun x o r bs h0 g e2 e3 k1 => ⟨fun u g' => u - g'.1 81 4, by rw [J53_11 _ (by omega) e2 e3 (show _ = (-1 : Int32) from rfl), k1.2.1]; rfl, fun u _ _ q => congrArg (fun z => u - z) q.2.2.2.1⟩) (c_bend n hk)
theorem c_ohold {p v : Int32} (n : Nat) {kk k : Nat} (hk : kk ≤ 6) (h1 : k ≤ 6) (hw : ownF k 1 = 1) : RCq (nI kk) p v (n + 4) k 1 (oholdV kk p v) (oholdB kk) 700 37 :=
  oneq (fV := fun u => u ^^^ 6) (fx := fun x => x) (k2 := 0) (a2 := 1) h1 (by omega) hw (show bodF 1 1 = 20 from rfl) (by omega) (by omega) (by omega) (by omega) (fun x o r bs h0 g e2 e3 k1 => ⟨fun u _ => u ^^^ 6, J53_20 _ (by omega) e2 e3 rfl, fun _ _ _ _ => rfl⟩) (c_phold n hk (by omega) rfl)
theorem c_hold {p v : Int32} (n : Nat) {kk : Nat} (hk : kk ≤ 6) : RCq (nI kk) p v (n + 5) kk 1 (holdV kk p v) (holdB kk) 600 36 := by
  refine kinds (P := fun kk => RCq (nI kk) p v (n + 5) kk 1 (holdV kk p v) (holdB kk) 600 36) hk ((c_phold (n + 2) (by omega) (by omega) rfl).lim (by omega) (by omega)) ((c_ohold (n + 1) (by omega) (by omega) rfl).lim (by omega) (by omega)) ((c_phold (n + 2) (by omega) (by omega) rfl).lim (by omega) (by omega)) ((c_phold (n + 2) (by omega) (by omega) rfl).lim (by omega) (by omega)) ?_ ((c_phold (n + 2) (by omega) (by omega) rfl).lim (by omega) (by omega)) ?_
  · exact oneq (fV := fun u => u) (fx := fun x => x + 1) (k2 := 1) (a2 := 1) (by omega) (by omega) (show ownF 4 1 = 4 from rfl) (show bodF 4 1 = 51 from rfl) (by omega) (by omega) (by omega) (by omega) (fun x o r bs h0 g e2 e3 k1 => ⟨fun u _ => u, J53_51 _ (by omega) e2 e3 rfl, fun _ _ _ _ => rfl⟩) (c_ohold n (by omega) (by omega) rfl)
  · exact twoq (k2 := 3) (a2 := 1) (k3 := 3) (a3 := 0) (y := 2) (B := pholdB 6) (by omega) (by omega) (show ownF 6 1 = 6 from rfl) (show bodF 6 1 = 70 from rfl) (by omega) (show 600 + 1 + (pholdB 6).length ≤ 1000 by decide) (by omega) (by omega) (by omega) (by omega) (fun x o r bs h0 g e2 e3 k1 => ⟨fun _ => nI 3, J53_70 _ (by omega) e2 e3 rfl, fun _ _ _ => rfl⟩) (c_phold (n + 1) (by omega) (by omega) rfl) (c_b0 (n + 3) (by omega) rfl)
theorem c_ptell {p v : Int32} (n : Nat) {kk k : Nat} (hk : kk ≤ 6) (h1 : k ≤ 6) (hw : ownF k 2 = 0) : RCq (nI kk) p v (n + 6) k 2 (ptellV kk p v) (ptellB kk) 500 35 :=
  oneq (fV := fun u => u * 2) (fx := fun x => x) (k2 := kk) (a2 := 1) h1 (by omega) hw (show bodF 0 2 = 12 from rfl) (by omega) (by omega) (by omega) (by omega) (fun x o r bs h0 g e2 e3 k1 => ⟨fun u _ => u * 2, by rw [J53_12 _ (by omega) e2 e3 (show _ = (-1 : Int32) from rfl), k1.2.1]; rfl, fun _ _ _ _ => rfl⟩) (c_hold n hk)
theorem c_tell {p v : Int32} (n : Nat) {kk : Nat} (hk : kk ≤ 6) : RCq (nI kk) p v (n + 7) kk 2 (tellV kk p v) (tellB kk) 400 34 := by
  have z : ∀ k, k ≤ 6 → ownF k 2 = 0 → RCq (nI k) p v (n + 7) k 2 (ptellV k p v) (ptellB k) 400 34 := fun k a b => (c_ptell (n + 1) a a b).lim (by omega) (by omega)
  have t : ∀ k, k ≤ 6 → ownF k 2 = 3 → (ptellB k).length ≤ 20 → RCq (nI k) p v (n + 7) k 2 (fun x => ptellV k p v x + holdV k p v 1) (40 :: (ptellB k ++ holdB k)) 400 34 := fun k a b l =>
    twoq (k2 := 0) (a2 := 2) (k3 := k) (a3 := 1) (y := 1) (B := ptellB k) (l' := 500) (l3 := 600) (o' := 35) (o3 := 36) a (by omega) b (show bodF 3 2 = 40 from rfl) (by omega) (by omega) (by omega) (by omega) (by omega) (by omega) (fun x o r bs h0 g e2 e3 k1 => ⟨fun g' => g'.1 81 2, J53_40 _ (by omega) e2 e3 rfl, fun _ _ q => q.2.1⟩) (c_ptell n a (by omega) rfl) (c_hold (n + 1) a)
  refine kinds (P := fun kk => RCq (nI kk) p v (n + 7) kk 2 (tellV kk p v) (tellB kk) 400 34) hk (z 0 (by omega) rfl) (z 1 (by omega) rfl) (z 2 (by omega) rfl) (t 3 (by omega) rfl (by decide)) (z 4 (by omega) rfl) ?_ (t 6 (by omega) rfl (by decide))
  exact oneq (fV := fun u => u) (fx := fun x => x - p) (k2 := 2) (a2 := 2) (by omega) (by omega) (show ownF 5 2 = 5 from rfl) (show bodF 5 2 = 60 from rfl) (by omega) (by omega) (by omega) (by omega) (fun x o r bs h0 g e2 e3 k1 => ⟨fun u _ => u, by rw [J53_60 _ (by omega) e2 e3 (show _ = (2 : Int32) from rfl), k1.2.2.1]; rfl, fun _ _ _ _ => rfl⟩) (c_ptell n (by omega) (by omega) rfl)
