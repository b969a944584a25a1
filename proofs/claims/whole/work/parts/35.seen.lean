/-! seen; worn, can -/
def okI (O : OS) (c0 : AS) (r : Nat → Int32 × Nat) (i : Nat) : Prop := (r i).1 = (cN O (r i).2 c0).1 1
def sOb (O : OS) (c0 : AS) (r : Nat → Int32 × Nat) : Nat → Nat → Bool
  | 0, _ => true
  | c + 1, i => if (r i).1 = (cN O (r i).2 c0).1 1 then sOb O c0 r c (i + 1) else false
def bI : Bool → Int32
  | true => 1
  | false => 0
def bN : Bool → Nat
  | true => 1
  | false => 0
def bO (n : Nat) : Bool → Option Nat
  | true => some n
  | false => none
theorem sOb_1 {O : OS} {c0 : AS} {r : Nat → Int32 × Nat} {c i : Nat} (h : (r i).1 = (cN O (r i).2 c0).1 1) : sOb O c0 r (c + 1) i = sOb O c0 r c (i + 1) := if_pos h
theorem sOb_0 {O : OS} {c0 : AS} {r : Nat → Int32 × Nat} {c i : Nat} (h : ¬ (r i).1 = (cN O (r i).2 c0).1 1) : sOb O c0 r (c + 1) i = false := if_neg h
theorem sOb_t {O : OS} {c0 : AS} {r : Nat → Int32 × Nat} : ∀ {c i : Nat}, (∀ j, i ≤ j → j < i + c → okI O c0 r j) → sOb O c0 r c i = true := by
  intro c
  induction c with
  | zero => intro i _; rfl
  | succ c ih =>
    intro i h
    rw [sOb_1 (h i (Nat.le_refl _) (by omega))]
    exact ih (fun j a b => h j (by omega) (by omega))
theorem sOb_f {O : OS} {c0 : AS} {r : Nat → Int32 × Nat} : ∀ {c i j : Nat}, i ≤ j → j < i + c → ¬ okI O c0 r j → sOb O c0 r c i = false := by
  intro c
  induction c with
  | zero => intro i j a b; omega
  | succ c ih =>
    intro i j a b h
    by_cases z : (r i).1 = (cN O (r i).2 c0).1 1
    · rw [sOb_1 z]
      have : i ≠ j := fun e => h (by rw [← e]; exact z)
      exact ih (by omega) (by omega) h
    · exact sOb_0 z
def SEN (ns : Nat) (r : Nat → Int32 × Nat) (h : HP) : Prop := ns ≤ 5 ∧ h.1 30 2 = nI ns ∧ h.1 96 48 = nI ns ∧ ∀ i, i < ns → (r i).2 ≤ 20 ∧ h.1 31 i = (r i).1 ∧ h.1 32 i = nI (r i).2 ∧ h.1 121 i = (r i).1 ∧ h.1 122 i = nI (r i).2
/-- the class's half of it, and the reference's -/
def SE6 (ns : Nat) (r : Nat → Int32 × Nat) (h : HP) : Prop := ns ≤ 5 ∧ h.1 30 2 = nI ns ∧ ∀ i, i < ns → (r i).2 ≤ 20 ∧ h.1 31 i = (r i).1 ∧ h.1 32 i = nI (r i).2
def SE7 (ns : Nat) (r : Nat → Int32 × Nat) (h : HP) : Prop := ns ≤ 5 ∧ h.1 96 48 = nI ns ∧ ∀ i, i < ns → (r i).2 ≤ 20 ∧ h.1 121 i = (r i).1 ∧ h.1 122 i = nI (r i).2
theorem SEN.a {ns : Nat} {r : Nat → Int32 × Nat} {h : HP} (s : SEN ns r h) : SE6 ns r h := ⟨s.1, s.2.1, fun i hi => ⟨(s.2.2.2 i hi).1, (s.2.2.2 i hi).2.1, (s.2.2.2 i hi).2.2.1⟩⟩
theorem SEN.b {ns : Nat} {r : Nat → Int32 × Nat} {h : HP} (s : SEN ns r h) : SE7 ns r h := ⟨s.1, s.2.2.1, fun i hi => ⟨(s.2.2.2 i hi).1, (s.2.2.2 i hi).2.2.2.1, (s.2.2.2 i hi).2.2.2.2⟩⟩
theorem SE6.fr {ns : Nat} {r : Nat → Int32 × Nat} {h h' : HP} (s : SE6 ns r h) (hc : ∀ c, 30 ≤ c → c ≤ 32 → h'.1 c = h.1 c) : SE6 ns r h' := by
  obtain ⟨s1, s2, s3⟩ := s
  exact ⟨s1, by rw [hc 30 (by omega) (by omega)]; exact s2, by rw [hc 31 (by omega) (by omega), hc 32 (by omega) (by omega)]; exact s3⟩
theorem SE6.fc {ns : Nat} {r : Nat → Int32 × Nat} {h h' : HP} (s : SE6 ns r h) (f : FC h h') : SE6 ns r h' := s.fr (fun c a b => f.1.1 c (by unfold SD isF; omega))
theorem SE7.fr {ns : Nat} {r : Nat → Int32 × Nat} {h h' : HP} (s : SE7 ns r h) (h0 : h'.1 96 48 = h.1 96 48) (hc : ∀ c, 121 ≤ c → c ≤ 122 → h'.1 c = h.1 c) : SE7 ns r h' := by
  obtain ⟨s1, s2, s3⟩ := s
  exact ⟨s1, by rw [h0]; exact s2, by rw [hc 121 (by omega) (by omega), hc 122 (by omega) (by omega)]; exact s3⟩
theorem SE7.bz {ns : Nat} {r : Nat → Int32 × Nat} {h h' : HP} (s : SE7 ns r h) (f : BZ h h') : SE7 ns r h' := s.fr (f.2.2.2.2.1 48 (by unfold ZJ; omega)) (fun c a b => f.2.2.2.1 c (by omega) (by unfold ZC; omega))
theorem CS.st {O : OS} {c0 : AS} {d0 d : Nat} {g : HP} (s : CS O 22 c0 d0 d g) : g.1 22 8 = (cN O d c0).1 1 := by
  rw [← s.2.2.1, core_s _ (by omega), dv_s 22 g (by omega)]
theorem B1_seen_L44 {O : OS} {c0 : AS} {d0 d ns : Nat} {r : Nat → Int32 × Nat} (hd0 : d0 ≤ 9999) (hd : d ≤ 20) (rc : Int32 → Int32 → HP → Option (Int32 × HP)) (x1 : Int32) {g : HP} (cs : CS O 22 c0 d0 d g) (se : SE6 ns r g) : ∀ (c i fuel : Nat), i + c = ns → c < fuel → ((∀ j, i ≤ j → j < ns → (r j).2 = d → okI O c0 r j) ∧ ∃ g', f_X6_seenIsSo_L44 rc fuel x1 (nI d) (nI i) g = rc x1 (nI (d + 1)) g' ∧ CS O 22 c0 d0 (d + 1) g' ∧ Fc (SD 22) g g') ∨ ((∃ j, i ≤ j ∧ j < ns ∧ (r j).2 = d ∧ ¬ okI O c0 r j) ∧ f_X6_seenIsSo_L44 rc fuel x1 (nI d) (nI i) g = some (0, g)) := by
  obtain ⟨s1, s2, s3⟩ := se
  intro c
  induction c with
  | zero =>
    intro i fuel hi hf
    obtain ⟨f, rfl⟩ : ∃ f, fuel = f + 1 := ⟨fuel - 1, by omega⟩
    left
    obtain ⟨g1, e1, cs1, fr1⟩ := CS_step cs (by omega) (by omega)
    refine ⟨fun j a b => by omega, g1, ?_, cs1, fr1⟩
    rw [f_X6_seenIsSo_L44, s2, if_pos (by rw [le_n (by omega) (by omega)]; omega), e1, bd_s, lt_e, one_n]
  | succ c ih =>
    intro i fuel hi hf
    obtain ⟨f, rfl⟩ : ∃ f, fuel = f + 1 := ⟨fuel - 1, by omega⟩
    obtain ⟨t1, t2, t3⟩ := s3 i (by omega)
    have ib : inb (nI i) 5 = true := inb_n (by omega) (by omega)
    have key : f_X6_seenIsSo_L44 rc (f + 1) x1 (nI d) (nI i) g = if nI (r i).2 = nI d then (if (r i).1 = (cN O d c0).1 1 then f_X6_seenIsSo_L44 rc f x1 (nI d) (nI (i + 1)) g else some (0, g)) else f_X6_seenIsSo_L44 rc f x1 (nI d) (nI (i + 1)) g := by
      rw [f_X6_seenIsSo_L44, s2, if_neg (by rw [le_n (by omega) (by omega)]; omega), gd_b ib, gd_b ib, cl_n (by omega), t2, t3, cs.st, one_n, lt_e]
    rw [key]
    by_cases z : (r i).2 = d
    · rw [if_pos (by rw [z])]
      by_cases y : (r i).1 = (cN O d c0).1 1
      · rw [if_pos y]
        rcases ih (i + 1) f (by omega) (by omega) with ⟨a, b⟩ | ⟨⟨j, a1, a2, a3, a4⟩, b⟩
        · left
          refine ⟨fun j p q w => ?_, b⟩
          by_cases e : j = i
          · subst e; unfold okI; rw [w]; exact y
          · exact a j (by omega) q w
        · right; exact ⟨⟨j, by omega, a2, a3, a4⟩, b⟩
      · rw [if_neg y]
        right
        exact ⟨⟨i, Nat.le_refl _, by omega, z, fun w => y (by unfold okI at w; rw [z] at w; exact w)⟩, rfl⟩
    · rw [if_neg (fun w => z ((eq_n (by omega) (by omega)).mp w))]
      rcases ih (i + 1) f (by omega) (by omega) with ⟨a, b⟩ | ⟨⟨j, a1, a2, a3, a4⟩, b⟩
      · left
        refine ⟨fun j p q w => ?_, b⟩
        by_cases e : j = i
        · subst e; exact absurd w z
        · exact a j (by omega) q w
      · right; exact ⟨⟨j, by omega, a2, a3, a4⟩, b⟩
theorem B1_seen_L37 {O : OS} {c0 : AS} {d0 ns last : Nat} {r : Nat → Int32 × Nat} (hd0 : d0 ≤ 9999) (hl : last ≤ 20) (hmx : ∀ i, i < ns → (r i).2 ≤ last) : ∀ (c d : Nat) (g : HP) (fuel : Nat), d + c = last + 1 → c < fuel → CS O 22 c0 d0 d g → SE6 ns r g → ((∀ j, j < ns → d ≤ (r j).2 → okI O c0 r j) ∧ ∃ g', f_X6_seenIsSo_L37 fuel (nI last) (nI d) g = some (1, g') ∧ Fc (SD 22) g g') ∨ ((∃ j, j < ns ∧ d ≤ (r j).2 ∧ ¬ okI O c0 r j) ∧ ∃ g', f_X6_seenIsSo_L37 fuel (nI last) (nI d) g = some (0, g') ∧ Fc (SD 22) g g') := by
  intro c
  induction c with
  | zero =>
    intro d g fuel hd hf cs se
    obtain ⟨f, rfl⟩ : ∃ f, fuel = f + 1 := ⟨fuel - 1, by omega⟩
    left
    refine ⟨fun j a b => by have := hmx j a; omega, g, ?_, Fc.rf⟩
    rw [f_X6_seenIsSo_L37, if_pos (by rw [lt_n (by omega) (by omega)]; omega)]
  | succ c ih =>
    intro d g fuel hd hf cs se
    obtain ⟨f, rfl⟩ : ∃ f, fuel = f + 1 := ⟨fuel - 1, by omega⟩
    rw [f_X6_seenIsSo_L37, if_neg (by rw [lt_n (by omega) (by omega)]; omega)]
    have ns5 := se.1
    rcases B1_seen_L44 hd0 (by omega) (fun z0 z1 z2 => f_X6_seenIsSo_L37 f z0 z1 z2) (nI last) cs se ns 0 FZ (by omega) (by have := FZ_ge; omega) with ⟨a, g1, e1, cs1, fr1⟩ | ⟨⟨j, a1, a2, a3, a4⟩, b⟩
    · have se1 : SE6 ns r g1 := se.fc (FC.fc fr1)
      have e1' : f_X6_seenIsSo_L44 (fun z0 z1 z2 => f_X6_seenIsSo_L37 f z0 z1 z2) FZ (nI last) (nI d) 0 g = f_X6_seenIsSo_L37 f (nI last) (nI (d + 1)) g1 := e1
      rw [e1']
      rcases ih (d + 1) g1 f (by omega) (by omega) cs1 se1 with ⟨p, g2, e2, fr2⟩ | ⟨⟨j, p1, p2, p3⟩, g2, e2, fr2⟩
      · left
        refine ⟨fun j q w => ?_, g2, e2, fr1.trans fr2 (fun _ q => q) (fun _ q => q)⟩
        by_cases z : (r j).2 = d
        · exact a j (Nat.zero_le _) q z
        · exact p j q (by omega)
      · right
        exact ⟨⟨j, p1, by omega, p3⟩, g2, e2, fr1.trans fr2 (fun _ q => q) (fun _ q => q)⟩
    · right
      exact ⟨⟨j, a2, by omega, a4⟩, g, b, Fc.rf⟩
theorem B1_seen_L4 {ns : Nat} {r : Nat → Int32 × Nat} {g : HP} (se : SE6 ns r g) : ∀ (c i m fuel : Nat), i + c = ns → c < fuel → m ≤ 20 → (∀ j, j < i → (r j).2 ≤ m) → ∃ last, last ≤ 20 ∧ (∀ j, j < ns → (r j).2 ≤ last) ∧ f_X6_seenIsSo_L4 fuel (nI m) (nI i) g = f_X6_seenIsSo_L37 FZ (nI last) 0 g := by
  obtain ⟨s1, s2, s3⟩ := se
  intro c
  induction c with
  | zero =>
    intro i m fuel hi hf hm hj
    obtain ⟨f, rfl⟩ : ∃ f, fuel = f + 1 := ⟨fuel - 1, by omega⟩
    refine ⟨m, hm, fun j a => hj j (by omega), ?_⟩
    rw [f_X6_seenIsSo_L4, s2, if_pos (by rw [le_n (by omega) (by omega)]; omega)]
  | succ c ih =>
    intro i m fuel hi hf hm hj
    obtain ⟨f, rfl⟩ : ∃ f, fuel = f + 1 := ⟨fuel - 1, by omega⟩
    obtain ⟨t1, t2, t3⟩ := s3 i (by omega)
    rw [f_X6_seenIsSo_L4, s2, if_neg (by rw [le_n (by omega) (by omega)]; omega), gd_b (inb_n (by omega) (by omega)), cl_n (by omega), t3, lt_e, lt_e, one_n]
    by_cases z : m < (r i).2
    · rw [if_pos ((lt_n (by omega) (by omega)).mpr z)]
      exact ih (i + 1) (r i).2 f (by omega) (by omega) t1 (fun j a => by
        by_cases e : j = i
        · subst e; exact Nat.le_refl _
        · have := hj j (by omega); omega)
    · rw [if_neg (fun y => z ((lt_n (by omega) (by omega)).mp y))]
      exact ih (i + 1) m f (by omega) (by omega) hm (fun j a => by
        by_cases e : j = i
        · subst e; omega
        · exact hj j (by omega))
theorem B1_seen {O : OS} {c0 : AS} {d0 ns : Nat} {r : Nat → Int32 × Nat} {g : HP} (hd0 : d0 ≤ 9999) (cs : CS O 22 c0 d0 0 g) (se : SE6 ns r g) : ∃ g', f_X6_seenIsSo g = some (bI (sOb O c0 r ns 0), g') ∧ Fc (SD 22) g g' := by
  have n5 := se.1
  obtain ⟨last, l1, l2, l3⟩ := B1_seen_L4 se ns 0 0 FZ (by omega) (by have := FZ_ge; omega) (by omega) (fun j a => by omega)
  have l3' : f_X6_seenIsSo g = f_X6_seenIsSo_L37 FZ (nI last) 0 g := l3
  rw [l3']
  rcases B1_seen_L37 hd0 l1 l2 (last + 1) 0 g FZ (by omega) (by have := FZ_ge; omega) cs se with ⟨a, g', e, fr⟩ | ⟨⟨j, a1, a2, a3⟩, g', e, fr⟩
  · rw [sOb_t (fun j _ b => a j (by omega) (Nat.zero_le _))]
    exact ⟨g', e, fr⟩
  · rw [sOb_f (Nat.zero_le j) (by omega) a3]
    exact ⟨g', e, fr⟩
theorem B7_isSeen_L4 {O : OS} {ns : Nat} {r : Nat → Int32 × Nat} (a : AS) : ∀ (c i : Nat) (h : HP) (fuel : Nat), i + c = ns → c + 1 < fuel → QM O h → mv h = a → SE7 ns r h → ∃ h', f_X7_isSeen_L4 fuel 1 (nI i) h = some (bI (sOb O (core a) r c i), h') ∧ BZ h h' := by
  intro c
  induction c with
  | zero =>
    intro i h fuel hi hf q ha se
    obtain ⟨f, rfl⟩ : ∃ f, fuel = f + 1 := ⟨fuel - 1, by omega⟩
    have n5 := se.1
    refine ⟨h, ?_, q.rf⟩
    rw [f_X7_isSeen_L4, se.2.1, if_pos (by rw [le_n (by omega) (by omega)]; omega), gd_b (by decide)]
    rfl
  | succ c ih =>
    intro i h fuel hi hf q ha se
    obtain ⟨f, rfl⟩ : ∃ f, fuel = f + 1 := ⟨fuel - 1, by omega⟩
    have n5 := se.1
    obtain ⟨t1, t2, t3⟩ := se.2.2 i (by omega)
    obtain ⟨w0, d0, g, hw0, hd0, ew, ed, e, ev, ma⟩ := ask7 q
    obtain ⟨g1, e1, ma1⟩ := B7_goDays (n := (r i).2) (by omega) ma (by omega) (by omega)
    obtain ⟨g2, e2, b2, -⟩ := ma1.back
    have ib : inb (nI i) 5 = true := inb_n (by omega) (by omega)
    have f0 := ma.2.2
    have f1 := ma1.2.2
    have c122 : g.1 122 i = nI (r i).2 := by rw [f0.1 122 (by omega) (by unfold AC; omega)]; exact t3
    have c121 : g1.1 121 i = (r i).1 := by rw [f1.1 121 (by omega) (by unfold AC; omega)]; exact t2
    have hst : g1.1 96 1 = (cN O (r i).2 (core a)).1 1 := by
      rw [← ha, ← ma1.1.2.2.2.1, core_s _ (by omega), mv_s g1 (by omega)]
    rw [f_X7_isSeen_L4, se.2.1, if_neg (by rw [le_n (by omega) (by omega)]; omega), if_neg one_ne, e, bo_s, gd_b ib, cl_n (by omega), c122, e1, bo_s, gd_b ib, c121, hst, e2, bo_s, lt_e, one_n]
    by_cases z : (r i).1 = (cN O (r i).2 (core a)).1 1
    · rw [if_pos z.symm, sOb_1 z]
      obtain ⟨h', e', b'⟩ := ih (i + 1) g2 f (by omega) (by omega) (q.z b2) (b2.1.trans ha) (se.bz b2)
      exact ⟨h', e', b2.trans b'⟩
    · rw [if_neg (fun y => z y.symm), sOb_0 z, bo_s, lt_e]
      obtain ⟨f2, rfl⟩ : ∃ f2, f = f2 + 1 := ⟨f - 1, by omega⟩
      refine ⟨g2, ?_, b2⟩
      rw [f_X7_isSeen_L4, (se.bz b2).2.1, if_pos (rfl : (0 : Int32) = 0), gd_b (show zok 0 = true by decide)]
      by_cases y : nI ns ≤ nI (i + 1)
      · rw [if_pos y]; rfl
      · rw [if_neg y]; rfl
theorem B7_isSeen {O : OS} {ns : Nat} {r : Nat → Int32 × Nat} {h : HP} (q : QM O h) (se : SE7 ns r h) : ∃ h', f_X7_isSeen h = some (bI (sOb O (core (mv h)) r ns 0), h') ∧ BZ h h' := by
  have n5 := se.1
  exact B7_isSeen_L4 (mv h) ns 0 h FZ (by omega) (by have := FZ_ge; omega) q rfl se
/-! counting up, counting down -/
def cntP (P : Nat → Bool) : Nat → Nat
  | 0 => 0
  | c + 1 => cntP P c + bN (P c)
def lstP (P : Nat → Bool) : Nat → Option Nat
  | 0 => none
  | c + 1 => match lstP P c with
    | some x => some x
    | none => bO c (P c)
theorem cnt_lst {P : Nat → Bool} : ∀ c, (cntP P c = 0 ↔ lstP P c = none) ∧ cntP P c ≤ c := by
  intro c
  induction c with
  | zero => exact ⟨⟨fun _ => rfl, fun _ => rfl⟩, Nat.le_refl _⟩
  | succ c ih =>
    obtain ⟨i1, i2⟩ := ih
    simp only [cntP, lstP]
    cases hl : lstP P c with
    | none =>
      have := i1.mpr hl
      cases P c <;> simp [this, bN, bO]
    | some x =>
      have : ¬ cntP P c = 0 := fun z => by rw [i1.mp z] at hl; cases hl
      cases P c
      · exact ⟨iff_of_false (by simpa [bN] using this) (by simp), by simp [bN]; omega⟩
      · exact ⟨iff_of_false (by simp [bN]) (by simp), by simp [bN]; omega⟩
def fitR (what : Int32) (P : Nat → Bool) (N : Nat) : Int32 := if what = 0 then nI (cntP P N) else rD (lstP P N) (-5)
theorem CS_put {O : OS} {g : HP} {a : AS} {d0 i p : Nat} {v : Int32} (hC : CD O 22 g) (e : dv 22 g = sSet a 4 0) (w : WFG a) (h5 : a.1 5 = nI d0) (hi : i = 1 ∨ i = 3) (hp : p < 6) : CS O 22 (core (sPut a i p v)) d0 0 (si g (22 + (i + 1)) p v) := by
  have hd := dv_put (o := 22) (h := g) (i := i) (j := p) (v := v) (by omega) hp
  rw [e, ← sSet_put] at hd
  obtain ⟨s, hs, es⟩ := w.2
  have wp : WFG (sPut a i p v) := ⟨WFE_put w.1 (by omega) (by omega), s, hs, es⟩
  have := CS_mk (d0 := d0) (hC.fr (Fc.si (S := SD 22) (Or.inl ⟨by omega, by omega⟩))) hd (WFG_set wp (by omega) (by omega) (by omega)) (sSet_s _ _ _) ((sSet_n _ _ (by omega)).trans h5)
  rw [core_set4] at this
  exact this
theorem B1_fitting_L10 {O : OS} (a : AS) {ns N i p : Nat} {r : Nat → Int32 × Nat} (hN : N ≤ 61) (hN0 : 0 < N) (hi : i = 1 ∨ i = 3) (hp : p < 6) (what : Int32) : ∀ (c n : Nat) (h : HP) (fuel : Nat), n + c = N → c < fuel → QC O h → dv 6 h = a → SE6 ns r h → ∃ h', f_X6_fitting_L10 (22 + (i + 1)) fuel (nI p) (nI (N - 1)) what (nI (cntP (fun n => sOb O (core (sPut a i p (nI n))) r ns 0) n)) (rD (lstP (fun n => sOb O (core (sPut a i p (nI n))) r ns 0) n) (-5)) (nI n) h = some (fitR what (fun n => sOb O (core (sPut a i p (nI n))) r ns 0) N, h') ∧ FC h h' := by
  intro c
  induction c with
  | zero =>
    intro n h fuel hn hf q ha se
    obtain ⟨f, rfl⟩ : ∃ f, fuel = f + 1 := ⟨fuel - 1, by omega⟩
    refine ⟨h, ?_, FC.rf⟩
    have : n = N := by omega
    subst this
    rw [f_X6_fitting_L10, if_pos (by rw [lt_n (by omega) (by omega)]; omega)]
    unfold fitR
    by_cases z : what = 0
    · rw [if_pos z, if_pos z]
    · rw [if_neg z, if_neg z]
  | succ c ih =>
    intro n h fuel hn hf q ha se
    obtain ⟨f, rfl⟩ : ∃ f, fuel = f + 1 := ⟨fuel - 1, by omega⟩
    obtain ⟨w0, d0, g, hw0, hd0, ew, ed, e, hC, ev, cs, fc⟩ := ask6 q
    have s := CS_put (i := i) (p := p) (v := nI n) hC ev q.2.g.1 ed hi hp
    rw [ha] at s
    have fc0 : FC h (si g (22 + (i + 1)) p (nI n)) := fc.trans (FC.fc (Fc.si (S := SD 22) (Or.inl ⟨by omega, by omega⟩)))
    obtain ⟨g1, e1, fr1⟩ := B1_seen hd0 s (se.fc fc0)
    have fc1 : FC h g1 := fc0.trans (FC.fc fr1)
    have q1 := q.fc fc1
    obtain ⟨h', e', f'⟩ := ih (n + 1) g1 f (by omega) (by omega) q1 (fc1.d6.trans ha) (se.fc fc1)
    refine ⟨h', ?_, fc1.trans f'⟩
    have cl := @cnt_lst (fun n => sOb O (core (sPut a i p (nI n))) r ns 0) n
    have c0i : ∀ m : Nat, ¬ m = 0 → m ≤ n → ¬ nI m = 0 := fun m x y z => x ((eq_n (b := 0) (by omega) (by omega)).mp z)
    rw [f_X6_fitting_L10, if_neg (by rw [lt_n (by omega) (by omega)]; omega), e, bo_s, gd_b (inb_n hp (by omega)), lt_e, cl_n (by omega), e1, bd_s, ← e']
    simp only [cntP, lstP]
    cases hP : sOb O (core (sPut a i p (nI n))) r ns 0 with
    | false =>
      rw [if_pos (by decide), lt_e, one_n]
      cases hl : lstP (fun n => sOb O (core (sPut a i p (nI n))) r ns 0) n <;> rfl
    | true =>
      rw [if_neg (by decide)]
      cases hl : lstP (fun n => sOb O (core (sPut a i p (nI n))) r ns 0) n with
      | none =>
        have c0 := cl.1.mpr hl
        rw [c0, if_pos (show nI 0 = 0 from rfl), lt_e, lt_e, one_n, one_n]; rfl
      | some x =>
        have c0 : ¬ cntP (fun n => sOb O (core (sPut a i p (nI n))) r ns 0) n = 0 := fun z => by rw [cl.1.mp z] at hl; cases hl
        rw [if_neg (c0i _ c0 cl.2), lt_e, lt_e, one_n, one_n]; rfl

theorem QM_put {O : OS} {h : HP} {i p : Nat} {v : Int32} (q : QM O h) (hi : i = 1 ∨ i = 3) (hp : p < 6) (hv : (i = 3 ∧ ∃ l, l ≤ 99 ∧ v = nI l) ∨ (i = 1 ∧ ∃ l, l ≤ 9 ∧ v = nI l)) : QM O (si h (97 + i) p v) ∧ mv (si h (97 + i) p v) = sPut (mv h) i p v := by
  have hd := mv_put (h := h) (i := i) (j := p) (v := v) (by omega) hp
  have fr : FM ZC ZJ h (si h (97 + i) p v) := FM.cell (by omega) (by unfold ZC; omega)
  refine ⟨⟨q.1.fm fr (fun c a b z => by unfold ZC at z; omega) (by unfold ZJ; omega), ?_, by rw [si_r (show (96 : Nat) ≠ 97 + i by omega)]; exact q.2.2.1, by rw [si_r (show (96 : Nat) ≠ 97 + i by omega)]; exact q.2.2.2⟩, hd⟩
  rw [hd]
  obtain ⟨n, k, c1, c2, c3, c4, c5, c6, c7, c8, c9, c12⟩ := q.2.1
  have e6 : (sPut (mv h) i p v).2 6 = (mv h).2 6 := sPut_n _ _ (by omega)
  have e2 : (sPut (mv h) i p v).2 2 = (mv h).2 2 := sPut_n _ _ (by omega)
  have e0 : (sPut (mv h) i p v).2 0 = (mv h).2 0 := sPut_n _ _ (by omega)
  refine ⟨n, k, c1, c2, c3, c4, by rw [e6]; exact c5, c6, c7, c8, c9, fun x hx => ?_⟩
  obtain ⟨d1, d2, d3, d4⟩ := c12 x hx
  rw [e2, e0]
  refine ⟨d1, ?_, ?_, d4⟩
  · rcases hv with ⟨rfl, hv⟩ | ⟨rfl, hv⟩
    · rw [sPut_w]
      by_cases z : x = p
      · subst z; rw [up_s]; exact hv
      · rw [up_n _ _ z]; exact d2
    · rw [sPut_n _ _ (by omega)]; exact d2
  · rcases hv with ⟨rfl, hv⟩ | ⟨rfl, hv⟩
    · rw [sPut_n _ _ (by omega)]; exact d3
    · rw [sPut_w]
      by_cases z : x = p
      · subst z; rw [up_s]; exact hv
      · rw [up_n _ _ z]; exact d3
theorem sPut_put (a : AS) (i p : Nat) (v u : Int32) : sPut (sPut a i p v) i p u = sPut a i p u := by
  refine Prod.ext rfl (funext fun x => ?_)
  show va_up (va_up a.2 i (va_up (a.2 i) p v)) i (va_up (va_up a.2 i (va_up (a.2 i) p v) i) p u) x = va_up a.2 i (va_up (a.2 i) p u) x
  by_cases z : x = i
  · subst z
    rw [up_s, up_s, up_s]
    funext y
    by_cases w : y = p
    · subst w; rw [up_s, up_s]
    · rw [up_n _ _ w, up_n _ _ w, up_n _ _ w]
  · rw [up_n _ _ z, up_n _ _ z, up_n _ _ z]
theorem sPut_self (a : AS) (i p : Nat) : sPut a i p (a.2 i p) = a := by
  refine Prod.ext rfl (funext fun x => ?_)
  show va_up a.2 i (va_up (a.2 i) p (a.2 i p)) x = a.2 x
  by_cases z : x = i
  · subst z
    rw [up_s]
    funext y
    by_cases w : y = p
    · subst w; rw [up_s]
    · rw [up_n _ _ w]
  · rw [up_n _ _ z]
/-- one less; below 0 in the end -/
theorem dn_n (c : Nat) : nI (c + 1) + -1 = nI c := by
  rw [← one_n]
  have : (1 : Int32) + -1 = 0 := by decide
  rw [Int32.add_assoc, this, Int32.add_zero]
theorem dn_0 : nI 0 + -1 = (-1 : Int32) := by decide

theorem B7_worn_L38 {O : OS} (a : AS) {ns p : Nat} {r : Nat → Int32 × Nat} (hp : p < 6) (what : Int32) {N : Nat} (hN : N ≤ 61) : ∀ (c : Nat) (many : Nat) (low : Int32) (u : Int32) (h : HP) (fuel : Nat) (x : Int32), c ≤ N → x = (if c = 0 then -1 else nI (c - 1)) → c < fuel → QM O h → mv h = sPut a 3 p u → SE7 ns r h → (∃ v : Nat, v ≤ 99 ∧ a.2 3 p = nI v) → ∃ h', f_X7_worn_L38 fuel (nI p) what (a.2 3 p) (nI many) low x h = some ((if what = 0 then nI (many + cntP (fun n => sOb O (core (sPut a 3 p (nI n))) r ns 0) c) else (match lstP (fun n => sOb O (core (sPut a 3 p (nI n))) r ns 0) c with | some y => nI y | none => low)), h') ∧ mv h' = a ∧ FM ZC ZJ h h' ∧ h'.1 96 31 = 99999 ∧ h'.1 96 32 = 9999 := by
  intro c
  induction c with
  | zero =>
    intro many low u h fuel x hc hx hf q hm se hv
    obtain ⟨f, rfl⟩ : ∃ f, fuel = f + 1 := ⟨fuel - 1, by omega⟩
    obtain ⟨q1, e1⟩ := QM_put (i := 3) (p := p) (v := a.2 3 p) q (by omega) hp (Or.inl ⟨rfl, hv⟩)
    rw [hm, sPut_put, sPut_self] at e1
    rw [if_pos rfl] at hx
    subst hx
    refine ⟨si h (97 + 3) p (a.2 3 p), ?_, e1, FM.cell (by omega) (by unfold ZC; omega), q1.2.2.1, q1.2.2.2⟩
    rw [f_X7_worn_L38, if_pos (by decide), gd_b (inb_n hp (by omega)), lt_e, cl_n (by omega)]
    by_cases z : what = 0
    · rw [if_pos z, if_pos z]; rfl
    · rw [if_neg z, if_neg z]; rfl
  | succ c ih =>
    intro many low u h fuel x hc hx hf q hm se hv
    obtain ⟨f, rfl⟩ : ∃ f, fuel = f + 1 := ⟨fuel - 1, by omega⟩
    rw [if_neg (by omega), Nat.add_sub_cancel] at hx
    subst hx
    obtain ⟨q1, e1⟩ := QM_put (i := 3) (p := p) (v := nI c) q (by omega) hp (Or.inl ⟨rfl, c, by omega, rfl⟩)
    rw [hm, sPut_put] at e1
    have se1 : SE7 ns r (si h (97 + 3) p (nI c)) := se.fr (by rw [si_r (by omega)]) (fun c a b => by rw [si_r (by omega)])
    obtain ⟨g, e, b⟩ := B7_isSeen q1 se1
    rw [e1] at e
    have e' : f_X7_isSeen (si h 100 p (nI c)) = _ := e
    rw [f_X7_worn_L38, if_neg (nI_pos (by omega)), gd_b (inb_n hp (by omega)), lt_e, cl_n (show p < 2147483648 by omega), e', bd_s]
    have fr1 : FM ZC ZJ h (si h (97 + 3) p (nI c)) := FM.cell (by omega) (by unfold ZC; omega)
    have fr : FM ZC ZJ h g := fr1.trans b.2.2.2 (fun _ z => z) (fun _ z => z) (fun _ z => z) (fun _ z => z)
    have hnx : nI c + -1 = if c = 0 then -1 else nI (c - 1) := by
      by_cases z : c = 0
      · subst z; rw [if_pos rfl]; exact dn_0
      · rw [if_neg z]
        obtain ⟨d, rfl⟩ : ∃ d, c = d + 1 := ⟨c - 1, by omega⟩
        exact dn_n d
    simp only [cntP, lstP]
    cases hP : sOb O (core (sPut a 3 p (nI c))) r ns 0 with
    | false =>
      obtain ⟨h', k1, k2, k3, k4⟩ := ih many low (nI c) g f (nI c + -1) (by omega) hnx (by omega) (q1.z b) (b.1.trans e1) (se1.bz b) hv
      refine ⟨h', ?_, k2, fr.trans k3 (fun _ z => z) (fun _ z => z) (fun _ z => z) (fun _ z => z), k4⟩
      rw [if_pos (show bI false = 0 from rfl), lt_e, k1]
      cases lstP (fun n => sOb O (core (sPut a 3 p (nI n))) r ns 0) c <;> rfl
    | true =>
      obtain ⟨h', k1, k2, k3, k4⟩ := ih (many + 1) (nI c) (nI c) g f (nI c + -1) (by omega) hnx (by omega) (q1.z b) (b.1.trans e1) (se1.bz b) hv
      refine ⟨h', ?_, k2, fr.trans k3 (fun _ z => z) (fun _ z => z) (fun _ z => z) (fun _ z => z), k4⟩
      rw [if_neg (show ¬ bI true = 0 by decide), lt_e, lt_e, one_n, k1]
      have : many + 1 + cntP (fun n => sOb O (core (sPut a 3 p (nI n))) r ns 0) c = many + (cntP (fun n => sOb O (core (sPut a 3 p (nI n))) r ns 0) c + bN true) := by show _ = many + (_ + 1); omega
      rw [this]
      cases lstP (fun n => sOb O (core (sPut a 3 p (nI n))) r ns 0) c <;> rfl
theorem C_worn {O : OS} {h : HP} {ns : Nat} {r : Nat → Int32 × Nat} (q : AQ O h) (s : SEN ns r h) (x1 x2 : Int32) : ∃ r h1 h2, f_X6_worn x1 x2 h = some (r, h1) ∧ f_X7_worn x1 x2 h1 = some (r, h2) ∧ AZ h h2 := by
  obtain ⟨n, hn, e6, e96⟩ := q.pieces
  obtain ⟨qm, em⟩ := q.qm FC.rf
  have az0 : AZ h h := ⟨h, FC.rf, qm.rf⟩
  unfold f_X6_worn
  rw [E_has, e6, bo_s]
  rcases piecec x1 hn with ⟨z, z7, -⟩ | ⟨p, hp, rfl, z, z7⟩
  · refine ⟨-1, h, h, by rw [if_pos z], ?_, az0⟩
    unfold f_X7_worn; rw [E_isPiece, e96, bo_s, if_pos z7]
  rw [z, if_neg one_ne, E_within, bo_s]
  rcases rngc x2 (lo := 0) (hi := 1) 0 1 rfl rfl (by omega) (by omega) with ⟨hz, -⟩ | ⟨j, -, hj, rfl, ho⟩
  · refine ⟨-1, h, h, by rw [if_pos hz], ?_, az0⟩
    unfold f_X7_worn; rw [E_isPiece, e96, bo_s, z7, if_neg one_ne, E_in, bo_s, if_pos hz]
  rw [ho, if_neg one_ne]
  have hp6 : p < 6 := by omega
  obtain ⟨g, e, fc⟩ := B1_fitting_L10 (O := O) (dv 6 h) (ns := ns) (N := 61) (i := 3) (p := p) (r := r) (by omega) (by omega) (by omega) hp6 (nI j) 61 0 h FZ (by omega) (by have := FZ_ge; omega) q.qc rfl s.a
  obtain ⟨qg, eg⟩ := q.qm fc
  have c9 : ∀ c, 96 ≤ c → g.1 c = h.1 c := fun c a => fc.1.1 c (SD22_big a)
  have sg : SE7 ns r g := s.b.fr (by rw [c9 96 (by omega)]) (fun c a b => c9 c (by omega))
  have hwas : ∃ v : Nat, v ≤ 99 ∧ (dv 6 h).2 3 p = nI v := by
    obtain ⟨_, _, _, _, _, _, _, _, _, _, _, c12⟩ := q.2.2.2.2.2
    exact (c12 p hp6).2.1
  have hcell : g.1 100 p = (dv 6 h).2 3 p := by rw [← eg]; exact (mv_a g (show 3 < 5 by omega) hp6).symm
  obtain ⟨g2, e2, m2, f2, k31, k32⟩ := B7_worn_L38 (O := O) (dv 6 h) (ns := ns) (p := p) (r := r) hp6 (nI j) (N := 61) (by omega) 61 0 (-5) ((dv 6 h).2 3 p) g FZ (nI (61 - 1)) (by omega) rfl (by have := FZ_ge; omega) qg (by rw [eg, sPut_self]) sg hwas
  refine ⟨fitR (nI j) (fun n => sOb O (core (sPut (dv 6 h) 3 p (nI n))) r ns 0) 61, g, g2, ?_, ?_, g, fc, ⟨m2.trans eg.symm, k31, k32, f2⟩⟩
  · have e' : f_X6_fitting 26 (nI p) 60 (nI j) h = _ := e
    rw [e', bd_s]
  · unfold f_X7_worn
    have e0 : g.1 96 0 = nI n := by rw [c9 96 (by omega)]; exact e96
    rw [E_isPiece, e0, bo_s, z7, if_neg one_ne, E_in, bo_s, ho, if_neg one_ne, gd_b (inb_n hp6 (by omega)), lt_e, cl_n (by omega), hcell]
    refine Eq.trans e2 ?_
    unfold fitR
    rw [Nat.zero_add]
    cases lstP (fun n => sOb O (core (sPut (dv 6 h) 3 p (nI n))) r ns 0) 61 <;> rfl

theorem B7_can_L38 {O : OS} (a : AS) {ns p : Nat} {r : Nat → Int32 × Nat} (hp : p < 6) (what : Int32) {N : Nat} (hN : N ≤ 10) : ∀ (c : Nat) (many : Nat) (low : Int32) (u : Int32) (h : HP) (fuel : Nat) (x : Int32), c ≤ N → x = (if c = 0 then -1 else nI (c - 1)) → c < fuel → QM O h → mv h = sPut a 1 p u → SE7 ns r h → (∃ v : Nat, v ≤ 9 ∧ a.2 1 p = nI v) → ∃ h', f_X7_can_L38 fuel (nI p) what (a.2 1 p) (nI many) low x h = some ((if what = 0 then nI (many + cntP (fun n => sOb O (core (sPut a 1 p (nI n))) r ns 0) c) else (match lstP (fun n => sOb O (core (sPut a 1 p (nI n))) r ns 0) c with | some y => nI y | none => low)), h') ∧ mv h' = a ∧ FM ZC ZJ h h' ∧ h'.1 96 31 = 99999 ∧ h'.1 96 32 = 9999 := by
  intro c
  induction c with
  | zero =>
    intro many low u h fuel x hc hx hf q hm se hv
    obtain ⟨f, rfl⟩ : ∃ f, fuel = f + 1 := ⟨fuel - 1, by omega⟩
    obtain ⟨q1, e1⟩ := QM_put (i := 1) (p := p) (v := a.2 1 p) q (by omega) hp (Or.inr ⟨rfl, hv⟩)
    rw [hm, sPut_put, sPut_self] at e1
    rw [if_pos rfl] at hx
    subst hx
    refine ⟨si h (97 + 1) p (a.2 1 p), ?_, e1, FM.cell (by omega) (by unfold ZC; omega), q1.2.2.1, q1.2.2.2⟩
    rw [f_X7_can_L38, if_pos (by decide), gd_b (inb_n hp (by omega)), lt_e, cl_n (by omega)]
    by_cases z : what = 0
    · rw [if_pos z, if_pos z]; rfl
    · rw [if_neg z, if_neg z]; rfl
  | succ c ih =>
    intro many low u h fuel x hc hx hf q hm se hv
    obtain ⟨f, rfl⟩ : ∃ f, fuel = f + 1 := ⟨fuel - 1, by omega⟩
    rw [if_neg (by omega), Nat.add_sub_cancel] at hx
    subst hx
    obtain ⟨q1, e1⟩ := QM_put (i := 1) (p := p) (v := nI c) q (by omega) hp (Or.inr ⟨rfl, c, by omega, rfl⟩)
    rw [hm, sPut_put] at e1
    have se1 : SE7 ns r (si h (97 + 1) p (nI c)) := se.fr (by rw [si_r (by omega)]) (fun c a b => by rw [si_r (by omega)])
    obtain ⟨g, e, b⟩ := B7_isSeen q1 se1
    rw [e1] at e
    have e' : f_X7_isSeen (si h 98 p (nI c)) = _ := e
    rw [f_X7_can_L38, if_neg (nI_pos (by omega)), gd_b (inb_n hp (by omega)), lt_e, cl_n (show p < 2147483648 by omega), e', bd_s]
    have fr1 : FM ZC ZJ h (si h (97 + 1) p (nI c)) := FM.cell (by omega) (by unfold ZC; omega)
    have fr : FM ZC ZJ h g := fr1.trans b.2.2.2 (fun _ z => z) (fun _ z => z) (fun _ z => z) (fun _ z => z)
    have hnx : nI c + -1 = if c = 0 then -1 else nI (c - 1) := by
      by_cases z : c = 0
      · subst z; rw [if_pos rfl]; exact dn_0
      · rw [if_neg z]
        obtain ⟨d, rfl⟩ : ∃ d, c = d + 1 := ⟨c - 1, by omega⟩
        exact dn_n d
    simp only [cntP, lstP]
    cases hP : sOb O (core (sPut a 1 p (nI c))) r ns 0 with
    | false =>
      obtain ⟨h', k1, k2, k3, k4⟩ := ih many low (nI c) g f (nI c + -1) (by omega) hnx (by omega) (q1.z b) (b.1.trans e1) (se1.bz b) hv
      refine ⟨h', ?_, k2, fr.trans k3 (fun _ z => z) (fun _ z => z) (fun _ z => z) (fun _ z => z), k4⟩
      rw [if_pos (show bI false = 0 from rfl), lt_e, k1]
      cases lstP (fun n => sOb O (core (sPut a 1 p (nI n))) r ns 0) c <;> rfl
    | true =>
      obtain ⟨h', k1, k2, k3, k4⟩ := ih (many + 1) (nI c) (nI c) g f (nI c + -1) (by omega) hnx (by omega) (q1.z b) (b.1.trans e1) (se1.bz b) hv
      refine ⟨h', ?_, k2, fr.trans k3 (fun _ z => z) (fun _ z => z) (fun _ z => z) (fun _ z => z), k4⟩
      rw [if_neg (show ¬ bI true = 0 by decide), lt_e, lt_e, one_n, k1]
      have : many + 1 + cntP (fun n => sOb O (core (sPut a 1 p (nI n))) r ns 0) c = many + (cntP (fun n => sOb O (core (sPut a 1 p (nI n))) r ns 0) c + bN true) := by show _ = many + (_ + 1); omega
      rw [this]
      cases lstP (fun n => sOb O (core (sPut a 1 p (nI n))) r ns 0) c <;> rfl
theorem C_can {O : OS} {h : HP} {ns : Nat} {r : Nat → Int32 × Nat} (q : AQ O h) (s : SEN ns r h) (x1 x2 : Int32) : ∃ r h1 h2, f_X6_can x1 x2 h = some (r, h1) ∧ f_X7_can x1 x2 h1 = some (r, h2) ∧ AZ h h2 := by
  obtain ⟨n, hn, e6, e96⟩ := q.pieces
  obtain ⟨qm, em⟩ := q.qm FC.rf
  have az0 : AZ h h := ⟨h, FC.rf, qm.rf⟩
  unfold f_X6_can
  rw [E_has, e6, bo_s]
  rcases piecec x1 hn with ⟨z, z7, -⟩ | ⟨p, hp, rfl, z, z7⟩
  · refine ⟨-1, h, h, by rw [if_pos z], ?_, az0⟩
    unfold f_X7_can; rw [E_isPiece, e96, bo_s, if_pos z7]
  rw [z, if_neg one_ne, E_within, bo_s]
  rcases rngc x2 (lo := 0) (hi := 1) 0 1 rfl rfl (by omega) (by omega) with ⟨hz, -⟩ | ⟨j, -, hj, rfl, ho⟩
  · refine ⟨-1, h, h, by rw [if_pos hz], ?_, az0⟩
    unfold f_X7_can; rw [E_isPiece, e96, bo_s, z7, if_neg one_ne, E_in, bo_s, if_pos hz]
  rw [ho, if_neg one_ne]
  have hp6 : p < 6 := by omega
  obtain ⟨g, e, fc⟩ := B1_fitting_L10 (O := O) (dv 6 h) (ns := ns) (N := 10) (i := 1) (p := p) (r := r) (by omega) (by omega) (by omega) hp6 (nI j) 10 0 h FZ (by omega) (by have := FZ_ge; omega) q.qc rfl s.a
  obtain ⟨qg, eg⟩ := q.qm fc
  have c9 : ∀ c, 96 ≤ c → g.1 c = h.1 c := fun c a => fc.1.1 c (SD22_big a)
  have sg : SE7 ns r g := s.b.fr (by rw [c9 96 (by omega)]) (fun c a b => c9 c (by omega))
  have hwas : ∃ v : Nat, v ≤ 9 ∧ (dv 6 h).2 1 p = nI v := by
    obtain ⟨_, _, _, _, _, _, _, _, _, _, _, c12⟩ := q.2.2.2.2.2
    exact (c12 p hp6).2.2.1
  have hcell : g.1 98 p = (dv 6 h).2 1 p := by rw [← eg]; exact (mv_a g (show 1 < 5 by omega) hp6).symm
  obtain ⟨g2, e2, m2, f2, k31, k32⟩ := B7_can_L38 (O := O) (dv 6 h) (ns := ns) (p := p) (r := r) hp6 (nI j) (N := 10) (by omega) 10 0 (-5) ((dv 6 h).2 1 p) g FZ (nI (10 - 1)) (by omega) rfl (by have := FZ_ge; omega) qg (by rw [eg, sPut_self]) sg hwas
  refine ⟨fitR (nI j) (fun n => sOb O (core (sPut (dv 6 h) 1 p (nI n))) r ns 0) 10, g, g2, ?_, ?_, g, fc, ⟨m2.trans eg.symm, k31, k32, f2⟩⟩
  · have e' : f_X6_fitting 24 (nI p) 9 (nI j) h = _ := e
    rw [e', bd_s]
  · unfold f_X7_can
    have e0 : g.1 96 0 = nI n := by rw [c9 96 (by omega)]; exact e96
    rw [E_isPiece, e0, bo_s, z7, if_neg one_ne, E_in, bo_s, ho, if_neg one_ne, gd_b (inb_n hp6 (by omega)), lt_e, cl_n (by omega), hcell]
    refine Eq.trans e2 ?_
    unfold fitR
    rw [Nat.zero_add]
    cases lstP (fun n => sOb O (core (sPut (dv 6 h) 1 p (nI n))) r ns 0) 10 <;> rfl
