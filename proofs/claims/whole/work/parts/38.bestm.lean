/-! longest, in the class -/
def bL (s : SR) (k : Nat) : Int32 := match s with
  | none => -5
  | some (j, u) => if k = 3 then (if u ≤ 60 then nI u else -5) else if rK j ≤ k then -5 else nI (rE j k)
theorem B1_longest {O : OS} {h : HP} {n k : Nat} (hn : n ≤ 6) (qc : QC O h) (h0 : (dv 6 h).1 0 = nI n) (hk : k ≤ 3) : ∃ g', f_X6_longest (nI k) h = some (bL (bestS n 2 O (dv 6 h)) k, g') ∧ FC h g' := by
  obtain ⟨wg, w0, d0, hw0, hd0, ew, ed⟩ := qc.2.g
  have hl : ∃ la, la ≤ 99 ∧ O.2.1 = nI la := by obtain ⟨_, oc, _, hO⟩ := qc.1; exact hO.2.2.2.1
  have hw := wv_lt (q := 2) hn wg hl hd0 ed (gN_lash hn wg hl hd0 ed)
  obtain ⟨g, e, fc, p, sb⟩ := B1_bestRow_L8 (q := 2) hn h0 hw 294 0 none h FZ (by omega) (by have := FZ_ge; omega) qc rfl SB_none
  have p7 : g.1 22 7 = nI n := by
    rcases p with p | ⟨p, -⟩
    · exact p
    · omega
  have r2 : rng (nI k) 0 3 = 1 := by
    have : k = 0 ∨ k = 1 ∨ k = 2 ∨ k = 3 := by omega
    rcases this with rfl | rfl | rfl | rfl <;> decide
  have e' : f_X6_bestRow 2 h = some (sB (bestS n 2 O (dv 6 h)), g) := e
  unfold f_X6_longest
  rw [E_within, bo_s, r2, if_neg one_ne, e', bd_s]
  have sb' : SB (wv n 2 O (dv 6 h)) (bestS n 2 O (dv 6 h)) := sb
  by_cases z : k = 3
  · subst z
    rw [if_pos (show nI 3 = 3 from rfl)]
    cases hs : bestS n 2 O (dv 6 h) with
    | none =>
      obtain ⟨g2, e2, fc2⟩ := B1_worth_m1 (qc.fc fc) 2
      refine ⟨g2, ?_, fc.trans fc2⟩
      show bd (f_X6_worth 2 (-1) g) _ = _
      rw [e2, bd_s, if_pos (show (-5 : Int32) ≤ 60 by decide)]; rfl
    | some x =>
      obtain ⟨j, u⟩ := x
      obtain ⟨b1, b2, b3⟩ := sb' j u hs
      obtain ⟨g2, e2, fc2, -⟩ := B1_worth (q := 2) hn h0 b2 (qc.fc fc) fc.d6
      rw [b1] at e2
      refine ⟨g2, ?_, fc.trans fc2⟩
      have e3 : f_X6_worth 2 (nI j) g = some (nI u, g2) := e2
      show bd (f_X6_worth 2 (nI j) g) _ = _
      rw [e3, bd_s]
      unfold bL
      dsimp only
      rw [if_pos (show (3 : Nat) = 3 from rfl)]
      have l60 : nI u ≤ 60 ↔ u ≤ 60 := le_n (b := 60) (by omega) (by omega)
      by_cases y : u ≤ 60
      · rw [if_pos (l60.mpr y), if_pos y]
      · rw [if_neg (fun w => y (l60.mp w)), if_neg y]
  · obtain ⟨g2, e2, fr2⟩ := B1_kth (k := k) hn (by omega) p7 sb' wv_vd
    refine ⟨g2, ?_, fc.trans (FC.fc fr2)⟩
    rw [if_neg (show ¬ nI k = 3 from fun y => z ((eq_n (b := 3) (by omega) (by omega)).mp y))]
    refine Eq.trans e2 ?_
    congr 2
    cases bestS n 2 O (dv 6 h) with
    | none => rfl
    | some x =>
      obtain ⟨j, u⟩ := x
      unfold bR bL
      dsimp only
      rw [if_neg z, if_neg z]
/-! the best row, in the reference -/
def BS (s : SR) (g : HP) : Prop := match s with
  | none => g.1 96 45 = 0
  | some (j, u) => g.1 96 45 = nI (rK j) ∧ g.1 96 46 = nI u ∧ ∀ t, t < rK j → g.1 119 t = nI (rE j t)
theorem BS.fr {s : SR} {g g' : HP} (b : BS s g) (h45 : g'.1 96 45 = g.1 96 45) (h46 : g'.1 96 46 = g.1 96 46) (h119 : g'.1 119 = g.1 119) : BS s g' := by
  unfold BS at b ⊢
  cases s with
  | none => exact h45.trans b
  | some x =>
    obtain ⟨j, u⟩ := x
    exact ⟨h45.trans b.1, h46.trans b.2.1, by rw [h119]; exact b.2.2⟩
theorem BS.k {s : SR} {g g' : HP} (b : BS s g) (f : FM AC AJ g g') : BS s g' := b.fr (f.2.1 45 (by unfold AJ; omega)) (f.2.1 46 (by unfold AJ; omega)) (f.1 119 (by omega) (by unfold AC; omega))
theorem B7_wentThenK {O : OS} {h0 : HP} {c0 : AS} {w0 d0 n : Nat} {g : HP} (hw : w0 ≤ 99999) (hd : d0 ≤ 9999) (hn : n < 300) (h37 : h0.1 96 4 = nI w0) (s : MA O h0 c0 w0 d0 0 g) : ∃ g', f_X7_wentThen (nI n) g = some (nI (gN O n c0), g') ∧ BK h0 g' := by
  obtain ⟨g1, e1, s1⟩ := B7_goDays (n := n) (by omega) s (by omega) (by omega)
  obtain ⟨g2, e2, b1, b2, b3, b4, -⟩ := MA_back s1
  have hw : g1.1 96 4 = nI (w0 + gN O n c0) := (mv_s g1 (show 4 < 6 by omega)).symm.trans s1.1.2.2.2.2.1
  have hk : g1.1 96 37 = nI w0 := (s1.2.1.1 3 (by omega)).trans h37
  refine ⟨g2, ?_, b1, b2, b3, b4⟩
  unfold f_X7_wentThen
  rw [e1, bo_s, lt_e, hw, hk, sub_n (by omega), Nat.add_sub_cancel_left, e2, bo_s]
def W119 (c : Nat) : Prop := c = 119
def J456 (j : Nat) : Prop := j = 45 ∨ j = 46
theorem B7_J100 {i v : Nat} {x3 x4 x5 : Int32} {g : HP} (e3 : x3 = nI (rE i 0)) (e4 : 1 < rK i → x4 = nI (rE i 1)) (e5 : 2 < rK i → x5 = nI (rE i 2)) : ∃ g', f_X7_tries_J100 (nI (rK i)) x3 x4 x5 (nI v) g = some g' ∧ BS (some (i, v)) g' ∧ FM W119 J456 g g' := by
  have c0 : Int32.toNatClampNeg 0 = 0 := by decide
  have c1 : Int32.toNatClampNeg 1 = 1 := by decide
  have c2 : Int32.toNatClampNeg 2 = 2 := by decide
  have k3 := (rK_le i).2
  unfold f_X7_tries_J100
  rw [lt_e, lt_e, gd_b (show inb 0 3 = true by decide), lt_e, gd_b (show inb 1 3 = true by decide), lt_e, gd_b (show inb 2 3 = true by decide), lt_e, c0, c1, c2]
  refine ⟨_, rfl, ⟨?_, ?_, fun t ht => ?_⟩, ?_⟩
  · simp [si_1]
  · simp [si_1]
  · have : t = 0 ∨ t = 1 ∨ t = 2 := by omega
    rcases this with rfl | rfl | rfl
    · simp [si_1]; exact e3
    · simp [si_1]; exact e4 ht
    · simp [si_1]; exact e5 ht
  · have a : FM W119 J456 g (si g 96 45 (nI (rK i))) := FM.place (Or.inl rfl)
    have b : FM W119 J456 (si g 96 45 (nI (rK i))) (si (si g 96 45 (nI (rK i))) 96 46 (nI v)) := FM.place (Or.inr rfl)
    exact (((a.trans b (fun _ z => z) (fun _ z => z) (fun _ z => z) (fun _ z => z)).trans (FM.cell (S := W119) (J := J456) (by omega) rfl) (fun _ z => z) (fun _ z => z) (fun _ z => z) (fun _ z => z)).trans (FM.cell (S := W119) (J := J456) (by omega) rfl) (fun _ z => z) (fun _ z => z) (fun _ z => z) (fun _ z => z)).trans (FM.cell (S := W119) (J := J456) (by omega) rfl) (fun _ z => z) (fun _ z => z) (fun _ z => z) (fun _ z => z)
theorem BZ_J {g g' : HP} (h31 : g.1 96 31 = 99999) (h32 : g.1 96 32 = 9999) (f : FM W119 J456 g g') : BZ g g' := ⟨f.mv (fun c a b z => by unfold W119 at z; omega) (fun j hj z => by unfold J456 at z; omega), (f.2.1 31 (by unfold J456; omega)).trans h31, (f.2.1 32 (by unfold J456; omega)).trans h32, f.mono (fun c z => by unfold W119 at z; unfold ZC; omega) (fun j z => by unfold J456 at z; unfold ZJ; omega)⟩
/-- what is kept of the best so far, and how it goes on -/
theorem B7_upd {n q i v : Nat} {O : OS} {a : AS} {s : SR} {x3 x4 x5 : Int32} {g g0 : HP} (hv : wv n q O a i = some v) (hv6 : v < 1000000) (sb : SB (wv n q O a) s) (bk : BK g0 g) (bs : BS s g) (e3 : x3 = nI (rE i 0)) (e4 : 1 < rK i → x4 = nI (rE i 1)) (e5 : 2 < rK i → x5 = nI (rE i 2)) : ∃ g', (if (1 : Int32) = 0 then (some g) else (if (g.1 96 45) ≤ 0 then (f_X7_tries_J100 (nI (rK i)) x3 x4 x5 (nI v) g) else (if (g.1 96 46) < nI v then (f_X7_tries_J100 (nI (rK i)) x3 x4 x5 (nI v) g) else (some g)))) = some g' ∧ BS (stp (wv n q O a) i s) g' ∧ BZ g0 g' := by
  obtain ⟨g2, e2, b2, f2⟩ := B7_J100 (v := v) (g := g) e3 e4 e5
  have z2 : BZ g0 g2 := bk.z.trans (BZ_J bk.2.1 bk.2.2.1 f2)
  rw [if_neg one_ne, e2]
  unfold stp
  rw [hv]
  cases s with
  | none =>
    have h45 : g.1 96 45 = 0 := bs
    rw [if_pos (by rw [h45]; decide)]
    exact ⟨g2, rfl, b2, z2⟩
  | some x =>
    obtain ⟨j, u⟩ := x
    obtain ⟨c1, c2, c3⟩ := bs
    obtain ⟨d1, d2, d3⟩ := sb j u rfl
    have kj := rK_le j
    dsimp only
    rw [if_neg (show ¬ g.1 96 45 ≤ 0 by rw [c1]; exact fun y => by have := (le_n (b := 0) (by omega) (by omega)).mp y; omega), c2]
    by_cases z : v ≤ u
    · rw [if_neg (by rw [lt_n (by omega) (by omega)]; omega), if_pos z]
      exact ⟨g, rfl, ⟨c1, c2, c3⟩, bk.z⟩
    · rw [if_pos (by rw [lt_n (by omega) (by omega)]; omega), if_neg z]
      exact ⟨g2, rfl, b2, z2⟩
theorem B7_tries {O : OS} {a : AS} {n q i : Nat} {s : SR} {x3 x4 x5 : Int32} {g : HP} (hn : n ≤ 6) (hq : q ≤ 1) (hi : vd n i) (hw : ∀ i v, wv n q O a i = some v → v < 1000000) (qm : QM O g) (ha : mv g = a) (sb : SB (wv n q O a) s) (bs : BS s g) (e3 : x3 = nI (rE i 0)) (e4 : 1 < rK i → x4 = nI (rE i 1)) (e5 : 2 < rK i → x5 = nI (rE i 2)) : ∃ g', f_X7_tries (nI q) (nI (rK i)) x3 x4 x5 g = some g' ∧ BS (stp (wv n q O a) i s) g' ∧ BZ g g' := by
  obtain ⟨w0, d0, g1, hw0, hd0, ew, ed, e, ev, ma⟩ := ask7 qm
  have c0 : Int32.toNatClampNeg 0 = 0 := by decide
  have c1 : Int32.toNatClampNeg 1 = 1 := by decide
  have c2 : Int32.toNatClampNeg 2 = 2 := by decide
  have k3 := (rK_le i).2
  unfold f_X7_tries
  rw [e, bo_s, lt_e, gd_b (show inb 0 3 = true by decide), lt_e, gd_b (show inb 1 3 = true by decide), lt_e, gd_b (show inb 2 3 = true by decide), lt_e, c0, c1, c2]
  generalize hG : si (si (si (si g1 96 1 (nI (rK i))) 103 0 x3) 103 1 x4) 103 2 x5 = G
  have fG : FM (fun c => c = 103) (fun j => j = 1) g1 G := by
    rw [← hG]
    exact (((FM.place (S := fun c => c = 103) (J := fun j => j = 1) rfl).trans (FM.cell (S := fun c => c = 103) (J := fun j => j = 1) (by omega) rfl) (fun _ z => z) (fun _ z => z) (fun _ z => z) (fun _ z => z)).trans (FM.cell (S := fun c => c = 103) (J := fun j => j = 1) (by omega) rfl) (fun _ z => z) (fun _ z => z) (fun _ z => z) (fun _ z => z)).trans (FM.cell (S := fun c => c = 103) (J := fun j => j = 1) (by omega) rfl) (fun _ z => z) (fun _ z => z) (fun _ z => z) (fun _ z => z)
  have hmG : mv G = sLash a i := by
    rw [← ha, ← ev]
    apply mv_lash
    · rw [← hG]; simp [si_1]
    · intro j hj h1; exact fG.2.1 j h1
    · intro j hj
      have : j = 0 ∨ j = 1 ∨ j = 2 := by omega
      rw [← hG]
      rcases this with rfl | rfl | rfl
      · simp [si_1]; exact e3
      · simp [si_1]; exact e4 hj
      · simp [si_1]; exact e5 hj
    · intro c p1 p2; exact fG.1 c (by omega) (by omega)
  have wl : WFG (sLash a i) := WFG_lash (by rw [← ha]; exact qm.2.1.g.1) hn hi
  have mG := MA_mk ma fG (fun _ z => z) (fun j z => by omega) hmG wl ((sLash_s a i (by omega)).trans (by rw [← ha]; exact ew)) ((sLash_s a i (by omega)).trans (by rw [← ha]; exact ed))
  have q01 : q = 0 ∨ q = 1 := by omega
  rcases q01 with rfl | rfl
  · obtain ⟨g2, e2, bk⟩ := B7_wentThenK (n := 10) hw0 hd0 (by omega) ((mv_s g (show 4 < 6 by omega)).symm.trans ew) mG
    have e2' : f_X7_wentThen 10 G = some (nI (gN O 10 (core (sLash a i))), g2) := e2
    rw [if_pos (show nI 0 = 0 from rfl), if_pos (show nI 0 = 0 from rfl), e2', bd_s]
    unfold f_X7_tries_J67
    rw [if_neg (show ¬ nI 0 = 1 by decide)]
    have hv : wv n 0 O a i = some (gN O 10 (core (sLash a i))) := wv_val hi
    exact B7_upd hv (hw i _ hv) sb bk (bs.k bk.2.2.2) e3 e4 e5
  · obtain ⟨g2, e2, fr2⟩ := B7_breaksAt mG.1.1 (by rw [hmG]; exact wl.1)
    have hm2 : mv g2 = mv G := fr2.mv (fun c a b q => by unfold P113 at q; omega) (fun _ _ q => q)
    have hC2 : MD_ O g2 := mG.1.1.fm fr2 (fun c a b q => by unfold P113 at q; omega) (fun q => q)
    obtain ⟨t, ht, et⟩ := sHeight_n wl.1 qm.1.2.2
    obtain ⟨g3, e3', b1, b2, b3, b4⟩ := B7_putBack (h0 := g) (h := g2) (mG.2.1.fm fr2 (fun c a b q => by unfold P113 at q; omega) (fun j a b q => q)) (mG.2.2.trans fr2 (S2 := AC) (J2 := AJ) (fun _ z => z) (fun c z => show AC c by unfold P113 at z; unfold AC; omega) (fun _ z => z) (fun _ z => z.elim))
    have bk : BK g g3 := ⟨b1, b2, b3, (mG.2.2.trans fr2 (S2 := AC) (J2 := AJ) (fun _ z => z) (fun c z => show AC c by unfold P113 at z; unfold AC; omega) (fun _ z => z) (fun _ z => z.elim)).trans b4 (fun _ z => z) (fun c z => show AC c by unfold BC at z; unfold AC; omega) (fun _ z => z) (fun j z => show AJ j by unfold BJ at z; unfold AJ; omega)⟩
    rw [if_neg (show ¬ nI 1 = 0 by decide), e2, bd_s, B7_height hC2 (by rw [hm2, hmG]; exact wl.1), bo_s, bo_s, hm2, hmG, if_neg (show ¬ nI 1 = 0 by decide), if_neg (show ¬ nI 1 = 0 by decide), et]
    have hval := wv_val (q := 1) (O := O) (a := a) hi
    have hvH : wv n 1 O a i = wH O a i := hval
    cases hb : sBrk O (sLash a i) with
    | none =>
      have hv : wv n 1 O a i = some t := by rw [hvH]; unfold wH; rw [hb]; show some (sHeight O (sLash a i)).toNatClampNeg = _; rw [et, cl_n (by omega)]
      rw [if_neg (by decide)]
      unfold f_X7_tries_J67
      rw [if_pos (show nI 1 = 1 from rfl), e3', bo_s]
      exact B7_upd hv (by omega) sb bk (bs.k bk.2.2.2) e3 e4 e5
    | some j =>
      have hv : wv n 1 O a i = none := by rw [hvH]; unfold wH; rw [hb]
      have hj := sBrk_lt hb
      have hk : sK (sLash a i) = rK i := by unfold sK; rw [sLash_1, cl_n (by omega)]
      rw [if_pos (show (0 : Int32) ≤ nI j from (le_n (a := 0) (by omega) (by omega)).mpr (by omega))]
      unfold f_X7_tries_J67
      rw [if_pos (show nI 1 = 1 from rfl), e3', bo_s, if_pos rfl, stp_none hv]
      exact ⟨g3, rfl, bs.k bk.2.2.2, bk.z⟩
/-! the loops over all rows, in the reference -/
def BB (w : Nat → Option Nat) (O : OS) (a : AS) (g0 : HP) (s : SR) (g : HP) : Prop := QM O g ∧ mv g = a ∧ BS s g ∧ SB w s ∧ BZ g0 g
theorem BB.n {w : Nat → Option Nat} {O : OS} {a : AS} {g0 g : HP} {s : SR} {n : Nat} (b : BB w O a g0 s g) (h : a.1 0 = nI n) : g.1 96 0 = nI n := by
  rw [← mv_s g (show 0 < 6 by omega), b.2.1]; exact h
theorem BB_tries {O : OS} {a : AS} {n q i : Nat} {s : SR} {x3 x4 x5 : Int32} {g g0 : HP} (hn : n ≤ 6) (hq : q ≤ 1) (hi : vd n i) (hi2 : i < 294) (hw : ∀ i v, wv n q O a i = some v → v < 1000000) (b : BB (wv n q O a) O a g0 s g) (e3 : x3 = nI (rE i 0)) (e4 : 1 < rK i → x4 = nI (rE i 1)) (e5 : 2 < rK i → x5 = nI (rE i 2)) : ∃ g', f_X7_tries (nI q) (nI (rK i)) x3 x4 x5 g = some g' ∧ BB (wv n q O a) O a g0 (stp (wv n q O a) i s) g' := by
  obtain ⟨b1, b2, b3, b4, b5⟩ := b
  obtain ⟨g', e, bs, bz⟩ := B7_tries hn hq hi hw b1 b2 b4 b3 e3 e4 e5
  exact ⟨g', e, b1.z bz, bz.1.trans b2, bs, SB_stp hw hi2 b4, b5.trans bz⟩
theorem stp_inv {O : OS} {a : AS} {n q i : Nat} (h : ¬ vd n i) (s : SR) : stp (wv n q O a) i s = s := stp_none (wv_inv h) s
theorem dig1 {a m t : Nat} (hm : m < 7) (ht : t < 7) : rA (49 * a + (7 * m + t)) = a ∧ rM (49 * a + (7 * m + t)) = m ∧ rT (49 * a + (7 * m + t)) = t := by
  rw [← Nat.add_assoc]; exact dig hm ht
theorem vd_dig {n a m t : Nat} (hm : m < 7) (ht : t < 7) : vd n (49 * a + (7 * m + t)) ↔ a < n ∧ (m = 0 → t = 0) ∧ m ≠ a + 1 ∧ t ≠ a + 1 ∧ (m = 0 ∨ m ≠ t) ∧ m ≤ n ∧ t ≤ n := by
  obtain ⟨h1, h2, h3⟩ := dig1 (a := a) hm ht
  unfold vd; rw [h1, h2, h3]
theorem rK_dig {a m t : Nat} (hm : m < 7) (ht : t < 7) : rK (49 * a + (7 * m + t)) = if m = 0 then 1 else if t = 0 then 2 else 3 := by
  obtain ⟨h1, h2, h3⟩ := dig1 (a := a) hm ht
  unfold rK; rw [h2, h3]
theorem rE_dig {a m t : Nat} (hm : m < 7) (ht : t < 7) (j : Nat) : rE (49 * a + (7 * m + t)) j = if j = 0 then a else if j = 1 then m - 1 else t - 1 := by
  obtain ⟨h1, h2, h3⟩ := dig1 (a := a) hm ht
  unfold rE; rw [h1, h2, h3]
theorem fo_c {α : Type} {st : Nat → α → α} {c c' i : Nat} {s : α} (h : c = c') : fo st c i s = fo st c' i s := by rw [h]
theorem lay_L54 {O : OS} {a0 : AS} {n q a b : Nat} {g0 : HP} (hn : n ≤ 6) (hq : q ≤ 1) (ha : a < n) (hb : b < n) (hab : b ≠ a) (hn0 : a0.1 0 = nI n) (hw : ∀ i v, wv n q O a0 i = some v → v < 1000000) (rc7 : Int32 → Int32 → HP → Option HP) (rc : Int32 → Int32 → Int32 → HP → Option HP) : ∀ (c' c : Nat) (s : SR) (g : HP) (fuel : Nat), c + c' = n → c' < fuel → BB (wv n q O a0) O a0 g0 s g → ∃ g', f_X7_layBest_L54 rc7 rc fuel (nI q) (nI a) (nI b) (nI c) g = rc (nI q) (nI a) (nI (b + 1)) g' ∧ BB (wv n q O a0) O a0 g0 (fo (stp (wv n q O a0)) c' (49 * a + (7 * (b + 1) + (c + 1))) s) g' := by
  intro c'
  induction c' with
  | zero =>
    intro c s g fuel hc hf bb
    obtain ⟨f, rfl⟩ : ∃ f, fuel = f + 1 := ⟨fuel - 1, by omega⟩
    refine ⟨g, ?_, bb⟩
    rw [f_X7_layBest_L54, bb.n hn0, if_pos (by rw [le_n (by omega) (by omega)]; omega), lt_e, one_n]
  | succ c' ih =>
    intro c s g fuel hc hf bb
    obtain ⟨f, rfl⟩ : ∃ f, fuel = f + 1 := ⟨fuel - 1, by omega⟩
    have hv := vd_dig (n := n) (a := a) (m := b + 1) (t := c + 1) (by omega) (by omega)
    rw [f_X7_layBest_L54, bb.n hn0, if_neg (by rw [le_n (by omega) (by omega)]; omega), one_n]
    show ∃ g', _ ∧ BB _ _ _ _ (fo (stp (wv n q O a0)) c' (49 * a + (7 * (b + 1) + (c + 1)) + 1) (stp (wv n q O a0) (49 * a + (7 * (b + 1) + (c + 1))) s)) g'
    rw [show 49 * a + (7 * (b + 1) + (c + 1)) + 1 = 49 * a + (7 * (b + 1) + (c + 1 + 1)) by omega]
    by_cases z : c = a
    · rw [if_pos (by rw [z]), lt_e, stp_inv (fun y => (hv.mp y).2.2.2.1 (by omega))]
      exact ih (c + 1) s g f (by omega) (by omega) bb
    · rw [if_neg (fun y => z ((eq_n (by omega) (by omega)).mp y))]
      by_cases z2 : c = b
      · rw [if_pos (by rw [z2]), lt_e, stp_inv (fun y => by have := (hv.mp y).2.2.2.2.1; omega)]
        exact ih (c + 1) s g f (by omega) (by omega) bb
      · have hvd : vd n (49 * a + (7 * (b + 1) + (c + 1))) := hv.mpr ⟨ha, by omega, by omega, by omega, by omega, by omega, by omega⟩
        have hK : rK (49 * a + (7 * (b + 1) + (c + 1))) = 3 := by rw [rK_dig (by omega) (by omega), if_neg (by omega), if_neg (by omega)]
        obtain ⟨g1, e1, bb1⟩ := BB_tries (x3 := nI a) (x4 := nI b) (x5 := nI c) hn hq hvd (by omega) hw bb (by rw [rE_dig (by omega) (by omega)]; rfl) (fun _ => by rw [rE_dig (by omega) (by omega)]; rfl) (fun _ => by rw [rE_dig (by omega) (by omega)]; rfl)
        rw [hK] at e1
        have e1' : f_X7_tries (nI q) 3 (nI a) (nI b) (nI c) g = some g1 := e1
        rw [if_neg (fun y => z2 ((eq_n (by omega) (by omega)).mp y)), e1', bo_s, lt_e]
        exact ih (c + 1) _ g1 f (by omega) (by omega) bb1
theorem lay_L26 {O : OS} {a0 : AS} {n q a : Nat} {g0 : HP} (hn : n ≤ 6) (hq : q ≤ 1) (ha : a < n) (hn0 : a0.1 0 = nI n) (hw : ∀ i v, wv n q O a0 i = some v → v < 1000000) (rc7 : Int32 → Int32 → HP → Option HP) : ∀ (c b : Nat) (s : SR) (g : HP) (fuel : Nat), b + c = n → c < fuel → BB (wv n q O a0) O a0 g0 s g → ∃ g', f_X7_layBest_L26 rc7 fuel (nI q) (nI a) (nI b) g = rc7 (nI q) (nI (a + 1)) g' ∧ BB (wv n q O a0) O a0 g0 (fo (stp (wv n q O a0)) (7 * c) (49 * a + 7 * (b + 1)) s) g' := by
  intro c
  induction c with
  | zero =>
    intro b s g fuel hc hf bb
    obtain ⟨f, rfl⟩ : ∃ f, fuel = f + 1 := ⟨fuel - 1, by omega⟩
    refine ⟨g, ?_, bb⟩
    rw [f_X7_layBest_L26, bb.n hn0, if_pos (by rw [le_n (by omega) (by omega)]; omega), lt_e, one_n]
  | succ c ih =>
    intro b s g fuel hc hf bb
    obtain ⟨f, rfl⟩ : ∃ f, fuel = f + 1 := ⟨fuel - 1, by omega⟩
    rw [f_X7_layBest_L26, bb.n hn0, if_neg (by rw [le_n (by omega) (by omega)]; omega)]
    rw [show 7 * (c + 1) = 7 + 7 * c by omega, fo_add, show 49 * a + 7 * (b + 1) + 7 = 49 * a + 7 * (b + 1 + 1) by omega]
    by_cases z : b = a
    · rw [if_pos (by rw [z]), lt_e, one_n]
      have : fo (stp (wv n q O a0)) 7 (49 * a + 7 * (b + 1)) s = s := by
        apply fo_id
        intro j j1 j2 s
        have hv := vd_dig (n := n) (a := a) (m := b + 1) (t := j - (49 * a + 7 * (b + 1))) (by omega) (by omega)
        rw [show 49 * a + (7 * (b + 1) + (j - (49 * a + 7 * (b + 1)))) = j by omega] at hv
        exact stp_inv (fun y => (hv.mp y).2.2.1 (by omega)) s
      rw [this]
      exact ih (b + 1) s g f (by omega) (by omega) bb
    · have hv := vd_dig (n := n) (a := a) (m := b + 1) (t := 0) (by omega) (by omega)
      have hvd : vd n (49 * a + (7 * (b + 1) + 0)) := hv.mpr ⟨ha, by omega, by omega, by omega, by omega, by omega, by omega⟩
      have hK : rK (49 * a + (7 * (b + 1) + 0)) = 2 := by rw [rK_dig (by omega) (by omega), if_neg (by omega), if_pos rfl]
      obtain ⟨g1, e1, bb1⟩ := BB_tries (x3 := nI a) (x4 := nI b) (x5 := 0) hn hq hvd (by omega) hw bb (by rw [rE_dig (by omega) (by omega)]; rfl) (fun _ => by rw [rE_dig (by omega) (by omega)]; rfl) (fun y => by rw [hK] at y; omega)
      rw [hK] at e1
      have e1' : f_X7_tries (nI q) 2 (nI a) (nI b) 0 g = some g1 := e1
      obtain ⟨g2, e2, bb2⟩ := lay_L54 hn hq ha (show b < n by omega) z hn0 hw rc7 (fun z0 z1 z2 z3 => f_X7_layBest_L26 rc7 f z0 z1 z2 z3) n 0 _ g1 FZ (by omega) (by have := FZ_ge; omega) bb1
      rw [if_neg (fun y => z ((eq_n (by omega) (by omega)).mp y)), e1', bo_s]
      have key : fo (stp (wv n q O a0)) 7 (49 * a + 7 * (b + 1)) s = fo (stp (wv n q O a0)) n (49 * a + (7 * (b + 1) + (0 + 1))) (stp (wv n q O a0) (49 * a + (7 * (b + 1) + 0)) s) := by
        rw [fo_c (show 7 = 1 + (n + (6 - n)) by omega), fo_add 1, fo_add n]
        apply fo_id
        intro j j1 j2 s
        have hv := vd_dig (n := n) (a := a) (m := b + 1) (t := j - (49 * a + 7 * (b + 1))) (by omega) (by omega)
        rw [show 49 * a + (7 * (b + 1) + (j - (49 * a + 7 * (b + 1)))) = j by omega] at hv
        exact stp_inv (fun y => by have := (hv.mp y).2.2.2.2.2.2; omega) s
      rw [key]
      obtain ⟨g3, e3, bb3⟩ := ih (b + 1) _ g2 f (by omega) (by omega) bb2
      exact ⟨g3, e2.trans e3, bb3⟩
theorem lay_L7 {O : OS} {a0 : AS} {n q : Nat} {g0 : HP} (hn : n ≤ 6) (hq : q ≤ 1) (hn0 : a0.1 0 = nI n) (hw : ∀ i v, wv n q O a0 i = some v → v < 1000000) : ∀ (c a : Nat) (s : SR) (g : HP) (fuel : Nat), a + c = n → c < fuel → BB (wv n q O a0) O a0 g0 s g → ∃ g', f_X7_layBest_L7 fuel (nI q) (nI a) g = some g' ∧ BB (wv n q O a0) O a0 g0 (fo (stp (wv n q O a0)) (49 * c) (49 * a) s) g' := by
  intro c
  induction c with
  | zero =>
    intro a s g fuel hc hf bb
    obtain ⟨f, rfl⟩ : ∃ f, fuel = f + 1 := ⟨fuel - 1, by omega⟩
    refine ⟨g, ?_, bb⟩
    rw [f_X7_layBest_L7, bb.n hn0, if_pos (by rw [le_n (by omega) (by omega)]; omega)]
  | succ c ih =>
    intro a s g fuel hc hf bb
    obtain ⟨f, rfl⟩ : ∃ f, fuel = f + 1 := ⟨fuel - 1, by omega⟩
    have hv := vd_dig (n := n) (a := a) (m := 0) (t := 0) (by omega) (by omega)
    have hvd : vd n (49 * a + (7 * 0 + 0)) := hv.mpr ⟨by omega, by omega, by omega, by omega, by omega, by omega, by omega⟩
    have hK : rK (49 * a + (7 * 0 + 0)) = 1 := by rw [rK_dig (by omega) (by omega), if_pos rfl]
    obtain ⟨g1, e1, bb1⟩ := BB_tries (x3 := nI a) (x4 := 0) (x5 := 0) hn hq hvd (by omega) hw bb (by rw [rE_dig (by omega) (by omega)]; rfl) (fun y => by rw [hK] at y; omega) (fun y => by rw [hK] at y; omega)
    rw [hK] at e1
    have e1' : f_X7_tries (nI q) 1 (nI a) 0 0 g = some g1 := e1
    obtain ⟨g2, e2, bb2⟩ := lay_L26 hn hq (show a < n by omega) hn0 hw (fun z0 z1 z2 => f_X7_layBest_L7 f z0 z1 z2) n 0 _ g1 FZ (by omega) (by have := FZ_ge; omega) bb1
    rw [f_X7_layBest_L7, bb.n hn0, if_neg (by rw [le_n (by omega) (by omega)]; omega), e1', bo_s]
    have key : fo (stp (wv n q O a0)) 49 (49 * a) s = fo (stp (wv n q O a0)) (7 * n) (49 * a + 7 * (0 + 1)) (stp (wv n q O a0) (49 * a + (7 * 0 + 0)) s) := by
      rw [fo_c (show 49 = 1 + (6 + (7 * n + 7 * (6 - n))) by omega), fo_add 1, fo_add 6, fo_add (7 * n)]
      have s1 : fo (stp (wv n q O a0)) 6 (49 * a + 1) (fo (stp (wv n q O a0)) 1 (49 * a) s) = fo (stp (wv n q O a0)) 1 (49 * a) s := by
        apply fo_id
        intro j j1 j2 s
        have hv := vd_dig (n := n) (a := a) (m := 0) (t := j - 49 * a) (by omega) (by omega)
        rw [show 49 * a + (7 * 0 + (j - 49 * a)) = j by omega] at hv
        exact stp_inv (fun y => by have := (hv.mp y).2.1; omega) s
      rw [s1, show 49 * a + 1 + 6 = 49 * a + 7 * (0 + 1) by omega]
      apply fo_id
      intro j j1 j2 s
      have hv := vd_dig (n := n) (a := a) (m := (j - 49 * a) / 7) (t := (j - 49 * a) % 7) (by omega) (by omega)
      rw [show 49 * a + (7 * ((j - 49 * a) / 7) + (j - 49 * a) % 7) = j by omega] at hv
      exact stp_inv (fun y => by have := (hv.mp y).2.2.2.2.2.1; omega) s
    rw [show 49 * (c + 1) = 49 + 49 * c by omega, fo_add, key, show 49 * a + 49 = 49 * (a + 1) by omega]
    obtain ⟨g3, e3, bb3⟩ := ih (a + 1) _ g2 f (by omega) (by omega) bb2
    exact ⟨g3, e2.trans e3, bb3⟩
theorem B7_best {O : OS} {g : HP} {n q k : Nat} (hn : n ≤ 6) (qm : QM O g) (h0 : (mv g).1 0 = nI n) (hk : k ≤ 3) (hq : q ≤ 1) : ∃ g', f_X7_best (nI q) (nI k) g = some (bR (bestS n q O (mv g)) k, g') ∧ BZ g g' := by
  obtain ⟨wg, w0, d0, hw0, hd0, ew, ed⟩ := qm.2.1.g
  have hl := qm.1.2.2
  have hw := wv_lt (q := q) hn wg hl hd0 ed (gN_lash hn wg hl hd0 ed)
  have f1 : FM W119 J456 g (si g 96 45 0) := FM.place (Or.inl rfl)
  have b1 := BZ_J qm.2.2.1 qm.2.2.2 f1
  have bb : BB (wv n q O (mv g)) O (mv g) g none (si g 96 45 0) := ⟨qm.z b1, b1.1, by show (si g 96 45 0).1 96 45 = 0; rw [si_w, up_s], SB_none, b1⟩
  obtain ⟨g2, e2, bb2⟩ := lay_L7 hn hq h0 hw n 0 none (si g 96 45 0) FZ (by omega) (by have := FZ_ge; omega) bb
  have hs : fo (stp (wv n q O (mv g))) (49 * n) (49 * 0) none = bestS n q O (mv g) := by
    unfold bestS
    rw [show 294 = 49 * n + 49 * (6 - n) by omega, fo_add]
    refine (fo_id _ _ _ (fun j j1 j2 s => ?_)).symm
    have hv := vd_dig (n := n) (a := j / 49) (m := j / 7 % 7) (t := j % 7) (by omega) (by omega)
    rw [show 49 * (j / 49) + (7 * (j / 7 % 7) + j % 7) = j by omega] at hv
    exact stp_inv (fun y => by have := (hv.mp y).1; omega) s
  rw [hs] at bb2
  obtain ⟨c1, c2, c3, c4, c5⟩ := bb2
  have r1 : rng (nI q) 0 1 = 1 := by
    have : q = 0 ∨ q = 1 := by omega
    rcases this with rfl | rfl <;> decide
  have r2 : rng (nI k) 0 3 = 1 := by
    have : k = 0 ∨ k = 1 ∨ k = 2 ∨ k = 3 := by omega
    rcases this with rfl | rfl | rfl | rfl <;> decide
  have e2' : f_X7_layBest (nI q) g = some g2 := e2
  refine ⟨g2, ?_, c5⟩
  unfold f_X7_best
  rw [E_in, bo_s, r1, if_neg one_ne, E_in, bo_s, r2, if_neg one_ne, e2', bo_s]
  have h3 : nI k = 3 ↔ k = 3 := eq_n (b := 3) (by omega) (by omega)
  cases hb : bestS n q O (mv g) with
  | none =>
    rw [hb] at c3
    have h45 : g2.1 96 45 = 0 := c3
    by_cases z : k = 3
    · rw [if_pos (h3.mpr z), if_pos h45]; rfl
    · rw [if_neg (fun y => z (h3.mp y)), h45, if_pos (show (0 : Int32) ≤ nI k from (le_n (a := 0) (by omega) (by omega)).mpr (by omega))]; rfl
  | some x =>
    obtain ⟨j, u⟩ := x
    rw [hb] at c3
    obtain ⟨d1, d2, d3⟩ := c3
    have kj := rK_le j
    unfold bR
    dsimp only
    by_cases z : k = 3
    · rw [if_pos (h3.mpr z), if_neg (by rw [d1]; exact fun y => by have := (eq_n (b := 0) (by omega) (by omega)).mp y; omega), if_pos z, d2]
    · rw [if_neg (fun y => z (h3.mp y)), if_neg z, d1]
      by_cases y : rK j ≤ k
      · rw [if_pos ((le_n (by omega) (by omega)).mpr y), if_pos y]
      · rw [if_neg (fun w => y ((le_n (by omega) (by omega)).mp w)), if_neg y, gd_b (inb_n (by omega) (by omega)), cl_n (by omega), d3 k (by omega)]
theorem C_best {O : OS} {h : HP} (q : AQ O h) (x1 x2 : Int32) : ∃ r h1 h2, f_X6_best x1 x2 h = some (r, h1) ∧ f_X7_best x1 x2 h1 = some (r, h2) ∧ AZ h h2 := by
  rcases rngc x1 (lo := 0) (hi := 1) 0 1 rfl rfl (by omega) (by omega) with ⟨hz, -⟩ | ⟨a, -, ha, rfl, ho⟩
  · refine halves q (fun _ => -1) (fun _ => ⟨h, ?_, FC.rf⟩) (fun g qm => ⟨g, ?_, qm.rf⟩)
    · unfold f_X6_best; rw [E_within, bo_s, hz, if_pos rfl]
    · unfold f_X7_best; rw [E_in, bo_s, hz, if_pos rfl]
  rcases rngc x2 (lo := 0) (hi := 3) 0 3 rfl rfl (by omega) (by omega) with ⟨hz, -⟩ | ⟨k, -, hk, rfl, hp⟩
  · refine halves q (fun _ => -1) (fun _ => ⟨h, ?_, FC.rf⟩) (fun g qm => ⟨g, ?_, qm.rf⟩)
    · unfold f_X6_best; rw [E_within, bo_s, ho, if_neg one_ne, E_within, bo_s, hz, if_pos rfl]
    · unfold f_X7_best; rw [E_in, bo_s, ho, if_neg one_ne, E_in, bo_s, hz, if_pos rfl]
  obtain ⟨n, hn, e6, e96⟩ := q.pieces
  have h0 : (dv 6 h).1 0 = nI n := (dv_s 6 h (show 0 < 6 by omega)).trans e6
  obtain ⟨g, e, fc⟩ := B1_best (q := a) (k := k) hn q.qc h0 hk ha
  obtain ⟨qm, em⟩ := q.qm fc
  obtain ⟨g2, e2, bz⟩ := B7_best (q := a) (k := k) hn qm (by rw [em]; exact h0) hk ha
  rw [em] at e2
  exact ⟨_, g, g2, e, e2, g, fc, bz⟩
