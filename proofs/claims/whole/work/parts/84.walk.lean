/-! the law, from its entry -/
theorem st_EX {s : State} {b L : Nat} {xs : Nat → Int32} (G : (Jvm.Cond.and given_1 narrow_1).before #[Value.ref b] s = true) (hts : ∀ w ∈ lw_tbl, w.before #[Value.ref b] s = true) (hX : va_X b L xs s s.heap) (hbl : b < s.heap.size) : ∃ adS : Nat → Nat, adS 6 = b ∧ ∀ (ad : Nat → Nat) (α : Nat → ClassId) (D : va_G), EX (ad, α, D, adS, L, xs) (fun q => s.heap.size ≤ q) s s.heap := by
  have hA : ∀ a : Nat, a < s.heap.size → ¬ (fun q : Nat => s.heap.size ≤ q) a := fun a h => Nat.not_le.mpr h
  obtain ⟨t0, e0, T0⟩ := st_A G hA
  obtain ⟨t1, e1, T1⟩ := st_B G hA
  obtain ⟨adK, adV, S, eS⟩ := st_S G hA
  refine ⟨fun k => if k = 0 then t0 else if k = 1 then t1 else if k = 2 then adK 0 else if k = 3 then adK 1 else if k = 4 then adV 0 else if k = 5 then adV 1 else b, rfl, fun ad α D => ⟨⟨va_Zref (hts _ (tin 677 (by decide +kernel))) (hts _ (tin 1 (by decide +kernel))) e0 hA, T0, va_Zref (hts _ (tin 675 (by decide +kernel))) (hts _ (tin 6 (by decide +kernel))) e1 hA, T1⟩, ⟨va_Zof (hts _ (tin 366 (by decide +kernel))) (hts _ (tin 10 (by decide +kernel))) (va_eqt (gv G (by decide +kernel))) hA, ?_⟩, ⟨hX, hbl, hA b hbl⟩, vk_R.of (hts _ (tin 356 (by decide +kernel))) (eS 0 (by decide)), vk_R.of (hts _ (tin 422 (by decide +kernel))) (eS 1 (by decide)), va_Nw.of rfl (hts _ (tin 676 (by decide +kernel))), va_Zqof (hts _ (tin 374 (by decide +kernel))) (hts _ (tin 12 (by decide +kernel))) (gv G (by decide +kernel)) hA⟩⟩
  refine ⟨fun i hi => ?_, fun i j hi hj e => ?_⟩
  · match i, hi with
    | 0, _ => exact S.1 0 (by decide)
    | 1, _ => exact S.1 1 (by decide)
    | i + 2, hi => omega
  · match i, j, hi, hj, e with
    | 0, 0, _, _, _ => rfl
    | 1, 1, _, _, _ => rfl
    | 0, 1, _, _, e => exact S.2 0 1 (by decide) (by decide) e
    | 1, 0, _, _, e => exact S.2 1 0 (by decide) (by decide) e
    | i + 2, _, hi, _, _ => omega
    | _, j + 2, _, hj, _ => omega
theorem wp_at {as : Nat → Nat} {α : Nat → ClassId} {D : va_G} {lo n k : Nat} {c : SC} (hk : k < n) (h : SH[lo + k]? = some c) : (wldP as α D lo n)[k]? = some (as (lo + k), cellE (as, α, D, fun _ => 0, 0, fun _ => 0) h00 (lo + k) c) := by
  unfold wldP
  rw [List.getElem?_mapIdx, List.getElem?_take, if_pos hk, List.getElem?_drop, h]
  rfl
theorem wp_len {as : Nat → Nat} {α : Nat → ClassId} {D : va_G} {lo n : Nat} (h : lo + n ≤ SH.length) : (wldP as α D lo n).length = n := by
  unfold wldP
  rw [List.length_mapIdx, List.length_take, List.length_drop]
  omega
/-- the two constructors' cells, side by side, are the world -/
def as2 (a1 a2 : Nat → Nat) : Nat → Nat := fun k => if k < 96 then a1 k else a2 k
set_option maxRecDepth 20000 in
theorem cells_lo (a1 a2 : Nat → Nat) (α : Nat → ClassId) (D : va_G) (adS : Nat → Nat) (L : Nat) (xs : Nat → Int32) : ∀ k, k < 96 → ∀ c, SH[k]? = some c → eqE (a1 k, cellE (a1, α, D, fun _ => 0, 0, fun _ => 0) h00 k c) (as2 a1 a2 k, cellE (as2 a1 a2, α, D, adS, L, xs) h00 k c) := by
  refine al1 (fun c hc => (Option.some.inj (sh_95.symm.trans hc)) ▸ eqE.of rfl) ?_
  refine al1 (fun c hc => (Option.some.inj (sh_94.symm.trans hc)) ▸ eqE.of rfl) ?_
  refine al1 (fun c hc => (Option.some.inj (sh_93.symm.trans hc)) ▸ eqE.of rfl) ?_
  refine al1 (fun c hc => (Option.some.inj (sh_92.symm.trans hc)) ▸ eqE.of rfl) ?_
  refine al1 (fun c hc => (Option.some.inj (sh_91.symm.trans hc)) ▸ eqE.of rfl) ?_
  refine al1 (fun c hc => (Option.some.inj (sh_90.symm.trans hc)) ▸ eqE.of rfl) ?_
  refine al1 (fun c hc => (Option.some.inj (sh_89.symm.trans hc)) ▸ eqE.of rfl) ?_
  refine al1 (fun c hc => (Option.some.inj (sh_88.symm.trans hc)) ▸ eqE.of rfl) ?_
  refine al1 (fun c hc => (Option.some.inj (sh_87.symm.trans hc)) ▸ eqE.of rfl) ?_
  refine al1 (fun c hc => (Option.some.inj (sh_86.symm.trans hc)) ▸ eqE.of rfl) ?_
  refine al1 (fun c hc => (Option.some.inj (sh_85.symm.trans hc)) ▸ eqE.of rfl) ?_
  refine al1 (fun c hc => (Option.some.inj (sh_84.symm.trans hc)) ▸ eqE.of rfl) ?_
  refine al1 (fun c hc => (Option.some.inj (sh_83.symm.trans hc)) ▸ eqE.q rfl (al1 rfl (al1 rfl (al1 rfl (al1 rfl (al1 rfl (al1 rfl al0))))))) ?_
  refine al1 (fun c hc => (Option.some.inj (sh_82.symm.trans hc)) ▸ eqE.of rfl) ?_
  refine al1 (fun c hc => (Option.some.inj (sh_81.symm.trans hc)) ▸ eqE.of rfl) ?_
  refine al1 (fun c hc => (Option.some.inj (sh_80.symm.trans hc)) ▸ eqE.of rfl) ?_
  refine al1 (fun c hc => (Option.some.inj (sh_79.symm.trans hc)) ▸ eqE.of rfl) ?_
  refine al1 (fun c hc => (Option.some.inj (sh_78.symm.trans hc)) ▸ eqE.of rfl) ?_
  refine al1 (fun c hc => (Option.some.inj (sh_77.symm.trans hc)) ▸ eqE.of rfl) ?_
  refine al1 (fun c hc => (Option.some.inj (sh_76.symm.trans hc)) ▸ eqE.of rfl) ?_
  refine al1 (fun c hc => (Option.some.inj (sh_75.symm.trans hc)) ▸ eqE.of rfl) ?_
  refine al1 (fun c hc => (Option.some.inj (sh_74.symm.trans hc)) ▸ eqE.of rfl) ?_
  refine al1 (fun c hc => (Option.some.inj (sh_73.symm.trans hc)) ▸ eqE.of rfl) ?_
  refine al1 (fun c hc => (Option.some.inj (sh_72.symm.trans hc)) ▸ eqE.of rfl) ?_
  refine al1 (fun c hc => (Option.some.inj (sh_71.symm.trans hc)) ▸ eqE.of rfl) ?_
  refine al1 (fun c hc => (Option.some.inj (sh_70.symm.trans hc)) ▸ eqE.of rfl) ?_
  refine al1 (fun c hc => (Option.some.inj (sh_69.symm.trans hc)) ▸ eqE.of rfl) ?_
  refine al1 (fun c hc => (Option.some.inj (sh_68.symm.trans hc)) ▸ eqE.of rfl) ?_
  refine al1 (fun c hc => (Option.some.inj (sh_67.symm.trans hc)) ▸ eqE.of rfl) ?_
  refine al1 (fun c hc => (Option.some.inj (sh_66.symm.trans hc)) ▸ eqE.of rfl) ?_
  refine al1 (fun c hc => (Option.some.inj (sh_65.symm.trans hc)) ▸ eqE.of rfl) ?_
  refine al1 (fun c hc => (Option.some.inj (sh_64.symm.trans hc)) ▸ eqE.of rfl) ?_
  refine al1 (fun c hc => (Option.some.inj (sh_63.symm.trans hc)) ▸ eqE.of rfl) ?_
  refine al1 (fun c hc => (Option.some.inj (sh_62.symm.trans hc)) ▸ eqE.of rfl) ?_
  refine al1 (fun c hc => (Option.some.inj (sh_61.symm.trans hc)) ▸ eqE.of rfl) ?_
  refine al1 (fun c hc => (Option.some.inj (sh_60.symm.trans hc)) ▸ eqE.of rfl) ?_
  refine al1 (fun c hc => (Option.some.inj (sh_59.symm.trans hc)) ▸ eqE.of rfl) ?_
  refine al1 (fun c hc => (Option.some.inj (sh_58.symm.trans hc)) ▸ eqE.of rfl) ?_
  refine al1 (fun c hc => (Option.some.inj (sh_57.symm.trans hc)) ▸ eqE.of rfl) ?_
  refine al1 (fun c hc => (Option.some.inj (sh_56.symm.trans hc)) ▸ eqE.of rfl) ?_
  refine al1 (fun c hc => (Option.some.inj (sh_55.symm.trans hc)) ▸ eqE.of rfl) ?_
  refine al1 (fun c hc => (Option.some.inj (sh_54.symm.trans hc)) ▸ eqE.of rfl) ?_
  refine al1 (fun c hc => (Option.some.inj (sh_53.symm.trans hc)) ▸ eqE.of rfl) ?_
  refine al1 (fun c hc => (Option.some.inj (sh_52.symm.trans hc)) ▸ eqE.of rfl) ?_
  refine al1 (fun c hc => (Option.some.inj (sh_51.symm.trans hc)) ▸ eqE.of rfl) ?_
  refine al1 (fun c hc => (Option.some.inj (sh_50.symm.trans hc)) ▸ eqE.of rfl) ?_
  refine al1 (fun c hc => (Option.some.inj (sh_49.symm.trans hc)) ▸ eqE.of rfl) ?_
  refine al1 (fun c hc => (Option.some.inj (sh_48.symm.trans hc)) ▸ eqE.q rfl (al1 rfl (al1 rfl (al1 rfl (al1 rfl (al1 rfl (al1 rfl al0))))))) ?_
  refine al1 (fun c hc => (Option.some.inj (sh_47.symm.trans hc)) ▸ eqE.of rfl) ?_
  refine al1 (fun c hc => (Option.some.inj (sh_46.symm.trans hc)) ▸ eqE.of rfl) ?_
  refine al1 (fun c hc => (Option.some.inj (sh_45.symm.trans hc)) ▸ eqE.of rfl) ?_
  refine al1 (fun c hc => (Option.some.inj (sh_44.symm.trans hc)) ▸ eqE.of rfl) ?_
  refine al1 (fun c hc => (Option.some.inj (sh_43.symm.trans hc)) ▸ eqE.of rfl) ?_
  refine al1 (fun c hc => (Option.some.inj (sh_42.symm.trans hc)) ▸ eqE.of rfl) ?_
  refine al1 (fun c hc => (Option.some.inj (sh_41.symm.trans hc)) ▸ eqE.of rfl) ?_
  refine al1 (fun c hc => (Option.some.inj (sh_40.symm.trans hc)) ▸ eqE.of rfl) ?_
  refine al1 (fun c hc => (Option.some.inj (sh_39.symm.trans hc)) ▸ eqE.of rfl) ?_
  refine al1 (fun c hc => (Option.some.inj (sh_38.symm.trans hc)) ▸ eqE.of rfl) ?_
  refine al1 (fun c hc => (Option.some.inj (sh_37.symm.trans hc)) ▸ eqE.of rfl) ?_
  refine al1 (fun c hc => (Option.some.inj (sh_36.symm.trans hc)) ▸ eqE.of rfl) ?_
  refine al1 (fun c hc => (Option.some.inj (sh_35.symm.trans hc)) ▸ eqE.of rfl) ?_
  refine al1 (fun c hc => (Option.some.inj (sh_34.symm.trans hc)) ▸ eqE.of rfl) ?_
  refine al1 (fun c hc => (Option.some.inj (sh_33.symm.trans hc)) ▸ eqE.of rfl) ?_
  refine al1 (fun c hc => (Option.some.inj (sh_32.symm.trans hc)) ▸ eqE.of rfl) ?_
  refine al1 (fun c hc => (Option.some.inj (sh_31.symm.trans hc)) ▸ eqE.of rfl) ?_
  refine al1 (fun c hc => (Option.some.inj (sh_30.symm.trans hc)) ▸ eqE.of rfl) ?_
  refine al1 (fun c hc => (Option.some.inj (sh_29.symm.trans hc)) ▸ eqE.of rfl) ?_
  refine al1 (fun c hc => (Option.some.inj (sh_28.symm.trans hc)) ▸ eqE.of rfl) ?_
  refine al1 (fun c hc => (Option.some.inj (sh_27.symm.trans hc)) ▸ eqE.of rfl) ?_
  refine al1 (fun c hc => (Option.some.inj (sh_26.symm.trans hc)) ▸ eqE.of rfl) ?_
  refine al1 (fun c hc => (Option.some.inj (sh_25.symm.trans hc)) ▸ eqE.of rfl) ?_
  refine al1 (fun c hc => (Option.some.inj (sh_24.symm.trans hc)) ▸ eqE.of rfl) ?_
  refine al1 (fun c hc => (Option.some.inj (sh_23.symm.trans hc)) ▸ eqE.of rfl) ?_
  refine al1 (fun c hc => (Option.some.inj (sh_22.symm.trans hc)) ▸ eqE.of rfl) ?_
  refine al1 (fun c hc => (Option.some.inj (sh_21.symm.trans hc)) ▸ eqE.of rfl) ?_
  refine al1 (fun c hc => (Option.some.inj (sh_20.symm.trans hc)) ▸ eqE.of rfl) ?_
  refine al1 (fun c hc => (Option.some.inj (sh_19.symm.trans hc)) ▸ eqE.of rfl) ?_
  refine al1 (fun c hc => (Option.some.inj (sh_18.symm.trans hc)) ▸ eqE.of rfl) ?_
  refine al1 (fun c hc => (Option.some.inj (sh_17.symm.trans hc)) ▸ eqE.of rfl) ?_
  refine al1 (fun c hc => (Option.some.inj (sh_16.symm.trans hc)) ▸ eqE.of rfl) ?_
  refine al1 (fun c hc => (Option.some.inj (sh_15.symm.trans hc)) ▸ eqE.of rfl) ?_
  refine al1 (fun c hc => (Option.some.inj (sh_14.symm.trans hc)) ▸ eqE.of rfl) ?_
  refine al1 (fun c hc => (Option.some.inj (sh_13.symm.trans hc)) ▸ eqE.of rfl) ?_
  refine al1 (fun c hc => (Option.some.inj (sh_12.symm.trans hc)) ▸ eqE.of rfl) ?_
  refine al1 (fun c hc => (Option.some.inj (sh_11.symm.trans hc)) ▸ eqE.of rfl) ?_
  refine al1 (fun c hc => (Option.some.inj (sh_10.symm.trans hc)) ▸ eqE.of rfl) ?_
  refine al1 (fun c hc => (Option.some.inj (sh_9.symm.trans hc)) ▸ eqE.of rfl) ?_
  refine al1 (fun c hc => (Option.some.inj (sh_8.symm.trans hc)) ▸ eqE.of rfl) ?_
  refine al1 (fun c hc => (Option.some.inj (sh_7.symm.trans hc)) ▸ eqE.of rfl) ?_
  refine al1 (fun c hc => (Option.some.inj (sh_6.symm.trans hc)) ▸ eqE.of rfl) ?_
  refine al1 (fun c hc => (Option.some.inj (sh_5.symm.trans hc)) ▸ eqE.of rfl) ?_
  refine al1 (fun c hc => (Option.some.inj (sh_4.symm.trans hc)) ▸ eqE.of rfl) ?_
  refine al1 (fun c hc => (Option.some.inj (sh_3.symm.trans hc)) ▸ eqE.of rfl) ?_
  refine al1 (fun c hc => (Option.some.inj (sh_2.symm.trans hc)) ▸ eqE.of rfl) ?_
  refine al1 (fun c hc => (Option.some.inj (sh_1.symm.trans hc)) ▸ eqE.of rfl) ?_
  refine al1 (fun c hc => (Option.some.inj (sh_0.symm.trans hc)) ▸ eqE.of rfl) ?_
  exact al0
theorem obj_two {as bs : Nat → Nat} {α : Nat → ClassId} {D D2 : va_G} {g g2 : Nat → Nat} {n n2 : Nat} {x x2 : Nat → Int32} {k ci N : Nat} {ks : List Nat} (hq : as k = bs k) (hN : ks.length = N) (h : ∀ j, j < N → fval as h00 k ci j (ks.getD j 0) = fval bs h00 k ci j (ks.getD j 0)) : (as k, cellE (as, α, D, g, n, x) h00 k (0, ci, ks)) = (bs k, cellE (bs, α, D2, g2, n2, x2) h00 k (0, ci, ks)) := by
  have e : ks.mapIdx (fun j t => fval as h00 k ci j t) = ks.mapIdx (fun j t => fval bs h00 k ci j t) := by
    apply List.ext_getElem?
    intro i
    rw [List.getElem?_mapIdx, List.getElem?_mapIdx]
    by_cases hi : i < ks.length
    · have h2 := h i (by omega)
      rw [List.getD_eq_getElem?_getD, List.getElem?_eq_getElem hi] at h2
      rw [List.getElem?_eq_getElem hi]
      exact congrArg some h2
    · rw [List.getElem?_eq_none (by omega)]
      rfl
  rw [hq]
  exact congrArg (fun z => (bs k, (.inr (ci, z) : va_E))) e
theorem fv2 {a1 a2 : Nat → Nat} (j t : Nat) (h : t = 2 → 96 ≤ L7.getD j 0) (h3 : t = 0 ∨ t = 2) : fval a2 h00 96 7 j t = fval (as2 a1 a2) h00 96 7 j t := by
  rcases h3 with rfl | rfl
  · rfl
  · have e := h rfl
    show Value.ref (a2 (L7.getD j 0)) = Value.ref (as2 a1 a2 (L7.getD j 0))
    unfold as2
    rw [if_neg (by omega)]
theorem L7_ge : ∀ j : Fin 87, (K7.getD j.val 0 = 2 → 96 ≤ L7.getD j.val 0) ∧ (K7.getD j.val 0 = 0 ∨ K7.getD j.val 0 = 2) := by decide +kernel
set_option maxRecDepth 20000 in
theorem cells_hi (a1 a2 : Nat → Nat) (α : Nat → ClassId) (D : va_G) (adS : Nat → Nat) (L : Nat) (xs : Nat → Int32) : ∀ k, k < 49 → ∀ c, SH[96 + k]? = some c → eqE (a2 (96 + k), cellE (a2, α, D, fun _ => 0, 0, fun _ => 0) h00 (96 + k) c) (as2 a1 a2 (96 + k), cellE (as2 a1 a2, α, D, adS, L, xs) h00 (96 + k) c) := by
  have hobj : ∀ j, j < 87 → fval a2 h00 96 7 j (K7.getD j 0) = fval (as2 a1 a2) h00 96 7 j (K7.getD j 0) := fun j hj => fv2 j _ (L7_ge ⟨j, hj⟩).1 (L7_ge ⟨j, hj⟩).2
  refine al1 (fun c hc => (Option.some.inj (sh_144.symm.trans hc)) ▸ eqE.of rfl) ?_
  refine al1 (fun c hc => (Option.some.inj (sh_143.symm.trans hc)) ▸ eqE.of rfl) ?_
  refine al1 (fun c hc => (Option.some.inj (sh_142.symm.trans hc)) ▸ eqE.of rfl) ?_
  refine al1 (fun c hc => (Option.some.inj (sh_141.symm.trans hc)) ▸ eqE.of rfl) ?_
  refine al1 (fun c hc => (Option.some.inj (sh_140.symm.trans hc)) ▸ eqE.of rfl) ?_
  refine al1 (fun c hc => (Option.some.inj (sh_139.symm.trans hc)) ▸ eqE.of rfl) ?_
  refine al1 (fun c hc => (Option.some.inj (sh_138.symm.trans hc)) ▸ eqE.of rfl) ?_
  refine al1 (fun c hc => (Option.some.inj (sh_137.symm.trans hc)) ▸ eqE.of rfl) ?_
  refine al1 (fun c hc => (Option.some.inj (sh_136.symm.trans hc)) ▸ eqE.of rfl) ?_
  refine al1 (fun c hc => (Option.some.inj (sh_135.symm.trans hc)) ▸ eqE.of rfl) ?_
  refine al1 (fun c hc => (Option.some.inj (sh_134.symm.trans hc)) ▸ eqE.of rfl) ?_
  refine al1 (fun c hc => (Option.some.inj (sh_133.symm.trans hc)) ▸ eqE.of rfl) ?_
  refine al1 (fun c hc => (Option.some.inj (sh_132.symm.trans hc)) ▸ eqE.of rfl) ?_
  refine al1 (fun c hc => (Option.some.inj (sh_131.symm.trans hc)) ▸ eqE.of rfl) ?_
  refine al1 (fun c hc => (Option.some.inj (sh_130.symm.trans hc)) ▸ eqE.of rfl) ?_
  refine al1 (fun c hc => (Option.some.inj (sh_129.symm.trans hc)) ▸ eqE.of rfl) ?_
  refine al1 (fun c hc => (Option.some.inj (sh_128.symm.trans hc)) ▸ eqE.of rfl) ?_
  refine al1 (fun c hc => (Option.some.inj (sh_127.symm.trans hc)) ▸ eqE.of rfl) ?_
  refine al1 (fun c hc => (Option.some.inj (sh_126.symm.trans hc)) ▸ eqE.of rfl) ?_
  refine al1 (fun c hc => (Option.some.inj (sh_125.symm.trans hc)) ▸ eqE.of rfl) ?_
  refine al1 (fun c hc => (Option.some.inj (sh_124.symm.trans hc)) ▸ eqE.of rfl) ?_
  refine al1 (fun c hc => (Option.some.inj (sh_123.symm.trans hc)) ▸ eqE.of rfl) ?_
  refine al1 (fun c hc => (Option.some.inj (sh_122.symm.trans hc)) ▸ eqE.of rfl) ?_
  refine al1 (fun c hc => (Option.some.inj (sh_121.symm.trans hc)) ▸ eqE.of rfl) ?_
  refine al1 (fun c hc => (Option.some.inj (sh_120.symm.trans hc)) ▸ eqE.of rfl) ?_
  refine al1 (fun c hc => (Option.some.inj (sh_119.symm.trans hc)) ▸ eqE.of rfl) ?_
  refine al1 (fun c hc => (Option.some.inj (sh_118.symm.trans hc)) ▸ eqE.of rfl) ?_
  refine al1 (fun c hc => (Option.some.inj (sh_117.symm.trans hc)) ▸ eqE.of rfl) ?_
  refine al1 (fun c hc => (Option.some.inj (sh_116.symm.trans hc)) ▸ eqE.of rfl) ?_
  refine al1 (fun c hc => (Option.some.inj (sh_115.symm.trans hc)) ▸ eqE.of rfl) ?_
  refine al1 (fun c hc => (Option.some.inj (sh_114.symm.trans hc)) ▸ eqE.of rfl) ?_
  refine al1 (fun c hc => (Option.some.inj (sh_113.symm.trans hc)) ▸ eqE.of rfl) ?_
  refine al1 (fun c hc => (Option.some.inj (sh_112.symm.trans hc)) ▸ eqE.of rfl) ?_
  refine al1 (fun c hc => (Option.some.inj (sh_111.symm.trans hc)) ▸ eqE.of rfl) ?_
  refine al1 (fun c hc => (Option.some.inj (sh_110.symm.trans hc)) ▸ eqE.of rfl) ?_
  refine al1 (fun c hc => (Option.some.inj (sh_109.symm.trans hc)) ▸ eqE.of rfl) ?_
  refine al1 (fun c hc => (Option.some.inj (sh_108.symm.trans hc)) ▸ eqE.of rfl) ?_
  refine al1 (fun c hc => (Option.some.inj (sh_107.symm.trans hc)) ▸ eqE.of rfl) ?_
  refine al1 (fun c hc => (Option.some.inj (sh_106.symm.trans hc)) ▸ eqE.of rfl) ?_
  refine al1 (fun c hc => (Option.some.inj (sh_105.symm.trans hc)) ▸ eqE.of rfl) ?_
  refine al1 (fun c hc => (Option.some.inj (sh_104.symm.trans hc)) ▸ eqE.of rfl) ?_
  refine al1 (fun c hc => (Option.some.inj (sh_103.symm.trans hc)) ▸ eqE.of rfl) ?_
  refine al1 (fun c hc => (Option.some.inj (sh_102.symm.trans hc)) ▸ eqE.of rfl) ?_
  refine al1 (fun c hc => (Option.some.inj (sh_101.symm.trans hc)) ▸ eqE.of rfl) ?_
  refine al1 (fun c hc => (Option.some.inj (sh_100.symm.trans hc)) ▸ eqE.of rfl) ?_
  refine al1 (fun c hc => (Option.some.inj (sh_99.symm.trans hc)) ▸ eqE.of rfl) ?_
  refine al1 (fun c hc => (Option.some.inj (sh_98.symm.trans hc)) ▸ eqE.of rfl) ?_
  refine al1 (fun c hc => (Option.some.inj (sh_97.symm.trans hc)) ▸ eqE.of rfl) ?_
  refine al1 (fun c hc => (Option.some.inj (sh_96.symm.trans hc)) ▸ eqE.of (obj_two rfl K7_len hobj)) ?_
  exact al0
theorem sim_all (a1 a2 : Nat → Nat) (α : Nat → ClassId) (D : va_G) (adS : Nat → Nat) (L : Nat) (xs : Nat → Int32) : SimW (([] ++ wldP a1 α D 0 96) ++ wldP a2 α D 96 49) (wld (as2 a1 a2, α, D, adS, L, xs) h00) := by
  have hS : SH.length = 145 := by decide +kernel
  have l1 : (wldP a1 α D 0 96).length = 96 := wp_len (by rw [hS]; decide)
  have l2 : (wldP a2 α D 96 49).length = 49 := wp_len (by rw [hS]; decide)
  rw [List.nil_append]
  refine ⟨?_, fun k y hk => ?_⟩
  · rw [List.length_append, l1, l2]
    unfold wld
    rw [List.length_mapIdx, hS]
  · obtain ⟨c, h1, rfl⟩ := wld_inv _ _ hk
    have hk2 : k < 145 := by
      have := (List.getElem?_eq_some_iff.mp h1).1
      omega
    by_cases h96 : k < 96
    · have e := wp_at (as := a1) (α := α) (D := D) (lo := 0) h96 (by rw [Nat.zero_add]; exact h1)
      rw [Nat.zero_add] at e
      exact ⟨_, by rw [List.getElem?_append_left (by omega)]; exact e, cells_lo a1 a2 α D adS L xs k h96 c h1⟩
    · obtain ⟨i, rfl⟩ : ∃ i, k = 96 + i := ⟨k - 96, by omega⟩
      have e := wp_at (as := a2) (α := α) (D := D) (lo := 96) (k := i) (n := 49) (by omega) h1
      exact ⟨_, by rw [List.getElem?_append_right (by omega), l1, Nat.add_sub_cancel_left]; exact e, cells_hi a1 a2 α D adS L xs i (by omega) c h1⟩
theorem law_pre {D : va_G} {α : Nat → ClassId} (b : Nat) (adS : Nat → Nat) (L : Nat) (xs : Nat → Int32) : RunN mL_law 103 False D α 145 4986 (fun pc lv st w => pc = 18 ∧ st = [] ∧ ∃ as : Nat → Nat, lv = [(3, .int 0), (2, .ref (as 96)), (1, .ref (as 0)), (0, .ref b)] ∧ w = wld (as, α, D, adS, L, xs) h00) 0 [(0, .ref b)] [] [] 0 0 := by
  refine n_new 3 rfl nw_L_7 (Nat.le_of_ble_eq_true rfl) (Nat.le_of_ble_eq_true rfl) (ck DL_law_0 0 rfl) (fun q1 => ?_)
  refine n_dup 4 rfl rfl (ck DL_law_0 1 rfl) ?_
  refine n_init (As := []) 7 rfl (nc_X6 q1) (by decide) ci_L_9 rfl rfl (Nat.le_of_ble_eq_true rfl) (Nat.le_of_ble_eq_true rfl) (Nat.le_of_ble_eq_true rfl) (ck DL_law_0 2 rfl) (fun w1 hw1 => ?_)
  refine Exists.elim hw1 (fun a1 h1 => ?_)
  have e1 := h1.1
  have f1 := h1.2
  clear h1 hw1
  rw [f1]
  subst e1
  refine n_astore_n 8 rfl (ck DL_law_0 3 rfl) (by decide) rfl rfl ?_
  refine n_new 11 rfl nw_L_10 (Nat.le_of_ble_eq_true rfl) (Nat.le_of_ble_eq_true rfl) (ck DL_law_0 4 rfl) (fun q2 => ?_)
  refine n_dup 12 rfl rfl (ck DL_law_0 5 rfl) ?_
  refine n_init (As := []) 15 rfl (nc_X7 q2) (by decide) ci_L_12 rfl rfl (Nat.le_of_ble_eq_true rfl) (Nat.le_of_ble_eq_true rfl) (Nat.le_of_ble_eq_true rfl) (ck DL_law_0 6 rfl) (fun w2 hw2 => ?_)
  refine Exists.elim hw2 (fun a2 h2 => ?_)
  have e2 := h2.1
  have f2 := h2.2
  clear h2 hw2
  rw [f2]
  subst e2
  refine n_astore_n 16 rfl (ck DL_law_0 7 rfl) (by decide) rfl rfl ?_
  refine n_iconst 17 rfl ic_0 (ck DL_law_0 8 rfl) ?_
  refine n_istore_n 18 rfl (ck DL_law_0 9 rfl) (by decide) rfl rfl ?_
  exact n_sim (sim_all a1 a2 α D adS L xs) (n_end ⟨rfl, rfl, as2 a1 a2, rfl, rfl⟩ (Nat.le_refl _) (Nat.le_refl _))
