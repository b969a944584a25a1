/-- the law, from its entry to its end -/
theorem whole_start {p : Program} {e : Env} {s : State} {m : MethodId} {below : List Frame} {meth : Method} {c : Code} (l : Launch) (hflags : l.flags = flags0) {b L : Nat} {xs : Nat → Int32} (hL : L ≤ 3072) (C0 : lw_At p s m meth c b L xs) : W p l e room_1 s m #[Value.ref b] below meth c s.heap [] 0 0 (lw_Z below #[Value.ref b] s) (entryFrame m ([Value.ref b] : List Value).toArray 4) := by
  obtain ⟨hx, hb, hr, hml, hown, hts, hX, hbl, hlocks, hgv⟩ := id C0
  obtain ⟨D, α, hK⟩ := st_K hts
  obtain ⟨adS, e6, hE⟩ := st_EX hgv hts hX hbl
  have hw : ∀ w ∈ TBL, w.before #[Value.ref b] s = true := fun w hw => hts w (List.mem_filter.mp hw).1
  have hl := lv_entry ([.ref b]) (n := 4) (Nat.le_of_ble_eq_true rfl)
  rw [lg_entry_eq]
  refine law_pre (D := D) (α := α) b adS L xs p l e room_1 s m #[Value.ref b] below meth c (fun q => s.heap.size ≤ q) (lw_Z below #[Value.ref b] s) ⟨⟨hx, hb, hml, hown, hw⟩, Nat.le_of_ble_eq_true rfl, Nat.le_of_ble_eq_true rfl, fun q h => h, hK, False.elim, st_KO hts⟩ (Nat.le_of_ble_eq_true rfl) (Nat.le_of_ble_eq_true rfl) ?_ s.heap [] _ (fun k q h => by simp at h) ⟨fun i j p q h => by simp at h, fun k q h => by simp at h⟩ va_S.rf hl
  intro H locs ls pcR lvR stR w hF hP hD hS hl9
  obtain ⟨f1, f2, as, f3, f4⟩ := hF
  rw [f4] at hP hD
  rw [f3] at hl9
  rw [f1, f2]
  obtain ⟨h', hf⟩ := law_00 (L := L) (xs := xs) hL
  have hR := A_L_law_L18 (as, α, D, adS, L, xs) 1 h' FZ 0 h00 hf
  refine hR p l e room_1 s m #[Value.ref b] below meth c (fun q => s.heap.size ≤ q) _ _ _ ⟨⟨hx, hb, hml, hown, hw⟩, Nat.le_of_ble_eq_true rfl, Nat.le_of_ble_eq_true rfl, fun q h => h, hE as α D, hK⟩ (Nat.le_of_ble_eq_true rfl) (Nat.le_of_ble_eq_true rfl) ?_ H locs ls ⟨hP, hD, hS⟩ ?_
  · intro H2 locs2 ls2 pc2 i hdg hi hI
    rcases hi with ⟨rfl, v, ty, h1, h2, h3⟩ | ⟨rfl, v, h1, -⟩ | ⟨rfl, h1, -⟩
    · cases h1
      exact W.widen (Nat.le_of_ble_eq_true rfl) (Nat.le_of_ble_eq_true rfl) (va_forget hI.2.2.2.2 (lw_ret hx hb hr hlocks hdg))
    · cases h1
    · cases h1
  · have e7 : (adS 6 : Nat) = b := e6
    refine lv_sub hl9 [3, 2, 1, 0] ?_
    show _ = [(0, Value.ref (adS 6)), (1, Value.ref (as 0)), (2, Value.ref (as 96)), (3, Value.int 0)]
    rw [e7]
    rfl
