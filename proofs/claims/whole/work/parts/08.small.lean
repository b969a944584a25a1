noncomputable section
-- X0_ownerOf
def f_X0_ownerOf_L4 (h : HP) : Nat → Int32 → Int32 → Int32 → Option Int32
  | 0, _, _, _ => none
  | n + 1, x1, x2, x3 => if (7 : Int32) ≤ x3 then (some x2) else (if x2 < 0 then (some x2) else (gd (inb ((3 * x2) + x1) 21) (if (([10, 11, 12, 0, 20, 0, 30, 0, 0, 0, 0, 40, 50, 51, 0, 0, 0, 60, 71, 70, 0] : List Int32).getD (Int32.toNatClampNeg ((3 * x2) + x1)) 0) = 0 then (gd (inb x2 7) (lt ((([-1, 0, 0, 0, 1, 2, 3] : List Int32).getD (Int32.toNatClampNeg x2) 0) : Int32) fun v6 => lt (x3 + 1 : Int32) fun v8 => f_X0_ownerOf_L4 h n x1 v6 v8)) else (some x2))))
set_option maxHeartbeats 4000000 in
set_option maxRecDepth 100000 in
theorem A_X0_ownerOf_L4 (X : XE) (h : HP) (r : Int32) : ∀ (n : Nat) (x1 : Int32) (x2 : Int32) (x3 : Int32), f_X0_ownerOf_L4 h n x1 x2 x3 = some r → Run mX0_ownerOf 1 X 4 [(1, .int x1), (2, .int x2), (3, .int x3)] [] h (some (.int r)) h := by
  intro n
  induction n with
  | zero => intro x1 x2 x3 hf; cases hf
  | succ n ih =>
    intro x1 x2 x3 hf
    rw [f_X0_ownerOf_L4] at hf
    refine r_iload_n 5 rfl 2 rfl rfl (ck DX0_ownerOf_0 4 rfl) ?_
    refine r_bipush 7 rfl bp_7 (ck DX0_ownerOf_0 5 rfl) ?_
    rcases if_so hf with ⟨c1, hf⟩ | ⟨c1, hf⟩
    · refine r_icmp_ge_t 38 (ck DX0_ownerOf_0 6 rfl) (by decide) c1 ?_
      refine r_iload_n 39 rfl 1 rfl rfl (ck DX0_ownerOf_0 23 rfl) ?_
      obtain rfl := so1 hf
      exact r_iret rfl rfl (ck DX0_ownerOf_0 24 rfl)
    · refine r_icmp_ge_f 10 rfl 38 (ck DX0_ownerOf_0 6 rfl) (by decide) c1 ?_
      refine r_iload_n 11 rfl 1 rfl rfl (ck DX0_ownerOf_0 7 rfl) ?_
      rcases if_so hf with ⟨c2, hf⟩ | ⟨c2, hf⟩
      · refine r_if_lt_t 38 (ck DX0_ownerOf_0 8 rfl) (by decide) c2 ?_
        refine r_iload_n 39 rfl 1 rfl rfl (ck DX0_ownerOf_0 23 rfl) ?_
        obtain rfl := so1 hf
        exact r_iret rfl rfl (ck DX0_ownerOf_0 24 rfl)
      · refine r_if_lt_f 14 rfl 38 (ck DX0_ownerOf_0 8 rfl) (by decide) c2 ?_
        refine r_gbo 17 rfl gs_X0_36 (ck DX0_ownerOf_0 9 rfl) ?_
        refine r_iconst 18 rfl ic_3 (ck DX0_ownerOf_0 10 rfl) ?_
        refine r_iload_n 19 rfl 1 rfl rfl (ck DX0_ownerOf_0 11 rfl) ?_
        refine r_imul 20 rfl (ck DX0_ownerOf_0 12 rfl) ?_
        refine r_iload_n 21 rfl 0 rfl rfl (ck DX0_ownerOf_0 13 rfl) ?_
        refine r_iadd 22 rfl (ck DX0_ownerOf_0 14 rfl) ?_
        obtain ⟨b3, hf⟩ := gd_so hf
        refine r_bo 23 rfl (inb_vp b3) (ck DX0_ownerOf_0 15 rfl) ?_
        rcases if_so hf with ⟨c4, hf⟩ | ⟨c4, hf⟩
        · refine r_if_ne_t 26 rfl 38 (ck DX0_ownerOf_0 16 rfl) (by decide) c4 ?_
          refine r_gkn 29 rfl rfl (ck DX0_ownerOf_0 17 rfl) ?_
          refine r_iload_n 30 rfl 1 rfl rfl (ck DX0_ownerOf_0 18 rfl) ?_
          obtain ⟨b5, hf⟩ := gd_so hf
          refine r_ka 31 rfl (inb_vp b5) (ck DX0_ownerOf_0 19 rfl) ?_
          obtain ⟨v6, e7, hf⟩ := lt_so hf
          refine r_top e7 ?_
          refine r_istore_n (lv' := [(2, .int v6), (1, .int x1), (3, .int x3)]) 32 rfl (ck DX0_ownerOf_0 20 rfl) (by decide) rfl rfl ?_
          obtain ⟨v8, e9, hf⟩ := lt_so hf
          refine r_iinc (lv' := [(3, .int v8), (2, .int v6), (1, .int x1)]) 35 rfl 2 (ck DX0_ownerOf_0 21 rfl) rfl (by rw [e9, ic_1]) (by decide) rfl ?_
          refine r_goto 4 (ck DX0_ownerOf_0 22 rfl) (by decide) ?_
          refine r_sub (lv' := [(1, .int x1), (2, .int v6), (3, .int v8)]) [2, 1, 0] rfl ?_
          exact ih x1 v6 v8 hf
        · refine r_if_ne_f 38 (ck DX0_ownerOf_0 16 rfl) (by decide) c4 ?_
          refine r_iload_n 39 rfl 1 rfl rfl (ck DX0_ownerOf_0 23 rfl) ?_
          obtain rfl := so1 hf
          exact r_iret rfl rfl (ck DX0_ownerOf_0 24 rfl)
def f_X0_ownerOf (x0 : Int32) (x1 : Int32) (h : HP) : Option Int32 := f_X0_ownerOf_L4 h FZ x1 x0 0
set_option maxHeartbeats 4000000 in
set_option maxRecDepth 100000 in
theorem A_X0_ownerOf (X : XE) (x0 : Int32) (x1 : Int32) (h : HP) (r : Int32) (hf : f_X0_ownerOf x0 x1 h = some r) : CC mX0_ownerOf 1 X [.int x0, .int x1] h (some (.int r)) h := by
  refine CC_of rfl (Nat.le_of_ble_eq_true rfl) ?_
  show Run mX0_ownerOf 1 X 0 [(0, .int x0), (1, .int x1)] [] h (some (.int r)) h
  unfold f_X0_ownerOf at hf
  refine r_iload_n 1 rfl 0 rfl rfl (ck DX0_ownerOf_0 0 rfl) ?_
  refine r_istore_n (lv' := [(2, .int x0), (0, .int x0), (1, .int x1)]) 2 rfl (ck DX0_ownerOf_0 1 rfl) (by decide) rfl rfl ?_
  refine r_iconst 3 rfl ic_0 (ck DX0_ownerOf_0 2 rfl) ?_
  refine r_istore_n (lv' := [(3, .int 0), (2, .int x0), (0, .int x0), (1, .int x1)]) 4 rfl (ck DX0_ownerOf_0 3 rfl) (by decide) rfl rfl ?_
  refine r_sub (lv' := [(1, .int x1), (2, .int x0), (3, .int 0)]) [3, 1, 0] rfl ?_
  exact A_X0_ownerOf_L4 X h _ FZ x1 x0 0 hf
-- X0_run
def f_X0_run_J53 (rcM : Int32 → Int32 → Int32 → Int32 → HP → Option (Int32 × HP)) (x3 : Int32) (x4 : Int32) (x5 : Int32) (x6 : Int32) (h : HP) : Option (Int32 × HP) := lt (si h 81 1 ((h.1 81 1) + 1)) fun g9 => gd (inb x5 7) (lt ((([-1, 0, 0, 0, 1, 2, 3] : List Int32).getD (Int32.toNatClampNeg x5) 0) : Int32) fun v12 => lt ((x4 + 1) : Int32) fun v14 => if x6 = 10 then (some ((x3 + (g9.1 81 3)), g9)) else (if x6 = 11 then (bd (rcM (g9.1 81 2) 0 x3 v14 g9) fun v20 g18 => some ((v20 - (g18.1 81 4)), g18)) else (if x6 = 12 then (bd (rcM (g9.1 81 2) 1 x3 v14 g9) fun v24 g22 => some ((v24 * 2), g22)) else (if x6 = 20 then (bd (rcM v12 1 x3 v14 g9) fun v28 g26 => some ((v28 ^^^ 6), g26)) else (if x6 = 30 then (bd (rcM v12 0 (x3 * 3) v14 g9) fun v32 g30 => some (v32, g30)) else (if x6 = 40 then (bd (rcM v12 2 x3 v14 g9) fun v36 g34 => bd (rcM (g34.1 81 2) 1 1 v14 g34) fun v39 g37 => some ((v36 + v39), g37)) else (if x6 = 50 then (bd (rcM v12 0 x3 v14 g9) fun v43 g41 => some ((-v43), g41)) else (if x6 = 51 then (bd (rcM v12 1 (x3 + 1) v14 g9) fun v47 g45 => some (v47, g45)) else (if x6 = 60 then (bd (rcM v12 2 (x3 - (g9.1 81 3)) v14 g9) fun v51 g49 => some (v51, g49)) else (if x6 = 70 then (bd (rcM v12 1 x3 v14 g9) fun v55 g53 => bd (rcM v12 0 2 v14 g53) fun v58 g56 => some ((v55 + v58), g56)) else (if x6 = 71 then (bd (rcM v12 0 x3 v14 g9) fun v62 g60 => some ((v62 ^^^ (g60.1 81 4)), g60)) else ((some (0, g9))))))))))))))
set_option maxHeartbeats 4000000 in
set_option maxRecDepth 100000 in
theorem A_X0_run_J53 (X : XE) (rcM : Int32 → Int32 → Int32 → Int32 → HP → Option (Int32 × HP)) (dM : Nat) (hrM : ∀ (a0 : Int32) (a1 : Int32) (a2 : Int32) (a3 : Int32) (h : HP) (r : Int32) (h1 : HP), rcM a0 a1 a2 a3 h = some (r, h1) → CC mX0_run dM X [.ref (X.1 81), .int a0, .int a1, .int a2, .int a3] h (some (.int r)) h1) (r : Int32) (h' : HP) (x3 : Int32) (x4 : Int32) (x5 : Int32) (x6 : Int32) (h : HP) (hf : f_X0_run_J53 rcM x3 x4 x5 x6 h = some (r, h')) : Run mX0_run (dM + 2) X 53 [(0, .ref (X.1 81)), (3, .int x3), (4, .int x4), (5, .int x5), (6, .int x6)] [] h (some (.int r)) h' := by
  unfold f_X0_run_J53 at hf
  refine r_aload_n 54 rfl 0 rfl rfl (ck DX0_run_0 29 rfl) ?_
  refine r_dup 55 rfl rfl (ck DX0_run_0 30 rfl) ?_
  refine r_geti 58 rfl sh_81 kd_0_1 fl_X0_25 (ck DX0_run_0 31 rfl) ?_
  refine r_iconst 59 rfl ic_1 (ck DX0_run_0 32 rfl) ?_
  refine r_iadd 60 rfl (ck DX0_run_0 33 rfl) ?_
  obtain ⟨g9, e10, hf⟩ := lt_so hf
  refine r_puti 63 rfl sh_81 kd_0_1 fw_X0_25 rfl rfl (ck DX0_run_0 34 rfl) ?_
  refine r_heap e10 ?_
  refine r_gkn 66 rfl rfl (ck DX0_run_0 35 rfl) ?_
  refine r_iload 68 rfl 3 rfl (ck DX0_run_0 36 rfl) ?_
  obtain ⟨b11, hf⟩ := gd_so hf
  refine r_ka 69 rfl (inb_vp b11) (ck DX0_run_0 37 rfl) ?_
  obtain ⟨v12, e13, hf⟩ := lt_so hf
  refine r_top e13 ?_
  refine r_istore (lv' := [(7, .int v12), (0, .ref (X.1 81)), (3, .int x3), (4, .int x4), (5, .int x5), (6, .int x6)]) 71 rfl (ck DX0_run_0 38 rfl) (by decide) rfl ?_
  refine r_iload 73 rfl 3 rfl (ck DX0_run_0 39 rfl) ?_
  refine r_iconst 74 rfl ic_1 (ck DX0_run_0 40 rfl) ?_
  refine r_iadd 75 rfl (ck DX0_run_0 41 rfl) ?_
  obtain ⟨v14, e15, hf⟩ := lt_so hf
  refine r_top e15 ?_
  refine r_istore (lv' := [(8, .int v14), (7, .int v12), (0, .ref (X.1 81)), (3, .int x3), (4, .int x4), (5, .int x5), (6, .int x6)]) 77 rfl (ck DX0_run_0 42 rfl) (by decide) rfl ?_
  refine r_iload 79 rfl 6 rfl (ck DX0_run_0 43 rfl) ?_
  rcases if_so hf with ⟨c16, hf⟩ | ⟨c16, hf⟩
  · refine r_lsw 176 (ck DX0_run_0 44 rfl) (by decide) (by rw [c16] <;> decide) (by decide) ?_
    refine r_iload_n 177 rfl 3 rfl rfl (ck DX0_run_0 45 rfl) ?_
    refine r_aload_n 178 rfl 2 rfl rfl (ck DX0_run_0 46 rfl) ?_
    refine r_geti 181 rfl sh_81 kd_0_3 fl_X0_19 (ck DX0_run_0 47 rfl) ?_
    refine r_iadd 182 rfl (ck DX0_run_0 48 rfl) ?_
    obtain ⟨rfl, rfl⟩ := so2 hf
    exact r_iret rfl rfl (ck DX0_run_0 49 rfl)
  · skip
    rcases if_so hf with ⟨c17, hf⟩ | ⟨c17, hf⟩
    · refine r_lsw 183 (ck DX0_run_0 44 rfl) (by decide) (by rw [c17] <;> decide) (by decide) ?_
      refine r_aload_n 184 rfl 2 rfl rfl (ck DX0_run_1 0 rfl) ?_
      refine r_aload_n 185 rfl 2 rfl rfl (ck DX0_run_1 1 rfl) ?_
      refine r_geti 188 rfl sh_81 kd_0_2 fl_X0_15 (ck DX0_run_1 2 rfl) ?_
      refine r_iconst 189 rfl ic_0 (ck DX0_run_1 3 rfl) ?_
      refine r_iload_n 190 rfl 3 rfl rfl (ck DX0_run_1 4 rfl) ?_
      refine r_iload 192 rfl 0 rfl (ck DX0_run_1 5 rfl) ?_
      obtain ⟨v20, g18, e19, hf⟩ := bd_so hf
      refine r_callVi 195 rfl (hrM (g9.1 81 2) 0 x3 v14 g9 v20 g18 e19) (by omega) cw_X0_28 sh_81 cl_0 rfl rfl (Nat.le_of_ble_eq_true rfl) (ck DX0_run_1 6 rfl) ?_
      refine r_aload_n 196 rfl 2 rfl rfl (ck DX0_run_1 7 rfl) ?_
      refine r_geti 199 rfl sh_81 kd_0_4 fl_X0_22 (ck DX0_run_1 8 rfl) ?_
      refine r_isub 200 rfl (ck DX0_run_1 9 rfl) ?_
      obtain ⟨rfl, rfl⟩ := so2 hf
      exact r_iret rfl rfl (ck DX0_run_1 10 rfl)
    · skip
      rcases if_so hf with ⟨c21, hf⟩ | ⟨c21, hf⟩
      · refine r_lsw 201 (ck DX0_run_0 44 rfl) (by decide) (by rw [c21] <;> decide) (by decide) ?_
        refine r_aload_n 202 rfl 2 rfl rfl (ck DX0_run_1 11 rfl) ?_
        refine r_aload_n 203 rfl 2 rfl rfl (ck DX0_run_1 12 rfl) ?_
        refine r_geti 206 rfl sh_81 kd_0_2 fl_X0_15 (ck DX0_run_1 13 rfl) ?_
        refine r_iconst 207 rfl ic_1 (ck DX0_run_1 14 rfl) ?_
        refine r_iload_n 208 rfl 3 rfl rfl (ck DX0_run_1 15 rfl) ?_
        refine r_iload 210 rfl 0 rfl (ck DX0_run_1 16 rfl) ?_
        obtain ⟨v24, g22, e23, hf⟩ := bd_so hf
        refine r_callVi 213 rfl (hrM (g9.1 81 2) 1 x3 v14 g9 v24 g22 e23) (by omega) cw_X0_28 sh_81 cl_0 rfl rfl (Nat.le_of_ble_eq_true rfl) (ck DX0_run_1 17 rfl) ?_
        refine r_iconst 214 rfl ic_2 (ck DX0_run_1 18 rfl) ?_
        refine r_imul 215 rfl (ck DX0_run_1 19 rfl) ?_
        obtain ⟨rfl, rfl⟩ := so2 hf
        exact r_iret rfl rfl (ck DX0_run_1 20 rfl)
      · skip
        rcases if_so hf with ⟨c25, hf⟩ | ⟨c25, hf⟩
        · refine r_lsw 216 (ck DX0_run_0 44 rfl) (by decide) (by rw [c25] <;> decide) (by decide) ?_
          refine r_aload_n 217 rfl 2 rfl rfl (ck DX0_run_1 21 rfl) ?_
          refine r_iload 219 rfl 1 rfl (ck DX0_run_1 22 rfl) ?_
          refine r_iconst 220 rfl ic_1 (ck DX0_run_1 23 rfl) ?_
          refine r_iload_n 221 rfl 3 rfl rfl (ck DX0_run_1 24 rfl) ?_
          refine r_iload 223 rfl 0 rfl (ck DX0_run_1 25 rfl) ?_
          obtain ⟨v28, g26, e27, hf⟩ := bd_so hf
          refine r_callVi 226 rfl (hrM v12 1 x3 v14 g9 v28 g26 e27) (by omega) cw_X0_28 sh_81 cl_0 rfl rfl (Nat.le_of_ble_eq_true rfl) (ck DX0_run_1 26 rfl) ?_
          refine r_bipush 228 rfl bp_6 (ck DX0_run_1 27 rfl) ?_
          refine r_ixor 229 rfl (ck DX0_run_1 28 rfl) ?_
          obtain ⟨rfl, rfl⟩ := so2 hf
          exact r_iret rfl rfl (ck DX0_run_1 29 rfl)
        · skip
          rcases if_so hf with ⟨c29, hf⟩ | ⟨c29, hf⟩
          · refine r_lsw 230 (ck DX0_run_0 44 rfl) (by decide) (by rw [c29] <;> decide) (by decide) ?_
            refine r_aload_n 231 rfl 2 rfl rfl (ck DX0_run_1 30 rfl) ?_
            refine r_iload 233 rfl 1 rfl (ck DX0_run_1 31 rfl) ?_
            refine r_iconst 234 rfl ic_0 (ck DX0_run_1 32 rfl) ?_
            refine r_iload_n 235 rfl 3 rfl rfl (ck DX0_run_1 33 rfl) ?_
            refine r_iconst 236 rfl ic_3 (ck DX0_run_1 34 rfl) ?_
            refine r_imul 237 rfl (ck DX0_run_1 35 rfl) ?_
            refine r_iload 239 rfl 0 rfl (ck DX0_run_1 36 rfl) ?_
            obtain ⟨v32, g30, e31, hf⟩ := bd_so hf
            refine r_callVi 242 rfl (hrM v12 0 (x3 * 3) v14 g9 v32 g30 e31) (by omega) cw_X0_28 sh_81 cl_0 rfl rfl (Nat.le_of_ble_eq_true rfl) (ck DX0_run_1 37 rfl) ?_
            obtain ⟨rfl, rfl⟩ := so2 hf
            exact r_iret rfl rfl (ck DX0_run_1 38 rfl)
          · skip
            rcases if_so hf with ⟨c33, hf⟩ | ⟨c33, hf⟩
            · refine r_lsw 243 (ck DX0_run_0 44 rfl) (by decide) (by rw [c33] <;> decide) (by decide) ?_
              refine r_aload_n 244 rfl 2 rfl rfl (ck DX0_run_1 39 rfl) ?_
              refine r_iload 246 rfl 1 rfl (ck DX0_run_1 40 rfl) ?_
              refine r_iconst 247 rfl ic_2 (ck DX0_run_1 41 rfl) ?_
              refine r_iload_n 248 rfl 3 rfl rfl (ck DX0_run_1 42 rfl) ?_
              refine r_iload 250 rfl 0 rfl (ck DX0_run_1 43 rfl) ?_
              obtain ⟨v36, g34, e35, hf⟩ := bd_so hf
              refine r_callVi 253 rfl (hrM v12 2 x3 v14 g9 v36 g34 e35) (by omega) cw_X0_28 sh_81 cl_0 rfl rfl (Nat.le_of_ble_eq_true rfl) (ck DX0_run_1 44 rfl) ?_
              refine r_aload_n 254 rfl 2 rfl rfl (ck DX0_run_1 45 rfl) ?_
              refine r_aload_n 255 rfl 2 rfl rfl (ck DX0_run_1 46 rfl) ?_
              refine r_geti 258 rfl sh_81 kd_0_2 fl_X0_15 (ck DX0_run_1 47 rfl) ?_
              refine r_iconst 259 rfl ic_1 (ck DX0_run_1 48 rfl) ?_
              refine r_iconst 260 rfl ic_1 (ck DX0_run_1 49 rfl) ?_
              refine r_iload 262 rfl 0 rfl (ck DX0_run_2 0 rfl) ?_
              obtain ⟨v39, g37, e38, hf⟩ := bd_so hf
              refine r_callVi 265 rfl (hrM (g34.1 81 2) 1 1 v14 g34 v39 g37 e38) (by omega) cw_X0_28 sh_81 cl_0 rfl rfl (Nat.le_of_ble_eq_true rfl) (ck DX0_run_2 1 rfl) ?_
              refine r_iadd 266 rfl (ck DX0_run_2 2 rfl) ?_
              obtain ⟨rfl, rfl⟩ := so2 hf
              exact r_iret rfl rfl (ck DX0_run_2 3 rfl)
            · skip
              rcases if_so hf with ⟨c40, hf⟩ | ⟨c40, hf⟩
              · refine r_lsw 267 (ck DX0_run_0 44 rfl) (by decide) (by rw [c40] <;> decide) (by decide) ?_
                refine r_aload_n 268 rfl 2 rfl rfl (ck DX0_run_2 4 rfl) ?_
                refine r_iload 270 rfl 1 rfl (ck DX0_run_2 5 rfl) ?_
                refine r_iconst 271 rfl ic_0 (ck DX0_run_2 6 rfl) ?_
                refine r_iload_n 272 rfl 3 rfl rfl (ck DX0_run_2 7 rfl) ?_
                refine r_iload 274 rfl 0 rfl (ck DX0_run_2 8 rfl) ?_
                obtain ⟨v43, g41, e42, hf⟩ := bd_so hf
                refine r_callVi 277 rfl (hrM v12 0 x3 v14 g9 v43 g41 e42) (by omega) cw_X0_28 sh_81 cl_0 rfl rfl (Nat.le_of_ble_eq_true rfl) (ck DX0_run_2 9 rfl) ?_
                refine r_ineg 278 rfl (ck DX0_run_2 10 rfl) ?_
                obtain ⟨rfl, rfl⟩ := so2 hf
                exact r_iret rfl rfl (ck DX0_run_2 11 rfl)
              · skip
                rcases if_so hf with ⟨c44, hf⟩ | ⟨c44, hf⟩
                · refine r_lsw 279 (ck DX0_run_0 44 rfl) (by decide) (by rw [c44] <;> decide) (by decide) ?_
                  refine r_aload_n 280 rfl 2 rfl rfl (ck DX0_run_2 12 rfl) ?_
                  refine r_iload 282 rfl 1 rfl (ck DX0_run_2 13 rfl) ?_
                  refine r_iconst 283 rfl ic_1 (ck DX0_run_2 14 rfl) ?_
                  refine r_iload_n 284 rfl 3 rfl rfl (ck DX0_run_2 15 rfl) ?_
                  refine r_iconst 285 rfl ic_1 (ck DX0_run_2 16 rfl) ?_
                  refine r_iadd 286 rfl (ck DX0_run_2 17 rfl) ?_
                  refine r_iload 288 rfl 0 rfl (ck DX0_run_2 18 rfl) ?_
                  obtain ⟨v47, g45, e46, hf⟩ := bd_so hf
                  refine r_callVi 291 rfl (hrM v12 1 (x3 + 1) v14 g9 v47 g45 e46) (by omega) cw_X0_28 sh_81 cl_0 rfl rfl (Nat.le_of_ble_eq_true rfl) (ck DX0_run_2 19 rfl) ?_
                  obtain ⟨rfl, rfl⟩ := so2 hf
                  exact r_iret rfl rfl (ck DX0_run_2 20 rfl)
                · skip
                  rcases if_so hf with ⟨c48, hf⟩ | ⟨c48, hf⟩
                  · refine r_lsw 292 (ck DX0_run_0 44 rfl) (by decide) (by rw [c48] <;> decide) (by decide) ?_
                    refine r_aload_n 293 rfl 2 rfl rfl (ck DX0_run_2 21 rfl) ?_
                    refine r_iload 295 rfl 1 rfl (ck DX0_run_2 22 rfl) ?_
                    refine r_iconst 296 rfl ic_2 (ck DX0_run_2 23 rfl) ?_
                    refine r_iload_n 297 rfl 3 rfl rfl (ck DX0_run_2 24 rfl) ?_
                    refine r_aload_n 298 rfl 2 rfl rfl (ck DX0_run_2 25 rfl) ?_
                    refine r_geti 301 rfl sh_81 kd_0_3 fl_X0_19 (ck DX0_run_2 26 rfl) ?_
                    refine r_isub 302 rfl (ck DX0_run_2 27 rfl) ?_
                    refine r_iload 304 rfl 0 rfl (ck DX0_run_2 28 rfl) ?_
                    obtain ⟨v51, g49, e50, hf⟩ := bd_so hf
                    refine r_callVi 307 rfl (hrM v12 2 (x3 - (g9.1 81 3)) v14 g9 v51 g49 e50) (by omega) cw_X0_28 sh_81 cl_0 rfl rfl (Nat.le_of_ble_eq_true rfl) (ck DX0_run_2 29 rfl) ?_
                    obtain ⟨rfl, rfl⟩ := so2 hf
                    exact r_iret rfl rfl (ck DX0_run_2 30 rfl)
                  · skip
                    rcases if_so hf with ⟨c52, hf⟩ | ⟨c52, hf⟩
                    · refine r_lsw 308 (ck DX0_run_0 44 rfl) (by decide) (by rw [c52] <;> decide) (by decide) ?_
                      refine r_aload_n 309 rfl 2 rfl rfl (ck DX0_run_2 31 rfl) ?_
                      refine r_iload 311 rfl 1 rfl (ck DX0_run_2 32 rfl) ?_
                      refine r_iconst 312 rfl ic_1 (ck DX0_run_2 33 rfl) ?_
                      refine r_iload_n 313 rfl 3 rfl rfl (ck DX0_run_2 34 rfl) ?_
                      refine r_iload 315 rfl 0 rfl (ck DX0_run_2 35 rfl) ?_
                      obtain ⟨v55, g53, e54, hf⟩ := bd_so hf
                      refine r_callVi 318 rfl (hrM v12 1 x3 v14 g9 v55 g53 e54) (by omega) cw_X0_28 sh_81 cl_0 rfl rfl (Nat.le_of_ble_eq_true rfl) (ck DX0_run_2 36 rfl) ?_
                      refine r_aload_n 319 rfl 2 rfl rfl (ck DX0_run_2 37 rfl) ?_
                      refine r_iload 321 rfl 1 rfl (ck DX0_run_2 38 rfl) ?_
                      refine r_iconst 322 rfl ic_0 (ck DX0_run_2 39 rfl) ?_
                      refine r_iconst 323 rfl ic_2 (ck DX0_run_2 40 rfl) ?_
                      refine r_iload 325 rfl 0 rfl (ck DX0_run_2 41 rfl) ?_
                      obtain ⟨v58, g56, e57, hf⟩ := bd_so hf
                      refine r_callVi 328 rfl (hrM v12 0 2 v14 g53 v58 g56 e57) (by omega) cw_X0_28 sh_81 cl_0 rfl rfl (Nat.le_of_ble_eq_true rfl) (ck DX0_run_2 42 rfl) ?_
                      refine r_iadd 329 rfl (ck DX0_run_2 43 rfl) ?_
                      obtain ⟨rfl, rfl⟩ := so2 hf
                      exact r_iret rfl rfl (ck DX0_run_2 44 rfl)
                    · skip
                      rcases if_so hf with ⟨c59, hf⟩ | ⟨c59, hf⟩
                      · refine r_lsw 330 (ck DX0_run_0 44 rfl) (by decide) (by rw [c59] <;> decide) (by decide) ?_
                        refine r_aload_n 331 rfl 2 rfl rfl (ck DX0_run_2 45 rfl) ?_
                        refine r_iload 333 rfl 1 rfl (ck DX0_run_2 46 rfl) ?_
                        refine r_iconst 334 rfl ic_0 (ck DX0_run_2 47 rfl) ?_
                        refine r_iload_n 335 rfl 3 rfl rfl (ck DX0_run_2 48 rfl) ?_
                        refine r_iload 337 rfl 0 rfl (ck DX0_run_2 49 rfl) ?_
                        obtain ⟨v62, g60, e61, hf⟩ := bd_so hf
                        refine r_callVi 340 rfl (hrM v12 0 x3 v14 g9 v62 g60 e61) (by omega) cw_X0_28 sh_81 cl_0 rfl rfl (Nat.le_of_ble_eq_true rfl) (ck DX0_run_3 0 rfl) ?_
                        refine r_aload_n 341 rfl 2 rfl rfl (ck DX0_run_3 1 rfl) ?_
                        refine r_geti 344 rfl sh_81 kd_0_4 fl_X0_22 (ck DX0_run_3 2 rfl) ?_
                        refine r_ixor 345 rfl (ck DX0_run_3 3 rfl) ?_
                        obtain ⟨rfl, rfl⟩ := so2 hf
                        exact r_iret rfl rfl (ck DX0_run_3 4 rfl)
                      · skip
                        refine r_lsw 346 (ck DX0_run_0 44 rfl) (by decide) (lsw_d (by intro q hq; simp at hq; rcases hq with rfl | rfl | rfl | rfl | rfl | rfl | rfl | rfl | rfl | rfl | rfl <;> first | exact ne_int c16 | exact ne_int c17 | exact ne_int c21 | exact ne_int c25 | exact ne_int c29 | exact ne_int c33 | exact ne_int c40 | exact ne_int c44 | exact ne_int c48 | exact ne_int c52 | exact ne_int c59)) (by decide) ?_
                        refine r_iconst 347 rfl ic_0 (ck DX0_run_3 5 rfl) ?_
                        obtain ⟨rfl, rfl⟩ := so2 hf
                        exact r_iret rfl rfl (ck DX0_run_3 6 rfl)
def f_X0_run_B (rcM : Int32 → Int32 → Int32 → Int32 → HP → Option (Int32 × HP)) (x1 : Int32) (x2 : Int32) (x3 : Int32) (x4 : Int32) (h : HP) : Option (Int32 × HP) := bo (f_X0_ownerOf x1 x2 h) fun v1 => if v1 < 0 then (some (0, h)) else (if x4 ≤ 40 then (gd (inb ((3 * v1) + x2) 21) (lt ((([10, 11, 12, 0, 20, 0, 30, 0, 0, 0, 0, 40, 50, 51, 0, 0, 0, 60, 71, 70, 0] : List Int32).getD (Int32.toNatClampNeg ((3 * v1) + x2)) 0) : Int32) fun v6 => if (20 : Int32) ≤ (h.1 81 1) then (f_X0_run_J53 rcM x3 x4 v1 v6 h) else (gd (inb (h.1 81 1) 20) (lt (si h 82 (Int32.toNatClampNeg (h.1 81 1)) v6) fun g64 => f_X0_run_J53 rcM x3 x4 v1 v6 g64)))) else (some (0, h)))
set_option maxHeartbeats 4000000 in
set_option maxRecDepth 100000 in
theorem A_X0_run_B (X : XE) (rcM : Int32 → Int32 → Int32 → Int32 → HP → Option (Int32 × HP)) (dM : Nat) (hrM : ∀ (a0 : Int32) (a1 : Int32) (a2 : Int32) (a3 : Int32) (h : HP) (r : Int32) (h1 : HP), rcM a0 a1 a2 a3 h = some (r, h1) → CC mX0_run dM X [.ref (X.1 81), .int a0, .int a1, .int a2, .int a3] h (some (.int r)) h1) (x1 : Int32) (x2 : Int32) (x3 : Int32) (x4 : Int32) (h : HP) (r : Int32) (h' : HP) (hf : f_X0_run_B rcM x1 x2 x3 x4 h = some (r, h')) : CC mX0_run (dM + 2) X [.ref (X.1 81), .int x1, .int x2, .int x3, .int x4] h (some (.int r)) h' := by
  refine CC_of rfl (Nat.le_of_ble_eq_true rfl) ?_
  show Run mX0_run (dM + 2) X 0 [(0, .ref (X.1 81)), (1, .int x1), (2, .int x2), (3, .int x3), (4, .int x4)] [] h (some (.int r)) h'
  unfold f_X0_run_B at hf
  refine r_iload_n 1 rfl 1 rfl rfl (ck DX0_run_0 0 rfl) ?_
  refine r_iload_n 2 rfl 2 rfl rfl (ck DX0_run_0 1 rfl) ?_
  obtain ⟨v1, e2, hf⟩ := bo_so hf
  refine r_callSi 5 rfl (A_X0_ownerOf X x1 x2 h v1 e2) (by omega) cs_X0_32 rfl rfl (Nat.le_of_ble_eq_true rfl) (ck DX0_run_0 2 rfl) ?_
  refine r_istore (lv' := [(5, .int v1), (0, .ref (X.1 81)), (1, .int x1), (2, .int x2), (3, .int x3), (4, .int x4)]) 7 rfl (ck DX0_run_0 3 rfl) (by decide) rfl ?_
  refine r_iload 9 rfl 0 rfl (ck DX0_run_0 4 rfl) ?_
  rcases if_so hf with ⟨c3, hf⟩ | ⟨c3, hf⟩
  · refine r_if_lt_t 19 (ck DX0_run_0 5 rfl) (by decide) c3 ?_
    refine r_iconst 20 rfl ic_0 (ck DX0_run_0 9 rfl) ?_
    obtain ⟨rfl, rfl⟩ := so2 hf
    exact r_iret rfl rfl (ck DX0_run_0 10 rfl)
  · refine r_if_lt_f 12 rfl 19 (ck DX0_run_0 5 rfl) (by decide) c3 ?_
    refine r_iload 14 rfl 5 rfl (ck DX0_run_0 6 rfl) ?_
    refine r_bipush 16 rfl bp_40 (ck DX0_run_0 7 rfl) ?_
    rcases if_so hf with ⟨c4, hf⟩ | ⟨c4, hf⟩
    · refine r_icmp_le_t 21 (ck DX0_run_0 8 rfl) (by decide) c4 ?_
      refine r_gbo 24 rfl gs_X0_36 (ck DX0_run_0 11 rfl) ?_
      refine r_iconst 25 rfl ic_3 (ck DX0_run_0 12 rfl) ?_
      refine r_iload 27 rfl 0 rfl (ck DX0_run_0 13 rfl) ?_
      refine r_imul 28 rfl (ck DX0_run_0 14 rfl) ?_
      refine r_iload_n 29 rfl 3 rfl rfl (ck DX0_run_0 15 rfl) ?_
      refine r_iadd 30 rfl (ck DX0_run_0 16 rfl) ?_
      obtain ⟨b5, hf⟩ := gd_so hf
      refine r_bo 31 rfl (inb_vp b5) (ck DX0_run_0 17 rfl) ?_
      obtain ⟨v6, e7, hf⟩ := lt_so hf
      refine r_top e7 ?_
      refine r_istore (lv' := [(6, .int v6), (5, .int v1), (0, .ref (X.1 81)), (1, .int x1), (2, .int x2), (3, .int x3), (4, .int x4)]) 33 rfl (ck DX0_run_0 18 rfl) (by decide) rfl ?_
      refine r_aload_n 34 rfl 2 rfl rfl (ck DX0_run_0 19 rfl) ?_
      refine r_geti 37 rfl sh_81 kd_0_1 fl_X0_25 (ck DX0_run_0 20 rfl) ?_
      refine r_bipush 39 rfl bp_20 (ck DX0_run_0 21 rfl) ?_
      rcases if_so hf with ⟨c8, hf⟩ | ⟨c8, hf⟩
      · refine r_icmp_ge_t 53 (ck DX0_run_0 22 rfl) (by decide) c8 ?_
        refine r_sub (lv' := [(0, .ref (X.1 81)), (3, .int x3), (4, .int x4), (5, .int v1), (6, .int v6)]) [2, 5, 6, 1, 0] rfl ?_
        exact A_X0_run_J53 X rcM dM hrM _ _ x3 x4 v1 v6 h hf
      · refine r_icmp_ge_f 42 rfl 53 (ck DX0_run_0 22 rfl) (by decide) c8 ?_
        refine r_aload_n 43 rfl 2 rfl rfl (ck DX0_run_0 23 rfl) ?_
        refine r_getr (q := 82) 46 rfl (lq_0_0 81) sh_81 kd_0_0 fl_X0_11 (ck DX0_run_0 24 rfl) ?_
        refine r_aload_n 47 rfl 2 rfl rfl (ck DX0_run_0 25 rfl) ?_
        refine r_geti 50 rfl sh_81 kd_0_1 fl_X0_25 (ck DX0_run_0 26 rfl) ?_
        refine r_iload 52 rfl 0 rfl (ck DX0_run_0 27 rfl) ?_
        obtain ⟨b63, hf⟩ := gd_so hf
        obtain ⟨g64, e65, hf⟩ := lt_so hf
        refine r_iast 53 rfl sh_82 (inb_vp b63) (ck DX0_run_0 28 rfl) ?_
        refine r_heap e65 ?_
        refine r_sub (lv' := [(0, .ref (X.1 81)), (3, .int x3), (4, .int x4), (5, .int v1), (6, .int v6)]) [2, 5, 6, 1, 0] rfl ?_
        exact A_X0_run_J53 X rcM dM hrM _ _ x3 x4 v1 v6 g64 hf
    · refine r_icmp_le_f 19 rfl 21 (ck DX0_run_0 8 rfl) (by decide) c4 ?_
      refine r_iconst 20 rfl ic_0 (ck DX0_run_0 9 rfl) ?_
      obtain ⟨rfl, rfl⟩ := so2 hf
      exact r_iret rfl rfl (ck DX0_run_0 10 rfl)
def f_X0_run : Nat → Int32 → Int32 → Int32 → Int32 → HP → Option (Int32 × HP)
  | 0, _, _, _, _, _ => none
  | n + 1, x1, x2, x3, x4, h => f_X0_run_B (f_X0_run n) x1 x2 x3 x4 h
theorem A_X0_run (X : XE) : ∀ (n : Nat) (a0 : Int32) (a1 : Int32) (a2 : Int32) (a3 : Int32) (h : HP) (r : Int32) (h1 : HP), f_X0_run n a0 a1 a2 a3 h = some (r, h1) → CC mX0_run (n * 2) X [.ref (X.1 81), .int a0, .int a1, .int a2, .int a3] h (some (.int r)) h1 := by
  intro n
  induction n with
  | zero => intro a0 a1 a2 a3 h r h1 hf; cases hf
  | succ n ih =>
    intro a0 a1 a2 a3 h r h1 hf
    rw [f_X0_run] at hf
    have q := A_X0_run_B X (f_X0_run n) (n * 2) ih a0 a1 a2 a3 h r h1 hf
    have e : (n + 1) * 2 = n * 2 + 2 := by omega
    rw [e]
    exact q
-- X0_start
def f_X0_start (x1 : Int32) (x2 : Int32) (x3 : Int32) (x4 : Int32) (x5 : Int32) (h : HP) : Option (Int32 × HP) := lt (si h 81 2 x1) fun g1 => lt (si g1 81 3 x2) fun g3 => lt (si g3 81 4 x3) fun g5 => lt (si g5 81 1 0) fun g7 => bd (f_X0_run 50 (g7.1 81 2) x4 x5 0 g7) fun v11 g9 => some (v11, g9)
set_option maxHeartbeats 4000000 in
set_option maxRecDepth 100000 in
theorem A_X0_start (X : XE) (x1 : Int32) (x2 : Int32) (x3 : Int32) (x4 : Int32) (x5 : Int32) (h : HP) (r : Int32) (h' : HP) (hf : f_X0_start x1 x2 x3 x4 x5 h = some (r, h')) : CC mX0_start 101 X [.ref (X.1 81), .int x1, .int x2, .int x3, .int x4, .int x5] h (some (.int r)) h' := by
  refine CC_of rfl (Nat.le_of_ble_eq_true rfl) ?_
  show Run mX0_start 101 X 0 [(0, .ref (X.1 81)), (1, .int x1), (2, .int x2), (3, .int x3), (4, .int x4), (5, .int x5)] [] h (some (.int r)) h'
  unfold f_X0_start at hf
  refine r_aload_n 1 rfl 0 rfl rfl (ck DX0_start_0 0 rfl) ?_
  refine r_iload_n 2 rfl 1 rfl rfl (ck DX0_start_0 1 rfl) ?_
  obtain ⟨g1, e2, hf⟩ := lt_so hf
  refine r_puti 5 rfl sh_81 kd_0_2 fw_X0_15 rfl rfl (ck DX0_start_0 2 rfl) ?_
  refine r_heap e2 ?_
  refine r_aload_n 6 rfl 0 rfl rfl (ck DX0_start_0 3 rfl) ?_
  refine r_iload_n 7 rfl 2 rfl rfl (ck DX0_start_0 4 rfl) ?_
  obtain ⟨g3, e4, hf⟩ := lt_so hf
  refine r_puti 10 rfl sh_81 kd_0_3 fw_X0_19 rfl rfl (ck DX0_start_0 5 rfl) ?_
  refine r_heap e4 ?_
  refine r_aload_n 11 rfl 0 rfl rfl (ck DX0_start_0 6 rfl) ?_
  refine r_iload_n 12 rfl 3 rfl rfl (ck DX0_start_0 7 rfl) ?_
  obtain ⟨g5, e6, hf⟩ := lt_so hf
  refine r_puti 15 rfl sh_81 kd_0_4 fw_X0_22 rfl rfl (ck DX0_start_0 8 rfl) ?_
  refine r_heap e6 ?_
  refine r_aload_n 16 rfl 0 rfl rfl (ck DX0_start_0 9 rfl) ?_
  refine r_iconst 17 rfl ic_0 (ck DX0_start_0 10 rfl) ?_
  obtain ⟨g7, e8, hf⟩ := lt_so hf
  refine r_puti 20 rfl sh_81 kd_0_1 fw_X0_25 rfl rfl (ck DX0_start_0 11 rfl) ?_
  refine r_heap e8 ?_
  refine r_aload_n 21 rfl 0 rfl rfl (ck DX0_start_0 12 rfl) ?_
  refine r_aload_n 22 rfl 0 rfl rfl (ck DX0_start_0 13 rfl) ?_
  refine r_geti 25 rfl sh_81 kd_0_2 fl_X0_15 (ck DX0_start_0 14 rfl) ?_
  refine r_iload 27 rfl 4 rfl (ck DX0_start_0 15 rfl) ?_
  refine r_iload 29 rfl 5 rfl (ck DX0_start_0 16 rfl) ?_
  refine r_iconst 30 rfl ic_0 (ck DX0_start_0 17 rfl) ?_
  obtain ⟨v11, g9, e10, hf⟩ := bd_so hf
  refine r_callVi 33 rfl (A_X0_run X 50 (g7.1 81 2) x4 x5 0 g7 v11 g9 e10) (by omega) cw_X0_28 sh_81 cl_0 rfl rfl (Nat.le_of_ble_eq_true rfl) (ck DX0_start_0 18 rfl) ?_
  obtain ⟨rfl, rfl⟩ := so2 hf
  exact r_iret rfl rfl (ck DX0_start_0 19 rfl)
-- X2_heart
def f_X2_heart_L83 (o : Nat) (q1 : Nat) : Nat → Int32 → Int32 → Int32 → HP → Option (Int32 × HP)
  | 0, _, _, _, _ => none
  | n + 1, x3, x4, x5, h => if (h.1 o 4) ≤ x5 then (some (x3, h)) else (gd (inb x5 100) (lt ((h.1 (o + 1) (Int32.toNatClampNeg x5)) : Int32) fun v25 => if v25 = 33 then (lt ((x4 ^^^ 1) : Int32) fun v28 => lt (x5 + 1 : Int32) fun v30 => f_X2_heart_L83 o q1 n x3 v28 v30 h) else (if v25 = 38 then (lt (((((Int32.toUInt32 x4) >>> ((Int32.toUInt32 1) &&& Int32.toUInt32 31)).toInt32) &&& (x4 ||| (-2))) : Int32) fun v33 => lt (x5 + 1 : Int32) fun v35 => f_X2_heart_L83 o q1 n x3 v33 v35 h) else (if v25 = 59 then (if (x4 &&& 1) = 1 then (gd (inb x5 100) (lt ((x3 + (h.1 (o + 3) (Int32.toNatClampNeg x5))) : Int32) fun v40 => lt ((((Int32.toUInt32 x4) >>> ((Int32.toUInt32 1) &&& Int32.toUInt32 31)).toInt32) : Int32) fun v42 => lt (x5 + 1 : Int32) fun v44 => f_X2_heart_L83 o q1 n v40 v42 v44 h)) else (lt ((x3 + 0) : Int32) fun v46 => lt ((((Int32.toUInt32 x4) >>> ((Int32.toUInt32 1) &&& Int32.toUInt32 31)).toInt32) : Int32) fun v48 => lt (x5 + 1 : Int32) fun v50 => f_X2_heart_L83 o q1 n v46 v48 v50 h)) else (if v25 = 60 then (gd (inb x5 100) (gd (inb (h.1 (o + 2) (Int32.toNatClampNeg x5)) 6) (gd (inb x5 100) (if (h.1 (o + 3) (Int32.toNatClampNeg x5)) ≤ (h.1 (o + 4) (Int32.toNatClampNeg (h.1 (o + 2) (Int32.toNatClampNeg x5)))) then (lt (((x4 <<< (1 &&& 31)) ||| 0) : Int32) fun v57 => lt (x5 + 1 : Int32) fun v59 => f_X2_heart_L83 o q1 n x3 v57 v59 h) else (lt (((x4 <<< (1 &&& 31)) ||| 1) : Int32) fun v61 => lt (x5 + 1 : Int32) fun v63 => f_X2_heart_L83 o q1 n x3 v61 v63 h))))) else (if v25 = 61 then (gd (inb x5 100) (gd (inb (h.1 (o + 2) (Int32.toNatClampNeg x5)) 6) (gd (inb x5 100) (if (h.1 (o + 4) (Int32.toNatClampNeg (h.1 (o + 2) (Int32.toNatClampNeg x5)))) = (h.1 (o + 3) (Int32.toNatClampNeg x5)) then (lt (((x4 <<< (1 &&& 31)) ||| 1) : Int32) fun v70 => lt (x5 + 1 : Int32) fun v72 => f_X2_heart_L83 o q1 n x3 v70 v72 h) else (lt (((x4 <<< (1 &&& 31)) ||| 0) : Int32) fun v74 => lt (x5 + 1 : Int32) fun v76 => f_X2_heart_L83 o q1 n x3 v74 v76 h))))) else (if v25 = 124 then (lt (((((Int32.toUInt32 x4) >>> ((Int32.toUInt32 1) &&& Int32.toUInt32 31)).toInt32) ||| (x4 &&& 1)) : Int32) fun v79 => lt (x5 + 1 : Int32) fun v81 => f_X2_heart_L83 o q1 n x3 v79 v81 h) else ((gd (inb x5 100) (gd (inb (h.1 (o + 2) (Int32.toNatClampNeg x5)) 6) (gd (inb x5 100) (if (h.1 (o + 4) (Int32.toNatClampNeg (h.1 (o + 2) (Int32.toNatClampNeg x5)))) ≤ (h.1 (o + 3) (Int32.toNatClampNeg x5)) then (lt (((x4 <<< (1 &&& 31)) ||| 0) : Int32) fun v87 => lt (x5 + 1 : Int32) fun v89 => f_X2_heart_L83 o q1 n x3 v87 v89 h) else (lt (((x4 <<< (1 &&& 31)) ||| 1) : Int32) fun v91 => lt (x5 + 1 : Int32) fun v93 => f_X2_heart_L83 o q1 n x3 v91 v93 h)))))))))))))
set_option maxHeartbeats 4000000 in
set_option maxRecDepth 100000 in
theorem A_X2_heart_L83 (X : XE) (o : Nat) (ho : OC o) (q1 : Nat) (hq1 : DK q1) (r : Int32) (h' : HP) : ∀ (n : Nat) (x3 : Int32) (x4 : Int32) (x5 : Int32) (h : HP), f_X2_heart_L83 o q1 n x3 x4 x5 h = some (r, h') → Run mX2_heart 1 X 83 [(0, .ref (X.1 o)), (3, .int x3), (4, .int x4), (5, .int x5)] [] h (some (.int r)) h' := by
  intro n
  induction n with
  | zero => intro x3 x4 x5 h hf; cases hf
  | succ n ih =>
    intro x3 x4 x5 h hf
    rw [f_X2_heart_L83] at hf
    refine r_iload 85 rfl 3 rfl (ck DX2_heart_1 5 rfl) ?_
    refine r_aload_n 86 rfl 0 rfl rfl (ck DX2_heart_1 6 rfl) ?_
    refine r_geti 89 rfl ho.1 kd_2_4 fl_X2_25 (ck DX2_heart_1 7 rfl) ?_
    rcases if_so hf with ⟨c23, hf⟩ | ⟨c23, hf⟩
    · refine r_icmp_ge_t 339 (ck DX2_heart_1 8 rfl) (by decide) c23 ?_
      refine r_iload_n 340 rfl 1 rfl rfl (ck DX2_heart_3 20 rfl) ?_
      obtain ⟨rfl, rfl⟩ := so2 hf
      exact r_iret rfl rfl (ck DX2_heart_3 21 rfl)
    · refine r_icmp_ge_f 92 rfl 339 (ck DX2_heart_1 8 rfl) (by decide) c23 ?_
      refine r_aload_n 93 rfl 0 rfl rfl (ck DX2_heart_1 9 rfl) ?_
      refine r_getr (q := o + 1) 96 rfl (lq_2_0 o) ho.1 kd_2_0 fl_X2_9 (ck DX2_heart_1 10 rfl) ?_
      refine r_iload 98 rfl 3 rfl (ck DX2_heart_1 11 rfl) ?_
      obtain ⟨b24, hf⟩ := gd_so hf
      refine r_iald 99 rfl ho.2.1 (inb_vp b24) (ck DX2_heart_1 12 rfl) ?_
      obtain ⟨v25, e26, hf⟩ := lt_so hf
      refine r_top e26 ?_
      rcases if_so hf with ⟨c27, hf⟩ | ⟨c27, hf⟩
      · refine r_lsw 156 (ck DX2_heart_1 13 rfl) (by decide) (by rw [c27] <;> decide) (by decide) ?_
        refine r_iload 158 rfl 2 rfl (ck DX2_heart_1 14 rfl) ?_
        refine r_iconst 159 rfl ic_1 (ck DX2_heart_1 15 rfl) ?_
        refine r_ixor 160 rfl (ck DX2_heart_1 16 rfl) ?_
        obtain ⟨v28, e29, hf⟩ := lt_so hf
        refine r_top e29 ?_
        refine r_istore (lv' := [(4, .int v28), (0, .ref (X.1 o)), (3, .int x3), (5, .int x5)]) 162 rfl (ck DX2_heart_1 17 rfl) (by decide) rfl ?_
        refine r_goto 333 (ck DX2_heart_1 18 rfl) (by decide) ?_
        obtain ⟨v30, e31, hf⟩ := lt_so hf
        refine r_iinc (lv' := [(5, .int v30), (4, .int v28), (0, .ref (X.1 o)), (3, .int x3)]) 336 rfl 3 (ck DX2_heart_3 18 rfl) rfl (by rw [e31, ic_1]) (by decide) rfl ?_
        refine r_goto 83 (ck DX2_heart_3 19 rfl) (by decide) ?_
        refine r_sub (lv' := [(0, .ref (X.1 o)), (3, .int x3), (4, .int v28), (5, .int v30)]) [2, 3, 1, 0] rfl ?_
        exact ih x3 v28 v30 h hf
      · skip
        rcases if_so hf with ⟨c32, hf⟩ | ⟨c32, hf⟩
        · refine r_lsw 165 (ck DX2_heart_1 13 rfl) (by decide) (by rw [c32] <;> decide) (by decide) ?_
          refine r_iload 167 rfl 2 rfl (ck DX2_heart_1 19 rfl) ?_
          refine r_iconst 168 rfl ic_1 (ck DX2_heart_1 20 rfl) ?_
          refine r_iushr 169 rfl (ck DX2_heart_1 21 rfl) ?_
          refine r_iload 171 rfl 2 rfl (ck DX2_heart_1 22 rfl) ?_
          refine r_bipush 173 rfl bp_m2 (ck DX2_heart_1 23 rfl) ?_
          refine r_ior 174 rfl (ck DX2_heart_1 24 rfl) ?_
          refine r_iand 175 rfl (ck DX2_heart_1 25 rfl) ?_
          obtain ⟨v33, e34, hf⟩ := lt_so hf
          refine r_top e34 ?_
          refine r_istore (lv' := [(4, .int v33), (0, .ref (X.1 o)), (3, .int x3), (5, .int x5)]) 177 rfl (ck DX2_heart_1 26 rfl) (by decide) rfl ?_
          refine r_goto 333 (ck DX2_heart_1 27 rfl) (by decide) ?_
          obtain ⟨v35, e36, hf⟩ := lt_so hf
          refine r_iinc (lv' := [(5, .int v35), (4, .int v33), (0, .ref (X.1 o)), (3, .int x3)]) 336 rfl 3 (ck DX2_heart_3 18 rfl) rfl (by rw [e36, ic_1]) (by decide) rfl ?_
          refine r_goto 83 (ck DX2_heart_3 19 rfl) (by decide) ?_
          refine r_sub (lv' := [(0, .ref (X.1 o)), (3, .int x3), (4, .int v33), (5, .int v35)]) [2, 3, 1, 0] rfl ?_
          exact ih x3 v33 v35 h hf
        · skip
          rcases if_so hf with ⟨c37, hf⟩ | ⟨c37, hf⟩
          · refine r_lsw 194 (ck DX2_heart_1 13 rfl) (by decide) (by rw [c37] <;> decide) (by decide) ?_
            refine r_iload_n 195 rfl 1 rfl rfl (ck DX2_heart_1 37 rfl) ?_
            refine r_iload 197 rfl 2 rfl (ck DX2_heart_1 38 rfl) ?_
            refine r_iconst 198 rfl ic_1 (ck DX2_heart_1 39 rfl) ?_
            refine r_iand 199 rfl (ck DX2_heart_1 40 rfl) ?_
            refine r_iconst 200 rfl ic_1 (ck DX2_heart_1 41 rfl) ?_
            rcases if_so hf with ⟨c38, hf⟩ | ⟨c38, hf⟩
            · refine r_icmp_ne_t 203 rfl 213 (ck DX2_heart_1 42 rfl) (by decide) c38 ?_
              refine r_aload_n 204 rfl 0 rfl rfl (ck DX2_heart_1 43 rfl) ?_
              refine r_getr (q := o + 3) 207 rfl (lq_2_2 o) ho.1 kd_2_2 fl_X2_16 (ck DX2_heart_1 44 rfl) ?_
              refine r_iload 209 rfl 3 rfl (ck DX2_heart_1 45 rfl) ?_
              obtain ⟨b39, hf⟩ := gd_so hf
              refine r_iald 210 rfl ho.2.2.2.1 (inb_vp b39) (ck DX2_heart_1 46 rfl) ?_
              refine r_goto 214 (ck DX2_heart_1 47 rfl) (by decide) ?_
              refine r_iadd 215 rfl (ck DX2_heart_1 49 rfl) ?_
              obtain ⟨v40, e41, hf⟩ := lt_so hf
              refine r_top e41 ?_
              refine r_istore_n (lv' := [(3, .int v40), (0, .ref (X.1 o)), (4, .int x4), (5, .int x5)]) 216 rfl (ck DX2_heart_2 0 rfl) (by decide) rfl rfl ?_
              refine r_iload 218 rfl 2 rfl (ck DX2_heart_2 1 rfl) ?_
              refine r_iconst 219 rfl ic_1 (ck DX2_heart_2 2 rfl) ?_
              refine r_iushr 220 rfl (ck DX2_heart_2 3 rfl) ?_
              obtain ⟨v42, e43, hf⟩ := lt_so hf
              refine r_top e43 ?_
              refine r_istore (lv' := [(4, .int v42), (3, .int v40), (0, .ref (X.1 o)), (5, .int x5)]) 222 rfl (ck DX2_heart_2 4 rfl) (by decide) rfl ?_
              refine r_goto 333 (ck DX2_heart_2 5 rfl) (by decide) ?_
              obtain ⟨v44, e45, hf⟩ := lt_so hf
              refine r_iinc (lv' := [(5, .int v44), (4, .int v42), (3, .int v40), (0, .ref (X.1 o))]) 336 rfl 3 (ck DX2_heart_3 18 rfl) rfl (by rw [e45, ic_1]) (by decide) rfl ?_
              refine r_goto 83 (ck DX2_heart_3 19 rfl) (by decide) ?_
              refine r_sub (lv' := [(0, .ref (X.1 o)), (3, .int v40), (4, .int v42), (5, .int v44)]) [3, 2, 1, 0] rfl ?_
              exact ih v40 v42 v44 h hf
            · refine r_icmp_ne_f 213 (ck DX2_heart_1 42 rfl) (by decide) c38 ?_
              refine r_iconst 214 rfl ic_0 (ck DX2_heart_1 48 rfl) ?_
              refine r_iadd 215 rfl (ck DX2_heart_1 49 rfl) ?_
              obtain ⟨v46, e47, hf⟩ := lt_so hf
              refine r_top e47 ?_
              refine r_istore_n (lv' := [(3, .int v46), (0, .ref (X.1 o)), (4, .int x4), (5, .int x5)]) 216 rfl (ck DX2_heart_2 0 rfl) (by decide) rfl rfl ?_
              refine r_iload 218 rfl 2 rfl (ck DX2_heart_2 1 rfl) ?_
              refine r_iconst 219 rfl ic_1 (ck DX2_heart_2 2 rfl) ?_
              refine r_iushr 220 rfl (ck DX2_heart_2 3 rfl) ?_
              obtain ⟨v48, e49, hf⟩ := lt_so hf
              refine r_top e49 ?_
              refine r_istore (lv' := [(4, .int v48), (3, .int v46), (0, .ref (X.1 o)), (5, .int x5)]) 222 rfl (ck DX2_heart_2 4 rfl) (by decide) rfl ?_
              refine r_goto 333 (ck DX2_heart_2 5 rfl) (by decide) ?_
              obtain ⟨v50, e51, hf⟩ := lt_so hf
              refine r_iinc (lv' := [(5, .int v50), (4, .int v48), (3, .int v46), (0, .ref (X.1 o))]) 336 rfl 3 (ck DX2_heart_3 18 rfl) rfl (by rw [e51, ic_1]) (by decide) rfl ?_
              refine r_goto 83 (ck DX2_heart_3 19 rfl) (by decide) ?_
              refine r_sub (lv' := [(0, .ref (X.1 o)), (3, .int v46), (4, .int v48), (5, .int v50)]) [3, 2, 1, 0] rfl ?_
              exact ih v46 v48 v50 h hf
          · skip
            rcases if_so hf with ⟨c52, hf⟩ | ⟨c52, hf⟩
            · refine r_lsw 225 (ck DX2_heart_1 13 rfl) (by decide) (by rw [c52] <;> decide) (by decide) ?_
              refine r_iload 227 rfl 2 rfl (ck DX2_heart_2 6 rfl) ?_
              refine r_iconst 228 rfl ic_1 (ck DX2_heart_2 7 rfl) ?_
              refine r_ishl 229 rfl (ck DX2_heart_2 8 rfl) ?_
              refine r_aload_n 230 rfl 0 rfl rfl (ck DX2_heart_2 9 rfl) ?_
              refine r_getr (q := o + 4) 233 rfl (lq_2_3 o) ho.1 kd_2_3 fl_X2_19 (ck DX2_heart_2 10 rfl) ?_
              refine r_aload_n 234 rfl 0 rfl rfl (ck DX2_heart_2 11 rfl) ?_
              refine r_getr (q := o + 2) 237 rfl (lq_2_1 o) ho.1 kd_2_1 fl_X2_13 (ck DX2_heart_2 12 rfl) ?_
              refine r_iload 239 rfl 3 rfl (ck DX2_heart_2 13 rfl) ?_
              obtain ⟨b53, hf⟩ := gd_so hf
              refine r_iald 240 rfl ho.2.2.1 (inb_vp b53) (ck DX2_heart_2 14 rfl) ?_
              obtain ⟨b54, hf⟩ := gd_so hf
              refine r_iald 241 rfl ho.2.2.2.2 (inb_vp b54) (ck DX2_heart_2 15 rfl) ?_
              refine r_aload_n 242 rfl 0 rfl rfl (ck DX2_heart_2 16 rfl) ?_
              refine r_getr (q := o + 3) 245 rfl (lq_2_2 o) ho.1 kd_2_2 fl_X2_16 (ck DX2_heart_2 17 rfl) ?_
              refine r_iload 247 rfl 3 rfl (ck DX2_heart_2 18 rfl) ?_
              obtain ⟨b55, hf⟩ := gd_so hf
              refine r_iald 248 rfl ho.2.2.2.1 (inb_vp b55) (ck DX2_heart_2 19 rfl) ?_
              rcases if_so hf with ⟨c56, hf⟩ | ⟨c56, hf⟩
              · refine r_icmp_ge_t 255 (ck DX2_heart_2 20 rfl) (by decide) c56 ?_
                refine r_iconst 256 rfl ic_0 (ck DX2_heart_2 23 rfl) ?_
                refine r_ior 257 rfl (ck DX2_heart_2 24 rfl) ?_
                obtain ⟨v57, e58, hf⟩ := lt_so hf
                refine r_top e58 ?_
                refine r_istore (lv' := [(4, .int v57), (0, .ref (X.1 o)), (3, .int x3), (5, .int x5)]) 259 rfl (ck DX2_heart_2 25 rfl) (by decide) rfl ?_
                refine r_goto 333 (ck DX2_heart_2 26 rfl) (by decide) ?_
                obtain ⟨v59, e60, hf⟩ := lt_so hf
                refine r_iinc (lv' := [(5, .int v59), (4, .int v57), (0, .ref (X.1 o)), (3, .int x3)]) 336 rfl 3 (ck DX2_heart_3 18 rfl) rfl (by rw [e60, ic_1]) (by decide) rfl ?_
                refine r_goto 83 (ck DX2_heart_3 19 rfl) (by decide) ?_
                refine r_sub (lv' := [(0, .ref (X.1 o)), (3, .int x3), (4, .int v57), (5, .int v59)]) [2, 3, 1, 0] rfl ?_
                exact ih x3 v57 v59 h hf
              · refine r_icmp_ge_f 251 rfl 255 (ck DX2_heart_2 20 rfl) (by decide) c56 ?_
                refine r_iconst 252 rfl ic_1 (ck DX2_heart_2 21 rfl) ?_
                refine r_goto 256 (ck DX2_heart_2 22 rfl) (by decide) ?_
                refine r_ior 257 rfl (ck DX2_heart_2 24 rfl) ?_
                obtain ⟨v61, e62, hf⟩ := lt_so hf
                refine r_top e62 ?_
                refine r_istore (lv' := [(4, .int v61), (0, .ref (X.1 o)), (3, .int x3), (5, .int x5)]) 259 rfl (ck DX2_heart_2 25 rfl) (by decide) rfl ?_
                refine r_goto 333 (ck DX2_heart_2 26 rfl) (by decide) ?_
                obtain ⟨v63, e64, hf⟩ := lt_so hf
                refine r_iinc (lv' := [(5, .int v63), (4, .int v61), (0, .ref (X.1 o)), (3, .int x3)]) 336 rfl 3 (ck DX2_heart_3 18 rfl) rfl (by rw [e64, ic_1]) (by decide) rfl ?_
                refine r_goto 83 (ck DX2_heart_3 19 rfl) (by decide) ?_
                refine r_sub (lv' := [(0, .ref (X.1 o)), (3, .int x3), (4, .int v61), (5, .int v63)]) [2, 3, 1, 0] rfl ?_
                exact ih x3 v61 v63 h hf
            · skip
              rcases if_so hf with ⟨c65, hf⟩ | ⟨c65, hf⟩
              · refine r_lsw 262 (ck DX2_heart_1 13 rfl) (by decide) (by rw [c65] <;> decide) (by decide) ?_
                refine r_iload 264 rfl 2 rfl (ck DX2_heart_2 27 rfl) ?_
                refine r_iconst 265 rfl ic_1 (ck DX2_heart_2 28 rfl) ?_
                refine r_ishl 266 rfl (ck DX2_heart_2 29 rfl) ?_
                refine r_aload_n 267 rfl 0 rfl rfl (ck DX2_heart_2 30 rfl) ?_
                refine r_getr (q := o + 4) 270 rfl (lq_2_3 o) ho.1 kd_2_3 fl_X2_19 (ck DX2_heart_2 31 rfl) ?_
                refine r_aload_n 271 rfl 0 rfl rfl (ck DX2_heart_2 32 rfl) ?_
                refine r_getr (q := o + 2) 274 rfl (lq_2_1 o) ho.1 kd_2_1 fl_X2_13 (ck DX2_heart_2 33 rfl) ?_
                refine r_iload 276 rfl 3 rfl (ck DX2_heart_2 34 rfl) ?_
                obtain ⟨b66, hf⟩ := gd_so hf
                refine r_iald 277 rfl ho.2.2.1 (inb_vp b66) (ck DX2_heart_2 35 rfl) ?_
                obtain ⟨b67, hf⟩ := gd_so hf
                refine r_iald 278 rfl ho.2.2.2.2 (inb_vp b67) (ck DX2_heart_2 36 rfl) ?_
                refine r_aload_n 279 rfl 0 rfl rfl (ck DX2_heart_2 37 rfl) ?_
                refine r_getr (q := o + 3) 282 rfl (lq_2_2 o) ho.1 kd_2_2 fl_X2_16 (ck DX2_heart_2 38 rfl) ?_
                refine r_iload 284 rfl 3 rfl (ck DX2_heart_2 39 rfl) ?_
                obtain ⟨b68, hf⟩ := gd_so hf
                refine r_iald 285 rfl ho.2.2.2.1 (inb_vp b68) (ck DX2_heart_2 40 rfl) ?_
                rcases if_so hf with ⟨c69, hf⟩ | ⟨c69, hf⟩
                · refine r_icmp_ne_t 288 rfl 292 (ck DX2_heart_2 41 rfl) (by decide) c69 ?_
                  refine r_iconst 289 rfl ic_1 (ck DX2_heart_2 42 rfl) ?_
                  refine r_goto 293 (ck DX2_heart_2 43 rfl) (by decide) ?_
                  refine r_ior 294 rfl (ck DX2_heart_2 45 rfl) ?_
                  obtain ⟨v70, e71, hf⟩ := lt_so hf
                  refine r_top e71 ?_
                  refine r_istore (lv' := [(4, .int v70), (0, .ref (X.1 o)), (3, .int x3), (5, .int x5)]) 296 rfl (ck DX2_heart_2 46 rfl) (by decide) rfl ?_
                  refine r_goto 333 (ck DX2_heart_2 47 rfl) (by decide) ?_
                  obtain ⟨v72, e73, hf⟩ := lt_so hf
                  refine r_iinc (lv' := [(5, .int v72), (4, .int v70), (0, .ref (X.1 o)), (3, .int x3)]) 336 rfl 3 (ck DX2_heart_3 18 rfl) rfl (by rw [e73, ic_1]) (by decide) rfl ?_
                  refine r_goto 83 (ck DX2_heart_3 19 rfl) (by decide) ?_
                  refine r_sub (lv' := [(0, .ref (X.1 o)), (3, .int x3), (4, .int v70), (5, .int v72)]) [2, 3, 1, 0] rfl ?_
                  exact ih x3 v70 v72 h hf
                · refine r_icmp_ne_f 292 (ck DX2_heart_2 41 rfl) (by decide) c69 ?_
                  refine r_iconst 293 rfl ic_0 (ck DX2_heart_2 44 rfl) ?_
                  refine r_ior 294 rfl (ck DX2_heart_2 45 rfl) ?_
                  obtain ⟨v74, e75, hf⟩ := lt_so hf
                  refine r_top e75 ?_
                  refine r_istore (lv' := [(4, .int v74), (0, .ref (X.1 o)), (3, .int x3), (5, .int x5)]) 296 rfl (ck DX2_heart_2 46 rfl) (by decide) rfl ?_
                  refine r_goto 333 (ck DX2_heart_2 47 rfl) (by decide) ?_
                  obtain ⟨v76, e77, hf⟩ := lt_so hf
                  refine r_iinc (lv' := [(5, .int v76), (4, .int v74), (0, .ref (X.1 o)), (3, .int x3)]) 336 rfl 3 (ck DX2_heart_3 18 rfl) rfl (by rw [e77, ic_1]) (by decide) rfl ?_
                  refine r_goto 83 (ck DX2_heart_3 19 rfl) (by decide) ?_
                  refine r_sub (lv' := [(0, .ref (X.1 o)), (3, .int x3), (4, .int v74), (5, .int v76)]) [2, 3, 1, 0] rfl ?_
                  exact ih x3 v74 v76 h hf
              · skip
                rcases if_so hf with ⟨c78, hf⟩ | ⟨c78, hf⟩
                · refine r_lsw 180 (ck DX2_heart_1 13 rfl) (by decide) (by rw [c78] <;> decide) (by decide) ?_
                  refine r_iload 182 rfl 2 rfl (ck DX2_heart_1 28 rfl) ?_
                  refine r_iconst 183 rfl ic_1 (ck DX2_heart_1 29 rfl) ?_
                  refine r_iushr 184 rfl (ck DX2_heart_1 30 rfl) ?_
                  refine r_iload 186 rfl 2 rfl (ck DX2_heart_1 31 rfl) ?_
                  refine r_iconst 187 rfl ic_1 (ck DX2_heart_1 32 rfl) ?_
                  refine r_iand 188 rfl (ck DX2_heart_1 33 rfl) ?_
                  refine r_ior 189 rfl (ck DX2_heart_1 34 rfl) ?_
                  obtain ⟨v79, e80, hf⟩ := lt_so hf
                  refine r_top e80 ?_
                  refine r_istore (lv' := [(4, .int v79), (0, .ref (X.1 o)), (3, .int x3), (5, .int x5)]) 191 rfl (ck DX2_heart_1 35 rfl) (by decide) rfl ?_
                  refine r_goto 333 (ck DX2_heart_1 36 rfl) (by decide) ?_
                  obtain ⟨v81, e82, hf⟩ := lt_so hf
                  refine r_iinc (lv' := [(5, .int v81), (4, .int v79), (0, .ref (X.1 o)), (3, .int x3)]) 336 rfl 3 (ck DX2_heart_3 18 rfl) rfl (by rw [e82, ic_1]) (by decide) rfl ?_
                  refine r_goto 83 (ck DX2_heart_3 19 rfl) (by decide) ?_
                  refine r_sub (lv' := [(0, .ref (X.1 o)), (3, .int x3), (4, .int v79), (5, .int v81)]) [2, 3, 1, 0] rfl ?_
                  exact ih x3 v79 v81 h hf
                · skip
                  refine r_lsw 299 (ck DX2_heart_1 13 rfl) (by decide) (lsw_d (by intro q hq; simp at hq; rcases hq with rfl | rfl | rfl | rfl | rfl | rfl <;> first | exact ne_int c27 | exact ne_int c32 | exact ne_int c37 | exact ne_int c52 | exact ne_int c65 | exact ne_int c78)) (by decide) ?_
                  refine r_iload 301 rfl 2 rfl (ck DX2_heart_2 48 rfl) ?_
                  refine r_iconst 302 rfl ic_1 (ck DX2_heart_2 49 rfl) ?_
                  refine r_ishl 303 rfl (ck DX2_heart_3 0 rfl) ?_
                  refine r_aload_n 304 rfl 0 rfl rfl (ck DX2_heart_3 1 rfl) ?_
                  refine r_getr (q := o + 4) 307 rfl (lq_2_3 o) ho.1 kd_2_3 fl_X2_19 (ck DX2_heart_3 2 rfl) ?_
                  refine r_aload_n 308 rfl 0 rfl rfl (ck DX2_heart_3 3 rfl) ?_
                  refine r_getr (q := o + 2) 311 rfl (lq_2_1 o) ho.1 kd_2_1 fl_X2_13 (ck DX2_heart_3 4 rfl) ?_
                  refine r_iload 313 rfl 3 rfl (ck DX2_heart_3 5 rfl) ?_
                  obtain ⟨b83, hf⟩ := gd_so hf
                  refine r_iald 314 rfl ho.2.2.1 (inb_vp b83) (ck DX2_heart_3 6 rfl) ?_
                  obtain ⟨b84, hf⟩ := gd_so hf
                  refine r_iald 315 rfl ho.2.2.2.2 (inb_vp b84) (ck DX2_heart_3 7 rfl) ?_
                  refine r_aload_n 316 rfl 0 rfl rfl (ck DX2_heart_3 8 rfl) ?_
                  refine r_getr (q := o + 3) 319 rfl (lq_2_2 o) ho.1 kd_2_2 fl_X2_16 (ck DX2_heart_3 9 rfl) ?_
                  refine r_iload 321 rfl 3 rfl (ck DX2_heart_3 10 rfl) ?_
                  obtain ⟨b85, hf⟩ := gd_so hf
                  refine r_iald 322 rfl ho.2.2.2.1 (inb_vp b85) (ck DX2_heart_3 11 rfl) ?_
                  rcases if_so hf with ⟨c86, hf⟩ | ⟨c86, hf⟩
                  · refine r_icmp_le_t 329 (ck DX2_heart_3 12 rfl) (by decide) c86 ?_
                    refine r_iconst 330 rfl ic_0 (ck DX2_heart_3 15 rfl) ?_
                    refine r_ior 331 rfl (ck DX2_heart_3 16 rfl) ?_
                    obtain ⟨v87, e88, hf⟩ := lt_so hf
                    refine r_top e88 ?_
                    refine r_istore (lv' := [(4, .int v87), (0, .ref (X.1 o)), (3, .int x3), (5, .int x5)]) 333 rfl (ck DX2_heart_3 17 rfl) (by decide) rfl ?_
                    obtain ⟨v89, e90, hf⟩ := lt_so hf
                    refine r_iinc (lv' := [(5, .int v89), (4, .int v87), (0, .ref (X.1 o)), (3, .int x3)]) 336 rfl 3 (ck DX2_heart_3 18 rfl) rfl (by rw [e90, ic_1]) (by decide) rfl ?_
                    refine r_goto 83 (ck DX2_heart_3 19 rfl) (by decide) ?_
                    refine r_sub (lv' := [(0, .ref (X.1 o)), (3, .int x3), (4, .int v87), (5, .int v89)]) [2, 3, 1, 0] rfl ?_
                    exact ih x3 v87 v89 h hf
                  · refine r_icmp_le_f 325 rfl 329 (ck DX2_heart_3 12 rfl) (by decide) c86 ?_
                    refine r_iconst 326 rfl ic_1 (ck DX2_heart_3 13 rfl) ?_
                    refine r_goto 330 (ck DX2_heart_3 14 rfl) (by decide) ?_
                    refine r_ior 331 rfl (ck DX2_heart_3 16 rfl) ?_
                    obtain ⟨v91, e92, hf⟩ := lt_so hf
                    refine r_top e92 ?_
                    refine r_istore (lv' := [(4, .int v91), (0, .ref (X.1 o)), (3, .int x3), (5, .int x5)]) 333 rfl (ck DX2_heart_3 17 rfl) (by decide) rfl ?_
                    obtain ⟨v93, e94, hf⟩ := lt_so hf
                    refine r_iinc (lv' := [(5, .int v93), (4, .int v91), (0, .ref (X.1 o)), (3, .int x3)]) 336 rfl 3 (ck DX2_heart_3 18 rfl) rfl (by rw [e94, ic_1]) (by decide) rfl ?_
                    refine r_goto 83 (ck DX2_heart_3 19 rfl) (by decide) ?_
                    refine r_sub (lv' := [(0, .ref (X.1 o)), (3, .int x3), (4, .int v91), (5, .int v93)]) [2, 3, 1, 0] rfl ?_
                    exact ih x3 v91 v93 h hf
def f_X2_heart (o : Nat) (q1 : Nat) (x2 : Int32) (h : HP) : Option (Int32 × HP) := gd (inb 0 6) (lt (si h (o + 4) (Int32.toNatClampNeg 0) x2) fun g2 => gd (inb x2 6) (gd (inb 1 6) (lt (si g2 (o + 4) (Int32.toNatClampNeg 1) (g2.1 (q1 + 1) (Int32.toNatClampNeg x2))) fun g6 => gd (inb x2 6) (gd (inb 2 6) (lt (si g6 (o + 4) (Int32.toNatClampNeg 2) (g6.1 (q1 + 2) (Int32.toNatClampNeg x2))) fun g10 => gd (inb x2 6) (gd (inb 3 6) (lt (si g10 (o + 4) (Int32.toNatClampNeg 3) ((g10.1 (q1 + 3) (Int32.toNatClampNeg x2)) / 10)) fun g14 => gd (inb x2 6) (gd (inb 4 6) (lt (si g14 (o + 4) (Int32.toNatClampNeg 4) ((g14.1 (q1 + 4) (Int32.toNatClampNeg x2)) / 10)) fun g18 => gd (inb 5 6) (lt (si g18 (o + 4) (Int32.toNatClampNeg 5) ((g18.1 q1 12) - (g18.1 q1 12) / 10 * 10)) fun g21 => f_X2_heart_L83 o q1 FZ 20 0 0 g21))))))))))
set_option maxHeartbeats 4000000 in
set_option maxRecDepth 100000 in
theorem A_X2_heart (X : XE) (o : Nat) (ho : OC o) (q1 : Nat) (hq1 : DK q1) (x2 : Int32) (h : HP) (r : Int32) (h' : HP) (hf : f_X2_heart o q1 x2 h = some (r, h')) : CC mX2_heart 1 X [.ref (X.1 o), .ref (X.1 q1), .int x2] h (some (.int r)) h' := by
  refine CC_of rfl (Nat.le_of_ble_eq_true rfl) ?_
  show Run mX2_heart 1 X 0 [(0, .ref (X.1 o)), (1, .ref (X.1 q1)), (2, .int x2)] [] h (some (.int r)) h'
  unfold f_X2_heart at hf
  refine r_aload_n 1 rfl 0 rfl rfl (ck DX2_heart_0 0 rfl) ?_
  refine r_getr (q := o + 4) 4 rfl (lq_2_3 o) ho.1 kd_2_3 fl_X2_19 (ck DX2_heart_0 1 rfl) ?_
  refine r_iconst 5 rfl ic_0 (ck DX2_heart_0 2 rfl) ?_
  refine r_iload_n 6 rfl 2 rfl rfl (ck DX2_heart_0 3 rfl) ?_
  obtain ⟨b1, hf⟩ := gd_so hf
  obtain ⟨g2, e3, hf⟩ := lt_so hf
  refine r_iast 7 rfl ho.2.2.2.2 (inb_vp b1) (ck DX2_heart_0 4 rfl) ?_
  refine r_heap e3 ?_
  refine r_aload_n 8 rfl 0 rfl rfl (ck DX2_heart_0 5 rfl) ?_
  refine r_getr (q := o + 4) 11 rfl (lq_2_3 o) ho.1 kd_2_3 fl_X2_19 (ck DX2_heart_0 6 rfl) ?_
  refine r_iconst 12 rfl ic_1 (ck DX2_heart_0 7 rfl) ?_
  refine r_aload_n 13 rfl 1 rfl rfl (ck DX2_heart_0 8 rfl) ?_
  refine r_getr (q := q1 + 1) 16 rfl (lq_1_0 q1) hq1.1 kd_1_0 fl_X2_35 (ck DX2_heart_0 9 rfl) ?_
  refine r_iload_n 17 rfl 2 rfl rfl (ck DX2_heart_0 10 rfl) ?_
  obtain ⟨b4, hf⟩ := gd_so hf
  refine r_iald 18 rfl hq1.2.1 (inb_vp b4) (ck DX2_heart_0 11 rfl) ?_
  obtain ⟨b5, hf⟩ := gd_so hf
  obtain ⟨g6, e7, hf⟩ := lt_so hf
  refine r_iast 19 rfl ho.2.2.2.2 (inb_vp b5) (ck DX2_heart_0 12 rfl) ?_
  refine r_heap e7 ?_
  refine r_aload_n 20 rfl 0 rfl rfl (ck DX2_heart_0 13 rfl) ?_
  refine r_getr (q := o + 4) 23 rfl (lq_2_3 o) ho.1 kd_2_3 fl_X2_19 (ck DX2_heart_0 14 rfl) ?_
  refine r_iconst 24 rfl ic_2 (ck DX2_heart_0 15 rfl) ?_
  refine r_aload_n 25 rfl 1 rfl rfl (ck DX2_heart_0 16 rfl) ?_
  refine r_getr (q := q1 + 2) 28 rfl (lq_1_1 q1) hq1.1 kd_1_1 fl_X2_40 (ck DX2_heart_0 17 rfl) ?_
  refine r_iload_n 29 rfl 2 rfl rfl (ck DX2_heart_0 18 rfl) ?_
  obtain ⟨b8, hf⟩ := gd_so hf
  refine r_iald 30 rfl hq1.2.2.1 (inb_vp b8) (ck DX2_heart_0 19 rfl) ?_
  obtain ⟨b9, hf⟩ := gd_so hf
  obtain ⟨g10, e11, hf⟩ := lt_so hf
  refine r_iast 31 rfl ho.2.2.2.2 (inb_vp b9) (ck DX2_heart_0 20 rfl) ?_
  refine r_heap e11 ?_
  refine r_aload_n 32 rfl 0 rfl rfl (ck DX2_heart_0 21 rfl) ?_
  refine r_getr (q := o + 4) 35 rfl (lq_2_3 o) ho.1 kd_2_3 fl_X2_19 (ck DX2_heart_0 22 rfl) ?_
  refine r_iconst 36 rfl ic_3 (ck DX2_heart_0 23 rfl) ?_
  refine r_aload_n 37 rfl 1 rfl rfl (ck DX2_heart_0 24 rfl) ?_
  refine r_getr (q := q1 + 3) 40 rfl (lq_1_2 q1) hq1.1 kd_1_2 fl_X2_43 (ck DX2_heart_0 25 rfl) ?_
  refine r_iload_n 41 rfl 2 rfl rfl (ck DX2_heart_0 26 rfl) ?_
  obtain ⟨b12, hf⟩ := gd_so hf
  refine r_iald 42 rfl hq1.2.2.2.1 (inb_vp b12) (ck DX2_heart_0 27 rfl) ?_
  refine r_bipush 44 rfl bp_10 (ck DX2_heart_0 28 rfl) ?_
  refine r_idiv 45 rfl (by decide) (ck DX2_heart_0 29 rfl) ?_
  obtain ⟨b13, hf⟩ := gd_so hf
  obtain ⟨g14, e15, hf⟩ := lt_so hf
  refine r_iast 46 rfl ho.2.2.2.2 (inb_vp b13) (ck DX2_heart_0 30 rfl) ?_
  refine r_heap e15 ?_
  refine r_aload_n 47 rfl 0 rfl rfl (ck DX2_heart_0 31 rfl) ?_
  refine r_getr (q := o + 4) 50 rfl (lq_2_3 o) ho.1 kd_2_3 fl_X2_19 (ck DX2_heart_0 32 rfl) ?_
  refine r_iconst 51 rfl ic_4 (ck DX2_heart_0 33 rfl) ?_
  refine r_aload_n 52 rfl 1 rfl rfl (ck DX2_heart_0 34 rfl) ?_
  refine r_getr (q := q1 + 4) 55 rfl (lq_1_3 q1) hq1.1 kd_1_3 fl_X2_46 (ck DX2_heart_0 35 rfl) ?_
  refine r_iload_n 56 rfl 2 rfl rfl (ck DX2_heart_0 36 rfl) ?_
  obtain ⟨b16, hf⟩ := gd_so hf
  refine r_iald 57 rfl hq1.2.2.2.2.1 (inb_vp b16) (ck DX2_heart_0 37 rfl) ?_
  refine r_bipush 59 rfl bp_10 (ck DX2_heart_0 38 rfl) ?_
  refine r_idiv 60 rfl (by decide) (ck DX2_heart_0 39 rfl) ?_
  obtain ⟨b17, hf⟩ := gd_so hf
  obtain ⟨g18, e19, hf⟩ := lt_so hf
  refine r_iast 61 rfl ho.2.2.2.2 (inb_vp b17) (ck DX2_heart_0 40 rfl) ?_
  refine r_heap e19 ?_
  refine r_aload_n 62 rfl 0 rfl rfl (ck DX2_heart_0 41 rfl) ?_
  refine r_getr (q := o + 4) 65 rfl (lq_2_3 o) ho.1 kd_2_3 fl_X2_19 (ck DX2_heart_0 42 rfl) ?_
  refine r_iconst 66 rfl ic_5 (ck DX2_heart_0 43 rfl) ?_
  refine r_aload_n 67 rfl 1 rfl rfl (ck DX2_heart_0 44 rfl) ?_
  refine r_geti 70 rfl hq1.1 kd_1_12 fl_X2_49 (ck DX2_heart_0 45 rfl) ?_
  refine r_bipush 72 rfl bp_10 (ck DX2_heart_0 46 rfl) ?_
  refine r_irem 73 rfl (by decide) (ck DX2_heart_0 47 rfl) ?_
  obtain ⟨b20, hf⟩ := gd_so hf
  obtain ⟨g21, e22, hf⟩ := lt_so hf
  refine r_iast 74 rfl ho.2.2.2.2 (inb_vp b20) (ck DX2_heart_0 48 rfl) ?_
  refine r_heap e22 ?_
  refine r_bipush 76 rfl bp_20 (ck DX2_heart_0 49 rfl) ?_
  refine r_istore_n (lv' := [(3, .int 20), (0, .ref (X.1 o)), (1, .ref (X.1 q1)), (2, .int x2)]) 77 rfl (ck DX2_heart_1 0 rfl) (by decide) rfl rfl ?_
  refine r_iconst 78 rfl ic_0 (ck DX2_heart_1 1 rfl) ?_
  refine r_istore (lv' := [(4, .int 0), (3, .int 20), (0, .ref (X.1 o)), (1, .ref (X.1 q1)), (2, .int x2)]) 80 rfl (ck DX2_heart_1 2 rfl) (by decide) rfl ?_
  refine r_iconst 81 rfl ic_0 (ck DX2_heart_1 3 rfl) ?_
  refine r_istore (lv' := [(5, .int 0), (4, .int 0), (3, .int 20), (0, .ref (X.1 o)), (1, .ref (X.1 q1)), (2, .int x2)]) 83 rfl (ck DX2_heart_1 4 rfl) (by decide) rfl ?_
  refine r_sub (lv' := [(0, .ref (X.1 o)), (3, .int 20), (4, .int 0), (5, .int 0)]) [3, 2, 1, 0] rfl ?_
  exact A_X2_heart_L83 X o ho q1 hq1 _ _ FZ 20 0 0 g21 hf
-- X2_becomeCalm
def f_X2_becomeCalm (o : Nat) (h : HP) : Option HP := lt (si h o 4 0) fun g1 => lt (si g1 o 5 5) fun g3 => lt (si g3 o 6 2) fun g5 => some g5
set_option maxHeartbeats 4000000 in
set_option maxRecDepth 100000 in
theorem A_X2_becomeCalm (X : XE) (o : Nat) (ho : OC o) (h : HP) (h' : HP) (hf : f_X2_becomeCalm o h = some h') : CC mX2_becomeCalm 1 X [.ref (X.1 o)] h none h' := by
  refine CC_of rfl (Nat.le_of_ble_eq_true rfl) ?_
  show Run mX2_becomeCalm 1 X 0 [(0, .ref (X.1 o))] [] h none h'
  unfold f_X2_becomeCalm at hf
  refine r_aload_n 1 rfl 0 rfl rfl (ck DX2_becomeCalm_0 0 rfl) ?_
  refine r_iconst 2 rfl ic_0 (ck DX2_becomeCalm_0 1 rfl) ?_
  obtain ⟨g1, e2, hf⟩ := lt_so hf
  refine r_puti 5 rfl ho.1 kd_2_4 fw_X2_25 rfl rfl (ck DX2_becomeCalm_0 2 rfl) ?_
  refine r_heap e2 ?_
  refine r_aload_n 6 rfl 0 rfl rfl (ck DX2_becomeCalm_0 3 rfl) ?_
  refine r_iconst 7 rfl ic_5 (ck DX2_becomeCalm_0 4 rfl) ?_
  obtain ⟨g3, e4, hf⟩ := lt_so hf
  refine r_puti 10 rfl ho.1 kd_2_5 fw_X2_29 rfl rfl (ck DX2_becomeCalm_0 5 rfl) ?_
  refine r_heap e4 ?_
  refine r_aload_n 11 rfl 0 rfl rfl (ck DX2_becomeCalm_0 6 rfl) ?_
  refine r_iconst 12 rfl ic_2 (ck DX2_becomeCalm_0 7 rfl) ?_
  obtain ⟨g5, e6, hf⟩ := lt_so hf
  refine r_puti 15 rfl ho.1 kd_2_6 fw_X2_32 rfl rfl (ck DX2_becomeCalm_0 8 rfl) ?_
  refine r_heap e6 ?_
  obtain rfl := so1 hf
  exact r_vret rfl (ck DX2_becomeCalm_0 9 rfl)
-- X2_add
def f_X2_add (o : Nat) (x1 : Int32) (x2 : Int32) (x3 : Int32) (h : HP) : Option HP := if (100 : Int32) ≤ (h.1 o 4) then (some h) else (gd (inb (h.1 o 4) 100) (lt (si h (o + 1) (Int32.toNatClampNeg (h.1 o 4)) x1) fun g3 => gd (inb (g3.1 o 4) 100) (lt (si g3 (o + 2) (Int32.toNatClampNeg (g3.1 o 4)) x2) fun g6 => gd (inb (g6.1 o 4) 100) (lt (si g6 (o + 3) (Int32.toNatClampNeg (g6.1 o 4)) x3) fun g9 => lt (si g9 o 4 ((g9.1 o 4) + 1)) fun g11 => some g11))))
set_option maxHeartbeats 4000000 in
set_option maxRecDepth 100000 in
theorem A_X2_add (X : XE) (o : Nat) (ho : OC o) (x1 : Int32) (x2 : Int32) (x3 : Int32) (h : HP) (h' : HP) (hf : f_X2_add o x1 x2 x3 h = some h') : CC mX2_add 1 X [.ref (X.1 o), .int x1, .int x2, .int x3] h none h' := by
  refine CC_of rfl (Nat.le_of_ble_eq_true rfl) ?_
  show Run mX2_add 1 X 0 [(0, .ref (X.1 o)), (1, .int x1), (2, .int x2), (3, .int x3)] [] h none h'
  unfold f_X2_add at hf
  refine r_aload_n 1 rfl 0 rfl rfl (ck DX2_add_0 0 rfl) ?_
  refine r_geti 4 rfl ho.1 kd_2_4 fl_X2_25 (ck DX2_add_0 1 rfl) ?_
  refine r_bipush 6 rfl bp_100 (ck DX2_add_0 2 rfl) ?_
  rcases if_so hf with ⟨c1, hf⟩ | ⟨c1, hf⟩
  · refine r_icmp_ge_t 49 (ck DX2_add_0 3 rfl) (by decide) c1 ?_
    obtain rfl := so1 hf
    exact r_vret rfl (ck DX2_add_0 28 rfl)
  · refine r_icmp_ge_f 9 rfl 49 (ck DX2_add_0 3 rfl) (by decide) c1 ?_
    refine r_aload_n 10 rfl 0 rfl rfl (ck DX2_add_0 4 rfl) ?_
    refine r_getr (q := o + 1) 13 rfl (lq_2_0 o) ho.1 kd_2_0 fl_X2_9 (ck DX2_add_0 5 rfl) ?_
    refine r_aload_n 14 rfl 0 rfl rfl (ck DX2_add_0 6 rfl) ?_
    refine r_geti 17 rfl ho.1 kd_2_4 fl_X2_25 (ck DX2_add_0 7 rfl) ?_
    refine r_iload_n 18 rfl 1 rfl rfl (ck DX2_add_0 8 rfl) ?_
    obtain ⟨b2, hf⟩ := gd_so hf
    obtain ⟨g3, e4, hf⟩ := lt_so hf
    refine r_iast 19 rfl ho.2.1 (inb_vp b2) (ck DX2_add_0 9 rfl) ?_
    refine r_heap e4 ?_
    refine r_aload_n 20 rfl 0 rfl rfl (ck DX2_add_0 10 rfl) ?_
    refine r_getr (q := o + 2) 23 rfl (lq_2_1 o) ho.1 kd_2_1 fl_X2_13 (ck DX2_add_0 11 rfl) ?_
    refine r_aload_n 24 rfl 0 rfl rfl (ck DX2_add_0 12 rfl) ?_
    refine r_geti 27 rfl ho.1 kd_2_4 fl_X2_25 (ck DX2_add_0 13 rfl) ?_
    refine r_iload_n 28 rfl 2 rfl rfl (ck DX2_add_0 14 rfl) ?_
    obtain ⟨b5, hf⟩ := gd_so hf
    obtain ⟨g6, e7, hf⟩ := lt_so hf
    refine r_iast 29 rfl ho.2.2.1 (inb_vp b5) (ck DX2_add_0 15 rfl) ?_
    refine r_heap e7 ?_
    refine r_aload_n 30 rfl 0 rfl rfl (ck DX2_add_0 16 rfl) ?_
    refine r_getr (q := o + 3) 33 rfl (lq_2_2 o) ho.1 kd_2_2 fl_X2_16 (ck DX2_add_0 17 rfl) ?_
    refine r_aload_n 34 rfl 0 rfl rfl (ck DX2_add_0 18 rfl) ?_
    refine r_geti 37 rfl ho.1 kd_2_4 fl_X2_25 (ck DX2_add_0 19 rfl) ?_
    refine r_iload_n 38 rfl 3 rfl rfl (ck DX2_add_0 20 rfl) ?_
    obtain ⟨b8, hf⟩ := gd_so hf
    obtain ⟨g9, e10, hf⟩ := lt_so hf
    refine r_iast 39 rfl ho.2.2.2.1 (inb_vp b8) (ck DX2_add_0 21 rfl) ?_
    refine r_heap e10 ?_
    refine r_aload_n 40 rfl 0 rfl rfl (ck DX2_add_0 22 rfl) ?_
    refine r_dup 41 rfl rfl (ck DX2_add_0 23 rfl) ?_
    refine r_geti 44 rfl ho.1 kd_2_4 fl_X2_25 (ck DX2_add_0 24 rfl) ?_
    refine r_iconst 45 rfl ic_1 (ck DX2_add_0 25 rfl) ?_
    refine r_iadd 46 rfl (ck DX2_add_0 26 rfl) ?_
    obtain ⟨g11, e12, hf⟩ := lt_so hf
    refine r_puti 49 rfl ho.1 kd_2_4 fw_X2_25 rfl rfl (ck DX2_add_0 27 rfl) ?_
    refine r_heap e12 ?_
    obtain rfl := so1 hf
    exact r_vret rfl (ck DX2_add_0 28 rfl)
-- X3_add
def f_X3_add (o : Nat) (x1 : Int32) (x2 : Int32) (h : HP) : Option (Int32 × HP) := if (h.1 o 2) < (Int32.ofNat (aln (o + 1))) then (gd (inb (h.1 o 2) (aln (o + 1))) (lt (si h (o + 1) (Int32.toNatClampNeg (h.1 o 2)) x1) fun g3 => gd (inb (g3.1 o 2) (aln (o + 2))) (lt (si g3 (o + 2) (Int32.toNatClampNeg (g3.1 o 2)) x2) fun g6 => lt (si g6 o 2 ((g6.1 o 2) + 1)) fun g8 => some (1, g8)))) else (some (0, h))
set_option maxHeartbeats 4000000 in
set_option maxRecDepth 100000 in
theorem A_X3_add (X : XE) (o : Nat) (ho : PR o) (x1 : Int32) (x2 : Int32) (h : HP) (r : Int32) (h' : HP) (hf : f_X3_add o x1 x2 h = some (r, h')) : CC mX3_add 1 X [.ref (X.1 o), .int x1, .int x2] h (some (.int r)) h' := by
  refine CC_of rfl (Nat.le_of_ble_eq_true rfl) ?_
  show Run mX3_add 1 X 0 [(0, .ref (X.1 o)), (1, .int x1), (2, .int x2)] [] h (some (.int r)) h'
  unfold f_X3_add at hf
  refine r_aload_n 1 rfl 0 rfl rfl (ck DX3_add_0 0 rfl) ?_
  refine r_geti 4 rfl ho.1 kd_3_2 fl_X3_16 (ck DX3_add_0 1 rfl) ?_
  refine r_aload_n 5 rfl 0 rfl rfl (ck DX3_add_0 2 rfl) ?_
  refine r_getr (q := o + 1) 8 rfl (lq_3_0 o) ho.1 kd_3_0 fl_X3_7 (ck DX3_add_0 3 rfl) ?_
  refine r_alen 9 rfl ho.2.1 rfl (ck DX3_add_0 4 rfl) ?_
  rcases if_so hf with ⟨c1, hf⟩ | ⟨c1, hf⟩
  · refine r_icmp_lt_t 14 (ck DX3_add_0 5 rfl) (by decide) c1 ?_
    refine r_aload_n 15 rfl 0 rfl rfl (ck DX3_add_0 8 rfl) ?_
    refine r_getr (q := o + 1) 18 rfl (lq_3_0 o) ho.1 kd_3_0 fl_X3_7 (ck DX3_add_0 9 rfl) ?_
    refine r_aload_n 19 rfl 0 rfl rfl (ck DX3_add_0 10 rfl) ?_
    refine r_geti 22 rfl ho.1 kd_3_2 fl_X3_16 (ck DX3_add_0 11 rfl) ?_
    refine r_iload_n 23 rfl 1 rfl rfl (ck DX3_add_0 12 rfl) ?_
    obtain ⟨b2, hf⟩ := gd_so hf
    obtain ⟨g3, e4, hf⟩ := lt_so hf
    refine r_iast 24 rfl ho.2.1 (inb_vp b2) (ck DX3_add_0 13 rfl) ?_
    refine r_heap e4 ?_
    refine r_aload_n 25 rfl 0 rfl rfl (ck DX3_add_0 14 rfl) ?_
    refine r_getr (q := o + 2) 28 rfl (lq_3_1 o) ho.1 kd_3_1 fl_X3_13 (ck DX3_add_0 15 rfl) ?_
    refine r_aload_n 29 rfl 0 rfl rfl (ck DX3_add_0 16 rfl) ?_
    refine r_geti 32 rfl ho.1 kd_3_2 fl_X3_16 (ck DX3_add_0 17 rfl) ?_
    refine r_iload_n 33 rfl 2 rfl rfl (ck DX3_add_0 18 rfl) ?_
    obtain ⟨b5, hf⟩ := gd_so hf
    obtain ⟨g6, e7, hf⟩ := lt_so hf
    refine r_iast 34 rfl ho.2.2 (inb_vp b5) (ck DX3_add_0 19 rfl) ?_
    refine r_heap e7 ?_
    refine r_aload_n 35 rfl 0 rfl rfl (ck DX3_add_0 20 rfl) ?_
    refine r_dup 36 rfl rfl (ck DX3_add_0 21 rfl) ?_
    refine r_geti 39 rfl ho.1 kd_3_2 fl_X3_16 (ck DX3_add_0 22 rfl) ?_
    refine r_iconst 40 rfl ic_1 (ck DX3_add_0 23 rfl) ?_
    refine r_iadd 41 rfl (ck DX3_add_0 24 rfl) ?_
    obtain ⟨g8, e9, hf⟩ := lt_so hf
    refine r_puti 44 rfl ho.1 kd_3_2 fw_X3_16 rfl rfl (ck DX3_add_0 25 rfl) ?_
    refine r_heap e9 ?_
    refine r_iconst 45 rfl ic_1 (ck DX3_add_0 26 rfl) ?_
    obtain ⟨rfl, rfl⟩ := so2 hf
    exact r_iret rfl rfl (ck DX3_add_0 27 rfl)
  · refine r_icmp_lt_f 12 rfl 14 (ck DX3_add_0 5 rfl) (by decide) c1 ?_
    refine r_iconst 13 rfl ic_0 (ck DX3_add_0 6 rfl) ?_
    obtain ⟨rfl, rfl⟩ := so2 hf
    exact r_iret rfl rfl (ck DX3_add_0 7 rfl)
-- X3_clear
def f_X3_clear (o : Nat) (h : HP) : Option (Int32 × HP) := lt (si h o 2 0) fun g1 => some (0, g1)
set_option maxHeartbeats 4000000 in
set_option maxRecDepth 100000 in
theorem A_X3_clear (X : XE) (o : Nat) (ho : PR o) (h : HP) (r : Int32) (h' : HP) (hf : f_X3_clear o h = some (r, h')) : CC mX3_clear 1 X [.ref (X.1 o)] h (some (.int r)) h' := by
  refine CC_of rfl (Nat.le_of_ble_eq_true rfl) ?_
  show Run mX3_clear 1 X 0 [(0, .ref (X.1 o))] [] h (some (.int r)) h'
  unfold f_X3_clear at hf
  refine r_aload_n 1 rfl 0 rfl rfl (ck DX3_clear_0 0 rfl) ?_
  refine r_iconst 2 rfl ic_0 (ck DX3_clear_0 1 rfl) ?_
  obtain ⟨g1, e2, hf⟩ := lt_so hf
  refine r_puti 5 rfl ho.1 kd_3_2 fw_X3_16 rfl rfl (ck DX3_clear_0 2 rfl) ?_
  refine r_heap e2 ?_
  refine r_iconst 6 rfl ic_0 (ck DX3_clear_0 3 rfl) ?_
  obtain ⟨rfl, rfl⟩ := so2 hf
  exact r_iret rfl rfl (ck DX3_clear_0 4 rfl)
-- X3_copyFrom
def f_X3_copyFrom (o : Nat) (q1 : Nat) (h : HP) : Option HP := lt (si h o 2 (if (Int32.ofNat (aln (o + 1))) < (h.1 q1 2) then (Int32.ofNat (aln (o + 1))) else (h.1 q1 2))) fun g1 => gd (cpk 0 (g1.1 o 2) (aln (q1 + 1))) (gd (cpk 0 (g1.1 o 2) (aln (o + 1))) (lt (ci g1 (q1 + 1) (o + 1) 0 0 (g1.1 o 2)) fun g5 => gd (cpk 0 (g5.1 o 2) (aln (q1 + 2))) (gd (cpk 0 (g5.1 o 2) (aln (o + 2))) (lt (ci g5 (q1 + 2) (o + 2) 0 0 (g5.1 o 2)) fun g9 => some g9))))
set_option maxHeartbeats 4000000 in
set_option maxRecDepth 100000 in
theorem A_X3_copyFrom (X : XE) (o : Nat) (ho : PR o) (q1 : Nat) (hq1 : PR q1) (h : HP) (h' : HP) (hf : f_X3_copyFrom o q1 h = some h') : CC mX3_copyFrom 1 X [.ref (X.1 o), .ref (X.1 q1)] h none h' := by
  refine CC_of rfl (Nat.le_of_ble_eq_true rfl) ?_
  show Run mX3_copyFrom 1 X 0 [(0, .ref (X.1 o)), (1, .ref (X.1 q1))] [] h none h'
  unfold f_X3_copyFrom at hf
  refine r_aload_n 1 rfl 0 rfl rfl (ck DX3_copyFrom_0 0 rfl) ?_
  refine r_aload_n 2 rfl 1 rfl rfl (ck DX3_copyFrom_0 1 rfl) ?_
  refine r_geti 5 rfl hq1.1 kd_3_2 fl_X3_16 (ck DX3_copyFrom_0 2 rfl) ?_
  refine r_aload_n 6 rfl 0 rfl rfl (ck DX3_copyFrom_0 3 rfl) ?_
  refine r_getr (q := o + 1) 9 rfl (lq_3_0 o) ho.1 kd_3_0 fl_X3_7 (ck DX3_copyFrom_0 4 rfl) ?_
  refine r_alen 10 rfl ho.2.1 rfl (ck DX3_copyFrom_0 5 rfl) ?_
  refine r_min 13 rfl (by decide) ml_X3_20 ms_min ini_Math mc_min (Nat.le_of_ble_eq_true rfl) (ck DX3_copyFrom_0 6 rfl) ?_
  obtain ⟨g1, e2, hf⟩ := lt_so hf
  refine r_puti 16 rfl ho.1 kd_3_2 fw_X3_16 rfl rfl (ck DX3_copyFrom_0 7 rfl) ?_
  refine r_heap e2 ?_
  refine r_aload_n 17 rfl 1 rfl rfl (ck DX3_copyFrom_0 8 rfl) ?_
  refine r_getr (q := q1 + 1) 20 rfl (lq_3_0 q1) hq1.1 kd_3_0 fl_X3_7 (ck DX3_copyFrom_0 9 rfl) ?_
  refine r_iconst 21 rfl ic_0 (ck DX3_copyFrom_0 10 rfl) ?_
  refine r_aload_n 22 rfl 0 rfl rfl (ck DX3_copyFrom_0 11 rfl) ?_
  refine r_getr (q := o + 1) 25 rfl (lq_3_0 o) ho.1 kd_3_0 fl_X3_7 (ck DX3_copyFrom_0 12 rfl) ?_
  refine r_iconst 26 rfl ic_0 (ck DX3_copyFrom_0 13 rfl) ?_
  refine r_aload_n 27 rfl 0 rfl rfl (ck DX3_copyFrom_0 14 rfl) ?_
  refine r_geti 30 rfl ho.1 kd_3_2 fl_X3_16 (ck DX3_copyFrom_0 15 rfl) ?_
  obtain ⟨b3, hf⟩ := gd_so hf
  obtain ⟨b4, hf⟩ := gd_so hf
  obtain ⟨g5, e6, hf⟩ := lt_so hf
  refine r_copyi 33 rfl (by decide) hq1.2.1 ho.2.1 b3 b4 ml_X3_26 ac_nat ac_st ini_Sys (Nat.le_of_ble_eq_true rfl) (ck DX3_copyFrom_0 16 rfl) ?_
  refine r_heap e6 ?_
  refine r_aload_n 34 rfl 1 rfl rfl (ck DX3_copyFrom_0 17 rfl) ?_
  refine r_getr (q := q1 + 2) 37 rfl (lq_3_1 q1) hq1.1 kd_3_1 fl_X3_13 (ck DX3_copyFrom_0 18 rfl) ?_
  refine r_iconst 38 rfl ic_0 (ck DX3_copyFrom_0 19 rfl) ?_
  refine r_aload_n 39 rfl 0 rfl rfl (ck DX3_copyFrom_0 20 rfl) ?_
  refine r_getr (q := o + 2) 42 rfl (lq_3_1 o) ho.1 kd_3_1 fl_X3_13 (ck DX3_copyFrom_0 21 rfl) ?_
  refine r_iconst 43 rfl ic_0 (ck DX3_copyFrom_0 22 rfl) ?_
  refine r_aload_n 44 rfl 0 rfl rfl (ck DX3_copyFrom_0 23 rfl) ?_
  refine r_geti 47 rfl ho.1 kd_3_2 fl_X3_16 (ck DX3_copyFrom_0 24 rfl) ?_
  obtain ⟨b7, hf⟩ := gd_so hf
  obtain ⟨b8, hf⟩ := gd_so hf
  obtain ⟨g9, e10, hf⟩ := lt_so hf
  refine r_copyi 50 rfl (by decide) hq1.2.2 ho.2.2 b7 b8 ml_X3_26 ac_nat ac_st ini_Sys (Nat.le_of_ble_eq_true rfl) (ck DX3_copyFrom_0 25 rfl) ?_
  refine r_heap e10 ?_
  obtain rfl := so1 hf
  exact r_vret rfl (ck DX3_copyFrom_0 26 rfl)
-- X4_become
def f_X4_become_L12 (o : Nat) : Nat → Int32 → HP → Option HP
  | 0, _, _ => none
  | n + 1, x3, h => if (60 : Int32) ≤ x3 then (some h) else (gd (inb x3 60) (lt (sl h (o + 1) (Int32.toNatClampNeg x3) 0) fun g7 => lt (x3 + 1 : Int32) fun v9 => f_X4_become_L12 o n v9 g7))
set_option maxHeartbeats 4000000 in
set_option maxRecDepth 100000 in
theorem A_X4_become_L12 (X : XE) (o : Nat) (ho : TP o) (h' : HP) : ∀ (n : Nat) (x3 : Int32) (h : HP), f_X4_become_L12 o n x3 h = some h' → Run mX4_become 1 X 12 [(0, .ref (X.1 o)), (3, .int x3)] [] h none h' := by
  intro n
  induction n with
  | zero => intro x3 h hf; cases hf
  | succ n ih =>
    intro x3 h hf
    rw [f_X4_become_L12] at hf
    refine r_iload_n 13 rfl 1 rfl rfl (ck DX4_become_0 8 rfl) ?_
    refine r_bipush 15 rfl bp_60 (ck DX4_become_0 9 rfl) ?_
    rcases if_so hf with ⟨c5, hf⟩ | ⟨c5, hf⟩
    · refine r_icmp_ge_t 31 (ck DX4_become_0 10 rfl) (by decide) c5 ?_
      obtain rfl := so1 hf
      exact r_vret rfl (ck DX4_become_0 18 rfl)
    · refine r_icmp_ge_f 18 rfl 31 (ck DX4_become_0 10 rfl) (by decide) c5 ?_
      refine r_aload_n 19 rfl 0 rfl rfl (ck DX4_become_0 11 rfl) ?_
      refine r_getr (q := o + 1) 22 rfl (lq_4_0 o) ho.1 kd_4_0 fl_X4_9 (ck DX4_become_0 12 rfl) ?_
      refine r_iload_n 23 rfl 1 rfl rfl (ck DX4_become_0 13 rfl) ?_
      refine r_lconst (v := 0) 24 rfl rfl (ck DX4_become_0 14 rfl) ?_
      obtain ⟨b6, hf⟩ := gd_so hf
      obtain ⟨g7, e8, hf⟩ := lt_so hf
      refine r_last 25 rfl ho.2 (inb_vp b6) (ck DX4_become_0 15 rfl) ?_
      refine r_heap e8 ?_
      obtain ⟨v9, e10, hf⟩ := lt_so hf
      refine r_iinc (lv' := [(3, .int v9), (0, .ref (X.1 o))]) 28 rfl 1 (ck DX4_become_0 16 rfl) rfl (by rw [e10, ic_1]) (by decide) rfl ?_
      refine r_goto 12 (ck DX4_become_0 17 rfl) (by decide) ?_
      refine r_sub (lv' := [(0, .ref (X.1 o)), (3, .int v9)]) [1, 0] rfl ?_
      exact ih v9 g7 hf
def f_X4_become (o : Nat) (x1 : Int32) (x2 : Int32) (h : HP) : Option HP := lt (si h o 1 x1) fun g1 => lt (si g1 o 2 x2) fun g3 => f_X4_become_L12 o FZ 0 g3
set_option maxHeartbeats 4000000 in
set_option maxRecDepth 100000 in
theorem A_X4_become (X : XE) (o : Nat) (ho : TP o) (x1 : Int32) (x2 : Int32) (h : HP) (h' : HP) (hf : f_X4_become o x1 x2 h = some h') : CC mX4_become 1 X [.ref (X.1 o), .int x1, .int x2] h none h' := by
  refine CC_of rfl (Nat.le_of_ble_eq_true rfl) ?_
  show Run mX4_become 1 X 0 [(0, .ref (X.1 o)), (1, .int x1), (2, .int x2)] [] h none h'
  unfold f_X4_become at hf
  refine r_aload_n 1 rfl 0 rfl rfl (ck DX4_become_0 0 rfl) ?_
  refine r_iload_n 2 rfl 1 rfl rfl (ck DX4_become_0 1 rfl) ?_
  obtain ⟨g1, e2, hf⟩ := lt_so hf
  refine r_puti 5 rfl ho.1 kd_4_1 fw_X4_13 rfl rfl (ck DX4_become_0 2 rfl) ?_
  refine r_heap e2 ?_
  refine r_aload_n 6 rfl 0 rfl rfl (ck DX4_become_0 3 rfl) ?_
  refine r_iload_n 7 rfl 2 rfl rfl (ck DX4_become_0 4 rfl) ?_
  obtain ⟨g3, e4, hf⟩ := lt_so hf
  refine r_puti 10 rfl ho.1 kd_4_2 fw_X4_17 rfl rfl (ck DX4_become_0 5 rfl) ?_
  refine r_heap e4 ?_
  refine r_iconst 11 rfl ic_0 (ck DX4_become_0 6 rfl) ?_
  refine r_istore_n (lv' := [(3, .int 0), (0, .ref (X.1 o)), (1, .int x1), (2, .int x2)]) 12 rfl (ck DX4_become_0 7 rfl) (by decide) rfl rfl ?_
  refine r_sub (lv' := [(0, .ref (X.1 o)), (3, .int 0)]) [1, 0] rfl ?_
  exact A_X4_become_L12 X o ho _ FZ 0 g3 hf
-- X4_cut
def f_X4_cut (o : Nat) (y1 : Int64) (h : HP) : Option Int64 := lt ((h.1 o 1) : Int32) fun v1 => if v1 = 0 then (some (Int32.toInt64 (Int8.toInt32 (Int32.toInt8 (Int64.toInt32 y1))))) else (if v1 = 1 then (some (Int32.toInt64 (Int16.toInt32 (Int32.toInt16 (Int64.toInt32 y1))))) else (if v1 = 2 then (some (Int32.toInt64 (Int64.toInt32 y1))) else (if v1 = 3 then (some y1) else (if v1 = 4 then (if (lg_cmp y1 0) = 0 then (some 0) else (some 1)) else ((some y1))))))
set_option maxHeartbeats 4000000 in
set_option maxRecDepth 100000 in
theorem A_X4_cut (X : XE) (o : Nat) (ho : TP o) (y1 : Int64) (h : HP) (r : Int64) (hf : f_X4_cut o y1 h = some r) : CC mX4_cut 1 X [.ref (X.1 o), .long y1] h (some (.long r)) h := by
  refine CC_of rfl (Nat.le_of_ble_eq_true rfl) ?_
  show Run mX4_cut 1 X 0 [(0, .ref (X.1 o)), (1, .long y1)] [] h (some (.long r)) h
  unfold f_X4_cut at hf
  refine r_aload_n 1 rfl 0 rfl rfl (ck DX4_cut_0 0 rfl) ?_
  refine r_geti 4 rfl ho.1 kd_4_1 fl_X4_13 (ck DX4_cut_0 1 rfl) ?_
  obtain ⟨v1, e2, hf⟩ := lt_so hf
  refine r_top e2 ?_
  rcases if_so hf with ⟨c3, hf⟩ | ⟨c3, hf⟩
  · refine r_tsw_in (v := 0) 40 (ck DX4_cut_0 2 rfl) c3 (by decide) (by decide) rfl (by decide) ?_
    refine r_lload_n 41 rfl 1 rfl rfl (ck DX4_cut_0 3 rfl) ?_
    refine r_l2i 42 rfl (ck DX4_cut_0 4 rfl) ?_
    refine r_i2b 43 rfl (ck DX4_cut_0 5 rfl) ?_
    refine r_i2l 44 rfl (ck DX4_cut_0 6 rfl) ?_
    obtain rfl := so1 hf
    exact r_lret rfl (ck DX4_cut_0 7 rfl)
  · skip
    rcases if_so hf with ⟨c4, hf⟩ | ⟨c4, hf⟩
    · refine r_tsw_in (v := 1) 45 (ck DX4_cut_0 2 rfl) c4 (by decide) (by decide) rfl (by decide) ?_
      refine r_lload_n 46 rfl 1 rfl rfl (ck DX4_cut_0 8 rfl) ?_
      refine r_l2i 47 rfl (ck DX4_cut_0 9 rfl) ?_
      refine r_i2s 48 rfl (ck DX4_cut_0 10 rfl) ?_
      refine r_i2l 49 rfl (ck DX4_cut_0 11 rfl) ?_
      obtain rfl := so1 hf
      exact r_lret rfl (ck DX4_cut_0 12 rfl)
    · skip
      rcases if_so hf with ⟨c5, hf⟩ | ⟨c5, hf⟩
      · refine r_tsw_in (v := 2) 50 (ck DX4_cut_0 2 rfl) c5 (by decide) (by decide) rfl (by decide) ?_
        refine r_lload_n 51 rfl 1 rfl rfl (ck DX4_cut_0 13 rfl) ?_
        refine r_l2i 52 rfl (ck DX4_cut_0 14 rfl) ?_
        refine r_i2l 53 rfl (ck DX4_cut_0 15 rfl) ?_
        obtain rfl := so1 hf
        exact r_lret rfl (ck DX4_cut_0 16 rfl)
      · skip
        rcases if_so hf with ⟨c6, hf⟩ | ⟨c6, hf⟩
        · refine r_tsw_in (v := 3) 66 (ck DX4_cut_0 2 rfl) c6 (by decide) (by decide) rfl (by decide) ?_
          refine r_lload_n 67 rfl 1 rfl rfl (ck DX4_cut_0 25 rfl) ?_
          obtain rfl := so1 hf
          exact r_lret rfl (ck DX4_cut_0 26 rfl)
        · skip
          rcases if_so hf with ⟨c7, hf⟩ | ⟨c7, hf⟩
          · refine r_tsw_in (v := 4) 54 (ck DX4_cut_0 2 rfl) c7 (by decide) (by decide) rfl (by decide) ?_
            refine r_lload_n 55 rfl 1 rfl rfl (ck DX4_cut_0 17 rfl) ?_
            refine r_lconst (v := 0) 56 rfl rfl (ck DX4_cut_0 18 rfl) ?_
            refine r_lcmp 57 rfl (ck DX4_cut_0 19 rfl) ?_
            rcases if_so hf with ⟨c8, hf⟩ | ⟨c8, hf⟩
            · refine r_if_eq_t 64 (ck DX4_cut_0 20 rfl) (by decide) c8 ?_
              refine r_lconst (v := 0) 65 rfl rfl (ck DX4_cut_0 23 rfl) ?_
              obtain rfl := so1 hf
              exact r_lret rfl (ck DX4_cut_0 24 rfl)
            · refine r_if_eq_f 60 rfl 64 (ck DX4_cut_0 20 rfl) (by decide) c8 ?_
              refine r_lconst (v := 1) 61 rfl rfl (ck DX4_cut_0 21 rfl) ?_
              refine r_goto 65 (ck DX4_cut_0 22 rfl) (by decide) ?_
              obtain rfl := so1 hf
              exact r_lret rfl (ck DX4_cut_0 24 rfl)
          · skip
            have hx9 : v1.toInt < 0 ∨ (4 : Int) < v1.toInt := by
              have h8 := tsw_o (x := v1) 0 5 (fun k hk => by
                match k, hk with
                | 0, _ => exact ne_int c3
                | 1, _ => exact ne_int c4
                | 2, _ => exact ne_int c5
                | 3, _ => exact ne_int c6
                | 4, _ => exact ne_int c7
                | k + 5, hk => exact absurd hk (by omega))
              exact h8
            refine r_tsw_out 66 (ck DX4_cut_0 2 rfl) hx9 (by decide) ?_
            refine r_lload_n 67 rfl 1 rfl rfl (ck DX4_cut_0 25 rfl) ?_
            obtain rfl := so1 hf
            exact r_lret rfl (ck DX4_cut_0 26 rfl)
end
