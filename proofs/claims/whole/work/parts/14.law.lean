noncomputable section
abbrev mL_law : MD := (yL_law, code, 4, some .boolean)
def f_L_law_J200 (L : Nat) (xs : Nat → Int32) (rc18 : Int32 → HP → Option (Int32 × HP)) (x3 : Int32) (h : HP) : Option (Int32 × HP) := gd (inb (x3 + 1) L) (gd (inb (x3 + 2) L) (gd (inb (x3 + 3) L) (bd (f_X6_piece (xs (Int32.toNatClampNeg (x3 + 1))) (xs (Int32.toNatClampNeg (x3 + 2))) (xs (Int32.toNatClampNeg (x3 + 3))) h) fun v11 g9 => gd (inb (x3 + 1) L) (gd (inb (x3 + 2) L) (gd (inb (x3 + 3) L) (bd (f_X7_piece (xs (Int32.toNatClampNeg (x3 + 1))) (xs (Int32.toNatClampNeg (x3 + 2))) (xs (Int32.toNatClampNeg (x3 + 3))) g9) fun v17 g15 => if v11 = v17 then (lt (x3 + 6 : Int32) fun v19 => rc18 v19 g15) else (some (0, g15))))))))
set_option maxHeartbeats 4000000 in
set_option maxRecDepth 100000 in
theorem A_L_law_J200 (X : XE) (rc18 : Int32 → HP → Option (Int32 × HP)) (r : Int32) (h' : HP) (hr18 : ∀ (x3 : Int32) (h : HP), rc18 x3 h = some (r, h') → Run mL_law 103 X 18 [(0, .ref (X.2.2.2.1 6)), (1, .ref (X.1 0)), (2, .ref (X.1 96)), (3, .int x3)] [] h (some (.int r)) h') (x3 : Int32) (h : HP) (hf : f_L_law_J200 X.2.2.2.2.1 X.2.2.2.2.2 rc18 x3 h = some (r, h')) : Run mL_law 103 X 200 [(0, .ref (X.2.2.2.1 6)), (1, .ref (X.1 0)), (2, .ref (X.1 96)), (3, .int x3)] [] h (some (.int r)) h' := by
  unfold f_L_law_J200 at hf
  refine r_aload_n 201 rfl 1 rfl rfl (ck DL_law_0 22 rfl) ?_
  refine r_aload_n 202 rfl 0 rfl rfl (ck DL_law_0 23 rfl) ?_
  refine r_iload_n 203 rfl 3 rfl rfl (ck DL_law_0 24 rfl) ?_
  refine r_iconst 204 rfl ic_1 (ck DL_law_0 25 rfl) ?_
  refine r_iadd 205 rfl (ck DL_law_0 26 rfl) ?_
  obtain ⟨b6, hf⟩ := gd_so hf
  refine r_sald 206 rfl (inb_vp b6) (ck DL_law_0 27 rfl) ?_
  refine r_aload_n 207 rfl 0 rfl rfl (ck DL_law_0 28 rfl) ?_
  refine r_iload_n 208 rfl 3 rfl rfl (ck DL_law_0 29 rfl) ?_
  refine r_iconst 209 rfl ic_2 (ck DL_law_0 30 rfl) ?_
  refine r_iadd 210 rfl (ck DL_law_0 31 rfl) ?_
  obtain ⟨b7, hf⟩ := gd_so hf
  refine r_sald 211 rfl (inb_vp b7) (ck DL_law_0 32 rfl) ?_
  refine r_aload_n 212 rfl 0 rfl rfl (ck DL_law_0 33 rfl) ?_
  refine r_iload_n 213 rfl 3 rfl rfl (ck DL_law_0 34 rfl) ?_
  refine r_iconst 214 rfl ic_3 (ck DL_law_0 35 rfl) ?_
  refine r_iadd 215 rfl (ck DL_law_0 36 rfl) ?_
  obtain ⟨b8, hf⟩ := gd_so hf
  refine r_sald 216 rfl (inb_vp b8) (ck DL_law_0 37 rfl) ?_
  obtain ⟨v11, g9, e10, hf⟩ := bd_so hf
  refine r_callVi 219 rfl (A_X6_piece X (X.2.2.2.2.2 (Int32.toNatClampNeg (x3 + 1))) (X.2.2.2.2.2 (Int32.toNatClampNeg (x3 + 2))) (X.2.2.2.2.2 (Int32.toNatClampNeg (x3 + 3))) h v11 g9 e10) (by omega) cw_L_13 sh_0 cl_6 rfl rfl (Nat.le_of_ble_eq_true rfl) (ck DL_law_0 38 rfl) ?_
  refine r_aload_n 220 rfl 2 rfl rfl (ck DL_law_0 39 rfl) ?_
  refine r_aload_n 221 rfl 0 rfl rfl (ck DL_law_0 40 rfl) ?_
  refine r_iload_n 222 rfl 3 rfl rfl (ck DL_law_0 41 rfl) ?_
  refine r_iconst 223 rfl ic_1 (ck DL_law_0 42 rfl) ?_
  refine r_iadd 224 rfl (ck DL_law_0 43 rfl) ?_
  obtain ⟨b12, hf⟩ := gd_so hf
  refine r_sald 225 rfl (inb_vp b12) (ck DL_law_0 44 rfl) ?_
  refine r_aload_n 226 rfl 0 rfl rfl (ck DL_law_0 45 rfl) ?_
  refine r_iload_n 227 rfl 3 rfl rfl (ck DL_law_0 46 rfl) ?_
  refine r_iconst 228 rfl ic_2 (ck DL_law_0 47 rfl) ?_
  refine r_iadd 229 rfl (ck DL_law_0 48 rfl) ?_
  obtain ⟨b13, hf⟩ := gd_so hf
  refine r_sald 230 rfl (inb_vp b13) (ck DL_law_0 49 rfl) ?_
  refine r_aload_n 231 rfl 0 rfl rfl (ck DL_law_1 0 rfl) ?_
  refine r_iload_n 232 rfl 3 rfl rfl (ck DL_law_1 1 rfl) ?_
  refine r_iconst 233 rfl ic_3 (ck DL_law_1 2 rfl) ?_
  refine r_iadd 234 rfl (ck DL_law_1 3 rfl) ?_
  obtain ⟨b14, hf⟩ := gd_so hf
  refine r_sald 235 rfl (inb_vp b14) (ck DL_law_1 4 rfl) ?_
  obtain ⟨v17, g15, e16, hf⟩ := bd_so hf
  refine r_callVi 238 rfl (A_X7_piece X (X.2.2.2.2.2 (Int32.toNatClampNeg (x3 + 1))) (X.2.2.2.2.2 (Int32.toNatClampNeg (x3 + 2))) (X.2.2.2.2.2 (Int32.toNatClampNeg (x3 + 3))) g9 v17 g15 e16) (by omega) cw_L_17 sh_96 cl_7 rfl rfl (Nat.le_of_ble_eq_true rfl) (ck DL_law_1 5 rfl) ?_
  rcases if_so hf with ⟨c18, hf⟩ | ⟨c18, hf⟩
  · refine r_icmp_eq_t 1347 (ck DL_law_1 6 rfl) (by decide) c18 ?_
    obtain ⟨v19, e20, hf⟩ := lt_so hf
    refine r_iinc (lv' := [(3, .int v19), (0, .ref (X.2.2.2.1 6)), (1, .ref (X.1 0)), (2, .ref (X.1 96))]) 1350 rfl 3 (ck DL_law_18 35 rfl) rfl (by rw [e20, ic_6]) (by decide) rfl ?_
    refine r_goto 18 (ck DL_law_18 36 rfl) (by decide) ?_
    refine r_sub (lv' := [(0, .ref (X.2.2.2.1 6)), (1, .ref (X.1 0)), (2, .ref (X.1 96)), (3, .int v19)]) [1, 2, 3, 0] rfl ?_
    exact hr18 v19 g15 hf
  · refine r_icmp_eq_f 241 rfl 1347 (ck DL_law_1 6 rfl) (by decide) c18 ?_
    refine r_iconst 242 rfl ic_0 (ck DL_law_1 7 rfl) ?_
    obtain ⟨rfl, rfl⟩ := so2 hf
    exact r_iret rfl rfl (ck DL_law_1 8 rfl)
def f_L_law_J243 (L : Nat) (xs : Nat → Int32) (rc18 : Int32 → HP → Option (Int32 × HP)) (x3 : Int32) (h : HP) : Option (Int32 × HP) := gd (inb (x3 + 1) L) (gd (inb (x3 + 2) L) (bd (f_X6_of (xs (Int32.toNatClampNeg (x3 + 1))) (xs (Int32.toNatClampNeg (x3 + 2))) h) fun v26 g24 => gd (inb (x3 + 1) L) (gd (inb (x3 + 2) L) (bd (f_X7_of (xs (Int32.toNatClampNeg (x3 + 1))) (xs (Int32.toNatClampNeg (x3 + 2))) g24) fun v31 g29 => if v26 = v31 then (lt (x3 + 6 : Int32) fun v33 => rc18 v33 g29) else (some (0, g29))))))
set_option maxHeartbeats 4000000 in
set_option maxRecDepth 100000 in
theorem A_L_law_J243 (X : XE) (rc18 : Int32 → HP → Option (Int32 × HP)) (r : Int32) (h' : HP) (hr18 : ∀ (x3 : Int32) (h : HP), rc18 x3 h = some (r, h') → Run mL_law 103 X 18 [(0, .ref (X.2.2.2.1 6)), (1, .ref (X.1 0)), (2, .ref (X.1 96)), (3, .int x3)] [] h (some (.int r)) h') (x3 : Int32) (h : HP) (hf : f_L_law_J243 X.2.2.2.2.1 X.2.2.2.2.2 rc18 x3 h = some (r, h')) : Run mL_law 103 X 243 [(0, .ref (X.2.2.2.1 6)), (1, .ref (X.1 0)), (2, .ref (X.1 96)), (3, .int x3)] [] h (some (.int r)) h' := by
  unfold f_L_law_J243 at hf
  refine r_aload_n 244 rfl 1 rfl rfl (ck DL_law_1 9 rfl) ?_
  refine r_aload_n 245 rfl 0 rfl rfl (ck DL_law_1 10 rfl) ?_
  refine r_iload_n 246 rfl 3 rfl rfl (ck DL_law_1 11 rfl) ?_
  refine r_iconst 247 rfl ic_1 (ck DL_law_1 12 rfl) ?_
  refine r_iadd 248 rfl (ck DL_law_1 13 rfl) ?_
  obtain ⟨b22, hf⟩ := gd_so hf
  refine r_sald 249 rfl (inb_vp b22) (ck DL_law_1 14 rfl) ?_
  refine r_aload_n 250 rfl 0 rfl rfl (ck DL_law_1 15 rfl) ?_
  refine r_iload_n 251 rfl 3 rfl rfl (ck DL_law_1 16 rfl) ?_
  refine r_iconst 252 rfl ic_2 (ck DL_law_1 17 rfl) ?_
  refine r_iadd 253 rfl (ck DL_law_1 18 rfl) ?_
  obtain ⟨b23, hf⟩ := gd_so hf
  refine r_sald 254 rfl (inb_vp b23) (ck DL_law_1 19 rfl) ?_
  obtain ⟨v26, g24, e25, hf⟩ := bd_so hf
  refine r_callVi 257 rfl (A_X6_of X (X.2.2.2.2.2 (Int32.toNatClampNeg (x3 + 1))) (X.2.2.2.2.2 (Int32.toNatClampNeg (x3 + 2))) h v26 g24 e25) (by omega) cw_L_18 sh_0 cl_6 rfl rfl (Nat.le_of_ble_eq_true rfl) (ck DL_law_1 20 rfl) ?_
  refine r_aload_n 258 rfl 2 rfl rfl (ck DL_law_1 21 rfl) ?_
  refine r_aload_n 259 rfl 0 rfl rfl (ck DL_law_1 22 rfl) ?_
  refine r_iload_n 260 rfl 3 rfl rfl (ck DL_law_1 23 rfl) ?_
  refine r_iconst 261 rfl ic_1 (ck DL_law_1 24 rfl) ?_
  refine r_iadd 262 rfl (ck DL_law_1 25 rfl) ?_
  obtain ⟨b27, hf⟩ := gd_so hf
  refine r_sald 263 rfl (inb_vp b27) (ck DL_law_1 26 rfl) ?_
  refine r_aload_n 264 rfl 0 rfl rfl (ck DL_law_1 27 rfl) ?_
  refine r_iload_n 265 rfl 3 rfl rfl (ck DL_law_1 28 rfl) ?_
  refine r_iconst 266 rfl ic_2 (ck DL_law_1 29 rfl) ?_
  refine r_iadd 267 rfl (ck DL_law_1 30 rfl) ?_
  obtain ⟨b28, hf⟩ := gd_so hf
  refine r_sald 268 rfl (inb_vp b28) (ck DL_law_1 31 rfl) ?_
  obtain ⟨v31, g29, e30, hf⟩ := bd_so hf
  refine r_callVi 271 rfl (A_X7_of X (X.2.2.2.2.2 (Int32.toNatClampNeg (x3 + 1))) (X.2.2.2.2.2 (Int32.toNatClampNeg (x3 + 2))) g24 v31 g29 e30) (by omega) cw_L_22 sh_96 cl_7 rfl rfl (Nat.le_of_ble_eq_true rfl) (ck DL_law_1 32 rfl) ?_
  rcases if_so hf with ⟨c32, hf⟩ | ⟨c32, hf⟩
  · refine r_icmp_eq_t 1347 (ck DL_law_1 33 rfl) (by decide) c32 ?_
    obtain ⟨v33, e34, hf⟩ := lt_so hf
    refine r_iinc (lv' := [(3, .int v33), (0, .ref (X.2.2.2.1 6)), (1, .ref (X.1 0)), (2, .ref (X.1 96))]) 1350 rfl 3 (ck DL_law_18 35 rfl) rfl (by rw [e34, ic_6]) (by decide) rfl ?_
    refine r_goto 18 (ck DL_law_18 36 rfl) (by decide) ?_
    refine r_sub (lv' := [(0, .ref (X.2.2.2.1 6)), (1, .ref (X.1 0)), (2, .ref (X.1 96)), (3, .int v33)]) [1, 2, 3, 0] rfl ?_
    exact hr18 v33 g29 hf
  · refine r_icmp_eq_f 274 rfl 1347 (ck DL_law_1 33 rfl) (by decide) c32 ?_
    refine r_iconst 275 rfl ic_0 (ck DL_law_1 34 rfl) ?_
    obtain ⟨rfl, rfl⟩ := so2 hf
    exact r_iret rfl rfl (ck DL_law_1 35 rfl)
def f_L_law_J276 (L : Nat) (xs : Nat → Int32) (rc18 : Int32 → HP → Option (Int32 × HP)) (x3 : Int32) (h : HP) : Option (Int32 × HP) := gd (inb (x3 + 1) L) (gd (inb (x3 + 2) L) (gd (inb (x3 + 3) L) (bd (f_X6_set (xs (Int32.toNatClampNeg (x3 + 1))) (xs (Int32.toNatClampNeg (x3 + 2))) (xs (Int32.toNatClampNeg (x3 + 3))) h) fun v41 g39 => gd (inb (x3 + 1) L) (gd (inb (x3 + 2) L) (gd (inb (x3 + 3) L) (bd (f_X7_set (xs (Int32.toNatClampNeg (x3 + 1))) (xs (Int32.toNatClampNeg (x3 + 2))) (xs (Int32.toNatClampNeg (x3 + 3))) g39) fun v47 g45 => if v41 = v47 then (lt (x3 + 6 : Int32) fun v49 => rc18 v49 g45) else (some (0, g45))))))))
set_option maxHeartbeats 4000000 in
set_option maxRecDepth 100000 in
theorem A_L_law_J276 (X : XE) (rc18 : Int32 → HP → Option (Int32 × HP)) (r : Int32) (h' : HP) (hr18 : ∀ (x3 : Int32) (h : HP), rc18 x3 h = some (r, h') → Run mL_law 103 X 18 [(0, .ref (X.2.2.2.1 6)), (1, .ref (X.1 0)), (2, .ref (X.1 96)), (3, .int x3)] [] h (some (.int r)) h') (x3 : Int32) (h : HP) (hf : f_L_law_J276 X.2.2.2.2.1 X.2.2.2.2.2 rc18 x3 h = some (r, h')) : Run mL_law 103 X 276 [(0, .ref (X.2.2.2.1 6)), (1, .ref (X.1 0)), (2, .ref (X.1 96)), (3, .int x3)] [] h (some (.int r)) h' := by
  unfold f_L_law_J276 at hf
  refine r_aload_n 277 rfl 1 rfl rfl (ck DL_law_1 36 rfl) ?_
  refine r_aload_n 278 rfl 0 rfl rfl (ck DL_law_1 37 rfl) ?_
  refine r_iload_n 279 rfl 3 rfl rfl (ck DL_law_1 38 rfl) ?_
  refine r_iconst 280 rfl ic_1 (ck DL_law_1 39 rfl) ?_
  refine r_iadd 281 rfl (ck DL_law_1 40 rfl) ?_
  obtain ⟨b36, hf⟩ := gd_so hf
  refine r_sald 282 rfl (inb_vp b36) (ck DL_law_1 41 rfl) ?_
  refine r_aload_n 283 rfl 0 rfl rfl (ck DL_law_1 42 rfl) ?_
  refine r_iload_n 284 rfl 3 rfl rfl (ck DL_law_1 43 rfl) ?_
  refine r_iconst 285 rfl ic_2 (ck DL_law_1 44 rfl) ?_
  refine r_iadd 286 rfl (ck DL_law_1 45 rfl) ?_
  obtain ⟨b37, hf⟩ := gd_so hf
  refine r_sald 287 rfl (inb_vp b37) (ck DL_law_1 46 rfl) ?_
  refine r_aload_n 288 rfl 0 rfl rfl (ck DL_law_1 47 rfl) ?_
  refine r_iload_n 289 rfl 3 rfl rfl (ck DL_law_1 48 rfl) ?_
  refine r_iconst 290 rfl ic_3 (ck DL_law_1 49 rfl) ?_
  refine r_iadd 291 rfl (ck DL_law_2 0 rfl) ?_
  obtain ⟨b38, hf⟩ := gd_so hf
  refine r_sald 292 rfl (inb_vp b38) (ck DL_law_2 1 rfl) ?_
  obtain ⟨v41, g39, e40, hf⟩ := bd_so hf
  refine r_callVi 295 rfl (A_X6_set X (X.2.2.2.2.2 (Int32.toNatClampNeg (x3 + 1))) (X.2.2.2.2.2 (Int32.toNatClampNeg (x3 + 2))) (X.2.2.2.2.2 (Int32.toNatClampNeg (x3 + 3))) h v41 g39 e40) (by omega) cw_L_23 sh_0 cl_6 rfl rfl (Nat.le_of_ble_eq_true rfl) (ck DL_law_2 2 rfl) ?_
  refine r_aload_n 296 rfl 2 rfl rfl (ck DL_law_2 3 rfl) ?_
  refine r_aload_n 297 rfl 0 rfl rfl (ck DL_law_2 4 rfl) ?_
  refine r_iload_n 298 rfl 3 rfl rfl (ck DL_law_2 5 rfl) ?_
  refine r_iconst 299 rfl ic_1 (ck DL_law_2 6 rfl) ?_
  refine r_iadd 300 rfl (ck DL_law_2 7 rfl) ?_
  obtain ⟨b42, hf⟩ := gd_so hf
  refine r_sald 301 rfl (inb_vp b42) (ck DL_law_2 8 rfl) ?_
  refine r_aload_n 302 rfl 0 rfl rfl (ck DL_law_2 9 rfl) ?_
  refine r_iload_n 303 rfl 3 rfl rfl (ck DL_law_2 10 rfl) ?_
  refine r_iconst 304 rfl ic_2 (ck DL_law_2 11 rfl) ?_
  refine r_iadd 305 rfl (ck DL_law_2 12 rfl) ?_
  obtain ⟨b43, hf⟩ := gd_so hf
  refine r_sald 306 rfl (inb_vp b43) (ck DL_law_2 13 rfl) ?_
  refine r_aload_n 307 rfl 0 rfl rfl (ck DL_law_2 14 rfl) ?_
  refine r_iload_n 308 rfl 3 rfl rfl (ck DL_law_2 15 rfl) ?_
  refine r_iconst 309 rfl ic_3 (ck DL_law_2 16 rfl) ?_
  refine r_iadd 310 rfl (ck DL_law_2 17 rfl) ?_
  obtain ⟨b44, hf⟩ := gd_so hf
  refine r_sald 311 rfl (inb_vp b44) (ck DL_law_2 18 rfl) ?_
  obtain ⟨v47, g45, e46, hf⟩ := bd_so hf
  refine r_callVi 314 rfl (A_X7_set X (X.2.2.2.2.2 (Int32.toNatClampNeg (x3 + 1))) (X.2.2.2.2.2 (Int32.toNatClampNeg (x3 + 2))) (X.2.2.2.2.2 (Int32.toNatClampNeg (x3 + 3))) g39 v47 g45 e46) (by omega) cw_L_26 sh_96 cl_7 rfl rfl (Nat.le_of_ble_eq_true rfl) (ck DL_law_2 19 rfl) ?_
  rcases if_so hf with ⟨c48, hf⟩ | ⟨c48, hf⟩
  · refine r_icmp_eq_t 1347 (ck DL_law_2 20 rfl) (by decide) c48 ?_
    obtain ⟨v49, e50, hf⟩ := lt_so hf
    refine r_iinc (lv' := [(3, .int v49), (0, .ref (X.2.2.2.1 6)), (1, .ref (X.1 0)), (2, .ref (X.1 96))]) 1350 rfl 3 (ck DL_law_18 35 rfl) rfl (by rw [e50, ic_6]) (by decide) rfl ?_
    refine r_goto 18 (ck DL_law_18 36 rfl) (by decide) ?_
    refine r_sub (lv' := [(0, .ref (X.2.2.2.1 6)), (1, .ref (X.1 0)), (2, .ref (X.1 96)), (3, .int v49)]) [1, 2, 3, 0] rfl ?_
    exact hr18 v49 g45 hf
  · refine r_icmp_eq_f 317 rfl 1347 (ck DL_law_2 20 rfl) (by decide) c48 ?_
    refine r_iconst 318 rfl ic_0 (ck DL_law_2 21 rfl) ?_
    obtain ⟨rfl, rfl⟩ := so2 hf
    exact r_iret rfl rfl (ck DL_law_2 22 rfl)
def f_L_law_J319 (L : Nat) (xs : Nat → Int32) (rc18 : Int32 → HP → Option (Int32 × HP)) (x3 : Int32) (h : HP) : Option (Int32 × HP) := gd (inb (x3 + 1) L) (gd (inb (x3 + 2) L) (gd (inb (x3 + 3) L) (bd (f_X6_row (xs (Int32.toNatClampNeg (x3 + 1))) (xs (Int32.toNatClampNeg (x3 + 2))) (xs (Int32.toNatClampNeg (x3 + 3))) h) fun v57 g55 => gd (inb (x3 + 1) L) (gd (inb (x3 + 2) L) (gd (inb (x3 + 3) L) (bd (f_X7_row (xs (Int32.toNatClampNeg (x3 + 1))) (xs (Int32.toNatClampNeg (x3 + 2))) (xs (Int32.toNatClampNeg (x3 + 3))) g55) fun v63 g61 => if v57 = v63 then (lt (x3 + 6 : Int32) fun v65 => rc18 v65 g61) else (some (0, g61))))))))
set_option maxHeartbeats 4000000 in
set_option maxRecDepth 100000 in
theorem A_L_law_J319 (X : XE) (rc18 : Int32 → HP → Option (Int32 × HP)) (r : Int32) (h' : HP) (hr18 : ∀ (x3 : Int32) (h : HP), rc18 x3 h = some (r, h') → Run mL_law 103 X 18 [(0, .ref (X.2.2.2.1 6)), (1, .ref (X.1 0)), (2, .ref (X.1 96)), (3, .int x3)] [] h (some (.int r)) h') (x3 : Int32) (h : HP) (hf : f_L_law_J319 X.2.2.2.2.1 X.2.2.2.2.2 rc18 x3 h = some (r, h')) : Run mL_law 103 X 319 [(0, .ref (X.2.2.2.1 6)), (1, .ref (X.1 0)), (2, .ref (X.1 96)), (3, .int x3)] [] h (some (.int r)) h' := by
  unfold f_L_law_J319 at hf
  refine r_aload_n 320 rfl 1 rfl rfl (ck DL_law_2 23 rfl) ?_
  refine r_aload_n 321 rfl 0 rfl rfl (ck DL_law_2 24 rfl) ?_
  refine r_iload_n 322 rfl 3 rfl rfl (ck DL_law_2 25 rfl) ?_
  refine r_iconst 323 rfl ic_1 (ck DL_law_2 26 rfl) ?_
  refine r_iadd 324 rfl (ck DL_law_2 27 rfl) ?_
  obtain ⟨b52, hf⟩ := gd_so hf
  refine r_sald 325 rfl (inb_vp b52) (ck DL_law_2 28 rfl) ?_
  refine r_aload_n 326 rfl 0 rfl rfl (ck DL_law_2 29 rfl) ?_
  refine r_iload_n 327 rfl 3 rfl rfl (ck DL_law_2 30 rfl) ?_
  refine r_iconst 328 rfl ic_2 (ck DL_law_2 31 rfl) ?_
  refine r_iadd 329 rfl (ck DL_law_2 32 rfl) ?_
  obtain ⟨b53, hf⟩ := gd_so hf
  refine r_sald 330 rfl (inb_vp b53) (ck DL_law_2 33 rfl) ?_
  refine r_aload_n 331 rfl 0 rfl rfl (ck DL_law_2 34 rfl) ?_
  refine r_iload_n 332 rfl 3 rfl rfl (ck DL_law_2 35 rfl) ?_
  refine r_iconst 333 rfl ic_3 (ck DL_law_2 36 rfl) ?_
  refine r_iadd 334 rfl (ck DL_law_2 37 rfl) ?_
  obtain ⟨b54, hf⟩ := gd_so hf
  refine r_sald 335 rfl (inb_vp b54) (ck DL_law_2 38 rfl) ?_
  obtain ⟨v57, g55, e56, hf⟩ := bd_so hf
  refine r_callVi 338 rfl (A_X6_row X (X.2.2.2.2.2 (Int32.toNatClampNeg (x3 + 1))) (X.2.2.2.2.2 (Int32.toNatClampNeg (x3 + 2))) (X.2.2.2.2.2 (Int32.toNatClampNeg (x3 + 3))) h v57 g55 e56) (by omega) cw_L_27 sh_0 cl_6 rfl rfl (Nat.le_of_ble_eq_true rfl) (ck DL_law_2 39 rfl) ?_
  refine r_aload_n 339 rfl 2 rfl rfl (ck DL_law_2 40 rfl) ?_
  refine r_aload_n 340 rfl 0 rfl rfl (ck DL_law_2 41 rfl) ?_
  refine r_iload_n 341 rfl 3 rfl rfl (ck DL_law_2 42 rfl) ?_
  refine r_iconst 342 rfl ic_1 (ck DL_law_2 43 rfl) ?_
  refine r_iadd 343 rfl (ck DL_law_2 44 rfl) ?_
  obtain ⟨b58, hf⟩ := gd_so hf
  refine r_sald 344 rfl (inb_vp b58) (ck DL_law_2 45 rfl) ?_
  refine r_aload_n 345 rfl 0 rfl rfl (ck DL_law_2 46 rfl) ?_
  refine r_iload_n 346 rfl 3 rfl rfl (ck DL_law_2 47 rfl) ?_
  refine r_iconst 347 rfl ic_2 (ck DL_law_2 48 rfl) ?_
  refine r_iadd 348 rfl (ck DL_law_2 49 rfl) ?_
  obtain ⟨b59, hf⟩ := gd_so hf
  refine r_sald 349 rfl (inb_vp b59) (ck DL_law_3 0 rfl) ?_
  refine r_aload_n 350 rfl 0 rfl rfl (ck DL_law_3 1 rfl) ?_
  refine r_iload_n 351 rfl 3 rfl rfl (ck DL_law_3 2 rfl) ?_
  refine r_iconst 352 rfl ic_3 (ck DL_law_3 3 rfl) ?_
  refine r_iadd 353 rfl (ck DL_law_3 4 rfl) ?_
  obtain ⟨b60, hf⟩ := gd_so hf
  refine r_sald 354 rfl (inb_vp b60) (ck DL_law_3 5 rfl) ?_
  obtain ⟨v63, g61, e62, hf⟩ := bd_so hf
  refine r_callVi 357 rfl (A_X7_row X (X.2.2.2.2.2 (Int32.toNatClampNeg (x3 + 1))) (X.2.2.2.2.2 (Int32.toNatClampNeg (x3 + 2))) (X.2.2.2.2.2 (Int32.toNatClampNeg (x3 + 3))) g55 v63 g61 e62) (by omega) cw_L_30 sh_96 cl_7 rfl rfl (Nat.le_of_ble_eq_true rfl) (ck DL_law_3 6 rfl) ?_
  rcases if_so hf with ⟨c64, hf⟩ | ⟨c64, hf⟩
  · refine r_icmp_eq_t 1347 (ck DL_law_3 7 rfl) (by decide) c64 ?_
    obtain ⟨v65, e66, hf⟩ := lt_so hf
    refine r_iinc (lv' := [(3, .int v65), (0, .ref (X.2.2.2.1 6)), (1, .ref (X.1 0)), (2, .ref (X.1 96))]) 1350 rfl 3 (ck DL_law_18 35 rfl) rfl (by rw [e66, ic_6]) (by decide) rfl ?_
    refine r_goto 18 (ck DL_law_18 36 rfl) (by decide) ?_
    refine r_sub (lv' := [(0, .ref (X.2.2.2.1 6)), (1, .ref (X.1 0)), (2, .ref (X.1 96)), (3, .int v65)]) [1, 2, 3, 0] rfl ?_
    exact hr18 v65 g61 hf
  · refine r_icmp_eq_f 360 rfl 1347 (ck DL_law_3 7 rfl) (by decide) c64 ?_
    refine r_iconst 361 rfl ic_0 (ck DL_law_3 8 rfl) ?_
    obtain ⟨rfl, rfl⟩ := so2 hf
    exact r_iret rfl rfl (ck DL_law_3 9 rfl)
def f_L_law_J362 (L : Nat) (xs : Nat → Int32) (rc18 : Int32 → HP → Option (Int32 × HP)) (x3 : Int32) (h : HP) : Option (Int32 × HP) := gd (inb (x3 + 1) L) (bd (f_X6_hoist (xs (Int32.toNatClampNeg (x3 + 1))) h) fun v71 g69 => gd (inb (x3 + 1) L) (bd (f_X7_hoist (xs (Int32.toNatClampNeg (x3 + 1))) g69) fun v75 g73 => if v71 = v75 then (lt (x3 + 6 : Int32) fun v77 => rc18 v77 g73) else (some (0, g73))))
set_option maxHeartbeats 4000000 in
set_option maxRecDepth 100000 in
theorem A_L_law_J362 (X : XE) (rc18 : Int32 → HP → Option (Int32 × HP)) (r : Int32) (h' : HP) (hr18 : ∀ (x3 : Int32) (h : HP), rc18 x3 h = some (r, h') → Run mL_law 103 X 18 [(0, .ref (X.2.2.2.1 6)), (1, .ref (X.1 0)), (2, .ref (X.1 96)), (3, .int x3)] [] h (some (.int r)) h') (x3 : Int32) (h : HP) (hf : f_L_law_J362 X.2.2.2.2.1 X.2.2.2.2.2 rc18 x3 h = some (r, h')) : Run mL_law 103 X 362 [(0, .ref (X.2.2.2.1 6)), (1, .ref (X.1 0)), (2, .ref (X.1 96)), (3, .int x3)] [] h (some (.int r)) h' := by
  unfold f_L_law_J362 at hf
  refine r_aload_n 363 rfl 1 rfl rfl (ck DL_law_3 10 rfl) ?_
  refine r_aload_n 364 rfl 0 rfl rfl (ck DL_law_3 11 rfl) ?_
  refine r_iload_n 365 rfl 3 rfl rfl (ck DL_law_3 12 rfl) ?_
  refine r_iconst 366 rfl ic_1 (ck DL_law_3 13 rfl) ?_
  refine r_iadd 367 rfl (ck DL_law_3 14 rfl) ?_
  obtain ⟨b68, hf⟩ := gd_so hf
  refine r_sald 368 rfl (inb_vp b68) (ck DL_law_3 15 rfl) ?_
  obtain ⟨v71, g69, e70, hf⟩ := bd_so hf
  refine r_callVi 371 rfl (A_X6_hoist X (X.2.2.2.2.2 (Int32.toNatClampNeg (x3 + 1))) h v71 g69 e70) (by omega) cw_L_31 sh_0 cl_6 rfl rfl (Nat.le_of_ble_eq_true rfl) (ck DL_law_3 16 rfl) ?_
  refine r_aload_n 372 rfl 2 rfl rfl (ck DL_law_3 17 rfl) ?_
  refine r_aload_n 373 rfl 0 rfl rfl (ck DL_law_3 18 rfl) ?_
  refine r_iload_n 374 rfl 3 rfl rfl (ck DL_law_3 19 rfl) ?_
  refine r_iconst 375 rfl ic_1 (ck DL_law_3 20 rfl) ?_
  refine r_iadd 376 rfl (ck DL_law_3 21 rfl) ?_
  obtain ⟨b72, hf⟩ := gd_so hf
  refine r_sald 377 rfl (inb_vp b72) (ck DL_law_3 22 rfl) ?_
  obtain ⟨v75, g73, e74, hf⟩ := bd_so hf
  refine r_callVi 380 rfl (A_X7_hoist X (X.2.2.2.2.2 (Int32.toNatClampNeg (x3 + 1))) g69 v75 g73 e74) (by omega) cw_L_35 sh_96 cl_7 rfl rfl (Nat.le_of_ble_eq_true rfl) (ck DL_law_3 23 rfl) ?_
  rcases if_so hf with ⟨c76, hf⟩ | ⟨c76, hf⟩
  · refine r_icmp_eq_t 1347 (ck DL_law_3 24 rfl) (by decide) c76 ?_
    obtain ⟨v77, e78, hf⟩ := lt_so hf
    refine r_iinc (lv' := [(3, .int v77), (0, .ref (X.2.2.2.1 6)), (1, .ref (X.1 0)), (2, .ref (X.1 96))]) 1350 rfl 3 (ck DL_law_18 35 rfl) rfl (by rw [e78, ic_6]) (by decide) rfl ?_
    refine r_goto 18 (ck DL_law_18 36 rfl) (by decide) ?_
    refine r_sub (lv' := [(0, .ref (X.2.2.2.1 6)), (1, .ref (X.1 0)), (2, .ref (X.1 96)), (3, .int v77)]) [1, 2, 3, 0] rfl ?_
    exact hr18 v77 g73 hf
  · refine r_icmp_eq_f 383 rfl 1347 (ck DL_law_3 24 rfl) (by decide) c76 ?_
    refine r_iconst 384 rfl ic_0 (ck DL_law_3 25 rfl) ?_
    obtain ⟨rfl, rfl⟩ := so2 hf
    exact r_iret rfl rfl (ck DL_law_3 26 rfl)
def f_L_law_J385 (L : Nat) (xs : Nat → Int32) (rc18 : Int32 → HP → Option (Int32 × HP)) (x3 : Int32) (h : HP) : Option (Int32 × HP) := gd (inb (x3 + 1) L) (bd (f_X6_lower (xs (Int32.toNatClampNeg (x3 + 1))) h) fun v83 g81 => gd (inb (x3 + 1) L) (bd (f_X7_lower (xs (Int32.toNatClampNeg (x3 + 1))) g81) fun v87 g85 => if v83 = v87 then (lt (x3 + 6 : Int32) fun v89 => rc18 v89 g85) else (some (0, g85))))
set_option maxHeartbeats 4000000 in
set_option maxRecDepth 100000 in
theorem A_L_law_J385 (X : XE) (rc18 : Int32 → HP → Option (Int32 × HP)) (r : Int32) (h' : HP) (hr18 : ∀ (x3 : Int32) (h : HP), rc18 x3 h = some (r, h') → Run mL_law 103 X 18 [(0, .ref (X.2.2.2.1 6)), (1, .ref (X.1 0)), (2, .ref (X.1 96)), (3, .int x3)] [] h (some (.int r)) h') (x3 : Int32) (h : HP) (hf : f_L_law_J385 X.2.2.2.2.1 X.2.2.2.2.2 rc18 x3 h = some (r, h')) : Run mL_law 103 X 385 [(0, .ref (X.2.2.2.1 6)), (1, .ref (X.1 0)), (2, .ref (X.1 96)), (3, .int x3)] [] h (some (.int r)) h' := by
  unfold f_L_law_J385 at hf
  refine r_aload_n 386 rfl 1 rfl rfl (ck DL_law_3 27 rfl) ?_
  refine r_aload_n 387 rfl 0 rfl rfl (ck DL_law_3 28 rfl) ?_
  refine r_iload_n 388 rfl 3 rfl rfl (ck DL_law_3 29 rfl) ?_
  refine r_iconst 389 rfl ic_1 (ck DL_law_3 30 rfl) ?_
  refine r_iadd 390 rfl (ck DL_law_3 31 rfl) ?_
  obtain ⟨b80, hf⟩ := gd_so hf
  refine r_sald 391 rfl (inb_vp b80) (ck DL_law_3 32 rfl) ?_
  obtain ⟨v83, g81, e82, hf⟩ := bd_so hf
  refine r_callVi 394 rfl (A_X6_lower X (X.2.2.2.2.2 (Int32.toNatClampNeg (x3 + 1))) h v83 g81 e82) (by omega) cw_L_36 sh_0 cl_6 rfl rfl (Nat.le_of_ble_eq_true rfl) (ck DL_law_3 33 rfl) ?_
  refine r_aload_n 395 rfl 2 rfl rfl (ck DL_law_3 34 rfl) ?_
  refine r_aload_n 396 rfl 0 rfl rfl (ck DL_law_3 35 rfl) ?_
  refine r_iload_n 397 rfl 3 rfl rfl (ck DL_law_3 36 rfl) ?_
  refine r_iconst 398 rfl ic_1 (ck DL_law_3 37 rfl) ?_
  refine r_iadd 399 rfl (ck DL_law_3 38 rfl) ?_
  obtain ⟨b84, hf⟩ := gd_so hf
  refine r_sald 400 rfl (inb_vp b84) (ck DL_law_3 39 rfl) ?_
  obtain ⟨v87, g85, e86, hf⟩ := bd_so hf
  refine r_callVi 403 rfl (A_X7_lower X (X.2.2.2.2.2 (Int32.toNatClampNeg (x3 + 1))) g81 v87 g85 e86) (by omega) cw_L_39 sh_96 cl_7 rfl rfl (Nat.le_of_ble_eq_true rfl) (ck DL_law_3 40 rfl) ?_
  rcases if_so hf with ⟨c88, hf⟩ | ⟨c88, hf⟩
  · refine r_icmp_eq_t 1347 (ck DL_law_3 41 rfl) (by decide) c88 ?_
    obtain ⟨v89, e90, hf⟩ := lt_so hf
    refine r_iinc (lv' := [(3, .int v89), (0, .ref (X.2.2.2.1 6)), (1, .ref (X.1 0)), (2, .ref (X.1 96))]) 1350 rfl 3 (ck DL_law_18 35 rfl) rfl (by rw [e90, ic_6]) (by decide) rfl ?_
    refine r_goto 18 (ck DL_law_18 36 rfl) (by decide) ?_
    refine r_sub (lv' := [(0, .ref (X.2.2.2.1 6)), (1, .ref (X.1 0)), (2, .ref (X.1 96)), (3, .int v89)]) [1, 2, 3, 0] rfl ?_
    exact hr18 v89 g85 hf
  · refine r_icmp_eq_f 406 rfl 1347 (ck DL_law_3 41 rfl) (by decide) c88 ?_
    refine r_iconst 407 rfl ic_0 (ck DL_law_3 42 rfl) ?_
    obtain ⟨rfl, rfl⟩ := so2 hf
    exact r_iret rfl rfl (ck DL_law_3 43 rfl)
def f_L_law_J408 (L : Nat) (xs : Nat → Int32) (rc18 : Int32 → HP → Option (Int32 × HP)) (x3 : Int32) (h : HP) : Option (Int32 × HP) := gd (inb (x3 + 1) L) (gd (inb (x3 + 2) L) (bd (f_X6_trim (xs (Int32.toNatClampNeg (x3 + 1))) (xs (Int32.toNatClampNeg (x3 + 2))) h) fun v96 g94 => gd (inb (x3 + 1) L) (gd (inb (x3 + 2) L) (bd (f_X7_trim (xs (Int32.toNatClampNeg (x3 + 1))) (xs (Int32.toNatClampNeg (x3 + 2))) g94) fun v101 g99 => if v96 = v101 then (lt (x3 + 6 : Int32) fun v103 => rc18 v103 g99) else (some (0, g99))))))
set_option maxHeartbeats 4000000 in
set_option maxRecDepth 100000 in
theorem A_L_law_J408 (X : XE) (rc18 : Int32 → HP → Option (Int32 × HP)) (r : Int32) (h' : HP) (hr18 : ∀ (x3 : Int32) (h : HP), rc18 x3 h = some (r, h') → Run mL_law 103 X 18 [(0, .ref (X.2.2.2.1 6)), (1, .ref (X.1 0)), (2, .ref (X.1 96)), (3, .int x3)] [] h (some (.int r)) h') (x3 : Int32) (h : HP) (hf : f_L_law_J408 X.2.2.2.2.1 X.2.2.2.2.2 rc18 x3 h = some (r, h')) : Run mL_law 103 X 408 [(0, .ref (X.2.2.2.1 6)), (1, .ref (X.1 0)), (2, .ref (X.1 96)), (3, .int x3)] [] h (some (.int r)) h' := by
  unfold f_L_law_J408 at hf
  refine r_aload_n 409 rfl 1 rfl rfl (ck DL_law_3 44 rfl) ?_
  refine r_aload_n 410 rfl 0 rfl rfl (ck DL_law_3 45 rfl) ?_
  refine r_iload_n 411 rfl 3 rfl rfl (ck DL_law_3 46 rfl) ?_
  refine r_iconst 412 rfl ic_1 (ck DL_law_3 47 rfl) ?_
  refine r_iadd 413 rfl (ck DL_law_3 48 rfl) ?_
  obtain ⟨b92, hf⟩ := gd_so hf
  refine r_sald 414 rfl (inb_vp b92) (ck DL_law_3 49 rfl) ?_
  refine r_aload_n 415 rfl 0 rfl rfl (ck DL_law_4 0 rfl) ?_
  refine r_iload_n 416 rfl 3 rfl rfl (ck DL_law_4 1 rfl) ?_
  refine r_iconst 417 rfl ic_2 (ck DL_law_4 2 rfl) ?_
  refine r_iadd 418 rfl (ck DL_law_4 3 rfl) ?_
  obtain ⟨b93, hf⟩ := gd_so hf
  refine r_sald 419 rfl (inb_vp b93) (ck DL_law_4 4 rfl) ?_
  obtain ⟨v96, g94, e95, hf⟩ := bd_so hf
  refine r_callVi 422 rfl (A_X6_trim X (X.2.2.2.2.2 (Int32.toNatClampNeg (x3 + 1))) (X.2.2.2.2.2 (Int32.toNatClampNeg (x3 + 2))) h v96 g94 e95) (by omega) cw_L_40 sh_0 cl_6 rfl rfl (Nat.le_of_ble_eq_true rfl) (ck DL_law_4 5 rfl) ?_
  refine r_aload_n 423 rfl 2 rfl rfl (ck DL_law_4 6 rfl) ?_
  refine r_aload_n 424 rfl 0 rfl rfl (ck DL_law_4 7 rfl) ?_
  refine r_iload_n 425 rfl 3 rfl rfl (ck DL_law_4 8 rfl) ?_
  refine r_iconst 426 rfl ic_1 (ck DL_law_4 9 rfl) ?_
  refine r_iadd 427 rfl (ck DL_law_4 10 rfl) ?_
  obtain ⟨b97, hf⟩ := gd_so hf
  refine r_sald 428 rfl (inb_vp b97) (ck DL_law_4 11 rfl) ?_
  refine r_aload_n 429 rfl 0 rfl rfl (ck DL_law_4 12 rfl) ?_
  refine r_iload_n 430 rfl 3 rfl rfl (ck DL_law_4 13 rfl) ?_
  refine r_iconst 431 rfl ic_2 (ck DL_law_4 14 rfl) ?_
  refine r_iadd 432 rfl (ck DL_law_4 15 rfl) ?_
  obtain ⟨b98, hf⟩ := gd_so hf
  refine r_sald 433 rfl (inb_vp b98) (ck DL_law_4 16 rfl) ?_
  obtain ⟨v101, g99, e100, hf⟩ := bd_so hf
  refine r_callVi 436 rfl (A_X7_trim X (X.2.2.2.2.2 (Int32.toNatClampNeg (x3 + 1))) (X.2.2.2.2.2 (Int32.toNatClampNeg (x3 + 2))) g94 v101 g99 e100) (by omega) cw_L_43 sh_96 cl_7 rfl rfl (Nat.le_of_ble_eq_true rfl) (ck DL_law_4 17 rfl) ?_
  rcases if_so hf with ⟨c102, hf⟩ | ⟨c102, hf⟩
  · refine r_icmp_eq_t 1347 (ck DL_law_4 18 rfl) (by decide) c102 ?_
    obtain ⟨v103, e104, hf⟩ := lt_so hf
    refine r_iinc (lv' := [(3, .int v103), (0, .ref (X.2.2.2.1 6)), (1, .ref (X.1 0)), (2, .ref (X.1 96))]) 1350 rfl 3 (ck DL_law_18 35 rfl) rfl (by rw [e104, ic_6]) (by decide) rfl ?_
    refine r_goto 18 (ck DL_law_18 36 rfl) (by decide) ?_
    refine r_sub (lv' := [(0, .ref (X.2.2.2.1 6)), (1, .ref (X.1 0)), (2, .ref (X.1 96)), (3, .int v103)]) [1, 2, 3, 0] rfl ?_
    exact hr18 v103 g99 hf
  · refine r_icmp_eq_f 439 rfl 1347 (ck DL_law_4 18 rfl) (by decide) c102 ?_
    refine r_iconst 440 rfl ic_0 (ck DL_law_4 19 rfl) ?_
    obtain ⟨rfl, rfl⟩ := so2 hf
    exact r_iret rfl rfl (ck DL_law_4 20 rfl)
def f_L_law_J441 (L : Nat) (xs : Nat → Int32) (rc18 : Int32 → HP → Option (Int32 × HP)) (x3 : Int32) (h : HP) : Option (Int32 × HP) := gd (inb (x3 + 1) L) (bd (f_X6_feed (xs (Int32.toNatClampNeg (x3 + 1))) h) fun v109 g107 => gd (inb (x3 + 1) L) (bd (f_X7_feed (xs (Int32.toNatClampNeg (x3 + 1))) g107) fun v113 g111 => if v109 = v113 then (lt (x3 + 6 : Int32) fun v115 => rc18 v115 g111) else (some (0, g111))))
set_option maxHeartbeats 4000000 in
set_option maxRecDepth 100000 in
theorem A_L_law_J441 (X : XE) (rc18 : Int32 → HP → Option (Int32 × HP)) (r : Int32) (h' : HP) (hr18 : ∀ (x3 : Int32) (h : HP), rc18 x3 h = some (r, h') → Run mL_law 103 X 18 [(0, .ref (X.2.2.2.1 6)), (1, .ref (X.1 0)), (2, .ref (X.1 96)), (3, .int x3)] [] h (some (.int r)) h') (x3 : Int32) (h : HP) (hf : f_L_law_J441 X.2.2.2.2.1 X.2.2.2.2.2 rc18 x3 h = some (r, h')) : Run mL_law 103 X 441 [(0, .ref (X.2.2.2.1 6)), (1, .ref (X.1 0)), (2, .ref (X.1 96)), (3, .int x3)] [] h (some (.int r)) h' := by
  unfold f_L_law_J441 at hf
  refine r_aload_n 442 rfl 1 rfl rfl (ck DL_law_4 21 rfl) ?_
  refine r_aload_n 443 rfl 0 rfl rfl (ck DL_law_4 22 rfl) ?_
  refine r_iload_n 444 rfl 3 rfl rfl (ck DL_law_4 23 rfl) ?_
  refine r_iconst 445 rfl ic_1 (ck DL_law_4 24 rfl) ?_
  refine r_iadd 446 rfl (ck DL_law_4 25 rfl) ?_
  obtain ⟨b106, hf⟩ := gd_so hf
  refine r_sald 447 rfl (inb_vp b106) (ck DL_law_4 26 rfl) ?_
  obtain ⟨v109, g107, e108, hf⟩ := bd_so hf
  refine r_callVi 450 rfl (A_X6_feed X (X.2.2.2.2.2 (Int32.toNatClampNeg (x3 + 1))) h v109 g107 e108) (by omega) cw_L_44 sh_0 cl_6 rfl rfl (Nat.le_of_ble_eq_true rfl) (ck DL_law_4 27 rfl) ?_
  refine r_aload_n 451 rfl 2 rfl rfl (ck DL_law_4 28 rfl) ?_
  refine r_aload_n 452 rfl 0 rfl rfl (ck DL_law_4 29 rfl) ?_
  refine r_iload_n 453 rfl 3 rfl rfl (ck DL_law_4 30 rfl) ?_
  refine r_iconst 454 rfl ic_1 (ck DL_law_4 31 rfl) ?_
  refine r_iadd 455 rfl (ck DL_law_4 32 rfl) ?_
  obtain ⟨b110, hf⟩ := gd_so hf
  refine r_sald 456 rfl (inb_vp b110) (ck DL_law_4 33 rfl) ?_
  obtain ⟨v113, g111, e112, hf⟩ := bd_so hf
  refine r_callVi 459 rfl (A_X7_feed X (X.2.2.2.2.2 (Int32.toNatClampNeg (x3 + 1))) g107 v113 g111 e112) (by omega) cw_L_47 sh_96 cl_7 rfl rfl (Nat.le_of_ble_eq_true rfl) (ck DL_law_4 34 rfl) ?_
  rcases if_so hf with ⟨c114, hf⟩ | ⟨c114, hf⟩
  · refine r_icmp_eq_t 1347 (ck DL_law_4 35 rfl) (by decide) c114 ?_
    obtain ⟨v115, e116, hf⟩ := lt_so hf
    refine r_iinc (lv' := [(3, .int v115), (0, .ref (X.2.2.2.1 6)), (1, .ref (X.1 0)), (2, .ref (X.1 96))]) 1350 rfl 3 (ck DL_law_18 35 rfl) rfl (by rw [e116, ic_6]) (by decide) rfl ?_
    refine r_goto 18 (ck DL_law_18 36 rfl) (by decide) ?_
    refine r_sub (lv' := [(0, .ref (X.2.2.2.1 6)), (1, .ref (X.1 0)), (2, .ref (X.1 96)), (3, .int v115)]) [1, 2, 3, 0] rfl ?_
    exact hr18 v115 g111 hf
  · refine r_icmp_eq_f 462 rfl 1347 (ck DL_law_4 35 rfl) (by decide) c114 ?_
    refine r_iconst 463 rfl ic_0 (ck DL_law_4 36 rfl) ?_
    obtain ⟨rfl, rfl⟩ := so2 hf
    exact r_iret rfl rfl (ck DL_law_4 37 rfl)
def f_L_law_J464 (L : Nat) (xs : Nat → Int32) (rc18 : Int32 → HP → Option (Int32 × HP)) (x3 : Int32) (h : HP) : Option (Int32 × HP) := bd (f_X6_ocean h) fun v120 g118 => bd (f_X7_ocean g118) fun v123 g121 => if v120 = v123 then (lt (x3 + 6 : Int32) fun v125 => rc18 v125 g121) else (some (0, g121))
set_option maxHeartbeats 4000000 in
set_option maxRecDepth 100000 in
theorem A_L_law_J464 (X : XE) (rc18 : Int32 → HP → Option (Int32 × HP)) (r : Int32) (h' : HP) (hr18 : ∀ (x3 : Int32) (h : HP), rc18 x3 h = some (r, h') → Run mL_law 103 X 18 [(0, .ref (X.2.2.2.1 6)), (1, .ref (X.1 0)), (2, .ref (X.1 96)), (3, .int x3)] [] h (some (.int r)) h') (x3 : Int32) (h : HP) (hf : f_L_law_J464 X.2.2.2.2.1 X.2.2.2.2.2 rc18 x3 h = some (r, h')) : Run mL_law 103 X 464 [(0, .ref (X.2.2.2.1 6)), (1, .ref (X.1 0)), (2, .ref (X.1 96)), (3, .int x3)] [] h (some (.int r)) h' := by
  unfold f_L_law_J464 at hf
  refine r_aload_n 465 rfl 1 rfl rfl (ck DL_law_4 38 rfl) ?_
  obtain ⟨v120, g118, e119, hf⟩ := bd_so hf
  refine r_callVi 468 rfl (A_X6_ocean X h v120 g118 e119) (by omega) cw_L_48 sh_0 cl_6 rfl rfl (Nat.le_of_ble_eq_true rfl) (ck DL_law_4 39 rfl) ?_
  refine r_aload_n 469 rfl 2 rfl rfl (ck DL_law_4 40 rfl) ?_
  obtain ⟨v123, g121, e122, hf⟩ := bd_so hf
  refine r_callVi 472 rfl (A_X7_ocean X g118 v123 g121 e122) (by omega) cw_L_52 sh_96 cl_7 rfl rfl (Nat.le_of_ble_eq_true rfl) (ck DL_law_4 41 rfl) ?_
  rcases if_so hf with ⟨c124, hf⟩ | ⟨c124, hf⟩
  · refine r_icmp_eq_t 1347 (ck DL_law_4 42 rfl) (by decide) c124 ?_
    obtain ⟨v125, e126, hf⟩ := lt_so hf
    refine r_iinc (lv' := [(3, .int v125), (0, .ref (X.2.2.2.1 6)), (1, .ref (X.1 0)), (2, .ref (X.1 96))]) 1350 rfl 3 (ck DL_law_18 35 rfl) rfl (by rw [e126, ic_6]) (by decide) rfl ?_
    refine r_goto 18 (ck DL_law_18 36 rfl) (by decide) ?_
    refine r_sub (lv' := [(0, .ref (X.2.2.2.1 6)), (1, .ref (X.1 0)), (2, .ref (X.1 96)), (3, .int v125)]) [1, 2, 3, 0] rfl ?_
    exact hr18 v125 g121 hf
  · refine r_icmp_eq_f 475 rfl 1347 (ck DL_law_4 42 rfl) (by decide) c124 ?_
    refine r_iconst 476 rfl ic_0 (ck DL_law_4 43 rfl) ?_
    obtain ⟨rfl, rfl⟩ := so2 hf
    exact r_iret rfl rfl (ck DL_law_4 44 rfl)
def f_L_law_J477 (L : Nat) (xs : Nat → Int32) (rc18 : Int32 → HP → Option (Int32 × HP)) (x3 : Int32) (h : HP) : Option (Int32 × HP) := gd (inb (x3 + 1) L) (bo (f_X6_told (xs (Int32.toNatClampNeg (x3 + 1))) h) fun v129 => gd (inb (x3 + 1) L) (bo (f_X7_told (xs (Int32.toNatClampNeg (x3 + 1))) h) fun v132 => if v129 = v132 then (lt (x3 + 6 : Int32) fun v135 => rc18 v135 h) else (some (0, h))))
set_option maxHeartbeats 4000000 in
set_option maxRecDepth 100000 in
theorem A_L_law_J477 (X : XE) (rc18 : Int32 → HP → Option (Int32 × HP)) (r : Int32) (h' : HP) (hr18 : ∀ (x3 : Int32) (h : HP), rc18 x3 h = some (r, h') → Run mL_law 103 X 18 [(0, .ref (X.2.2.2.1 6)), (1, .ref (X.1 0)), (2, .ref (X.1 96)), (3, .int x3)] [] h (some (.int r)) h') (x3 : Int32) (h : HP) (hf : f_L_law_J477 X.2.2.2.2.1 X.2.2.2.2.2 rc18 x3 h = some (r, h')) : Run mL_law 103 X 477 [(0, .ref (X.2.2.2.1 6)), (1, .ref (X.1 0)), (2, .ref (X.1 96)), (3, .int x3)] [] h (some (.int r)) h' := by
  unfold f_L_law_J477 at hf
  refine r_aload_n 478 rfl 1 rfl rfl (ck DL_law_4 45 rfl) ?_
  refine r_aload_n 479 rfl 0 rfl rfl (ck DL_law_4 46 rfl) ?_
  refine r_iload_n 480 rfl 3 rfl rfl (ck DL_law_4 47 rfl) ?_
  refine r_iconst 481 rfl ic_1 (ck DL_law_4 48 rfl) ?_
  refine r_iadd 482 rfl (ck DL_law_4 49 rfl) ?_
  obtain ⟨b128, hf⟩ := gd_so hf
  refine r_sald 483 rfl (inb_vp b128) (ck DL_law_5 0 rfl) ?_
  obtain ⟨v129, e130, hf⟩ := bo_so hf
  refine r_callVi 486 rfl (A_X6_told X (X.2.2.2.2.2 (Int32.toNatClampNeg (x3 + 1))) h v129 e130) (by omega) cw_L_53 sh_0 cl_6 rfl rfl (Nat.le_of_ble_eq_true rfl) (ck DL_law_5 1 rfl) ?_
  refine r_aload_n 487 rfl 2 rfl rfl (ck DL_law_5 2 rfl) ?_
  refine r_aload_n 488 rfl 0 rfl rfl (ck DL_law_5 3 rfl) ?_
  refine r_iload_n 489 rfl 3 rfl rfl (ck DL_law_5 4 rfl) ?_
  refine r_iconst 490 rfl ic_1 (ck DL_law_5 5 rfl) ?_
  refine r_iadd 491 rfl (ck DL_law_5 6 rfl) ?_
  obtain ⟨b131, hf⟩ := gd_so hf
  refine r_sald 492 rfl (inb_vp b131) (ck DL_law_5 7 rfl) ?_
  obtain ⟨v132, e133, hf⟩ := bo_so hf
  refine r_callVi 495 rfl (A_X7_told X (X.2.2.2.2.2 (Int32.toNatClampNeg (x3 + 1))) h v132 e133) (by omega) cw_L_56 sh_96 cl_7 rfl rfl (Nat.le_of_ble_eq_true rfl) (ck DL_law_5 8 rfl) ?_
  rcases if_so hf with ⟨c134, hf⟩ | ⟨c134, hf⟩
  · refine r_icmp_eq_t 1347 (ck DL_law_5 9 rfl) (by decide) c134 ?_
    obtain ⟨v135, e136, hf⟩ := lt_so hf
    refine r_iinc (lv' := [(3, .int v135), (0, .ref (X.2.2.2.1 6)), (1, .ref (X.1 0)), (2, .ref (X.1 96))]) 1350 rfl 3 (ck DL_law_18 35 rfl) rfl (by rw [e136, ic_6]) (by decide) rfl ?_
    refine r_goto 18 (ck DL_law_18 36 rfl) (by decide) ?_
    refine r_sub (lv' := [(0, .ref (X.2.2.2.1 6)), (1, .ref (X.1 0)), (2, .ref (X.1 96)), (3, .int v135)]) [1, 2, 3, 0] rfl ?_
    exact hr18 v135 h hf
  · refine r_icmp_eq_f 498 rfl 1347 (ck DL_law_5 9 rfl) (by decide) c134 ?_
    refine r_iconst 499 rfl ic_0 (ck DL_law_5 10 rfl) ?_
    obtain ⟨rfl, rfl⟩ := so2 hf
    exact r_iret rfl rfl (ck DL_law_5 11 rfl)
def f_L_law_J500 (L : Nat) (xs : Nat → Int32) (rc18 : Int32 → HP → Option (Int32 × HP)) (x3 : Int32) (h : HP) : Option (Int32 × HP) := gd (inb (x3 + 1) L) (bd (f_X6_pass (xs (Int32.toNatClampNeg (x3 + 1))) h) fun v141 g139 => gd (inb (x3 + 1) L) (bd (f_X7_pass (xs (Int32.toNatClampNeg (x3 + 1))) g139) fun v145 g143 => if v141 = v145 then (lt (x3 + 6 : Int32) fun v147 => rc18 v147 g143) else (some (0, g143))))
set_option maxHeartbeats 4000000 in
set_option maxRecDepth 100000 in
theorem A_L_law_J500 (X : XE) (rc18 : Int32 → HP → Option (Int32 × HP)) (r : Int32) (h' : HP) (hr18 : ∀ (x3 : Int32) (h : HP), rc18 x3 h = some (r, h') → Run mL_law 103 X 18 [(0, .ref (X.2.2.2.1 6)), (1, .ref (X.1 0)), (2, .ref (X.1 96)), (3, .int x3)] [] h (some (.int r)) h') (x3 : Int32) (h : HP) (hf : f_L_law_J500 X.2.2.2.2.1 X.2.2.2.2.2 rc18 x3 h = some (r, h')) : Run mL_law 103 X 500 [(0, .ref (X.2.2.2.1 6)), (1, .ref (X.1 0)), (2, .ref (X.1 96)), (3, .int x3)] [] h (some (.int r)) h' := by
  unfold f_L_law_J500 at hf
  refine r_aload_n 501 rfl 1 rfl rfl (ck DL_law_5 12 rfl) ?_
  refine r_aload_n 502 rfl 0 rfl rfl (ck DL_law_5 13 rfl) ?_
  refine r_iload_n 503 rfl 3 rfl rfl (ck DL_law_5 14 rfl) ?_
  refine r_iconst 504 rfl ic_1 (ck DL_law_5 15 rfl) ?_
  refine r_iadd 505 rfl (ck DL_law_5 16 rfl) ?_
  obtain ⟨b138, hf⟩ := gd_so hf
  refine r_sald 506 rfl (inb_vp b138) (ck DL_law_5 17 rfl) ?_
  obtain ⟨v141, g139, e140, hf⟩ := bd_so hf
  refine r_callVi 509 rfl (A_X6_pass X (X.2.2.2.2.2 (Int32.toNatClampNeg (x3 + 1))) h v141 g139 e140) (by omega) cw_L_57 sh_0 cl_6 rfl rfl (Nat.le_of_ble_eq_true rfl) (ck DL_law_5 18 rfl) ?_
  refine r_aload_n 510 rfl 2 rfl rfl (ck DL_law_5 19 rfl) ?_
  refine r_aload_n 511 rfl 0 rfl rfl (ck DL_law_5 20 rfl) ?_
  refine r_iload_n 512 rfl 3 rfl rfl (ck DL_law_5 21 rfl) ?_
  refine r_iconst 513 rfl ic_1 (ck DL_law_5 22 rfl) ?_
  refine r_iadd 514 rfl (ck DL_law_5 23 rfl) ?_
  obtain ⟨b142, hf⟩ := gd_so hf
  refine r_sald 515 rfl (inb_vp b142) (ck DL_law_5 24 rfl) ?_
  obtain ⟨v145, g143, e144, hf⟩ := bd_so hf
  refine r_callVi 518 rfl (A_X7_pass X (X.2.2.2.2.2 (Int32.toNatClampNeg (x3 + 1))) g139 v145 g143 e144) (by omega) cw_L_60 sh_96 cl_7 rfl rfl (Nat.le_of_ble_eq_true rfl) (ck DL_law_5 25 rfl) ?_
  rcases if_so hf with ⟨c146, hf⟩ | ⟨c146, hf⟩
  · refine r_icmp_eq_t 1347 (ck DL_law_5 26 rfl) (by decide) c146 ?_
    obtain ⟨v147, e148, hf⟩ := lt_so hf
    refine r_iinc (lv' := [(3, .int v147), (0, .ref (X.2.2.2.1 6)), (1, .ref (X.1 0)), (2, .ref (X.1 96))]) 1350 rfl 3 (ck DL_law_18 35 rfl) rfl (by rw [e148, ic_6]) (by decide) rfl ?_
    refine r_goto 18 (ck DL_law_18 36 rfl) (by decide) ?_
    refine r_sub (lv' := [(0, .ref (X.2.2.2.1 6)), (1, .ref (X.1 0)), (2, .ref (X.1 96)), (3, .int v147)]) [1, 2, 3, 0] rfl ?_
    exact hr18 v147 g143 hf
  · refine r_icmp_eq_f 521 rfl 1347 (ck DL_law_5 26 rfl) (by decide) c146 ?_
    refine r_iconst 522 rfl ic_0 (ck DL_law_5 27 rfl) ?_
    obtain ⟨rfl, rfl⟩ := so2 hf
    exact r_iret rfl rfl (ck DL_law_5 28 rfl)
def f_L_law_J523 (L : Nat) (xs : Nat → Int32) (rc18 : Int32 → HP → Option (Int32 × HP)) (x3 : Int32) (h : HP) : Option (Int32 × HP) := gd (inb (x3 + 1) L) (gd (inb (x3 + 2) L) (bd (f_X6_on (xs (Int32.toNatClampNeg (x3 + 1))) (xs (Int32.toNatClampNeg (x3 + 2))) h) fun v154 g152 => gd (inb (x3 + 1) L) (gd (inb (x3 + 2) L) (bd (f_X7_on (xs (Int32.toNatClampNeg (x3 + 1))) (xs (Int32.toNatClampNeg (x3 + 2))) g152) fun v159 g157 => if v154 = v159 then (lt (x3 + 6 : Int32) fun v161 => rc18 v161 g157) else (some (0, g157))))))
set_option maxHeartbeats 4000000 in
set_option maxRecDepth 100000 in
theorem A_L_law_J523 (X : XE) (rc18 : Int32 → HP → Option (Int32 × HP)) (r : Int32) (h' : HP) (hr18 : ∀ (x3 : Int32) (h : HP), rc18 x3 h = some (r, h') → Run mL_law 103 X 18 [(0, .ref (X.2.2.2.1 6)), (1, .ref (X.1 0)), (2, .ref (X.1 96)), (3, .int x3)] [] h (some (.int r)) h') (x3 : Int32) (h : HP) (hf : f_L_law_J523 X.2.2.2.2.1 X.2.2.2.2.2 rc18 x3 h = some (r, h')) : Run mL_law 103 X 523 [(0, .ref (X.2.2.2.1 6)), (1, .ref (X.1 0)), (2, .ref (X.1 96)), (3, .int x3)] [] h (some (.int r)) h' := by
  unfold f_L_law_J523 at hf
  refine r_aload_n 524 rfl 1 rfl rfl (ck DL_law_5 29 rfl) ?_
  refine r_aload_n 525 rfl 0 rfl rfl (ck DL_law_5 30 rfl) ?_
  refine r_iload_n 526 rfl 3 rfl rfl (ck DL_law_5 31 rfl) ?_
  refine r_iconst 527 rfl ic_1 (ck DL_law_5 32 rfl) ?_
  refine r_iadd 528 rfl (ck DL_law_5 33 rfl) ?_
  obtain ⟨b150, hf⟩ := gd_so hf
  refine r_sald 529 rfl (inb_vp b150) (ck DL_law_5 34 rfl) ?_
  refine r_aload_n 530 rfl 0 rfl rfl (ck DL_law_5 35 rfl) ?_
  refine r_iload_n 531 rfl 3 rfl rfl (ck DL_law_5 36 rfl) ?_
  refine r_iconst 532 rfl ic_2 (ck DL_law_5 37 rfl) ?_
  refine r_iadd 533 rfl (ck DL_law_5 38 rfl) ?_
  obtain ⟨b151, hf⟩ := gd_so hf
  refine r_sald 534 rfl (inb_vp b151) (ck DL_law_5 39 rfl) ?_
  obtain ⟨v154, g152, e153, hf⟩ := bd_so hf
  refine r_callVi 537 rfl (A_X6_on X (X.2.2.2.2.2 (Int32.toNatClampNeg (x3 + 1))) (X.2.2.2.2.2 (Int32.toNatClampNeg (x3 + 2))) h v154 g152 e153) (by omega) cw_L_61 sh_0 cl_6 rfl rfl (Nat.le_of_ble_eq_true rfl) (ck DL_law_5 40 rfl) ?_
  refine r_aload_n 538 rfl 2 rfl rfl (ck DL_law_5 41 rfl) ?_
  refine r_aload_n 539 rfl 0 rfl rfl (ck DL_law_5 42 rfl) ?_
  refine r_iload_n 540 rfl 3 rfl rfl (ck DL_law_5 43 rfl) ?_
  refine r_iconst 541 rfl ic_1 (ck DL_law_5 44 rfl) ?_
  refine r_iadd 542 rfl (ck DL_law_5 45 rfl) ?_
  obtain ⟨b155, hf⟩ := gd_so hf
  refine r_sald 543 rfl (inb_vp b155) (ck DL_law_5 46 rfl) ?_
  refine r_aload_n 544 rfl 0 rfl rfl (ck DL_law_5 47 rfl) ?_
  refine r_iload_n 545 rfl 3 rfl rfl (ck DL_law_5 48 rfl) ?_
  refine r_iconst 546 rfl ic_2 (ck DL_law_5 49 rfl) ?_
  refine r_iadd 547 rfl (ck DL_law_6 0 rfl) ?_
  obtain ⟨b156, hf⟩ := gd_so hf
  refine r_sald 548 rfl (inb_vp b156) (ck DL_law_6 1 rfl) ?_
  obtain ⟨v159, g157, e158, hf⟩ := bd_so hf
  refine r_callVi 551 rfl (A_X7_on X (X.2.2.2.2.2 (Int32.toNatClampNeg (x3 + 1))) (X.2.2.2.2.2 (Int32.toNatClampNeg (x3 + 2))) g152 v159 g157 e158) (by omega) cw_L_64 sh_96 cl_7 rfl rfl (Nat.le_of_ble_eq_true rfl) (ck DL_law_6 2 rfl) ?_
  rcases if_so hf with ⟨c160, hf⟩ | ⟨c160, hf⟩
  · refine r_icmp_eq_t 1347 (ck DL_law_6 3 rfl) (by decide) c160 ?_
    obtain ⟨v161, e162, hf⟩ := lt_so hf
    refine r_iinc (lv' := [(3, .int v161), (0, .ref (X.2.2.2.1 6)), (1, .ref (X.1 0)), (2, .ref (X.1 96))]) 1350 rfl 3 (ck DL_law_18 35 rfl) rfl (by rw [e162, ic_6]) (by decide) rfl ?_
    refine r_goto 18 (ck DL_law_18 36 rfl) (by decide) ?_
    refine r_sub (lv' := [(0, .ref (X.2.2.2.1 6)), (1, .ref (X.1 0)), (2, .ref (X.1 96)), (3, .int v161)]) [1, 2, 3, 0] rfl ?_
    exact hr18 v161 g157 hf
  · refine r_icmp_eq_f 554 rfl 1347 (ck DL_law_6 3 rfl) (by decide) c160 ?_
    refine r_iconst 555 rfl ic_0 (ck DL_law_6 4 rfl) ?_
    obtain ⟨rfl, rfl⟩ := so2 hf
    exact r_iret rfl rfl (ck DL_law_6 5 rfl)
def f_L_law_J556 (L : Nat) (xs : Nat → Int32) (rc18 : Int32 → HP → Option (Int32 × HP)) (x3 : Int32) (h : HP) : Option (Int32 × HP) := gd (inb (x3 + 1) L) (bd (f_X6_first (xs (Int32.toNatClampNeg (x3 + 1))) h) fun v167 g165 => gd (inb (x3 + 1) L) (bd (f_X7_first (xs (Int32.toNatClampNeg (x3 + 1))) g165) fun v171 g169 => if v167 = v171 then (lt (x3 + 6 : Int32) fun v173 => rc18 v173 g169) else (some (0, g169))))
set_option maxHeartbeats 4000000 in
set_option maxRecDepth 100000 in
theorem A_L_law_J556 (X : XE) (rc18 : Int32 → HP → Option (Int32 × HP)) (r : Int32) (h' : HP) (hr18 : ∀ (x3 : Int32) (h : HP), rc18 x3 h = some (r, h') → Run mL_law 103 X 18 [(0, .ref (X.2.2.2.1 6)), (1, .ref (X.1 0)), (2, .ref (X.1 96)), (3, .int x3)] [] h (some (.int r)) h') (x3 : Int32) (h : HP) (hf : f_L_law_J556 X.2.2.2.2.1 X.2.2.2.2.2 rc18 x3 h = some (r, h')) : Run mL_law 103 X 556 [(0, .ref (X.2.2.2.1 6)), (1, .ref (X.1 0)), (2, .ref (X.1 96)), (3, .int x3)] [] h (some (.int r)) h' := by
  unfold f_L_law_J556 at hf
  refine r_aload_n 557 rfl 1 rfl rfl (ck DL_law_6 6 rfl) ?_
  refine r_aload_n 558 rfl 0 rfl rfl (ck DL_law_6 7 rfl) ?_
  refine r_iload_n 559 rfl 3 rfl rfl (ck DL_law_6 8 rfl) ?_
  refine r_iconst 560 rfl ic_1 (ck DL_law_6 9 rfl) ?_
  refine r_iadd 561 rfl (ck DL_law_6 10 rfl) ?_
  obtain ⟨b164, hf⟩ := gd_so hf
  refine r_sald 562 rfl (inb_vp b164) (ck DL_law_6 11 rfl) ?_
  obtain ⟨v167, g165, e166, hf⟩ := bd_so hf
  refine r_callVi 565 rfl (A_X6_first X (X.2.2.2.2.2 (Int32.toNatClampNeg (x3 + 1))) h v167 g165 e166) (by omega) cw_L_65 sh_0 cl_6 rfl rfl (Nat.le_of_ble_eq_true rfl) (ck DL_law_6 12 rfl) ?_
  refine r_aload_n 566 rfl 2 rfl rfl (ck DL_law_6 13 rfl) ?_
  refine r_aload_n 567 rfl 0 rfl rfl (ck DL_law_6 14 rfl) ?_
  refine r_iload_n 568 rfl 3 rfl rfl (ck DL_law_6 15 rfl) ?_
  refine r_iconst 569 rfl ic_1 (ck DL_law_6 16 rfl) ?_
  refine r_iadd 570 rfl (ck DL_law_6 17 rfl) ?_
  obtain ⟨b168, hf⟩ := gd_so hf
  refine r_sald 571 rfl (inb_vp b168) (ck DL_law_6 18 rfl) ?_
  obtain ⟨v171, g169, e170, hf⟩ := bd_so hf
  refine r_callVi 574 rfl (A_X7_first X (X.2.2.2.2.2 (Int32.toNatClampNeg (x3 + 1))) g165 v171 g169 e170) (by omega) cw_L_68 sh_96 cl_7 rfl rfl (Nat.le_of_ble_eq_true rfl) (ck DL_law_6 19 rfl) ?_
  rcases if_so hf with ⟨c172, hf⟩ | ⟨c172, hf⟩
  · refine r_icmp_eq_t 1347 (ck DL_law_6 20 rfl) (by decide) c172 ?_
    obtain ⟨v173, e174, hf⟩ := lt_so hf
    refine r_iinc (lv' := [(3, .int v173), (0, .ref (X.2.2.2.1 6)), (1, .ref (X.1 0)), (2, .ref (X.1 96))]) 1350 rfl 3 (ck DL_law_18 35 rfl) rfl (by rw [e174, ic_6]) (by decide) rfl ?_
    refine r_goto 18 (ck DL_law_18 36 rfl) (by decide) ?_
    refine r_sub (lv' := [(0, .ref (X.2.2.2.1 6)), (1, .ref (X.1 0)), (2, .ref (X.1 96)), (3, .int v173)]) [1, 2, 3, 0] rfl ?_
    exact hr18 v173 g169 hf
  · refine r_icmp_eq_f 577 rfl 1347 (ck DL_law_6 20 rfl) (by decide) c172 ?_
    refine r_iconst 578 rfl ic_0 (ck DL_law_6 21 rfl) ?_
    obtain ⟨rfl, rfl⟩ := so2 hf
    exact r_iret rfl rfl (ck DL_law_6 22 rfl)
def f_L_law_J579 (L : Nat) (xs : Nat → Int32) (rc18 : Int32 → HP → Option (Int32 × HP)) (x3 : Int32) (h : HP) : Option (Int32 × HP) := gd (inb (x3 + 1) L) (bd (f_X6_port (xs (Int32.toNatClampNeg (x3 + 1))) h) fun v179 g177 => gd (inb (x3 + 1) L) (bd (f_X7_port (xs (Int32.toNatClampNeg (x3 + 1))) g177) fun v183 g181 => if v179 = v183 then (lt (x3 + 6 : Int32) fun v185 => rc18 v185 g181) else (some (0, g181))))
set_option maxHeartbeats 4000000 in
set_option maxRecDepth 100000 in
theorem A_L_law_J579 (X : XE) (rc18 : Int32 → HP → Option (Int32 × HP)) (r : Int32) (h' : HP) (hr18 : ∀ (x3 : Int32) (h : HP), rc18 x3 h = some (r, h') → Run mL_law 103 X 18 [(0, .ref (X.2.2.2.1 6)), (1, .ref (X.1 0)), (2, .ref (X.1 96)), (3, .int x3)] [] h (some (.int r)) h') (x3 : Int32) (h : HP) (hf : f_L_law_J579 X.2.2.2.2.1 X.2.2.2.2.2 rc18 x3 h = some (r, h')) : Run mL_law 103 X 579 [(0, .ref (X.2.2.2.1 6)), (1, .ref (X.1 0)), (2, .ref (X.1 96)), (3, .int x3)] [] h (some (.int r)) h' := by
  unfold f_L_law_J579 at hf
  refine r_aload_n 580 rfl 1 rfl rfl (ck DL_law_6 23 rfl) ?_
  refine r_aload_n 581 rfl 0 rfl rfl (ck DL_law_6 24 rfl) ?_
  refine r_iload_n 582 rfl 3 rfl rfl (ck DL_law_6 25 rfl) ?_
  refine r_iconst 583 rfl ic_1 (ck DL_law_6 26 rfl) ?_
  refine r_iadd 584 rfl (ck DL_law_6 27 rfl) ?_
  obtain ⟨b176, hf⟩ := gd_so hf
  refine r_sald 585 rfl (inb_vp b176) (ck DL_law_6 28 rfl) ?_
  obtain ⟨v179, g177, e178, hf⟩ := bd_so hf
  refine r_callVi 588 rfl (A_X6_port X (X.2.2.2.2.2 (Int32.toNatClampNeg (x3 + 1))) h v179 g177 e178) (by omega) cw_L_69 sh_0 cl_6 rfl rfl (Nat.le_of_ble_eq_true rfl) (ck DL_law_6 29 rfl) ?_
  refine r_aload_n 589 rfl 2 rfl rfl (ck DL_law_6 30 rfl) ?_
  refine r_aload_n 590 rfl 0 rfl rfl (ck DL_law_6 31 rfl) ?_
  refine r_iload_n 591 rfl 3 rfl rfl (ck DL_law_6 32 rfl) ?_
  refine r_iconst 592 rfl ic_1 (ck DL_law_6 33 rfl) ?_
  refine r_iadd 593 rfl (ck DL_law_6 34 rfl) ?_
  obtain ⟨b180, hf⟩ := gd_so hf
  refine r_sald 594 rfl (inb_vp b180) (ck DL_law_6 35 rfl) ?_
  obtain ⟨v183, g181, e182, hf⟩ := bd_so hf
  refine r_callVi 597 rfl (A_X7_port X (X.2.2.2.2.2 (Int32.toNatClampNeg (x3 + 1))) g177 v183 g181 e182) (by omega) cw_L_72 sh_96 cl_7 rfl rfl (Nat.le_of_ble_eq_true rfl) (ck DL_law_6 36 rfl) ?_
  rcases if_so hf with ⟨c184, hf⟩ | ⟨c184, hf⟩
  · refine r_icmp_eq_t 1347 (ck DL_law_6 37 rfl) (by decide) c184 ?_
    obtain ⟨v185, e186, hf⟩ := lt_so hf
    refine r_iinc (lv' := [(3, .int v185), (0, .ref (X.2.2.2.1 6)), (1, .ref (X.1 0)), (2, .ref (X.1 96))]) 1350 rfl 3 (ck DL_law_18 35 rfl) rfl (by rw [e186, ic_6]) (by decide) rfl ?_
    refine r_goto 18 (ck DL_law_18 36 rfl) (by decide) ?_
    refine r_sub (lv' := [(0, .ref (X.2.2.2.1 6)), (1, .ref (X.1 0)), (2, .ref (X.1 96)), (3, .int v185)]) [1, 2, 3, 0] rfl ?_
    exact hr18 v185 g181 hf
  · refine r_icmp_eq_f 600 rfl 1347 (ck DL_law_6 37 rfl) (by decide) c184 ?_
    refine r_iconst 601 rfl ic_0 (ck DL_law_6 38 rfl) ?_
    obtain ⟨rfl, rfl⟩ := so2 hf
    exact r_iret rfl rfl (ck DL_law_6 39 rfl)
def f_L_law_J602 (L : Nat) (xs : Nat → Int32) (rc18 : Int32 → HP → Option (Int32 × HP)) (x3 : Int32) (h : HP) : Option (Int32 × HP) := bd (f_X6_spread h) fun v190 g188 => bd (f_X7_spread g188) fun v193 g191 => if v190 = v193 then (lt (x3 + 6 : Int32) fun v195 => rc18 v195 g191) else (some (0, g191))
set_option maxHeartbeats 4000000 in
set_option maxRecDepth 100000 in
theorem A_L_law_J602 (X : XE) (rc18 : Int32 → HP → Option (Int32 × HP)) (r : Int32) (h' : HP) (hr18 : ∀ (x3 : Int32) (h : HP), rc18 x3 h = some (r, h') → Run mL_law 103 X 18 [(0, .ref (X.2.2.2.1 6)), (1, .ref (X.1 0)), (2, .ref (X.1 96)), (3, .int x3)] [] h (some (.int r)) h') (x3 : Int32) (h : HP) (hf : f_L_law_J602 X.2.2.2.2.1 X.2.2.2.2.2 rc18 x3 h = some (r, h')) : Run mL_law 103 X 602 [(0, .ref (X.2.2.2.1 6)), (1, .ref (X.1 0)), (2, .ref (X.1 96)), (3, .int x3)] [] h (some (.int r)) h' := by
  unfold f_L_law_J602 at hf
  refine r_aload_n 603 rfl 1 rfl rfl (ck DL_law_6 40 rfl) ?_
  obtain ⟨v190, g188, e189, hf⟩ := bd_so hf
  refine r_callVi 606 rfl (A_X6_spread X h v190 g188 e189) (by omega) cw_L_73 sh_0 cl_6 rfl rfl (Nat.le_of_ble_eq_true rfl) (ck DL_law_6 41 rfl) ?_
  refine r_aload_n 607 rfl 2 rfl rfl (ck DL_law_6 42 rfl) ?_
  obtain ⟨v193, g191, e192, hf⟩ := bd_so hf
  refine r_callVi 610 rfl (A_X7_spread X g188 v193 g191 e192) (by omega) cw_L_76 sh_96 cl_7 rfl rfl (Nat.le_of_ble_eq_true rfl) (ck DL_law_6 43 rfl) ?_
  rcases if_so hf with ⟨c194, hf⟩ | ⟨c194, hf⟩
  · refine r_icmp_eq_t 1347 (ck DL_law_6 44 rfl) (by decide) c194 ?_
    obtain ⟨v195, e196, hf⟩ := lt_so hf
    refine r_iinc (lv' := [(3, .int v195), (0, .ref (X.2.2.2.1 6)), (1, .ref (X.1 0)), (2, .ref (X.1 96))]) 1350 rfl 3 (ck DL_law_18 35 rfl) rfl (by rw [e196, ic_6]) (by decide) rfl ?_
    refine r_goto 18 (ck DL_law_18 36 rfl) (by decide) ?_
    refine r_sub (lv' := [(0, .ref (X.2.2.2.1 6)), (1, .ref (X.1 0)), (2, .ref (X.1 96)), (3, .int v195)]) [1, 2, 3, 0] rfl ?_
    exact hr18 v195 g191 hf
  · refine r_icmp_eq_f 613 rfl 1347 (ck DL_law_6 44 rfl) (by decide) c194 ?_
    refine r_iconst 614 rfl ic_0 (ck DL_law_6 45 rfl) ?_
    obtain ⟨rfl, rfl⟩ := so2 hf
    exact r_iret rfl rfl (ck DL_law_6 46 rfl)
def f_L_law_J615 (L : Nat) (xs : Nat → Int32) (rc18 : Int32 → HP → Option (Int32 × HP)) (x3 : Int32) (h : HP) : Option (Int32 × HP) := gd (inb (x3 + 1) L) (bd (f_X6_fewest (xs (Int32.toNatClampNeg (x3 + 1))) h) fun v201 g199 => gd (inb (x3 + 1) L) (bd (f_X7_fewest (xs (Int32.toNatClampNeg (x3 + 1))) g199) fun v205 g203 => if v201 = v205 then (lt (x3 + 6 : Int32) fun v207 => rc18 v207 g203) else (some (0, g203))))
set_option maxHeartbeats 4000000 in
set_option maxRecDepth 100000 in
theorem A_L_law_J615 (X : XE) (rc18 : Int32 → HP → Option (Int32 × HP)) (r : Int32) (h' : HP) (hr18 : ∀ (x3 : Int32) (h : HP), rc18 x3 h = some (r, h') → Run mL_law 103 X 18 [(0, .ref (X.2.2.2.1 6)), (1, .ref (X.1 0)), (2, .ref (X.1 96)), (3, .int x3)] [] h (some (.int r)) h') (x3 : Int32) (h : HP) (hf : f_L_law_J615 X.2.2.2.2.1 X.2.2.2.2.2 rc18 x3 h = some (r, h')) : Run mL_law 103 X 615 [(0, .ref (X.2.2.2.1 6)), (1, .ref (X.1 0)), (2, .ref (X.1 96)), (3, .int x3)] [] h (some (.int r)) h' := by
  unfold f_L_law_J615 at hf
  refine r_aload_n 616 rfl 1 rfl rfl (ck DL_law_6 47 rfl) ?_
  refine r_aload_n 617 rfl 0 rfl rfl (ck DL_law_6 48 rfl) ?_
  refine r_iload_n 618 rfl 3 rfl rfl (ck DL_law_6 49 rfl) ?_
  refine r_iconst 619 rfl ic_1 (ck DL_law_7 0 rfl) ?_
  refine r_iadd 620 rfl (ck DL_law_7 1 rfl) ?_
  obtain ⟨b198, hf⟩ := gd_so hf
  refine r_sald 621 rfl (inb_vp b198) (ck DL_law_7 2 rfl) ?_
  obtain ⟨v201, g199, e200, hf⟩ := bd_so hf
  refine r_callVi 624 rfl (A_X6_fewest X (X.2.2.2.2.2 (Int32.toNatClampNeg (x3 + 1))) h v201 g199 e200) (by omega) cw_L_77 sh_0 cl_6 rfl rfl (Nat.le_of_ble_eq_true rfl) (ck DL_law_7 3 rfl) ?_
  refine r_aload_n 625 rfl 2 rfl rfl (ck DL_law_7 4 rfl) ?_
  refine r_aload_n 626 rfl 0 rfl rfl (ck DL_law_7 5 rfl) ?_
  refine r_iload_n 627 rfl 3 rfl rfl (ck DL_law_7 6 rfl) ?_
  refine r_iconst 628 rfl ic_1 (ck DL_law_7 7 rfl) ?_
  refine r_iadd 629 rfl (ck DL_law_7 8 rfl) ?_
  obtain ⟨b202, hf⟩ := gd_so hf
  refine r_sald 630 rfl (inb_vp b202) (ck DL_law_7 9 rfl) ?_
  obtain ⟨v205, g203, e204, hf⟩ := bd_so hf
  refine r_callVi 633 rfl (A_X7_fewest X (X.2.2.2.2.2 (Int32.toNatClampNeg (x3 + 1))) g199 v205 g203 e204) (by omega) cw_L_80 sh_96 cl_7 rfl rfl (Nat.le_of_ble_eq_true rfl) (ck DL_law_7 10 rfl) ?_
  rcases if_so hf with ⟨c206, hf⟩ | ⟨c206, hf⟩
  · refine r_icmp_eq_t 1347 (ck DL_law_7 11 rfl) (by decide) c206 ?_
    obtain ⟨v207, e208, hf⟩ := lt_so hf
    refine r_iinc (lv' := [(3, .int v207), (0, .ref (X.2.2.2.1 6)), (1, .ref (X.1 0)), (2, .ref (X.1 96))]) 1350 rfl 3 (ck DL_law_18 35 rfl) rfl (by rw [e208, ic_6]) (by decide) rfl ?_
    refine r_goto 18 (ck DL_law_18 36 rfl) (by decide) ?_
    refine r_sub (lv' := [(0, .ref (X.2.2.2.1 6)), (1, .ref (X.1 0)), (2, .ref (X.1 96)), (3, .int v207)]) [1, 2, 3, 0] rfl ?_
    exact hr18 v207 g203 hf
  · refine r_icmp_eq_f 636 rfl 1347 (ck DL_law_7 11 rfl) (by decide) c206 ?_
    refine r_iconst 637 rfl ic_0 (ck DL_law_7 12 rfl) ?_
    obtain ⟨rfl, rfl⟩ := so2 hf
    exact r_iret rfl rfl (ck DL_law_7 13 rfl)
def f_L_law_J638 (L : Nat) (xs : Nat → Int32) (rc18 : Int32 → HP → Option (Int32 × HP)) (x3 : Int32) (h : HP) : Option (Int32 × HP) := gd (inb (x3 + 1) L) (gd (inb (x3 + 2) L) (bd (f_X6_best (xs (Int32.toNatClampNeg (x3 + 1))) (xs (Int32.toNatClampNeg (x3 + 2))) h) fun v214 g212 => gd (inb (x3 + 1) L) (gd (inb (x3 + 2) L) (bd (f_X7_best (xs (Int32.toNatClampNeg (x3 + 1))) (xs (Int32.toNatClampNeg (x3 + 2))) g212) fun v219 g217 => if v214 = v219 then (lt (x3 + 6 : Int32) fun v221 => rc18 v221 g217) else (some (0, g217))))))
set_option maxHeartbeats 4000000 in
set_option maxRecDepth 100000 in
theorem A_L_law_J638 (X : XE) (rc18 : Int32 → HP → Option (Int32 × HP)) (r : Int32) (h' : HP) (hr18 : ∀ (x3 : Int32) (h : HP), rc18 x3 h = some (r, h') → Run mL_law 103 X 18 [(0, .ref (X.2.2.2.1 6)), (1, .ref (X.1 0)), (2, .ref (X.1 96)), (3, .int x3)] [] h (some (.int r)) h') (x3 : Int32) (h : HP) (hf : f_L_law_J638 X.2.2.2.2.1 X.2.2.2.2.2 rc18 x3 h = some (r, h')) : Run mL_law 103 X 638 [(0, .ref (X.2.2.2.1 6)), (1, .ref (X.1 0)), (2, .ref (X.1 96)), (3, .int x3)] [] h (some (.int r)) h' := by
  unfold f_L_law_J638 at hf
  refine r_aload_n 639 rfl 1 rfl rfl (ck DL_law_7 14 rfl) ?_
  refine r_aload_n 640 rfl 0 rfl rfl (ck DL_law_7 15 rfl) ?_
  refine r_iload_n 641 rfl 3 rfl rfl (ck DL_law_7 16 rfl) ?_
  refine r_iconst 642 rfl ic_1 (ck DL_law_7 17 rfl) ?_
  refine r_iadd 643 rfl (ck DL_law_7 18 rfl) ?_
  obtain ⟨b210, hf⟩ := gd_so hf
  refine r_sald 644 rfl (inb_vp b210) (ck DL_law_7 19 rfl) ?_
  refine r_aload_n 645 rfl 0 rfl rfl (ck DL_law_7 20 rfl) ?_
  refine r_iload_n 646 rfl 3 rfl rfl (ck DL_law_7 21 rfl) ?_
  refine r_iconst 647 rfl ic_2 (ck DL_law_7 22 rfl) ?_
  refine r_iadd 648 rfl (ck DL_law_7 23 rfl) ?_
  obtain ⟨b211, hf⟩ := gd_so hf
  refine r_sald 649 rfl (inb_vp b211) (ck DL_law_7 24 rfl) ?_
  obtain ⟨v214, g212, e213, hf⟩ := bd_so hf
  refine r_callVi 652 rfl (A_X6_best X (X.2.2.2.2.2 (Int32.toNatClampNeg (x3 + 1))) (X.2.2.2.2.2 (Int32.toNatClampNeg (x3 + 2))) h v214 g212 e213) (by omega) cw_L_81 sh_0 cl_6 rfl rfl (Nat.le_of_ble_eq_true rfl) (ck DL_law_7 25 rfl) ?_
  refine r_aload_n 653 rfl 2 rfl rfl (ck DL_law_7 26 rfl) ?_
  refine r_aload_n 654 rfl 0 rfl rfl (ck DL_law_7 27 rfl) ?_
  refine r_iload_n 655 rfl 3 rfl rfl (ck DL_law_7 28 rfl) ?_
  refine r_iconst 656 rfl ic_1 (ck DL_law_7 29 rfl) ?_
  refine r_iadd 657 rfl (ck DL_law_7 30 rfl) ?_
  obtain ⟨b215, hf⟩ := gd_so hf
  refine r_sald 658 rfl (inb_vp b215) (ck DL_law_7 31 rfl) ?_
  refine r_aload_n 659 rfl 0 rfl rfl (ck DL_law_7 32 rfl) ?_
  refine r_iload_n 660 rfl 3 rfl rfl (ck DL_law_7 33 rfl) ?_
  refine r_iconst 661 rfl ic_2 (ck DL_law_7 34 rfl) ?_
  refine r_iadd 662 rfl (ck DL_law_7 35 rfl) ?_
  obtain ⟨b216, hf⟩ := gd_so hf
  refine r_sald 663 rfl (inb_vp b216) (ck DL_law_7 36 rfl) ?_
  obtain ⟨v219, g217, e218, hf⟩ := bd_so hf
  refine r_callVi 666 rfl (A_X7_best X (X.2.2.2.2.2 (Int32.toNatClampNeg (x3 + 1))) (X.2.2.2.2.2 (Int32.toNatClampNeg (x3 + 2))) g212 v219 g217 e218) (by omega) cw_L_84 sh_96 cl_7 rfl rfl (Nat.le_of_ble_eq_true rfl) (ck DL_law_7 37 rfl) ?_
  rcases if_so hf with ⟨c220, hf⟩ | ⟨c220, hf⟩
  · refine r_icmp_eq_t 1347 (ck DL_law_7 38 rfl) (by decide) c220 ?_
    obtain ⟨v221, e222, hf⟩ := lt_so hf
    refine r_iinc (lv' := [(3, .int v221), (0, .ref (X.2.2.2.1 6)), (1, .ref (X.1 0)), (2, .ref (X.1 96))]) 1350 rfl 3 (ck DL_law_18 35 rfl) rfl (by rw [e222, ic_6]) (by decide) rfl ?_
    refine r_goto 18 (ck DL_law_18 36 rfl) (by decide) ?_
    refine r_sub (lv' := [(0, .ref (X.2.2.2.1 6)), (1, .ref (X.1 0)), (2, .ref (X.1 96)), (3, .int v221)]) [1, 2, 3, 0] rfl ?_
    exact hr18 v221 g217 hf
  · refine r_icmp_eq_f 669 rfl 1347 (ck DL_law_7 38 rfl) (by decide) c220 ?_
    refine r_iconst 670 rfl ic_0 (ck DL_law_7 39 rfl) ?_
    obtain ⟨rfl, rfl⟩ := so2 hf
    exact r_iret rfl rfl (ck DL_law_7 40 rfl)
def f_L_law_J671 (L : Nat) (xs : Nat → Int32) (rc18 : Int32 → HP → Option (Int32 × HP)) (x3 : Int32) (h : HP) : Option (Int32 × HP) := gd (inb (x3 + 1) L) (bd (f_X6_longest (xs (Int32.toNatClampNeg (x3 + 1))) h) fun v227 g225 => gd (inb (x3 + 1) L) (bd (f_X7_longest (xs (Int32.toNatClampNeg (x3 + 1))) g225) fun v231 g229 => if v227 = v231 then (lt (x3 + 6 : Int32) fun v233 => rc18 v233 g229) else (some (0, g229))))
set_option maxHeartbeats 4000000 in
set_option maxRecDepth 100000 in
theorem A_L_law_J671 (X : XE) (rc18 : Int32 → HP → Option (Int32 × HP)) (r : Int32) (h' : HP) (hr18 : ∀ (x3 : Int32) (h : HP), rc18 x3 h = some (r, h') → Run mL_law 103 X 18 [(0, .ref (X.2.2.2.1 6)), (1, .ref (X.1 0)), (2, .ref (X.1 96)), (3, .int x3)] [] h (some (.int r)) h') (x3 : Int32) (h : HP) (hf : f_L_law_J671 X.2.2.2.2.1 X.2.2.2.2.2 rc18 x3 h = some (r, h')) : Run mL_law 103 X 671 [(0, .ref (X.2.2.2.1 6)), (1, .ref (X.1 0)), (2, .ref (X.1 96)), (3, .int x3)] [] h (some (.int r)) h' := by
  unfold f_L_law_J671 at hf
  refine r_aload_n 672 rfl 1 rfl rfl (ck DL_law_7 41 rfl) ?_
  refine r_aload_n 673 rfl 0 rfl rfl (ck DL_law_7 42 rfl) ?_
  refine r_iload_n 674 rfl 3 rfl rfl (ck DL_law_7 43 rfl) ?_
  refine r_iconst 675 rfl ic_1 (ck DL_law_7 44 rfl) ?_
  refine r_iadd 676 rfl (ck DL_law_7 45 rfl) ?_
  obtain ⟨b224, hf⟩ := gd_so hf
  refine r_sald 677 rfl (inb_vp b224) (ck DL_law_7 46 rfl) ?_
  obtain ⟨v227, g225, e226, hf⟩ := bd_so hf
  refine r_callVi 680 rfl (A_X6_longest X (X.2.2.2.2.2 (Int32.toNatClampNeg (x3 + 1))) h v227 g225 e226) (by omega) cw_L_85 sh_0 cl_6 rfl rfl (Nat.le_of_ble_eq_true rfl) (ck DL_law_7 47 rfl) ?_
  refine r_aload_n 681 rfl 2 rfl rfl (ck DL_law_7 48 rfl) ?_
  refine r_aload_n 682 rfl 0 rfl rfl (ck DL_law_7 49 rfl) ?_
  refine r_iload_n 683 rfl 3 rfl rfl (ck DL_law_8 0 rfl) ?_
  refine r_iconst 684 rfl ic_1 (ck DL_law_8 1 rfl) ?_
  refine r_iadd 685 rfl (ck DL_law_8 2 rfl) ?_
  obtain ⟨b228, hf⟩ := gd_so hf
  refine r_sald 686 rfl (inb_vp b228) (ck DL_law_8 3 rfl) ?_
  obtain ⟨v231, g229, e230, hf⟩ := bd_so hf
  refine r_callVi 689 rfl (A_X7_longest X (X.2.2.2.2.2 (Int32.toNatClampNeg (x3 + 1))) g225 v231 g229 e230) (by omega) cw_L_88 sh_96 cl_7 rfl rfl (Nat.le_of_ble_eq_true rfl) (ck DL_law_8 4 rfl) ?_
  rcases if_so hf with ⟨c232, hf⟩ | ⟨c232, hf⟩
  · refine r_icmp_eq_t 1347 (ck DL_law_8 5 rfl) (by decide) c232 ?_
    obtain ⟨v233, e234, hf⟩ := lt_so hf
    refine r_iinc (lv' := [(3, .int v233), (0, .ref (X.2.2.2.1 6)), (1, .ref (X.1 0)), (2, .ref (X.1 96))]) 1350 rfl 3 (ck DL_law_18 35 rfl) rfl (by rw [e234, ic_6]) (by decide) rfl ?_
    refine r_goto 18 (ck DL_law_18 36 rfl) (by decide) ?_
    refine r_sub (lv' := [(0, .ref (X.2.2.2.1 6)), (1, .ref (X.1 0)), (2, .ref (X.1 96)), (3, .int v233)]) [1, 2, 3, 0] rfl ?_
    exact hr18 v233 g229 hf
  · refine r_icmp_eq_f 692 rfl 1347 (ck DL_law_8 5 rfl) (by decide) c232 ?_
    refine r_iconst 693 rfl ic_0 (ck DL_law_8 6 rfl) ?_
    obtain ⟨rfl, rfl⟩ := so2 hf
    exact r_iret rfl rfl (ck DL_law_8 7 rfl)
def f_L_law_J694 (L : Nat) (xs : Nat → Int32) (rc18 : Int32 → HP → Option (Int32 × HP)) (x3 : Int32) (h : HP) : Option (Int32 × HP) := gd (inb (x3 + 1) L) (gd (inb (x3 + 2) L) (bd (f_X6_see (xs (Int32.toNatClampNeg (x3 + 1))) (xs (Int32.toNatClampNeg (x3 + 2))) h) fun v240 g238 => gd (inb (x3 + 1) L) (gd (inb (x3 + 2) L) (bd (f_X7_see (xs (Int32.toNatClampNeg (x3 + 1))) (xs (Int32.toNatClampNeg (x3 + 2))) g238) fun v245 g243 => if v240 = v245 then (lt (x3 + 6 : Int32) fun v247 => rc18 v247 g243) else (some (0, g243))))))
set_option maxHeartbeats 4000000 in
set_option maxRecDepth 100000 in
theorem A_L_law_J694 (X : XE) (rc18 : Int32 → HP → Option (Int32 × HP)) (r : Int32) (h' : HP) (hr18 : ∀ (x3 : Int32) (h : HP), rc18 x3 h = some (r, h') → Run mL_law 103 X 18 [(0, .ref (X.2.2.2.1 6)), (1, .ref (X.1 0)), (2, .ref (X.1 96)), (3, .int x3)] [] h (some (.int r)) h') (x3 : Int32) (h : HP) (hf : f_L_law_J694 X.2.2.2.2.1 X.2.2.2.2.2 rc18 x3 h = some (r, h')) : Run mL_law 103 X 694 [(0, .ref (X.2.2.2.1 6)), (1, .ref (X.1 0)), (2, .ref (X.1 96)), (3, .int x3)] [] h (some (.int r)) h' := by
  unfold f_L_law_J694 at hf
  refine r_aload_n 695 rfl 1 rfl rfl (ck DL_law_8 8 rfl) ?_
  refine r_aload_n 696 rfl 0 rfl rfl (ck DL_law_8 9 rfl) ?_
  refine r_iload_n 697 rfl 3 rfl rfl (ck DL_law_8 10 rfl) ?_
  refine r_iconst 698 rfl ic_1 (ck DL_law_8 11 rfl) ?_
  refine r_iadd 699 rfl (ck DL_law_8 12 rfl) ?_
  obtain ⟨b236, hf⟩ := gd_so hf
  refine r_sald 700 rfl (inb_vp b236) (ck DL_law_8 13 rfl) ?_
  refine r_aload_n 701 rfl 0 rfl rfl (ck DL_law_8 14 rfl) ?_
  refine r_iload_n 702 rfl 3 rfl rfl (ck DL_law_8 15 rfl) ?_
  refine r_iconst 703 rfl ic_2 (ck DL_law_8 16 rfl) ?_
  refine r_iadd 704 rfl (ck DL_law_8 17 rfl) ?_
  obtain ⟨b237, hf⟩ := gd_so hf
  refine r_sald 705 rfl (inb_vp b237) (ck DL_law_8 18 rfl) ?_
  obtain ⟨v240, g238, e239, hf⟩ := bd_so hf
  refine r_callVi 708 rfl (A_X6_see X (X.2.2.2.2.2 (Int32.toNatClampNeg (x3 + 1))) (X.2.2.2.2.2 (Int32.toNatClampNeg (x3 + 2))) h v240 g238 e239) (by omega) cw_L_89 sh_0 cl_6 rfl rfl (Nat.le_of_ble_eq_true rfl) (ck DL_law_8 19 rfl) ?_
  refine r_aload_n 709 rfl 2 rfl rfl (ck DL_law_8 20 rfl) ?_
  refine r_aload_n 710 rfl 0 rfl rfl (ck DL_law_8 21 rfl) ?_
  refine r_iload_n 711 rfl 3 rfl rfl (ck DL_law_8 22 rfl) ?_
  refine r_iconst 712 rfl ic_1 (ck DL_law_8 23 rfl) ?_
  refine r_iadd 713 rfl (ck DL_law_8 24 rfl) ?_
  obtain ⟨b241, hf⟩ := gd_so hf
  refine r_sald 714 rfl (inb_vp b241) (ck DL_law_8 25 rfl) ?_
  refine r_aload_n 715 rfl 0 rfl rfl (ck DL_law_8 26 rfl) ?_
  refine r_iload_n 716 rfl 3 rfl rfl (ck DL_law_8 27 rfl) ?_
  refine r_iconst 717 rfl ic_2 (ck DL_law_8 28 rfl) ?_
  refine r_iadd 718 rfl (ck DL_law_8 29 rfl) ?_
  obtain ⟨b242, hf⟩ := gd_so hf
  refine r_sald 719 rfl (inb_vp b242) (ck DL_law_8 30 rfl) ?_
  obtain ⟨v245, g243, e244, hf⟩ := bd_so hf
  refine r_callVi 722 rfl (A_X7_see X (X.2.2.2.2.2 (Int32.toNatClampNeg (x3 + 1))) (X.2.2.2.2.2 (Int32.toNatClampNeg (x3 + 2))) g238 v245 g243 e244) (by omega) cw_L_92 sh_96 cl_7 rfl rfl (Nat.le_of_ble_eq_true rfl) (ck DL_law_8 31 rfl) ?_
  rcases if_so hf with ⟨c246, hf⟩ | ⟨c246, hf⟩
  · refine r_icmp_eq_t 1347 (ck DL_law_8 32 rfl) (by decide) c246 ?_
    obtain ⟨v247, e248, hf⟩ := lt_so hf
    refine r_iinc (lv' := [(3, .int v247), (0, .ref (X.2.2.2.1 6)), (1, .ref (X.1 0)), (2, .ref (X.1 96))]) 1350 rfl 3 (ck DL_law_18 35 rfl) rfl (by rw [e248, ic_6]) (by decide) rfl ?_
    refine r_goto 18 (ck DL_law_18 36 rfl) (by decide) ?_
    refine r_sub (lv' := [(0, .ref (X.2.2.2.1 6)), (1, .ref (X.1 0)), (2, .ref (X.1 96)), (3, .int v247)]) [1, 2, 3, 0] rfl ?_
    exact hr18 v247 g243 hf
  · refine r_icmp_eq_f 725 rfl 1347 (ck DL_law_8 32 rfl) (by decide) c246 ?_
    refine r_iconst 726 rfl ic_0 (ck DL_law_8 33 rfl) ?_
    obtain ⟨rfl, rfl⟩ := so2 hf
    exact r_iret rfl rfl (ck DL_law_8 34 rfl)
def f_L_law_J727 (L : Nat) (xs : Nat → Int32) (rc18 : Int32 → HP → Option (Int32 × HP)) (x3 : Int32) (h : HP) : Option (Int32 × HP) := gd (inb (x3 + 1) L) (gd (inb (x3 + 2) L) (bd (f_X6_worn (xs (Int32.toNatClampNeg (x3 + 1))) (xs (Int32.toNatClampNeg (x3 + 2))) h) fun v254 g252 => gd (inb (x3 + 1) L) (gd (inb (x3 + 2) L) (bd (f_X7_worn (xs (Int32.toNatClampNeg (x3 + 1))) (xs (Int32.toNatClampNeg (x3 + 2))) g252) fun v259 g257 => if v254 = v259 then (lt (x3 + 6 : Int32) fun v261 => rc18 v261 g257) else (some (0, g257))))))
set_option maxHeartbeats 4000000 in
set_option maxRecDepth 100000 in
theorem A_L_law_J727 (X : XE) (rc18 : Int32 → HP → Option (Int32 × HP)) (r : Int32) (h' : HP) (hr18 : ∀ (x3 : Int32) (h : HP), rc18 x3 h = some (r, h') → Run mL_law 103 X 18 [(0, .ref (X.2.2.2.1 6)), (1, .ref (X.1 0)), (2, .ref (X.1 96)), (3, .int x3)] [] h (some (.int r)) h') (x3 : Int32) (h : HP) (hf : f_L_law_J727 X.2.2.2.2.1 X.2.2.2.2.2 rc18 x3 h = some (r, h')) : Run mL_law 103 X 727 [(0, .ref (X.2.2.2.1 6)), (1, .ref (X.1 0)), (2, .ref (X.1 96)), (3, .int x3)] [] h (some (.int r)) h' := by
  unfold f_L_law_J727 at hf
  refine r_aload_n 728 rfl 1 rfl rfl (ck DL_law_8 35 rfl) ?_
  refine r_aload_n 729 rfl 0 rfl rfl (ck DL_law_8 36 rfl) ?_
  refine r_iload_n 730 rfl 3 rfl rfl (ck DL_law_8 37 rfl) ?_
  refine r_iconst 731 rfl ic_1 (ck DL_law_8 38 rfl) ?_
  refine r_iadd 732 rfl (ck DL_law_8 39 rfl) ?_
  obtain ⟨b250, hf⟩ := gd_so hf
  refine r_sald 733 rfl (inb_vp b250) (ck DL_law_8 40 rfl) ?_
  refine r_aload_n 734 rfl 0 rfl rfl (ck DL_law_8 41 rfl) ?_
  refine r_iload_n 735 rfl 3 rfl rfl (ck DL_law_8 42 rfl) ?_
  refine r_iconst 736 rfl ic_2 (ck DL_law_8 43 rfl) ?_
  refine r_iadd 737 rfl (ck DL_law_8 44 rfl) ?_
  obtain ⟨b251, hf⟩ := gd_so hf
  refine r_sald 738 rfl (inb_vp b251) (ck DL_law_8 45 rfl) ?_
  obtain ⟨v254, g252, e253, hf⟩ := bd_so hf
  refine r_callVi 741 rfl (A_X6_worn X (X.2.2.2.2.2 (Int32.toNatClampNeg (x3 + 1))) (X.2.2.2.2.2 (Int32.toNatClampNeg (x3 + 2))) h v254 g252 e253) (by omega) cw_L_93 sh_0 cl_6 rfl rfl (Nat.le_of_ble_eq_true rfl) (ck DL_law_8 46 rfl) ?_
  refine r_aload_n 742 rfl 2 rfl rfl (ck DL_law_8 47 rfl) ?_
  refine r_aload_n 743 rfl 0 rfl rfl (ck DL_law_8 48 rfl) ?_
  refine r_iload_n 744 rfl 3 rfl rfl (ck DL_law_8 49 rfl) ?_
  refine r_iconst 745 rfl ic_1 (ck DL_law_9 0 rfl) ?_
  refine r_iadd 746 rfl (ck DL_law_9 1 rfl) ?_
  obtain ⟨b255, hf⟩ := gd_so hf
  refine r_sald 747 rfl (inb_vp b255) (ck DL_law_9 2 rfl) ?_
  refine r_aload_n 748 rfl 0 rfl rfl (ck DL_law_9 3 rfl) ?_
  refine r_iload_n 749 rfl 3 rfl rfl (ck DL_law_9 4 rfl) ?_
  refine r_iconst 750 rfl ic_2 (ck DL_law_9 5 rfl) ?_
  refine r_iadd 751 rfl (ck DL_law_9 6 rfl) ?_
  obtain ⟨b256, hf⟩ := gd_so hf
  refine r_sald 752 rfl (inb_vp b256) (ck DL_law_9 7 rfl) ?_
  obtain ⟨v259, g257, e258, hf⟩ := bd_so hf
  refine r_callVi 755 rfl (A_X7_worn X (X.2.2.2.2.2 (Int32.toNatClampNeg (x3 + 1))) (X.2.2.2.2.2 (Int32.toNatClampNeg (x3 + 2))) g252 v259 g257 e258) (by omega) cw_L_96 sh_96 cl_7 rfl rfl (Nat.le_of_ble_eq_true rfl) (ck DL_law_9 8 rfl) ?_
  rcases if_so hf with ⟨c260, hf⟩ | ⟨c260, hf⟩
  · refine r_icmp_eq_t 1347 (ck DL_law_9 9 rfl) (by decide) c260 ?_
    obtain ⟨v261, e262, hf⟩ := lt_so hf
    refine r_iinc (lv' := [(3, .int v261), (0, .ref (X.2.2.2.1 6)), (1, .ref (X.1 0)), (2, .ref (X.1 96))]) 1350 rfl 3 (ck DL_law_18 35 rfl) rfl (by rw [e262, ic_6]) (by decide) rfl ?_
    refine r_goto 18 (ck DL_law_18 36 rfl) (by decide) ?_
    refine r_sub (lv' := [(0, .ref (X.2.2.2.1 6)), (1, .ref (X.1 0)), (2, .ref (X.1 96)), (3, .int v261)]) [1, 2, 3, 0] rfl ?_
    exact hr18 v261 g257 hf
  · refine r_icmp_eq_f 758 rfl 1347 (ck DL_law_9 9 rfl) (by decide) c260 ?_
    refine r_iconst 759 rfl ic_0 (ck DL_law_9 10 rfl) ?_
    obtain ⟨rfl, rfl⟩ := so2 hf
    exact r_iret rfl rfl (ck DL_law_9 11 rfl)
def f_L_law_J760 (L : Nat) (xs : Nat → Int32) (rc18 : Int32 → HP → Option (Int32 × HP)) (x3 : Int32) (h : HP) : Option (Int32 × HP) := gd (inb (x3 + 1) L) (gd (inb (x3 + 2) L) (bd (f_X6_can (xs (Int32.toNatClampNeg (x3 + 1))) (xs (Int32.toNatClampNeg (x3 + 2))) h) fun v268 g266 => gd (inb (x3 + 1) L) (gd (inb (x3 + 2) L) (bd (f_X7_can (xs (Int32.toNatClampNeg (x3 + 1))) (xs (Int32.toNatClampNeg (x3 + 2))) g266) fun v273 g271 => if v268 = v273 then (lt (x3 + 6 : Int32) fun v275 => rc18 v275 g271) else (some (0, g271))))))
set_option maxHeartbeats 4000000 in
set_option maxRecDepth 100000 in
theorem A_L_law_J760 (X : XE) (rc18 : Int32 → HP → Option (Int32 × HP)) (r : Int32) (h' : HP) (hr18 : ∀ (x3 : Int32) (h : HP), rc18 x3 h = some (r, h') → Run mL_law 103 X 18 [(0, .ref (X.2.2.2.1 6)), (1, .ref (X.1 0)), (2, .ref (X.1 96)), (3, .int x3)] [] h (some (.int r)) h') (x3 : Int32) (h : HP) (hf : f_L_law_J760 X.2.2.2.2.1 X.2.2.2.2.2 rc18 x3 h = some (r, h')) : Run mL_law 103 X 760 [(0, .ref (X.2.2.2.1 6)), (1, .ref (X.1 0)), (2, .ref (X.1 96)), (3, .int x3)] [] h (some (.int r)) h' := by
  unfold f_L_law_J760 at hf
  refine r_aload_n 761 rfl 1 rfl rfl (ck DL_law_9 12 rfl) ?_
  refine r_aload_n 762 rfl 0 rfl rfl (ck DL_law_9 13 rfl) ?_
  refine r_iload_n 763 rfl 3 rfl rfl (ck DL_law_9 14 rfl) ?_
  refine r_iconst 764 rfl ic_1 (ck DL_law_9 15 rfl) ?_
  refine r_iadd 765 rfl (ck DL_law_9 16 rfl) ?_
  obtain ⟨b264, hf⟩ := gd_so hf
  refine r_sald 766 rfl (inb_vp b264) (ck DL_law_9 17 rfl) ?_
  refine r_aload_n 767 rfl 0 rfl rfl (ck DL_law_9 18 rfl) ?_
  refine r_iload_n 768 rfl 3 rfl rfl (ck DL_law_9 19 rfl) ?_
  refine r_iconst 769 rfl ic_2 (ck DL_law_9 20 rfl) ?_
  refine r_iadd 770 rfl (ck DL_law_9 21 rfl) ?_
  obtain ⟨b265, hf⟩ := gd_so hf
  refine r_sald 771 rfl (inb_vp b265) (ck DL_law_9 22 rfl) ?_
  obtain ⟨v268, g266, e267, hf⟩ := bd_so hf
  refine r_callVi 774 rfl (A_X6_can X (X.2.2.2.2.2 (Int32.toNatClampNeg (x3 + 1))) (X.2.2.2.2.2 (Int32.toNatClampNeg (x3 + 2))) h v268 g266 e267) (by omega) cw_L_97 sh_0 cl_6 rfl rfl (Nat.le_of_ble_eq_true rfl) (ck DL_law_9 23 rfl) ?_
  refine r_aload_n 775 rfl 2 rfl rfl (ck DL_law_9 24 rfl) ?_
  refine r_aload_n 776 rfl 0 rfl rfl (ck DL_law_9 25 rfl) ?_
  refine r_iload_n 777 rfl 3 rfl rfl (ck DL_law_9 26 rfl) ?_
  refine r_iconst 778 rfl ic_1 (ck DL_law_9 27 rfl) ?_
  refine r_iadd 779 rfl (ck DL_law_9 28 rfl) ?_
  obtain ⟨b269, hf⟩ := gd_so hf
  refine r_sald 780 rfl (inb_vp b269) (ck DL_law_9 29 rfl) ?_
  refine r_aload_n 781 rfl 0 rfl rfl (ck DL_law_9 30 rfl) ?_
  refine r_iload_n 782 rfl 3 rfl rfl (ck DL_law_9 31 rfl) ?_
  refine r_iconst 783 rfl ic_2 (ck DL_law_9 32 rfl) ?_
  refine r_iadd 784 rfl (ck DL_law_9 33 rfl) ?_
  obtain ⟨b270, hf⟩ := gd_so hf
  refine r_sald 785 rfl (inb_vp b270) (ck DL_law_9 34 rfl) ?_
  obtain ⟨v273, g271, e272, hf⟩ := bd_so hf
  refine r_callVi 788 rfl (A_X7_can X (X.2.2.2.2.2 (Int32.toNatClampNeg (x3 + 1))) (X.2.2.2.2.2 (Int32.toNatClampNeg (x3 + 2))) g266 v273 g271 e272) (by omega) cw_L_100 sh_96 cl_7 rfl rfl (Nat.le_of_ble_eq_true rfl) (ck DL_law_9 35 rfl) ?_
  rcases if_so hf with ⟨c274, hf⟩ | ⟨c274, hf⟩
  · refine r_icmp_eq_t 1347 (ck DL_law_9 36 rfl) (by decide) c274 ?_
    obtain ⟨v275, e276, hf⟩ := lt_so hf
    refine r_iinc (lv' := [(3, .int v275), (0, .ref (X.2.2.2.1 6)), (1, .ref (X.1 0)), (2, .ref (X.1 96))]) 1350 rfl 3 (ck DL_law_18 35 rfl) rfl (by rw [e276, ic_6]) (by decide) rfl ?_
    refine r_goto 18 (ck DL_law_18 36 rfl) (by decide) ?_
    refine r_sub (lv' := [(0, .ref (X.2.2.2.1 6)), (1, .ref (X.1 0)), (2, .ref (X.1 96)), (3, .int v275)]) [1, 2, 3, 0] rfl ?_
    exact hr18 v275 g271 hf
  · refine r_icmp_eq_f 791 rfl 1347 (ck DL_law_9 36 rfl) (by decide) c274 ?_
    refine r_iconst 792 rfl ic_0 (ck DL_law_9 37 rfl) ?_
    obtain ⟨rfl, rfl⟩ := so2 hf
    exact r_iret rfl rfl (ck DL_law_9 38 rfl)
def f_L_law_J793 (L : Nat) (xs : Nat → Int32) (rc18 : Int32 → HP → Option (Int32 × HP)) (x3 : Int32) (h : HP) : Option (Int32 × HP) := gd (inb (x3 + 1) L) (gd (inb (x3 + 2) L) (bd (f_X6_odds (xs (Int32.toNatClampNeg (x3 + 1))) (xs (Int32.toNatClampNeg (x3 + 2))) h) fun v282 g280 => gd (inb (x3 + 1) L) (gd (inb (x3 + 2) L) (bd (f_X7_odds (xs (Int32.toNatClampNeg (x3 + 1))) (xs (Int32.toNatClampNeg (x3 + 2))) g280) fun v287 g285 => if (lg_cmp v282 v287) = 0 then (lt (x3 + 6 : Int32) fun v289 => rc18 v289 g285) else (some (0, g285))))))
set_option maxHeartbeats 4000000 in
set_option maxRecDepth 100000 in
theorem A_L_law_J793 (X : XE) (rc18 : Int32 → HP → Option (Int32 × HP)) (r : Int32) (h' : HP) (hr18 : ∀ (x3 : Int32) (h : HP), rc18 x3 h = some (r, h') → Run mL_law 103 X 18 [(0, .ref (X.2.2.2.1 6)), (1, .ref (X.1 0)), (2, .ref (X.1 96)), (3, .int x3)] [] h (some (.int r)) h') (x3 : Int32) (h : HP) (hf : f_L_law_J793 X.2.2.2.2.1 X.2.2.2.2.2 rc18 x3 h = some (r, h')) : Run mL_law 103 X 793 [(0, .ref (X.2.2.2.1 6)), (1, .ref (X.1 0)), (2, .ref (X.1 96)), (3, .int x3)] [] h (some (.int r)) h' := by
  unfold f_L_law_J793 at hf
  refine r_aload_n 794 rfl 1 rfl rfl (ck DL_law_9 39 rfl) ?_
  refine r_aload_n 795 rfl 0 rfl rfl (ck DL_law_9 40 rfl) ?_
  refine r_iload_n 796 rfl 3 rfl rfl (ck DL_law_9 41 rfl) ?_
  refine r_iconst 797 rfl ic_1 (ck DL_law_9 42 rfl) ?_
  refine r_iadd 798 rfl (ck DL_law_9 43 rfl) ?_
  obtain ⟨b278, hf⟩ := gd_so hf
  refine r_sald 799 rfl (inb_vp b278) (ck DL_law_9 44 rfl) ?_
  refine r_aload_n 800 rfl 0 rfl rfl (ck DL_law_9 45 rfl) ?_
  refine r_iload_n 801 rfl 3 rfl rfl (ck DL_law_9 46 rfl) ?_
  refine r_iconst 802 rfl ic_2 (ck DL_law_9 47 rfl) ?_
  refine r_iadd 803 rfl (ck DL_law_9 48 rfl) ?_
  obtain ⟨b279, hf⟩ := gd_so hf
  refine r_sald 804 rfl (inb_vp b279) (ck DL_law_9 49 rfl) ?_
  obtain ⟨v282, g280, e281, hf⟩ := bd_so hf
  refine r_callVl 807 rfl (A_X6_odds X (X.2.2.2.2.2 (Int32.toNatClampNeg (x3 + 1))) (X.2.2.2.2.2 (Int32.toNatClampNeg (x3 + 2))) h v282 g280 e281) (by omega) cw_L_101 sh_0 cl_6 rfl rfl (Nat.le_of_ble_eq_true rfl) (ck DL_law_10 0 rfl) ?_
  refine r_aload_n 808 rfl 2 rfl rfl (ck DL_law_10 1 rfl) ?_
  refine r_aload_n 809 rfl 0 rfl rfl (ck DL_law_10 2 rfl) ?_
  refine r_iload_n 810 rfl 3 rfl rfl (ck DL_law_10 3 rfl) ?_
  refine r_iconst 811 rfl ic_1 (ck DL_law_10 4 rfl) ?_
  refine r_iadd 812 rfl (ck DL_law_10 5 rfl) ?_
  obtain ⟨b283, hf⟩ := gd_so hf
  refine r_sald 813 rfl (inb_vp b283) (ck DL_law_10 6 rfl) ?_
  refine r_aload_n 814 rfl 0 rfl rfl (ck DL_law_10 7 rfl) ?_
  refine r_iload_n 815 rfl 3 rfl rfl (ck DL_law_10 8 rfl) ?_
  refine r_iconst 816 rfl ic_2 (ck DL_law_10 9 rfl) ?_
  refine r_iadd 817 rfl (ck DL_law_10 10 rfl) ?_
  obtain ⟨b284, hf⟩ := gd_so hf
  refine r_sald 818 rfl (inb_vp b284) (ck DL_law_10 11 rfl) ?_
  obtain ⟨v287, g285, e286, hf⟩ := bd_so hf
  refine r_callVl 821 rfl (A_X7_odds X (X.2.2.2.2.2 (Int32.toNatClampNeg (x3 + 1))) (X.2.2.2.2.2 (Int32.toNatClampNeg (x3 + 2))) g280 v287 g285 e286) (by omega) cw_L_105 sh_96 cl_7 rfl rfl (Nat.le_of_ble_eq_true rfl) (ck DL_law_10 12 rfl) ?_
  refine r_lcmp 822 rfl (ck DL_law_10 13 rfl) ?_
  rcases if_so hf with ⟨c288, hf⟩ | ⟨c288, hf⟩
  · refine r_if_eq_t 1347 (ck DL_law_10 14 rfl) (by decide) c288 ?_
    obtain ⟨v289, e290, hf⟩ := lt_so hf
    refine r_iinc (lv' := [(3, .int v289), (0, .ref (X.2.2.2.1 6)), (1, .ref (X.1 0)), (2, .ref (X.1 96))]) 1350 rfl 3 (ck DL_law_18 35 rfl) rfl (by rw [e290, ic_6]) (by decide) rfl ?_
    refine r_goto 18 (ck DL_law_18 36 rfl) (by decide) ?_
    refine r_sub (lv' := [(0, .ref (X.2.2.2.1 6)), (1, .ref (X.1 0)), (2, .ref (X.1 96)), (3, .int v289)]) [1, 2, 3, 0] rfl ?_
    exact hr18 v289 g285 hf
  · refine r_if_eq_f 825 rfl 1347 (ck DL_law_10 14 rfl) (by decide) c288 ?_
    refine r_iconst 826 rfl ic_0 (ck DL_law_10 15 rfl) ?_
    obtain ⟨rfl, rfl⟩ := so2 hf
    exact r_iret rfl rfl (ck DL_law_10 16 rfl)
def f_L_law_J827 (L : Nat) (xs : Nat → Int32) (rc18 : Int32 → HP → Option (Int32 × HP)) (x3 : Int32) (h : HP) : Option (Int32 × HP) := gd (inb (x3 + 1) L) (bo (f_X6_mean (xs (Int32.toNatClampNeg (x3 + 1))) h) fun v293 => gd (inb (x3 + 1) L) (bo (f_X7_mean (xs (Int32.toNatClampNeg (x3 + 1))) h) fun v296 => if (lg_cmp v293 v296) = 0 then (lt (x3 + 6 : Int32) fun v299 => rc18 v299 h) else (some (0, h))))
set_option maxHeartbeats 4000000 in
set_option maxRecDepth 100000 in
theorem A_L_law_J827 (X : XE) (rc18 : Int32 → HP → Option (Int32 × HP)) (r : Int32) (h' : HP) (hr18 : ∀ (x3 : Int32) (h : HP), rc18 x3 h = some (r, h') → Run mL_law 103 X 18 [(0, .ref (X.2.2.2.1 6)), (1, .ref (X.1 0)), (2, .ref (X.1 96)), (3, .int x3)] [] h (some (.int r)) h') (x3 : Int32) (h : HP) (hf : f_L_law_J827 X.2.2.2.2.1 X.2.2.2.2.2 rc18 x3 h = some (r, h')) : Run mL_law 103 X 827 [(0, .ref (X.2.2.2.1 6)), (1, .ref (X.1 0)), (2, .ref (X.1 96)), (3, .int x3)] [] h (some (.int r)) h' := by
  unfold f_L_law_J827 at hf
  refine r_aload_n 828 rfl 1 rfl rfl (ck DL_law_10 17 rfl) ?_
  refine r_aload_n 829 rfl 0 rfl rfl (ck DL_law_10 18 rfl) ?_
  refine r_iload_n 830 rfl 3 rfl rfl (ck DL_law_10 19 rfl) ?_
  refine r_iconst 831 rfl ic_1 (ck DL_law_10 20 rfl) ?_
  refine r_iadd 832 rfl (ck DL_law_10 21 rfl) ?_
  obtain ⟨b292, hf⟩ := gd_so hf
  refine r_sald 833 rfl (inb_vp b292) (ck DL_law_10 22 rfl) ?_
  obtain ⟨v293, e294, hf⟩ := bo_so hf
  refine r_callVl 836 rfl (A_X6_mean X (X.2.2.2.2.2 (Int32.toNatClampNeg (x3 + 1))) h v293 e294) (by omega) cw_L_106 sh_0 cl_6 rfl rfl (Nat.le_of_ble_eq_true rfl) (ck DL_law_10 23 rfl) ?_
  refine r_aload_n 837 rfl 2 rfl rfl (ck DL_law_10 24 rfl) ?_
  refine r_aload_n 838 rfl 0 rfl rfl (ck DL_law_10 25 rfl) ?_
  refine r_iload_n 839 rfl 3 rfl rfl (ck DL_law_10 26 rfl) ?_
  refine r_iconst 840 rfl ic_1 (ck DL_law_10 27 rfl) ?_
  refine r_iadd 841 rfl (ck DL_law_10 28 rfl) ?_
  obtain ⟨b295, hf⟩ := gd_so hf
  refine r_sald 842 rfl (inb_vp b295) (ck DL_law_10 29 rfl) ?_
  obtain ⟨v296, e297, hf⟩ := bo_so hf
  refine r_callVl 845 rfl (A_X7_mean X (X.2.2.2.2.2 (Int32.toNatClampNeg (x3 + 1))) h v296 e297) (by omega) cw_L_110 sh_96 cl_7 rfl rfl (Nat.le_of_ble_eq_true rfl) (ck DL_law_10 30 rfl) ?_
  refine r_lcmp 846 rfl (ck DL_law_10 31 rfl) ?_
  rcases if_so hf with ⟨c298, hf⟩ | ⟨c298, hf⟩
  · refine r_if_eq_t 1347 (ck DL_law_10 32 rfl) (by decide) c298 ?_
    obtain ⟨v299, e300, hf⟩ := lt_so hf
    refine r_iinc (lv' := [(3, .int v299), (0, .ref (X.2.2.2.1 6)), (1, .ref (X.1 0)), (2, .ref (X.1 96))]) 1350 rfl 3 (ck DL_law_18 35 rfl) rfl (by rw [e300, ic_6]) (by decide) rfl ?_
    refine r_goto 18 (ck DL_law_18 36 rfl) (by decide) ?_
    refine r_sub (lv' := [(0, .ref (X.2.2.2.1 6)), (1, .ref (X.1 0)), (2, .ref (X.1 96)), (3, .int v299)]) [1, 2, 3, 0] rfl ?_
    exact hr18 v299 h hf
  · refine r_if_eq_f 849 rfl 1347 (ck DL_law_10 32 rfl) (by decide) c298 ?_
    refine r_iconst 850 rfl ic_0 (ck DL_law_10 33 rfl) ?_
    obtain ⟨rfl, rfl⟩ := so2 hf
    exact r_iret rfl rfl (ck DL_law_10 34 rfl)
def f_L_law_J851 (L : Nat) (xs : Nat → Int32) (rc18 : Int32 → HP → Option (Int32 × HP)) (x3 : Int32) (h : HP) : Option (Int32 × HP) := gd (inb (x3 + 1) L) (gd (inb (x3 + 2) L) (bd (f_X6_plan (xs (Int32.toNatClampNeg (x3 + 1))) (xs (Int32.toNatClampNeg (x3 + 2))) h) fun v306 g304 => gd (inb (x3 + 1) L) (gd (inb (x3 + 2) L) (bd (f_X7_plan (xs (Int32.toNatClampNeg (x3 + 1))) (xs (Int32.toNatClampNeg (x3 + 2))) g304) fun v311 g309 => if v306 = v311 then (lt (x3 + 6 : Int32) fun v313 => rc18 v313 g309) else (some (0, g309))))))
set_option maxHeartbeats 4000000 in
set_option maxRecDepth 100000 in
theorem A_L_law_J851 (X : XE) (rc18 : Int32 → HP → Option (Int32 × HP)) (r : Int32) (h' : HP) (hr18 : ∀ (x3 : Int32) (h : HP), rc18 x3 h = some (r, h') → Run mL_law 103 X 18 [(0, .ref (X.2.2.2.1 6)), (1, .ref (X.1 0)), (2, .ref (X.1 96)), (3, .int x3)] [] h (some (.int r)) h') (x3 : Int32) (h : HP) (hf : f_L_law_J851 X.2.2.2.2.1 X.2.2.2.2.2 rc18 x3 h = some (r, h')) : Run mL_law 103 X 851 [(0, .ref (X.2.2.2.1 6)), (1, .ref (X.1 0)), (2, .ref (X.1 96)), (3, .int x3)] [] h (some (.int r)) h' := by
  unfold f_L_law_J851 at hf
  refine r_aload_n 852 rfl 1 rfl rfl (ck DL_law_10 35 rfl) ?_
  refine r_aload_n 853 rfl 0 rfl rfl (ck DL_law_10 36 rfl) ?_
  refine r_iload_n 854 rfl 3 rfl rfl (ck DL_law_10 37 rfl) ?_
  refine r_iconst 855 rfl ic_1 (ck DL_law_10 38 rfl) ?_
  refine r_iadd 856 rfl (ck DL_law_10 39 rfl) ?_
  obtain ⟨b302, hf⟩ := gd_so hf
  refine r_sald 857 rfl (inb_vp b302) (ck DL_law_10 40 rfl) ?_
  refine r_aload_n 858 rfl 0 rfl rfl (ck DL_law_10 41 rfl) ?_
  refine r_iload_n 859 rfl 3 rfl rfl (ck DL_law_10 42 rfl) ?_
  refine r_iconst 860 rfl ic_2 (ck DL_law_10 43 rfl) ?_
  refine r_iadd 861 rfl (ck DL_law_10 44 rfl) ?_
  obtain ⟨b303, hf⟩ := gd_so hf
  refine r_sald 862 rfl (inb_vp b303) (ck DL_law_10 45 rfl) ?_
  obtain ⟨v306, g304, e305, hf⟩ := bd_so hf
  refine r_callVi 865 rfl (A_X6_plan X (X.2.2.2.2.2 (Int32.toNatClampNeg (x3 + 1))) (X.2.2.2.2.2 (Int32.toNatClampNeg (x3 + 2))) h v306 g304 e305) (by omega) cw_L_111 sh_0 cl_6 rfl rfl (Nat.le_of_ble_eq_true rfl) (ck DL_law_10 46 rfl) ?_
  refine r_aload_n 866 rfl 2 rfl rfl (ck DL_law_10 47 rfl) ?_
  refine r_aload_n 867 rfl 0 rfl rfl (ck DL_law_10 48 rfl) ?_
  refine r_iload_n 868 rfl 3 rfl rfl (ck DL_law_10 49 rfl) ?_
  refine r_iconst 869 rfl ic_1 (ck DL_law_11 0 rfl) ?_
  refine r_iadd 870 rfl (ck DL_law_11 1 rfl) ?_
  obtain ⟨b307, hf⟩ := gd_so hf
  refine r_sald 871 rfl (inb_vp b307) (ck DL_law_11 2 rfl) ?_
  refine r_aload_n 872 rfl 0 rfl rfl (ck DL_law_11 3 rfl) ?_
  refine r_iload_n 873 rfl 3 rfl rfl (ck DL_law_11 4 rfl) ?_
  refine r_iconst 874 rfl ic_2 (ck DL_law_11 5 rfl) ?_
  refine r_iadd 875 rfl (ck DL_law_11 6 rfl) ?_
  obtain ⟨b308, hf⟩ := gd_so hf
  refine r_sald 876 rfl (inb_vp b308) (ck DL_law_11 7 rfl) ?_
  obtain ⟨v311, g309, e310, hf⟩ := bd_so hf
  refine r_callVi 879 rfl (A_X7_plan X (X.2.2.2.2.2 (Int32.toNatClampNeg (x3 + 1))) (X.2.2.2.2.2 (Int32.toNatClampNeg (x3 + 2))) g304 v311 g309 e310) (by omega) cw_L_114 sh_96 cl_7 rfl rfl (Nat.le_of_ble_eq_true rfl) (ck DL_law_11 8 rfl) ?_
  rcases if_so hf with ⟨c312, hf⟩ | ⟨c312, hf⟩
  · refine r_icmp_eq_t 1347 (ck DL_law_11 9 rfl) (by decide) c312 ?_
    obtain ⟨v313, e314, hf⟩ := lt_so hf
    refine r_iinc (lv' := [(3, .int v313), (0, .ref (X.2.2.2.1 6)), (1, .ref (X.1 0)), (2, .ref (X.1 96))]) 1350 rfl 3 (ck DL_law_18 35 rfl) rfl (by rw [e314, ic_6]) (by decide) rfl ?_
    refine r_goto 18 (ck DL_law_18 36 rfl) (by decide) ?_
    refine r_sub (lv' := [(0, .ref (X.2.2.2.1 6)), (1, .ref (X.1 0)), (2, .ref (X.1 96)), (3, .int v313)]) [1, 2, 3, 0] rfl ?_
    exact hr18 v313 g309 hf
  · refine r_icmp_eq_f 882 rfl 1347 (ck DL_law_11 9 rfl) (by decide) c312 ?_
    refine r_iconst 883 rfl ic_0 (ck DL_law_11 10 rfl) ?_
    obtain ⟨rfl, rfl⟩ := so2 hf
    exact r_iret rfl rfl (ck DL_law_11 11 rfl)
def f_L_law_J884 (L : Nat) (xs : Nat → Int32) (rc18 : Int32 → HP → Option (Int32 × HP)) (x3 : Int32) (h : HP) : Option (Int32 × HP) := gd (inb (x3 + 1) L) (bd (f_X6_ends (xs (Int32.toNatClampNeg (x3 + 1))) h) fun v319 g317 => gd (inb (x3 + 1) L) (bd (f_X7_ends (xs (Int32.toNatClampNeg (x3 + 1))) g317) fun v323 g321 => if v319 = v323 then (lt (x3 + 6 : Int32) fun v325 => rc18 v325 g321) else (some (0, g321))))
set_option maxHeartbeats 4000000 in
set_option maxRecDepth 100000 in
theorem A_L_law_J884 (X : XE) (rc18 : Int32 → HP → Option (Int32 × HP)) (r : Int32) (h' : HP) (hr18 : ∀ (x3 : Int32) (h : HP), rc18 x3 h = some (r, h') → Run mL_law 103 X 18 [(0, .ref (X.2.2.2.1 6)), (1, .ref (X.1 0)), (2, .ref (X.1 96)), (3, .int x3)] [] h (some (.int r)) h') (x3 : Int32) (h : HP) (hf : f_L_law_J884 X.2.2.2.2.1 X.2.2.2.2.2 rc18 x3 h = some (r, h')) : Run mL_law 103 X 884 [(0, .ref (X.2.2.2.1 6)), (1, .ref (X.1 0)), (2, .ref (X.1 96)), (3, .int x3)] [] h (some (.int r)) h' := by
  unfold f_L_law_J884 at hf
  refine r_aload_n 885 rfl 1 rfl rfl (ck DL_law_11 12 rfl) ?_
  refine r_aload_n 886 rfl 0 rfl rfl (ck DL_law_11 13 rfl) ?_
  refine r_iload_n 887 rfl 3 rfl rfl (ck DL_law_11 14 rfl) ?_
  refine r_iconst 888 rfl ic_1 (ck DL_law_11 15 rfl) ?_
  refine r_iadd 889 rfl (ck DL_law_11 16 rfl) ?_
  obtain ⟨b316, hf⟩ := gd_so hf
  refine r_sald 890 rfl (inb_vp b316) (ck DL_law_11 17 rfl) ?_
  obtain ⟨v319, g317, e318, hf⟩ := bd_so hf
  refine r_callVi 893 rfl (A_X6_ends X (X.2.2.2.2.2 (Int32.toNatClampNeg (x3 + 1))) h v319 g317 e318) (by omega) cw_L_115 sh_0 cl_6 rfl rfl (Nat.le_of_ble_eq_true rfl) (ck DL_law_11 18 rfl) ?_
  refine r_aload_n 894 rfl 2 rfl rfl (ck DL_law_11 19 rfl) ?_
  refine r_aload_n 895 rfl 0 rfl rfl (ck DL_law_11 20 rfl) ?_
  refine r_iload_n 896 rfl 3 rfl rfl (ck DL_law_11 21 rfl) ?_
  refine r_iconst 897 rfl ic_1 (ck DL_law_11 22 rfl) ?_
  refine r_iadd 898 rfl (ck DL_law_11 23 rfl) ?_
  obtain ⟨b320, hf⟩ := gd_so hf
  refine r_sald 899 rfl (inb_vp b320) (ck DL_law_11 24 rfl) ?_
  obtain ⟨v323, g321, e322, hf⟩ := bd_so hf
  refine r_callVi 902 rfl (A_X7_ends X (X.2.2.2.2.2 (Int32.toNatClampNeg (x3 + 1))) g317 v323 g321 e322) (by omega) cw_L_118 sh_96 cl_7 rfl rfl (Nat.le_of_ble_eq_true rfl) (ck DL_law_11 25 rfl) ?_
  rcases if_so hf with ⟨c324, hf⟩ | ⟨c324, hf⟩
  · refine r_icmp_eq_t 1347 (ck DL_law_11 26 rfl) (by decide) c324 ?_
    obtain ⟨v325, e326, hf⟩ := lt_so hf
    refine r_iinc (lv' := [(3, .int v325), (0, .ref (X.2.2.2.1 6)), (1, .ref (X.1 0)), (2, .ref (X.1 96))]) 1350 rfl 3 (ck DL_law_18 35 rfl) rfl (by rw [e326, ic_6]) (by decide) rfl ?_
    refine r_goto 18 (ck DL_law_18 36 rfl) (by decide) ?_
    refine r_sub (lv' := [(0, .ref (X.2.2.2.1 6)), (1, .ref (X.1 0)), (2, .ref (X.1 96)), (3, .int v325)]) [1, 2, 3, 0] rfl ?_
    exact hr18 v325 g321 hf
  · refine r_icmp_eq_f 905 rfl 1347 (ck DL_law_11 26 rfl) (by decide) c324 ?_
    refine r_iconst 906 rfl ic_0 (ck DL_law_11 27 rfl) ?_
    obtain ⟨rfl, rfl⟩ := so2 hf
    exact r_iret rfl rfl (ck DL_law_11 28 rfl)
def f_L_law_J907 (L : Nat) (xs : Nat → Int32) (rc18 : Int32 → HP → Option (Int32 × HP)) (x3 : Int32) (h : HP) : Option (Int32 × HP) := gd (inb (x3 + 1) L) (gd (inb (x3 + 2) L) (bd (f_X6_book (xs (Int32.toNatClampNeg (x3 + 1))) (xs (Int32.toNatClampNeg (x3 + 2))) h) fun v332 g330 => gd (inb (x3 + 1) L) (gd (inb (x3 + 2) L) (bd (f_X7_book (xs (Int32.toNatClampNeg (x3 + 1))) (xs (Int32.toNatClampNeg (x3 + 2))) g330) fun v337 g335 => if v332 = v337 then (lt (x3 + 6 : Int32) fun v339 => rc18 v339 g335) else (some (0, g335))))))
set_option maxHeartbeats 4000000 in
set_option maxRecDepth 100000 in
theorem A_L_law_J907 (X : XE) (rc18 : Int32 → HP → Option (Int32 × HP)) (r : Int32) (h' : HP) (hr18 : ∀ (x3 : Int32) (h : HP), rc18 x3 h = some (r, h') → Run mL_law 103 X 18 [(0, .ref (X.2.2.2.1 6)), (1, .ref (X.1 0)), (2, .ref (X.1 96)), (3, .int x3)] [] h (some (.int r)) h') (x3 : Int32) (h : HP) (hf : f_L_law_J907 X.2.2.2.2.1 X.2.2.2.2.2 rc18 x3 h = some (r, h')) : Run mL_law 103 X 907 [(0, .ref (X.2.2.2.1 6)), (1, .ref (X.1 0)), (2, .ref (X.1 96)), (3, .int x3)] [] h (some (.int r)) h' := by
  unfold f_L_law_J907 at hf
  refine r_aload_n 908 rfl 1 rfl rfl (ck DL_law_11 29 rfl) ?_
  refine r_aload_n 909 rfl 0 rfl rfl (ck DL_law_11 30 rfl) ?_
  refine r_iload_n 910 rfl 3 rfl rfl (ck DL_law_11 31 rfl) ?_
  refine r_iconst 911 rfl ic_1 (ck DL_law_11 32 rfl) ?_
  refine r_iadd 912 rfl (ck DL_law_11 33 rfl) ?_
  obtain ⟨b328, hf⟩ := gd_so hf
  refine r_sald 913 rfl (inb_vp b328) (ck DL_law_11 34 rfl) ?_
  refine r_aload_n 914 rfl 0 rfl rfl (ck DL_law_11 35 rfl) ?_
  refine r_iload_n 915 rfl 3 rfl rfl (ck DL_law_11 36 rfl) ?_
  refine r_iconst 916 rfl ic_2 (ck DL_law_11 37 rfl) ?_
  refine r_iadd 917 rfl (ck DL_law_11 38 rfl) ?_
  obtain ⟨b329, hf⟩ := gd_so hf
  refine r_sald 918 rfl (inb_vp b329) (ck DL_law_11 39 rfl) ?_
  obtain ⟨v332, g330, e331, hf⟩ := bd_so hf
  refine r_callVi 921 rfl (A_X6_book X (X.2.2.2.2.2 (Int32.toNatClampNeg (x3 + 1))) (X.2.2.2.2.2 (Int32.toNatClampNeg (x3 + 2))) h v332 g330 e331) (by omega) cw_L_119 sh_0 cl_6 rfl rfl (Nat.le_of_ble_eq_true rfl) (ck DL_law_11 40 rfl) ?_
  refine r_aload_n 922 rfl 2 rfl rfl (ck DL_law_11 41 rfl) ?_
  refine r_aload_n 923 rfl 0 rfl rfl (ck DL_law_11 42 rfl) ?_
  refine r_iload_n 924 rfl 3 rfl rfl (ck DL_law_11 43 rfl) ?_
  refine r_iconst 925 rfl ic_1 (ck DL_law_11 44 rfl) ?_
  refine r_iadd 926 rfl (ck DL_law_11 45 rfl) ?_
  obtain ⟨b333, hf⟩ := gd_so hf
  refine r_sald 927 rfl (inb_vp b333) (ck DL_law_11 46 rfl) ?_
  refine r_aload_n 928 rfl 0 rfl rfl (ck DL_law_11 47 rfl) ?_
  refine r_iload_n 929 rfl 3 rfl rfl (ck DL_law_11 48 rfl) ?_
  refine r_iconst 930 rfl ic_2 (ck DL_law_11 49 rfl) ?_
  refine r_iadd 931 rfl (ck DL_law_12 0 rfl) ?_
  obtain ⟨b334, hf⟩ := gd_so hf
  refine r_sald 932 rfl (inb_vp b334) (ck DL_law_12 1 rfl) ?_
  obtain ⟨v337, g335, e336, hf⟩ := bd_so hf
  refine r_callVi 935 rfl (A_X7_book X (X.2.2.2.2.2 (Int32.toNatClampNeg (x3 + 1))) (X.2.2.2.2.2 (Int32.toNatClampNeg (x3 + 2))) g330 v337 g335 e336) (by omega) cw_L_122 sh_96 cl_7 rfl rfl (Nat.le_of_ble_eq_true rfl) (ck DL_law_12 2 rfl) ?_
  rcases if_so hf with ⟨c338, hf⟩ | ⟨c338, hf⟩
  · refine r_icmp_eq_t 1347 (ck DL_law_12 3 rfl) (by decide) c338 ?_
    obtain ⟨v339, e340, hf⟩ := lt_so hf
    refine r_iinc (lv' := [(3, .int v339), (0, .ref (X.2.2.2.1 6)), (1, .ref (X.1 0)), (2, .ref (X.1 96))]) 1350 rfl 3 (ck DL_law_18 35 rfl) rfl (by rw [e340, ic_6]) (by decide) rfl ?_
    refine r_goto 18 (ck DL_law_18 36 rfl) (by decide) ?_
    refine r_sub (lv' := [(0, .ref (X.2.2.2.1 6)), (1, .ref (X.1 0)), (2, .ref (X.1 96)), (3, .int v339)]) [1, 2, 3, 0] rfl ?_
    exact hr18 v339 g335 hf
  · refine r_icmp_eq_f 938 rfl 1347 (ck DL_law_12 3 rfl) (by decide) c338 ?_
    refine r_iconst 939 rfl ic_0 (ck DL_law_12 4 rfl) ?_
    obtain ⟨rfl, rfl⟩ := so2 hf
    exact r_iret rfl rfl (ck DL_law_12 5 rfl)
def f_L_law_J940 (L : Nat) (xs : Nat → Int32) (rc18 : Int32 → HP → Option (Int32 × HP)) (x3 : Int32) (h : HP) : Option (Int32 × HP) := bo (f_X6_looked h) fun v342 => bo (f_X7_looked h) fun v344 => if v342 = v344 then (lt (x3 + 6 : Int32) fun v347 => rc18 v347 h) else (some (0, h))
set_option maxHeartbeats 4000000 in
set_option maxRecDepth 100000 in
theorem A_L_law_J940 (X : XE) (rc18 : Int32 → HP → Option (Int32 × HP)) (r : Int32) (h' : HP) (hr18 : ∀ (x3 : Int32) (h : HP), rc18 x3 h = some (r, h') → Run mL_law 103 X 18 [(0, .ref (X.2.2.2.1 6)), (1, .ref (X.1 0)), (2, .ref (X.1 96)), (3, .int x3)] [] h (some (.int r)) h') (x3 : Int32) (h : HP) (hf : f_L_law_J940 X.2.2.2.2.1 X.2.2.2.2.2 rc18 x3 h = some (r, h')) : Run mL_law 103 X 940 [(0, .ref (X.2.2.2.1 6)), (1, .ref (X.1 0)), (2, .ref (X.1 96)), (3, .int x3)] [] h (some (.int r)) h' := by
  unfold f_L_law_J940 at hf
  refine r_aload_n 941 rfl 1 rfl rfl (ck DL_law_12 6 rfl) ?_
  obtain ⟨v342, e343, hf⟩ := bo_so hf
  refine r_callVi 944 rfl (A_X6_looked X h v342 e343) (by omega) cw_L_123 sh_0 cl_6 rfl rfl (Nat.le_of_ble_eq_true rfl) (ck DL_law_12 7 rfl) ?_
  refine r_aload_n 945 rfl 2 rfl rfl (ck DL_law_12 8 rfl) ?_
  obtain ⟨v344, e345, hf⟩ := bo_so hf
  refine r_callVi 948 rfl (A_X7_looked X h v344 e345) (by omega) cw_L_126 sh_96 cl_7 rfl rfl (Nat.le_of_ble_eq_true rfl) (ck DL_law_12 9 rfl) ?_
  rcases if_so hf with ⟨c346, hf⟩ | ⟨c346, hf⟩
  · refine r_icmp_eq_t 1347 (ck DL_law_12 10 rfl) (by decide) c346 ?_
    obtain ⟨v347, e348, hf⟩ := lt_so hf
    refine r_iinc (lv' := [(3, .int v347), (0, .ref (X.2.2.2.1 6)), (1, .ref (X.1 0)), (2, .ref (X.1 96))]) 1350 rfl 3 (ck DL_law_18 35 rfl) rfl (by rw [e348, ic_6]) (by decide) rfl ?_
    refine r_goto 18 (ck DL_law_18 36 rfl) (by decide) ?_
    refine r_sub (lv' := [(0, .ref (X.2.2.2.1 6)), (1, .ref (X.1 0)), (2, .ref (X.1 96)), (3, .int v347)]) [1, 2, 3, 0] rfl ?_
    exact hr18 v347 h hf
  · refine r_icmp_eq_f 951 rfl 1347 (ck DL_law_12 10 rfl) (by decide) c346 ?_
    refine r_iconst 952 rfl ic_0 (ck DL_law_12 11 rfl) ?_
    obtain ⟨rfl, rfl⟩ := so2 hf
    exact r_iret rfl rfl (ck DL_law_12 12 rfl)
def f_L_law_J953 (L : Nat) (xs : Nat → Int32) (rc18 : Int32 → HP → Option (Int32 × HP)) (x3 : Int32) (h : HP) : Option (Int32 × HP) := gd (inb (x3 + 1) L) (gd (inb (x3 + 2) L) (bo (f_X6_judge (xs (Int32.toNatClampNeg (x3 + 1))) (xs (Int32.toNatClampNeg (x3 + 2))) h) fun v352 => gd (inb (x3 + 1) L) (gd (inb (x3 + 2) L) (bo (f_X7_judge (xs (Int32.toNatClampNeg (x3 + 1))) (xs (Int32.toNatClampNeg (x3 + 2))) h) fun v356 => if v352 = v356 then (lt (x3 + 6 : Int32) fun v359 => rc18 v359 h) else (some (0, h))))))
set_option maxHeartbeats 4000000 in
set_option maxRecDepth 100000 in
theorem A_L_law_J953 (X : XE) (rc18 : Int32 → HP → Option (Int32 × HP)) (r : Int32) (h' : HP) (hr18 : ∀ (x3 : Int32) (h : HP), rc18 x3 h = some (r, h') → Run mL_law 103 X 18 [(0, .ref (X.2.2.2.1 6)), (1, .ref (X.1 0)), (2, .ref (X.1 96)), (3, .int x3)] [] h (some (.int r)) h') (x3 : Int32) (h : HP) (hf : f_L_law_J953 X.2.2.2.2.1 X.2.2.2.2.2 rc18 x3 h = some (r, h')) : Run mL_law 103 X 953 [(0, .ref (X.2.2.2.1 6)), (1, .ref (X.1 0)), (2, .ref (X.1 96)), (3, .int x3)] [] h (some (.int r)) h' := by
  unfold f_L_law_J953 at hf
  refine r_aload_n 954 rfl 1 rfl rfl (ck DL_law_12 13 rfl) ?_
  refine r_aload_n 955 rfl 0 rfl rfl (ck DL_law_12 14 rfl) ?_
  refine r_iload_n 956 rfl 3 rfl rfl (ck DL_law_12 15 rfl) ?_
  refine r_iconst 957 rfl ic_1 (ck DL_law_12 16 rfl) ?_
  refine r_iadd 958 rfl (ck DL_law_12 17 rfl) ?_
  obtain ⟨b350, hf⟩ := gd_so hf
  refine r_sald 959 rfl (inb_vp b350) (ck DL_law_12 18 rfl) ?_
  refine r_aload_n 960 rfl 0 rfl rfl (ck DL_law_12 19 rfl) ?_
  refine r_iload_n 961 rfl 3 rfl rfl (ck DL_law_12 20 rfl) ?_
  refine r_iconst 962 rfl ic_2 (ck DL_law_12 21 rfl) ?_
  refine r_iadd 963 rfl (ck DL_law_12 22 rfl) ?_
  obtain ⟨b351, hf⟩ := gd_so hf
  refine r_sald 964 rfl (inb_vp b351) (ck DL_law_12 23 rfl) ?_
  obtain ⟨v352, e353, hf⟩ := bo_so hf
  refine r_callVi 967 rfl (A_X6_judge X (X.2.2.2.2.2 (Int32.toNatClampNeg (x3 + 1))) (X.2.2.2.2.2 (Int32.toNatClampNeg (x3 + 2))) h v352 e353) (by omega) cw_L_127 sh_0 cl_6 rfl rfl (Nat.le_of_ble_eq_true rfl) (ck DL_law_12 24 rfl) ?_
  refine r_aload_n 968 rfl 2 rfl rfl (ck DL_law_12 25 rfl) ?_
  refine r_aload_n 969 rfl 0 rfl rfl (ck DL_law_12 26 rfl) ?_
  refine r_iload_n 970 rfl 3 rfl rfl (ck DL_law_12 27 rfl) ?_
  refine r_iconst 971 rfl ic_1 (ck DL_law_12 28 rfl) ?_
  refine r_iadd 972 rfl (ck DL_law_12 29 rfl) ?_
  obtain ⟨b354, hf⟩ := gd_so hf
  refine r_sald 973 rfl (inb_vp b354) (ck DL_law_12 30 rfl) ?_
  refine r_aload_n 974 rfl 0 rfl rfl (ck DL_law_12 31 rfl) ?_
  refine r_iload_n 975 rfl 3 rfl rfl (ck DL_law_12 32 rfl) ?_
  refine r_iconst 976 rfl ic_2 (ck DL_law_12 33 rfl) ?_
  refine r_iadd 977 rfl (ck DL_law_12 34 rfl) ?_
  obtain ⟨b355, hf⟩ := gd_so hf
  refine r_sald 978 rfl (inb_vp b355) (ck DL_law_12 35 rfl) ?_
  obtain ⟨v356, e357, hf⟩ := bo_so hf
  refine r_callVi 981 rfl (A_X7_judge X (X.2.2.2.2.2 (Int32.toNatClampNeg (x3 + 1))) (X.2.2.2.2.2 (Int32.toNatClampNeg (x3 + 2))) h v356 e357) (by omega) cw_L_130 sh_96 cl_7 rfl rfl (Nat.le_of_ble_eq_true rfl) (ck DL_law_12 36 rfl) ?_
  rcases if_so hf with ⟨c358, hf⟩ | ⟨c358, hf⟩
  · refine r_icmp_eq_t 1347 (ck DL_law_12 37 rfl) (by decide) c358 ?_
    obtain ⟨v359, e360, hf⟩ := lt_so hf
    refine r_iinc (lv' := [(3, .int v359), (0, .ref (X.2.2.2.1 6)), (1, .ref (X.1 0)), (2, .ref (X.1 96))]) 1350 rfl 3 (ck DL_law_18 35 rfl) rfl (by rw [e360, ic_6]) (by decide) rfl ?_
    refine r_goto 18 (ck DL_law_18 36 rfl) (by decide) ?_
    refine r_sub (lv' := [(0, .ref (X.2.2.2.1 6)), (1, .ref (X.1 0)), (2, .ref (X.1 96)), (3, .int v359)]) [1, 2, 3, 0] rfl ?_
    exact hr18 v359 h hf
  · refine r_icmp_eq_f 984 rfl 1347 (ck DL_law_12 37 rfl) (by decide) c358 ?_
    refine r_iconst 985 rfl ic_0 (ck DL_law_12 38 rfl) ?_
    obtain ⟨rfl, rfl⟩ := so2 hf
    exact r_iret rfl rfl (ck DL_law_12 39 rfl)
def f_L_law_J986 (L : Nat) (xs : Nat → Int32) (rc18 : Int32 → HP → Option (Int32 × HP)) (x3 : Int32) (h : HP) : Option (Int32 × HP) := bd (f_X6_image h) fun v364 g362 => bd (f_X7_image g362) fun v367 g365 => if v364 = v367 then (lt (x3 + 6 : Int32) fun v369 => rc18 v369 g365) else (some (0, g365))
set_option maxHeartbeats 4000000 in
set_option maxRecDepth 100000 in
theorem A_L_law_J986 (X : XE) (rc18 : Int32 → HP → Option (Int32 × HP)) (r : Int32) (h' : HP) (hr18 : ∀ (x3 : Int32) (h : HP), rc18 x3 h = some (r, h') → Run mL_law 103 X 18 [(0, .ref (X.2.2.2.1 6)), (1, .ref (X.1 0)), (2, .ref (X.1 96)), (3, .int x3)] [] h (some (.int r)) h') (x3 : Int32) (h : HP) (hf : f_L_law_J986 X.2.2.2.2.1 X.2.2.2.2.2 rc18 x3 h = some (r, h')) : Run mL_law 103 X 986 [(0, .ref (X.2.2.2.1 6)), (1, .ref (X.1 0)), (2, .ref (X.1 96)), (3, .int x3)] [] h (some (.int r)) h' := by
  unfold f_L_law_J986 at hf
  refine r_aload_n 987 rfl 1 rfl rfl (ck DL_law_12 40 rfl) ?_
  obtain ⟨v364, g362, e363, hf⟩ := bd_so hf
  refine r_callVi 990 rfl (A_X6_image X h v364 g362 e363) (by omega) cw_L_131 sh_0 cl_6 rfl rfl (Nat.le_of_ble_eq_true rfl) (ck DL_law_12 41 rfl) ?_
  refine r_aload_n 991 rfl 2 rfl rfl (ck DL_law_12 42 rfl) ?_
  obtain ⟨v367, g365, e366, hf⟩ := bd_so hf
  refine r_callVi 994 rfl (A_X7_image X g362 v367 g365 e366) (by omega) cw_L_134 sh_96 cl_7 rfl rfl (Nat.le_of_ble_eq_true rfl) (ck DL_law_12 43 rfl) ?_
  rcases if_so hf with ⟨c368, hf⟩ | ⟨c368, hf⟩
  · refine r_icmp_eq_t 1347 (ck DL_law_12 44 rfl) (by decide) c368 ?_
    obtain ⟨v369, e370, hf⟩ := lt_so hf
    refine r_iinc (lv' := [(3, .int v369), (0, .ref (X.2.2.2.1 6)), (1, .ref (X.1 0)), (2, .ref (X.1 96))]) 1350 rfl 3 (ck DL_law_18 35 rfl) rfl (by rw [e370, ic_6]) (by decide) rfl ?_
    refine r_goto 18 (ck DL_law_18 36 rfl) (by decide) ?_
    refine r_sub (lv' := [(0, .ref (X.2.2.2.1 6)), (1, .ref (X.1 0)), (2, .ref (X.1 96)), (3, .int v369)]) [1, 2, 3, 0] rfl ?_
    exact hr18 v369 g365 hf
  · refine r_icmp_eq_f 997 rfl 1347 (ck DL_law_12 44 rfl) (by decide) c368 ?_
    refine r_iconst 998 rfl ic_0 (ck DL_law_12 45 rfl) ?_
    obtain ⟨rfl, rfl⟩ := so2 hf
    exact r_iret rfl rfl (ck DL_law_12 46 rfl)
def f_L_law_J999 (L : Nat) (xs : Nat → Int32) (rc18 : Int32 → HP → Option (Int32 × HP)) (x3 : Int32) (h : HP) : Option (Int32 × HP) := bd (f_X6_undo h) fun v374 g372 => bd (f_X7_undo g372) fun v377 g375 => if v374 = v377 then (lt (x3 + 6 : Int32) fun v379 => rc18 v379 g375) else (some (0, g375))
set_option maxHeartbeats 4000000 in
set_option maxRecDepth 100000 in
theorem A_L_law_J999 (X : XE) (rc18 : Int32 → HP → Option (Int32 × HP)) (r : Int32) (h' : HP) (hr18 : ∀ (x3 : Int32) (h : HP), rc18 x3 h = some (r, h') → Run mL_law 103 X 18 [(0, .ref (X.2.2.2.1 6)), (1, .ref (X.1 0)), (2, .ref (X.1 96)), (3, .int x3)] [] h (some (.int r)) h') (x3 : Int32) (h : HP) (hf : f_L_law_J999 X.2.2.2.2.1 X.2.2.2.2.2 rc18 x3 h = some (r, h')) : Run mL_law 103 X 999 [(0, .ref (X.2.2.2.1 6)), (1, .ref (X.1 0)), (2, .ref (X.1 96)), (3, .int x3)] [] h (some (.int r)) h' := by
  unfold f_L_law_J999 at hf
  refine r_aload_n 1000 rfl 1 rfl rfl (ck DL_law_12 47 rfl) ?_
  obtain ⟨v374, g372, e373, hf⟩ := bd_so hf
  refine r_callVi 1003 rfl (A_X6_undo X h v374 g372 e373) (by omega) cw_L_135 sh_0 cl_6 rfl rfl (Nat.le_of_ble_eq_true rfl) (ck DL_law_12 48 rfl) ?_
  refine r_aload_n 1004 rfl 2 rfl rfl (ck DL_law_12 49 rfl) ?_
  obtain ⟨v377, g375, e376, hf⟩ := bd_so hf
  refine r_callVi 1007 rfl (A_X7_undo X g372 v377 g375 e376) (by omega) cw_L_138 sh_96 cl_7 rfl rfl (Nat.le_of_ble_eq_true rfl) (ck DL_law_13 0 rfl) ?_
  rcases if_so hf with ⟨c378, hf⟩ | ⟨c378, hf⟩
  · refine r_icmp_eq_t 1347 (ck DL_law_13 1 rfl) (by decide) c378 ?_
    obtain ⟨v379, e380, hf⟩ := lt_so hf
    refine r_iinc (lv' := [(3, .int v379), (0, .ref (X.2.2.2.1 6)), (1, .ref (X.1 0)), (2, .ref (X.1 96))]) 1350 rfl 3 (ck DL_law_18 35 rfl) rfl (by rw [e380, ic_6]) (by decide) rfl ?_
    refine r_goto 18 (ck DL_law_18 36 rfl) (by decide) ?_
    refine r_sub (lv' := [(0, .ref (X.2.2.2.1 6)), (1, .ref (X.1 0)), (2, .ref (X.1 96)), (3, .int v379)]) [1, 2, 3, 0] rfl ?_
    exact hr18 v379 g375 hf
  · refine r_icmp_eq_f 1010 rfl 1347 (ck DL_law_13 1 rfl) (by decide) c378 ?_
    refine r_iconst 1011 rfl ic_0 (ck DL_law_13 2 rfl) ?_
    obtain ⟨rfl, rfl⟩ := so2 hf
    exact r_iret rfl rfl (ck DL_law_13 3 rfl)
def f_L_law_J1012 (L : Nat) (xs : Nat → Int32) (rc18 : Int32 → HP → Option (Int32 × HP)) (x3 : Int32) (h : HP) : Option (Int32 × HP) := gd (inb (x3 + 1) L) (gd (inb (x3 + 2) L) (gd (inb (x3 + 3) L) (bd (f_X6_act (xs (Int32.toNatClampNeg (x3 + 1))) (xs (Int32.toNatClampNeg (x3 + 2))) (xs (Int32.toNatClampNeg (x3 + 3))) h) fun v387 g385 => gd (inb (x3 + 1) L) (gd (inb (x3 + 2) L) (gd (inb (x3 + 3) L) (bd (f_X7_act (xs (Int32.toNatClampNeg (x3 + 1))) (xs (Int32.toNatClampNeg (x3 + 2))) (xs (Int32.toNatClampNeg (x3 + 3))) g385) fun v393 g391 => if v387 = v393 then (lt (x3 + 6 : Int32) fun v395 => rc18 v395 g391) else (some (0, g391))))))))
set_option maxHeartbeats 4000000 in
set_option maxRecDepth 100000 in
theorem A_L_law_J1012 (X : XE) (rc18 : Int32 → HP → Option (Int32 × HP)) (r : Int32) (h' : HP) (hr18 : ∀ (x3 : Int32) (h : HP), rc18 x3 h = some (r, h') → Run mL_law 103 X 18 [(0, .ref (X.2.2.2.1 6)), (1, .ref (X.1 0)), (2, .ref (X.1 96)), (3, .int x3)] [] h (some (.int r)) h') (x3 : Int32) (h : HP) (hf : f_L_law_J1012 X.2.2.2.2.1 X.2.2.2.2.2 rc18 x3 h = some (r, h')) : Run mL_law 103 X 1012 [(0, .ref (X.2.2.2.1 6)), (1, .ref (X.1 0)), (2, .ref (X.1 96)), (3, .int x3)] [] h (some (.int r)) h' := by
  unfold f_L_law_J1012 at hf
  refine r_aload_n 1013 rfl 1 rfl rfl (ck DL_law_13 4 rfl) ?_
  refine r_aload_n 1014 rfl 0 rfl rfl (ck DL_law_13 5 rfl) ?_
  refine r_iload_n 1015 rfl 3 rfl rfl (ck DL_law_13 6 rfl) ?_
  refine r_iconst 1016 rfl ic_1 (ck DL_law_13 7 rfl) ?_
  refine r_iadd 1017 rfl (ck DL_law_13 8 rfl) ?_
  obtain ⟨b382, hf⟩ := gd_so hf
  refine r_sald 1018 rfl (inb_vp b382) (ck DL_law_13 9 rfl) ?_
  refine r_aload_n 1019 rfl 0 rfl rfl (ck DL_law_13 10 rfl) ?_
  refine r_iload_n 1020 rfl 3 rfl rfl (ck DL_law_13 11 rfl) ?_
  refine r_iconst 1021 rfl ic_2 (ck DL_law_13 12 rfl) ?_
  refine r_iadd 1022 rfl (ck DL_law_13 13 rfl) ?_
  obtain ⟨b383, hf⟩ := gd_so hf
  refine r_sald 1023 rfl (inb_vp b383) (ck DL_law_13 14 rfl) ?_
  refine r_aload_n 1024 rfl 0 rfl rfl (ck DL_law_13 15 rfl) ?_
  refine r_iload_n 1025 rfl 3 rfl rfl (ck DL_law_13 16 rfl) ?_
  refine r_iconst 1026 rfl ic_3 (ck DL_law_13 17 rfl) ?_
  refine r_iadd 1027 rfl (ck DL_law_13 18 rfl) ?_
  obtain ⟨b384, hf⟩ := gd_so hf
  refine r_sald 1028 rfl (inb_vp b384) (ck DL_law_13 19 rfl) ?_
  obtain ⟨v387, g385, e386, hf⟩ := bd_so hf
  refine r_callVi 1031 rfl (A_X6_act X (X.2.2.2.2.2 (Int32.toNatClampNeg (x3 + 1))) (X.2.2.2.2.2 (Int32.toNatClampNeg (x3 + 2))) (X.2.2.2.2.2 (Int32.toNatClampNeg (x3 + 3))) h v387 g385 e386) (by omega) cw_L_139 sh_0 cl_6 rfl rfl (Nat.le_of_ble_eq_true rfl) (ck DL_law_13 20 rfl) ?_
  refine r_aload_n 1032 rfl 2 rfl rfl (ck DL_law_13 21 rfl) ?_
  refine r_aload_n 1033 rfl 0 rfl rfl (ck DL_law_13 22 rfl) ?_
  refine r_iload_n 1034 rfl 3 rfl rfl (ck DL_law_13 23 rfl) ?_
  refine r_iconst 1035 rfl ic_1 (ck DL_law_13 24 rfl) ?_
  refine r_iadd 1036 rfl (ck DL_law_13 25 rfl) ?_
  obtain ⟨b388, hf⟩ := gd_so hf
  refine r_sald 1037 rfl (inb_vp b388) (ck DL_law_13 26 rfl) ?_
  refine r_aload_n 1038 rfl 0 rfl rfl (ck DL_law_13 27 rfl) ?_
  refine r_iload_n 1039 rfl 3 rfl rfl (ck DL_law_13 28 rfl) ?_
  refine r_iconst 1040 rfl ic_2 (ck DL_law_13 29 rfl) ?_
  refine r_iadd 1041 rfl (ck DL_law_13 30 rfl) ?_
  obtain ⟨b389, hf⟩ := gd_so hf
  refine r_sald 1042 rfl (inb_vp b389) (ck DL_law_13 31 rfl) ?_
  refine r_aload_n 1043 rfl 0 rfl rfl (ck DL_law_13 32 rfl) ?_
  refine r_iload_n 1044 rfl 3 rfl rfl (ck DL_law_13 33 rfl) ?_
  refine r_iconst 1045 rfl ic_3 (ck DL_law_13 34 rfl) ?_
  refine r_iadd 1046 rfl (ck DL_law_13 35 rfl) ?_
  obtain ⟨b390, hf⟩ := gd_so hf
  refine r_sald 1047 rfl (inb_vp b390) (ck DL_law_13 36 rfl) ?_
  obtain ⟨v393, g391, e392, hf⟩ := bd_so hf
  refine r_callVi 1050 rfl (A_X7_act X (X.2.2.2.2.2 (Int32.toNatClampNeg (x3 + 1))) (X.2.2.2.2.2 (Int32.toNatClampNeg (x3 + 2))) (X.2.2.2.2.2 (Int32.toNatClampNeg (x3 + 3))) g385 v393 g391 e392) (by omega) cw_L_142 sh_96 cl_7 rfl rfl (Nat.le_of_ble_eq_true rfl) (ck DL_law_13 37 rfl) ?_
  rcases if_so hf with ⟨c394, hf⟩ | ⟨c394, hf⟩
  · refine r_icmp_eq_t 1347 (ck DL_law_13 38 rfl) (by decide) c394 ?_
    obtain ⟨v395, e396, hf⟩ := lt_so hf
    refine r_iinc (lv' := [(3, .int v395), (0, .ref (X.2.2.2.1 6)), (1, .ref (X.1 0)), (2, .ref (X.1 96))]) 1350 rfl 3 (ck DL_law_18 35 rfl) rfl (by rw [e396, ic_6]) (by decide) rfl ?_
    refine r_goto 18 (ck DL_law_18 36 rfl) (by decide) ?_
    refine r_sub (lv' := [(0, .ref (X.2.2.2.1 6)), (1, .ref (X.1 0)), (2, .ref (X.1 96)), (3, .int v395)]) [1, 2, 3, 0] rfl ?_
    exact hr18 v395 g391 hf
  · refine r_icmp_eq_f 1053 rfl 1347 (ck DL_law_13 38 rfl) (by decide) c394 ?_
    refine r_iconst 1054 rfl ic_0 (ck DL_law_13 39 rfl) ?_
    obtain ⟨rfl, rfl⟩ := so2 hf
    exact r_iret rfl rfl (ck DL_law_13 40 rfl)
def f_L_law_J1055 (L : Nat) (xs : Nat → Int32) (rc18 : Int32 → HP → Option (Int32 × HP)) (x3 : Int32) (h : HP) : Option (Int32 × HP) := gd (inb (x3 + 1) L) (bo (f_X6_trace (xs (Int32.toNatClampNeg (x3 + 1))) h) fun v399 => gd (inb (x3 + 1) L) (bo (f_X7_trace (xs (Int32.toNatClampNeg (x3 + 1))) h) fun v402 => if v399 = v402 then (lt (x3 + 6 : Int32) fun v405 => rc18 v405 h) else (some (0, h))))
set_option maxHeartbeats 4000000 in
set_option maxRecDepth 100000 in
theorem A_L_law_J1055 (X : XE) (rc18 : Int32 → HP → Option (Int32 × HP)) (r : Int32) (h' : HP) (hr18 : ∀ (x3 : Int32) (h : HP), rc18 x3 h = some (r, h') → Run mL_law 103 X 18 [(0, .ref (X.2.2.2.1 6)), (1, .ref (X.1 0)), (2, .ref (X.1 96)), (3, .int x3)] [] h (some (.int r)) h') (x3 : Int32) (h : HP) (hf : f_L_law_J1055 X.2.2.2.2.1 X.2.2.2.2.2 rc18 x3 h = some (r, h')) : Run mL_law 103 X 1055 [(0, .ref (X.2.2.2.1 6)), (1, .ref (X.1 0)), (2, .ref (X.1 96)), (3, .int x3)] [] h (some (.int r)) h' := by
  unfold f_L_law_J1055 at hf
  refine r_aload_n 1056 rfl 1 rfl rfl (ck DL_law_13 41 rfl) ?_
  refine r_aload_n 1057 rfl 0 rfl rfl (ck DL_law_13 42 rfl) ?_
  refine r_iload_n 1058 rfl 3 rfl rfl (ck DL_law_13 43 rfl) ?_
  refine r_iconst 1059 rfl ic_1 (ck DL_law_13 44 rfl) ?_
  refine r_iadd 1060 rfl (ck DL_law_13 45 rfl) ?_
  obtain ⟨b398, hf⟩ := gd_so hf
  refine r_sald 1061 rfl (inb_vp b398) (ck DL_law_13 46 rfl) ?_
  obtain ⟨v399, e400, hf⟩ := bo_so hf
  refine r_callVi 1064 rfl (A_X6_trace X (X.2.2.2.2.2 (Int32.toNatClampNeg (x3 + 1))) h v399 e400) (by omega) cw_L_143 sh_0 cl_6 rfl rfl (Nat.le_of_ble_eq_true rfl) (ck DL_law_13 47 rfl) ?_
  refine r_aload_n 1065 rfl 2 rfl rfl (ck DL_law_13 48 rfl) ?_
  refine r_aload_n 1066 rfl 0 rfl rfl (ck DL_law_13 49 rfl) ?_
  refine r_iload_n 1067 rfl 3 rfl rfl (ck DL_law_14 0 rfl) ?_
  refine r_iconst 1068 rfl ic_1 (ck DL_law_14 1 rfl) ?_
  refine r_iadd 1069 rfl (ck DL_law_14 2 rfl) ?_
  obtain ⟨b401, hf⟩ := gd_so hf
  refine r_sald 1070 rfl (inb_vp b401) (ck DL_law_14 3 rfl) ?_
  obtain ⟨v402, e403, hf⟩ := bo_so hf
  refine r_callVi 1073 rfl (A_X7_trace X (X.2.2.2.2.2 (Int32.toNatClampNeg (x3 + 1))) h v402 e403) (by omega) cw_L_146 sh_96 cl_7 rfl rfl (Nat.le_of_ble_eq_true rfl) (ck DL_law_14 4 rfl) ?_
  rcases if_so hf with ⟨c404, hf⟩ | ⟨c404, hf⟩
  · refine r_icmp_eq_t 1347 (ck DL_law_14 5 rfl) (by decide) c404 ?_
    obtain ⟨v405, e406, hf⟩ := lt_so hf
    refine r_iinc (lv' := [(3, .int v405), (0, .ref (X.2.2.2.1 6)), (1, .ref (X.1 0)), (2, .ref (X.1 96))]) 1350 rfl 3 (ck DL_law_18 35 rfl) rfl (by rw [e406, ic_6]) (by decide) rfl ?_
    refine r_goto 18 (ck DL_law_18 36 rfl) (by decide) ?_
    refine r_sub (lv' := [(0, .ref (X.2.2.2.1 6)), (1, .ref (X.1 0)), (2, .ref (X.1 96)), (3, .int v405)]) [1, 2, 3, 0] rfl ?_
    exact hr18 v405 h hf
  · refine r_icmp_eq_f 1076 rfl 1347 (ck DL_law_14 5 rfl) (by decide) c404 ?_
    refine r_iconst 1077 rfl ic_0 (ck DL_law_14 6 rfl) ?_
    obtain ⟨rfl, rfl⟩ := so2 hf
    exact r_iret rfl rfl (ck DL_law_14 7 rfl)
def f_L_law_J1078 (L : Nat) (xs : Nat → Int32) (rc18 : Int32 → HP → Option (Int32 × HP)) (x3 : Int32) (h : HP) : Option (Int32 × HP) := gd (inb (x3 + 1) L) (gd (inb (x3 + 2) L) (bo (f_X6_taken (xs (Int32.toNatClampNeg (x3 + 1))) (xs (Int32.toNatClampNeg (x3 + 2))) h) fun v410 => gd (inb (x3 + 1) L) (gd (inb (x3 + 2) L) (bo (f_X7_taken (xs (Int32.toNatClampNeg (x3 + 1))) (xs (Int32.toNatClampNeg (x3 + 2))) h) fun v414 => if v410 = v414 then (lt (x3 + 6 : Int32) fun v417 => rc18 v417 h) else (some (0, h))))))
set_option maxHeartbeats 4000000 in
set_option maxRecDepth 100000 in
theorem A_L_law_J1078 (X : XE) (rc18 : Int32 → HP → Option (Int32 × HP)) (r : Int32) (h' : HP) (hr18 : ∀ (x3 : Int32) (h : HP), rc18 x3 h = some (r, h') → Run mL_law 103 X 18 [(0, .ref (X.2.2.2.1 6)), (1, .ref (X.1 0)), (2, .ref (X.1 96)), (3, .int x3)] [] h (some (.int r)) h') (x3 : Int32) (h : HP) (hf : f_L_law_J1078 X.2.2.2.2.1 X.2.2.2.2.2 rc18 x3 h = some (r, h')) : Run mL_law 103 X 1078 [(0, .ref (X.2.2.2.1 6)), (1, .ref (X.1 0)), (2, .ref (X.1 96)), (3, .int x3)] [] h (some (.int r)) h' := by
  unfold f_L_law_J1078 at hf
  refine r_aload_n 1079 rfl 1 rfl rfl (ck DL_law_14 8 rfl) ?_
  refine r_aload_n 1080 rfl 0 rfl rfl (ck DL_law_14 9 rfl) ?_
  refine r_iload_n 1081 rfl 3 rfl rfl (ck DL_law_14 10 rfl) ?_
  refine r_iconst 1082 rfl ic_1 (ck DL_law_14 11 rfl) ?_
  refine r_iadd 1083 rfl (ck DL_law_14 12 rfl) ?_
  obtain ⟨b408, hf⟩ := gd_so hf
  refine r_sald 1084 rfl (inb_vp b408) (ck DL_law_14 13 rfl) ?_
  refine r_aload_n 1085 rfl 0 rfl rfl (ck DL_law_14 14 rfl) ?_
  refine r_iload_n 1086 rfl 3 rfl rfl (ck DL_law_14 15 rfl) ?_
  refine r_iconst 1087 rfl ic_2 (ck DL_law_14 16 rfl) ?_
  refine r_iadd 1088 rfl (ck DL_law_14 17 rfl) ?_
  obtain ⟨b409, hf⟩ := gd_so hf
  refine r_sald 1089 rfl (inb_vp b409) (ck DL_law_14 18 rfl) ?_
  obtain ⟨v410, e411, hf⟩ := bo_so hf
  refine r_callVi 1092 rfl (A_X6_taken X (X.2.2.2.2.2 (Int32.toNatClampNeg (x3 + 1))) (X.2.2.2.2.2 (Int32.toNatClampNeg (x3 + 2))) h v410 e411) (by omega) cw_L_147 sh_0 cl_6 rfl rfl (Nat.le_of_ble_eq_true rfl) (ck DL_law_14 19 rfl) ?_
  refine r_aload_n 1093 rfl 2 rfl rfl (ck DL_law_14 20 rfl) ?_
  refine r_aload_n 1094 rfl 0 rfl rfl (ck DL_law_14 21 rfl) ?_
  refine r_iload_n 1095 rfl 3 rfl rfl (ck DL_law_14 22 rfl) ?_
  refine r_iconst 1096 rfl ic_1 (ck DL_law_14 23 rfl) ?_
  refine r_iadd 1097 rfl (ck DL_law_14 24 rfl) ?_
  obtain ⟨b412, hf⟩ := gd_so hf
  refine r_sald 1098 rfl (inb_vp b412) (ck DL_law_14 25 rfl) ?_
  refine r_aload_n 1099 rfl 0 rfl rfl (ck DL_law_14 26 rfl) ?_
  refine r_iload_n 1100 rfl 3 rfl rfl (ck DL_law_14 27 rfl) ?_
  refine r_iconst 1101 rfl ic_2 (ck DL_law_14 28 rfl) ?_
  refine r_iadd 1102 rfl (ck DL_law_14 29 rfl) ?_
  obtain ⟨b413, hf⟩ := gd_so hf
  refine r_sald 1103 rfl (inb_vp b413) (ck DL_law_14 30 rfl) ?_
  obtain ⟨v414, e415, hf⟩ := bo_so hf
  refine r_callVi 1106 rfl (A_X7_taken X (X.2.2.2.2.2 (Int32.toNatClampNeg (x3 + 1))) (X.2.2.2.2.2 (Int32.toNatClampNeg (x3 + 2))) h v414 e415) (by omega) cw_L_150 sh_96 cl_7 rfl rfl (Nat.le_of_ble_eq_true rfl) (ck DL_law_14 31 rfl) ?_
  rcases if_so hf with ⟨c416, hf⟩ | ⟨c416, hf⟩
  · refine r_icmp_eq_t 1347 (ck DL_law_14 32 rfl) (by decide) c416 ?_
    obtain ⟨v417, e418, hf⟩ := lt_so hf
    refine r_iinc (lv' := [(3, .int v417), (0, .ref (X.2.2.2.1 6)), (1, .ref (X.1 0)), (2, .ref (X.1 96))]) 1350 rfl 3 (ck DL_law_18 35 rfl) rfl (by rw [e418, ic_6]) (by decide) rfl ?_
    refine r_goto 18 (ck DL_law_18 36 rfl) (by decide) ?_
    refine r_sub (lv' := [(0, .ref (X.2.2.2.1 6)), (1, .ref (X.1 0)), (2, .ref (X.1 96)), (3, .int v417)]) [1, 2, 3, 0] rfl ?_
    exact hr18 v417 h hf
  · refine r_icmp_eq_f 1109 rfl 1347 (ck DL_law_14 32 rfl) (by decide) c416 ?_
    refine r_iconst 1110 rfl ic_0 (ck DL_law_14 33 rfl) ?_
    obtain ⟨rfl, rfl⟩ := so2 hf
    exact r_iret rfl rfl (ck DL_law_14 34 rfl)
def f_L_law_J1111 (L : Nat) (xs : Nat → Int32) (rc18 : Int32 → HP → Option (Int32 × HP)) (x3 : Int32) (h : HP) : Option (Int32 × HP) := gd (inb (x3 + 1) L) (bo (f_X6_count (xs (Int32.toNatClampNeg (x3 + 1))) h) fun v421 => gd (inb (x3 + 1) L) (bo (f_X7_count (xs (Int32.toNatClampNeg (x3 + 1))) h) fun v424 => if v421 = v424 then (lt (x3 + 6 : Int32) fun v427 => rc18 v427 h) else (some (0, h))))
set_option maxHeartbeats 4000000 in
set_option maxRecDepth 100000 in
theorem A_L_law_J1111 (X : XE) (rc18 : Int32 → HP → Option (Int32 × HP)) (r : Int32) (h' : HP) (hr18 : ∀ (x3 : Int32) (h : HP), rc18 x3 h = some (r, h') → Run mL_law 103 X 18 [(0, .ref (X.2.2.2.1 6)), (1, .ref (X.1 0)), (2, .ref (X.1 96)), (3, .int x3)] [] h (some (.int r)) h') (x3 : Int32) (h : HP) (hf : f_L_law_J1111 X.2.2.2.2.1 X.2.2.2.2.2 rc18 x3 h = some (r, h')) : Run mL_law 103 X 1111 [(0, .ref (X.2.2.2.1 6)), (1, .ref (X.1 0)), (2, .ref (X.1 96)), (3, .int x3)] [] h (some (.int r)) h' := by
  unfold f_L_law_J1111 at hf
  refine r_aload_n 1112 rfl 1 rfl rfl (ck DL_law_14 35 rfl) ?_
  refine r_aload_n 1113 rfl 0 rfl rfl (ck DL_law_14 36 rfl) ?_
  refine r_iload_n 1114 rfl 3 rfl rfl (ck DL_law_14 37 rfl) ?_
  refine r_iconst 1115 rfl ic_1 (ck DL_law_14 38 rfl) ?_
  refine r_iadd 1116 rfl (ck DL_law_14 39 rfl) ?_
  obtain ⟨b420, hf⟩ := gd_so hf
  refine r_sald 1117 rfl (inb_vp b420) (ck DL_law_14 40 rfl) ?_
  obtain ⟨v421, e422, hf⟩ := bo_so hf
  refine r_callVi 1120 rfl (A_X6_count X (X.2.2.2.2.2 (Int32.toNatClampNeg (x3 + 1))) h v421 e422) (by omega) cw_L_151 sh_0 cl_6 rfl rfl (Nat.le_of_ble_eq_true rfl) (ck DL_law_14 41 rfl) ?_
  refine r_aload_n 1121 rfl 2 rfl rfl (ck DL_law_14 42 rfl) ?_
  refine r_aload_n 1122 rfl 0 rfl rfl (ck DL_law_14 43 rfl) ?_
  refine r_iload_n 1123 rfl 3 rfl rfl (ck DL_law_14 44 rfl) ?_
  refine r_iconst 1124 rfl ic_1 (ck DL_law_14 45 rfl) ?_
  refine r_iadd 1125 rfl (ck DL_law_14 46 rfl) ?_
  obtain ⟨b423, hf⟩ := gd_so hf
  refine r_sald 1126 rfl (inb_vp b423) (ck DL_law_14 47 rfl) ?_
  obtain ⟨v424, e425, hf⟩ := bo_so hf
  refine r_callVi 1129 rfl (A_X7_count X (X.2.2.2.2.2 (Int32.toNatClampNeg (x3 + 1))) h v424 e425) (by omega) cw_L_154 sh_96 cl_7 rfl rfl (Nat.le_of_ble_eq_true rfl) (ck DL_law_14 48 rfl) ?_
  rcases if_so hf with ⟨c426, hf⟩ | ⟨c426, hf⟩
  · refine r_icmp_eq_t 1347 (ck DL_law_14 49 rfl) (by decide) c426 ?_
    obtain ⟨v427, e428, hf⟩ := lt_so hf
    refine r_iinc (lv' := [(3, .int v427), (0, .ref (X.2.2.2.1 6)), (1, .ref (X.1 0)), (2, .ref (X.1 96))]) 1350 rfl 3 (ck DL_law_18 35 rfl) rfl (by rw [e428, ic_6]) (by decide) rfl ?_
    refine r_goto 18 (ck DL_law_18 36 rfl) (by decide) ?_
    refine r_sub (lv' := [(0, .ref (X.2.2.2.1 6)), (1, .ref (X.1 0)), (2, .ref (X.1 96)), (3, .int v427)]) [1, 2, 3, 0] rfl ?_
    exact hr18 v427 h hf
  · refine r_icmp_eq_f 1132 rfl 1347 (ck DL_law_14 49 rfl) (by decide) c426 ?_
    refine r_iconst 1133 rfl ic_0 (ck DL_law_15 0 rfl) ?_
    obtain ⟨rfl, rfl⟩ := so2 hf
    exact r_iret rfl rfl (ck DL_law_15 1 rfl)
def f_L_law_J1134 (L : Nat) (xs : Nat → Int32) (rc18 : Int32 → HP → Option (Int32 × HP)) (x3 : Int32) (h : HP) : Option (Int32 × HP) := gd (inb (x3 + 1) L) (gd (inb (x3 + 2) L) (gd (inb (x3 + 3) L) (bd (f_X6_tape (xs (Int32.toNatClampNeg (x3 + 1))) (xs (Int32.toNatClampNeg (x3 + 2))) (xs (Int32.toNatClampNeg (x3 + 3))) h) fun v435 g433 => gd (inb (x3 + 1) L) (gd (inb (x3 + 2) L) (gd (inb (x3 + 3) L) (bd (f_X7_tape (xs (Int32.toNatClampNeg (x3 + 1))) (xs (Int32.toNatClampNeg (x3 + 2))) (xs (Int32.toNatClampNeg (x3 + 3))) g433) fun v441 g439 => if v435 = v441 then (lt (x3 + 6 : Int32) fun v443 => rc18 v443 g439) else (some (0, g439))))))))
set_option maxHeartbeats 4000000 in
set_option maxRecDepth 100000 in
theorem A_L_law_J1134 (X : XE) (rc18 : Int32 → HP → Option (Int32 × HP)) (r : Int32) (h' : HP) (hr18 : ∀ (x3 : Int32) (h : HP), rc18 x3 h = some (r, h') → Run mL_law 103 X 18 [(0, .ref (X.2.2.2.1 6)), (1, .ref (X.1 0)), (2, .ref (X.1 96)), (3, .int x3)] [] h (some (.int r)) h') (x3 : Int32) (h : HP) (hf : f_L_law_J1134 X.2.2.2.2.1 X.2.2.2.2.2 rc18 x3 h = some (r, h')) : Run mL_law 103 X 1134 [(0, .ref (X.2.2.2.1 6)), (1, .ref (X.1 0)), (2, .ref (X.1 96)), (3, .int x3)] [] h (some (.int r)) h' := by
  unfold f_L_law_J1134 at hf
  refine r_aload_n 1135 rfl 1 rfl rfl (ck DL_law_15 2 rfl) ?_
  refine r_aload_n 1136 rfl 0 rfl rfl (ck DL_law_15 3 rfl) ?_
  refine r_iload_n 1137 rfl 3 rfl rfl (ck DL_law_15 4 rfl) ?_
  refine r_iconst 1138 rfl ic_1 (ck DL_law_15 5 rfl) ?_
  refine r_iadd 1139 rfl (ck DL_law_15 6 rfl) ?_
  obtain ⟨b430, hf⟩ := gd_so hf
  refine r_sald 1140 rfl (inb_vp b430) (ck DL_law_15 7 rfl) ?_
  refine r_aload_n 1141 rfl 0 rfl rfl (ck DL_law_15 8 rfl) ?_
  refine r_iload_n 1142 rfl 3 rfl rfl (ck DL_law_15 9 rfl) ?_
  refine r_iconst 1143 rfl ic_2 (ck DL_law_15 10 rfl) ?_
  refine r_iadd 1144 rfl (ck DL_law_15 11 rfl) ?_
  obtain ⟨b431, hf⟩ := gd_so hf
  refine r_sald 1145 rfl (inb_vp b431) (ck DL_law_15 12 rfl) ?_
  refine r_aload_n 1146 rfl 0 rfl rfl (ck DL_law_15 13 rfl) ?_
  refine r_iload_n 1147 rfl 3 rfl rfl (ck DL_law_15 14 rfl) ?_
  refine r_iconst 1148 rfl ic_3 (ck DL_law_15 15 rfl) ?_
  refine r_iadd 1149 rfl (ck DL_law_15 16 rfl) ?_
  obtain ⟨b432, hf⟩ := gd_so hf
  refine r_sald 1150 rfl (inb_vp b432) (ck DL_law_15 17 rfl) ?_
  obtain ⟨v435, g433, e434, hf⟩ := bd_so hf
  refine r_callVi 1153 rfl (A_X6_tape X (X.2.2.2.2.2 (Int32.toNatClampNeg (x3 + 1))) (X.2.2.2.2.2 (Int32.toNatClampNeg (x3 + 2))) (X.2.2.2.2.2 (Int32.toNatClampNeg (x3 + 3))) h v435 g433 e434) (by omega) cw_L_155 sh_0 cl_6 rfl rfl (Nat.le_of_ble_eq_true rfl) (ck DL_law_15 18 rfl) ?_
  refine r_aload_n 1154 rfl 2 rfl rfl (ck DL_law_15 19 rfl) ?_
  refine r_aload_n 1155 rfl 0 rfl rfl (ck DL_law_15 20 rfl) ?_
  refine r_iload_n 1156 rfl 3 rfl rfl (ck DL_law_15 21 rfl) ?_
  refine r_iconst 1157 rfl ic_1 (ck DL_law_15 22 rfl) ?_
  refine r_iadd 1158 rfl (ck DL_law_15 23 rfl) ?_
  obtain ⟨b436, hf⟩ := gd_so hf
  refine r_sald 1159 rfl (inb_vp b436) (ck DL_law_15 24 rfl) ?_
  refine r_aload_n 1160 rfl 0 rfl rfl (ck DL_law_15 25 rfl) ?_
  refine r_iload_n 1161 rfl 3 rfl rfl (ck DL_law_15 26 rfl) ?_
  refine r_iconst 1162 rfl ic_2 (ck DL_law_15 27 rfl) ?_
  refine r_iadd 1163 rfl (ck DL_law_15 28 rfl) ?_
  obtain ⟨b437, hf⟩ := gd_so hf
  refine r_sald 1164 rfl (inb_vp b437) (ck DL_law_15 29 rfl) ?_
  refine r_aload_n 1165 rfl 0 rfl rfl (ck DL_law_15 30 rfl) ?_
  refine r_iload_n 1166 rfl 3 rfl rfl (ck DL_law_15 31 rfl) ?_
  refine r_iconst 1167 rfl ic_3 (ck DL_law_15 32 rfl) ?_
  refine r_iadd 1168 rfl (ck DL_law_15 33 rfl) ?_
  obtain ⟨b438, hf⟩ := gd_so hf
  refine r_sald 1169 rfl (inb_vp b438) (ck DL_law_15 34 rfl) ?_
  obtain ⟨v441, g439, e440, hf⟩ := bd_so hf
  refine r_callVi 1172 rfl (A_X7_tape X (X.2.2.2.2.2 (Int32.toNatClampNeg (x3 + 1))) (X.2.2.2.2.2 (Int32.toNatClampNeg (x3 + 2))) (X.2.2.2.2.2 (Int32.toNatClampNeg (x3 + 3))) g433 v441 g439 e440) (by omega) cw_L_158 sh_96 cl_7 rfl rfl (Nat.le_of_ble_eq_true rfl) (ck DL_law_15 35 rfl) ?_
  rcases if_so hf with ⟨c442, hf⟩ | ⟨c442, hf⟩
  · refine r_icmp_eq_t 1347 (ck DL_law_15 36 rfl) (by decide) c442 ?_
    obtain ⟨v443, e444, hf⟩ := lt_so hf
    refine r_iinc (lv' := [(3, .int v443), (0, .ref (X.2.2.2.1 6)), (1, .ref (X.1 0)), (2, .ref (X.1 96))]) 1350 rfl 3 (ck DL_law_18 35 rfl) rfl (by rw [e444, ic_6]) (by decide) rfl ?_
    refine r_goto 18 (ck DL_law_18 36 rfl) (by decide) ?_
    refine r_sub (lv' := [(0, .ref (X.2.2.2.1 6)), (1, .ref (X.1 0)), (2, .ref (X.1 96)), (3, .int v443)]) [1, 2, 3, 0] rfl ?_
    exact hr18 v443 g439 hf
  · refine r_icmp_eq_f 1175 rfl 1347 (ck DL_law_15 36 rfl) (by decide) c442 ?_
    refine r_iconst 1176 rfl ic_0 (ck DL_law_15 37 rfl) ?_
    obtain ⟨rfl, rfl⟩ := so2 hf
    exact r_iret rfl rfl (ck DL_law_15 38 rfl)
def f_L_law_J1177 (L : Nat) (xs : Nat → Int32) (rc18 : Int32 → HP → Option (Int32 × HP)) (x3 : Int32) (h : HP) : Option (Int32 × HP) := gd (inb (x3 + 1) L) (gd (inb (x3 + 2) L) (gd (inb (x3 + 3) L) (gd (inb (x3 + 4) L) (bd (f_X6_item (xs (Int32.toNatClampNeg (x3 + 1))) (xs (Int32.toNatClampNeg (x3 + 2))) (((Int32.toInt64 (xs (Int32.toNatClampNeg (x3 + 3)))) <<< ((Int32.toInt64 32) &&& 63)) ||| ((Int32.toInt64 (xs (Int32.toNatClampNeg (x3 + 4)))) &&& 4294967295)) h) fun v452 g450 => gd (inb (x3 + 1) L) (gd (inb (x3 + 2) L) (gd (inb (x3 + 3) L) (gd (inb (x3 + 4) L) (bd (f_X7_item (xs (Int32.toNatClampNeg (x3 + 1))) (xs (Int32.toNatClampNeg (x3 + 2))) (((Int32.toInt64 (xs (Int32.toNatClampNeg (x3 + 3)))) <<< ((Int32.toInt64 32) &&& 63)) ||| ((Int32.toInt64 (xs (Int32.toNatClampNeg (x3 + 4)))) &&& 4294967295)) g450) fun v459 g457 => if v452 = v459 then (lt (x3 + 6 : Int32) fun v461 => rc18 v461 g457) else (some (0, g457))))))))))
set_option maxHeartbeats 4000000 in
set_option maxRecDepth 100000 in
theorem A_L_law_J1177 (X : XE) (rc18 : Int32 → HP → Option (Int32 × HP)) (r : Int32) (h' : HP) (hr18 : ∀ (x3 : Int32) (h : HP), rc18 x3 h = some (r, h') → Run mL_law 103 X 18 [(0, .ref (X.2.2.2.1 6)), (1, .ref (X.1 0)), (2, .ref (X.1 96)), (3, .int x3)] [] h (some (.int r)) h') (x3 : Int32) (h : HP) (hf : f_L_law_J1177 X.2.2.2.2.1 X.2.2.2.2.2 rc18 x3 h = some (r, h')) : Run mL_law 103 X 1177 [(0, .ref (X.2.2.2.1 6)), (1, .ref (X.1 0)), (2, .ref (X.1 96)), (3, .int x3)] [] h (some (.int r)) h' := by
  unfold f_L_law_J1177 at hf
  refine r_aload_n 1178 rfl 1 rfl rfl (ck DL_law_15 39 rfl) ?_
  refine r_aload_n 1179 rfl 0 rfl rfl (ck DL_law_15 40 rfl) ?_
  refine r_iload_n 1180 rfl 3 rfl rfl (ck DL_law_15 41 rfl) ?_
  refine r_iconst 1181 rfl ic_1 (ck DL_law_15 42 rfl) ?_
  refine r_iadd 1182 rfl (ck DL_law_15 43 rfl) ?_
  obtain ⟨b446, hf⟩ := gd_so hf
  refine r_sald 1183 rfl (inb_vp b446) (ck DL_law_15 44 rfl) ?_
  refine r_aload_n 1184 rfl 0 rfl rfl (ck DL_law_15 45 rfl) ?_
  refine r_iload_n 1185 rfl 3 rfl rfl (ck DL_law_15 46 rfl) ?_
  refine r_iconst 1186 rfl ic_2 (ck DL_law_15 47 rfl) ?_
  refine r_iadd 1187 rfl (ck DL_law_15 48 rfl) ?_
  obtain ⟨b447, hf⟩ := gd_so hf
  refine r_sald 1188 rfl (inb_vp b447) (ck DL_law_15 49 rfl) ?_
  refine r_aload_n 1189 rfl 0 rfl rfl (ck DL_law_16 0 rfl) ?_
  refine r_iload_n 1190 rfl 3 rfl rfl (ck DL_law_16 1 rfl) ?_
  refine r_iconst 1191 rfl ic_3 (ck DL_law_16 2 rfl) ?_
  refine r_iadd 1192 rfl (ck DL_law_16 3 rfl) ?_
  obtain ⟨b448, hf⟩ := gd_so hf
  refine r_sald 1193 rfl (inb_vp b448) (ck DL_law_16 4 rfl) ?_
  refine r_i2l 1194 rfl (ck DL_law_16 5 rfl) ?_
  refine r_bipush 1196 rfl bp_32 (ck DL_law_16 6 rfl) ?_
  refine r_lshl 1197 rfl (ck DL_law_16 7 rfl) ?_
  refine r_aload_n 1198 rfl 0 rfl rfl (ck DL_law_16 8 rfl) ?_
  refine r_iload_n 1199 rfl 3 rfl rfl (ck DL_law_16 9 rfl) ?_
  refine r_iconst 1200 rfl ic_4 (ck DL_law_16 10 rfl) ?_
  refine r_iadd 1201 rfl (ck DL_law_16 11 rfl) ?_
  obtain ⟨b449, hf⟩ := gd_so hf
  refine r_sald 1202 rfl (inb_vp b449) (ck DL_law_16 12 rfl) ?_
  refine r_i2l 1203 rfl (ck DL_law_16 13 rfl) ?_
  refine r_ldc2 1206 rfl cn_L_159 (ck DL_law_16 14 rfl) ?_
  refine r_land 1207 rfl (ck DL_law_16 15 rfl) ?_
  refine r_lor 1208 rfl (ck DL_law_16 16 rfl) ?_
  obtain ⟨v452, g450, e451, hf⟩ := bd_so hf
  refine r_callVi 1211 rfl (A_X6_item X (X.2.2.2.2.2 (Int32.toNatClampNeg (x3 + 1))) (X.2.2.2.2.2 (Int32.toNatClampNeg (x3 + 2))) (((Int32.toInt64 (X.2.2.2.2.2 (Int32.toNatClampNeg (x3 + 3)))) <<< ((Int32.toInt64 32) &&& 63)) ||| ((Int32.toInt64 (X.2.2.2.2.2 (Int32.toNatClampNeg (x3 + 4)))) &&& 4294967295)) h v452 g450 e451) (by omega) cw_L_161 sh_0 cl_6 rfl rfl (Nat.le_of_ble_eq_true rfl) (ck DL_law_16 17 rfl) ?_
  refine r_aload_n 1212 rfl 2 rfl rfl (ck DL_law_16 18 rfl) ?_
  refine r_aload_n 1213 rfl 0 rfl rfl (ck DL_law_16 19 rfl) ?_
  refine r_iload_n 1214 rfl 3 rfl rfl (ck DL_law_16 20 rfl) ?_
  refine r_iconst 1215 rfl ic_1 (ck DL_law_16 21 rfl) ?_
  refine r_iadd 1216 rfl (ck DL_law_16 22 rfl) ?_
  obtain ⟨b453, hf⟩ := gd_so hf
  refine r_sald 1217 rfl (inb_vp b453) (ck DL_law_16 23 rfl) ?_
  refine r_aload_n 1218 rfl 0 rfl rfl (ck DL_law_16 24 rfl) ?_
  refine r_iload_n 1219 rfl 3 rfl rfl (ck DL_law_16 25 rfl) ?_
  refine r_iconst 1220 rfl ic_2 (ck DL_law_16 26 rfl) ?_
  refine r_iadd 1221 rfl (ck DL_law_16 27 rfl) ?_
  obtain ⟨b454, hf⟩ := gd_so hf
  refine r_sald 1222 rfl (inb_vp b454) (ck DL_law_16 28 rfl) ?_
  refine r_aload_n 1223 rfl 0 rfl rfl (ck DL_law_16 29 rfl) ?_
  refine r_iload_n 1224 rfl 3 rfl rfl (ck DL_law_16 30 rfl) ?_
  refine r_iconst 1225 rfl ic_3 (ck DL_law_16 31 rfl) ?_
  refine r_iadd 1226 rfl (ck DL_law_16 32 rfl) ?_
  obtain ⟨b455, hf⟩ := gd_so hf
  refine r_sald 1227 rfl (inb_vp b455) (ck DL_law_16 33 rfl) ?_
  refine r_i2l 1228 rfl (ck DL_law_16 34 rfl) ?_
  refine r_bipush 1230 rfl bp_32 (ck DL_law_16 35 rfl) ?_
  refine r_lshl 1231 rfl (ck DL_law_16 36 rfl) ?_
  refine r_aload_n 1232 rfl 0 rfl rfl (ck DL_law_16 37 rfl) ?_
  refine r_iload_n 1233 rfl 3 rfl rfl (ck DL_law_16 38 rfl) ?_
  refine r_iconst 1234 rfl ic_4 (ck DL_law_16 39 rfl) ?_
  refine r_iadd 1235 rfl (ck DL_law_16 40 rfl) ?_
  obtain ⟨b456, hf⟩ := gd_so hf
  refine r_sald 1236 rfl (inb_vp b456) (ck DL_law_16 41 rfl) ?_
  refine r_i2l 1237 rfl (ck DL_law_16 42 rfl) ?_
  refine r_ldc2 1240 rfl cn_L_159 (ck DL_law_16 43 rfl) ?_
  refine r_land 1241 rfl (ck DL_law_16 44 rfl) ?_
  refine r_lor 1242 rfl (ck DL_law_16 45 rfl) ?_
  obtain ⟨v459, g457, e458, hf⟩ := bd_so hf
  refine r_callVi 1245 rfl (A_X7_item X (X.2.2.2.2.2 (Int32.toNatClampNeg (x3 + 1))) (X.2.2.2.2.2 (Int32.toNatClampNeg (x3 + 2))) (((Int32.toInt64 (X.2.2.2.2.2 (Int32.toNatClampNeg (x3 + 3)))) <<< ((Int32.toInt64 32) &&& 63)) ||| ((Int32.toInt64 (X.2.2.2.2.2 (Int32.toNatClampNeg (x3 + 4)))) &&& 4294967295)) g450 v459 g457 e458) (by omega) cw_L_165 sh_96 cl_7 rfl rfl (Nat.le_of_ble_eq_true rfl) (ck DL_law_16 46 rfl) ?_
  rcases if_so hf with ⟨c460, hf⟩ | ⟨c460, hf⟩
  · refine r_icmp_eq_t 1347 (ck DL_law_16 47 rfl) (by decide) c460 ?_
    obtain ⟨v461, e462, hf⟩ := lt_so hf
    refine r_iinc (lv' := [(3, .int v461), (0, .ref (X.2.2.2.1 6)), (1, .ref (X.1 0)), (2, .ref (X.1 96))]) 1350 rfl 3 (ck DL_law_18 35 rfl) rfl (by rw [e462, ic_6]) (by decide) rfl ?_
    refine r_goto 18 (ck DL_law_18 36 rfl) (by decide) ?_
    refine r_sub (lv' := [(0, .ref (X.2.2.2.1 6)), (1, .ref (X.1 0)), (2, .ref (X.1 96)), (3, .int v461)]) [1, 2, 3, 0] rfl ?_
    exact hr18 v461 g457 hf
  · refine r_icmp_eq_f 1248 rfl 1347 (ck DL_law_16 47 rfl) (by decide) c460 ?_
    refine r_iconst 1249 rfl ic_0 (ck DL_law_16 48 rfl) ?_
    obtain ⟨rfl, rfl⟩ := so2 hf
    exact r_iret rfl rfl (ck DL_law_16 49 rfl)
def f_L_law_J1250 (L : Nat) (xs : Nat → Int32) (rc18 : Int32 → HP → Option (Int32 × HP)) (x3 : Int32) (h : HP) : Option (Int32 × HP) := gd (inb (x3 + 1) L) (gd (inb (x3 + 2) L) (bo (f_X6_read (xs (Int32.toNatClampNeg (x3 + 1))) (xs (Int32.toNatClampNeg (x3 + 2))) h) fun v466 => gd (inb (x3 + 1) L) (gd (inb (x3 + 2) L) (bo (f_X7_read (xs (Int32.toNatClampNeg (x3 + 1))) (xs (Int32.toNatClampNeg (x3 + 2))) h) fun v470 => if (lg_cmp v466 v470) = 0 then (lt (x3 + 6 : Int32) fun v473 => rc18 v473 h) else (some (0, h))))))
set_option maxHeartbeats 4000000 in
set_option maxRecDepth 100000 in
theorem A_L_law_J1250 (X : XE) (rc18 : Int32 → HP → Option (Int32 × HP)) (r : Int32) (h' : HP) (hr18 : ∀ (x3 : Int32) (h : HP), rc18 x3 h = some (r, h') → Run mL_law 103 X 18 [(0, .ref (X.2.2.2.1 6)), (1, .ref (X.1 0)), (2, .ref (X.1 96)), (3, .int x3)] [] h (some (.int r)) h') (x3 : Int32) (h : HP) (hf : f_L_law_J1250 X.2.2.2.2.1 X.2.2.2.2.2 rc18 x3 h = some (r, h')) : Run mL_law 103 X 1250 [(0, .ref (X.2.2.2.1 6)), (1, .ref (X.1 0)), (2, .ref (X.1 96)), (3, .int x3)] [] h (some (.int r)) h' := by
  unfold f_L_law_J1250 at hf
  refine r_aload_n 1251 rfl 1 rfl rfl (ck DL_law_17 0 rfl) ?_
  refine r_aload_n 1252 rfl 0 rfl rfl (ck DL_law_17 1 rfl) ?_
  refine r_iload_n 1253 rfl 3 rfl rfl (ck DL_law_17 2 rfl) ?_
  refine r_iconst 1254 rfl ic_1 (ck DL_law_17 3 rfl) ?_
  refine r_iadd 1255 rfl (ck DL_law_17 4 rfl) ?_
  obtain ⟨b464, hf⟩ := gd_so hf
  refine r_sald 1256 rfl (inb_vp b464) (ck DL_law_17 5 rfl) ?_
  refine r_aload_n 1257 rfl 0 rfl rfl (ck DL_law_17 6 rfl) ?_
  refine r_iload_n 1258 rfl 3 rfl rfl (ck DL_law_17 7 rfl) ?_
  refine r_iconst 1259 rfl ic_2 (ck DL_law_17 8 rfl) ?_
  refine r_iadd 1260 rfl (ck DL_law_17 9 rfl) ?_
  obtain ⟨b465, hf⟩ := gd_so hf
  refine r_sald 1261 rfl (inb_vp b465) (ck DL_law_17 10 rfl) ?_
  obtain ⟨v466, e467, hf⟩ := bo_so hf
  refine r_callVl 1264 rfl (A_X6_read X (X.2.2.2.2.2 (Int32.toNatClampNeg (x3 + 1))) (X.2.2.2.2.2 (Int32.toNatClampNeg (x3 + 2))) h v466 e467) (by omega) cw_L_166 sh_0 cl_6 rfl rfl (Nat.le_of_ble_eq_true rfl) (ck DL_law_17 11 rfl) ?_
  refine r_aload_n 1265 rfl 2 rfl rfl (ck DL_law_17 12 rfl) ?_
  refine r_aload_n 1266 rfl 0 rfl rfl (ck DL_law_17 13 rfl) ?_
  refine r_iload_n 1267 rfl 3 rfl rfl (ck DL_law_17 14 rfl) ?_
  refine r_iconst 1268 rfl ic_1 (ck DL_law_17 15 rfl) ?_
  refine r_iadd 1269 rfl (ck DL_law_17 16 rfl) ?_
  obtain ⟨b468, hf⟩ := gd_so hf
  refine r_sald 1270 rfl (inb_vp b468) (ck DL_law_17 17 rfl) ?_
  refine r_aload_n 1271 rfl 0 rfl rfl (ck DL_law_17 18 rfl) ?_
  refine r_iload_n 1272 rfl 3 rfl rfl (ck DL_law_17 19 rfl) ?_
  refine r_iconst 1273 rfl ic_2 (ck DL_law_17 20 rfl) ?_
  refine r_iadd 1274 rfl (ck DL_law_17 21 rfl) ?_
  obtain ⟨b469, hf⟩ := gd_so hf
  refine r_sald 1275 rfl (inb_vp b469) (ck DL_law_17 22 rfl) ?_
  obtain ⟨v470, e471, hf⟩ := bo_so hf
  refine r_callVl 1278 rfl (A_X7_read X (X.2.2.2.2.2 (Int32.toNatClampNeg (x3 + 1))) (X.2.2.2.2.2 (Int32.toNatClampNeg (x3 + 2))) h v470 e471) (by omega) cw_L_169 sh_96 cl_7 rfl rfl (Nat.le_of_ble_eq_true rfl) (ck DL_law_17 23 rfl) ?_
  refine r_lcmp 1279 rfl (ck DL_law_17 24 rfl) ?_
  rcases if_so hf with ⟨c472, hf⟩ | ⟨c472, hf⟩
  · refine r_if_eq_t 1347 (ck DL_law_17 25 rfl) (by decide) c472 ?_
    obtain ⟨v473, e474, hf⟩ := lt_so hf
    refine r_iinc (lv' := [(3, .int v473), (0, .ref (X.2.2.2.1 6)), (1, .ref (X.1 0)), (2, .ref (X.1 96))]) 1350 rfl 3 (ck DL_law_18 35 rfl) rfl (by rw [e474, ic_6]) (by decide) rfl ?_
    refine r_goto 18 (ck DL_law_18 36 rfl) (by decide) ?_
    refine r_sub (lv' := [(0, .ref (X.2.2.2.1 6)), (1, .ref (X.1 0)), (2, .ref (X.1 96)), (3, .int v473)]) [1, 2, 3, 0] rfl ?_
    exact hr18 v473 h hf
  · refine r_if_eq_f 1282 rfl 1347 (ck DL_law_17 25 rfl) (by decide) c472 ?_
    refine r_iconst 1283 rfl ic_0 (ck DL_law_17 26 rfl) ?_
    obtain ⟨rfl, rfl⟩ := so2 hf
    exact r_iret rfl rfl (ck DL_law_17 27 rfl)
def f_L_law_J1284 (L : Nat) (xs : Nat → Int32) (rc18 : Int32 → HP → Option (Int32 × HP)) (x3 : Int32) (h : HP) : Option (Int32 × HP) := gd (inb (x3 + 1) L) (gd (inb (x3 + 2) L) (gd (inb (x3 + 3) L) (gd (inb (x3 + 4) L) (gd (inb (x3 + 5) L) (bd (f_X6_shift (xs (Int32.toNatClampNeg (x3 + 1))) (xs (Int32.toNatClampNeg (x3 + 2))) (xs (Int32.toNatClampNeg (x3 + 3))) (xs (Int32.toNatClampNeg (x3 + 4))) (xs (Int32.toNatClampNeg (x3 + 5))) h) fun v483 g481 => gd (inb (x3 + 1) L) (gd (inb (x3 + 2) L) (gd (inb (x3 + 3) L) (gd (inb (x3 + 4) L) (gd (inb (x3 + 5) L) (bd (f_X7_shift (xs (Int32.toNatClampNeg (x3 + 1))) (xs (Int32.toNatClampNeg (x3 + 2))) (xs (Int32.toNatClampNeg (x3 + 3))) (xs (Int32.toNatClampNeg (x3 + 4))) (xs (Int32.toNatClampNeg (x3 + 5))) g481) fun v491 g489 => if v483 = v491 then (lt (x3 + 6 : Int32) fun v493 => rc18 v493 g489) else (some (0, g489))))))))))))
set_option maxHeartbeats 4000000 in
set_option maxRecDepth 100000 in
theorem A_L_law_J1284 (X : XE) (rc18 : Int32 → HP → Option (Int32 × HP)) (r : Int32) (h' : HP) (hr18 : ∀ (x3 : Int32) (h : HP), rc18 x3 h = some (r, h') → Run mL_law 103 X 18 [(0, .ref (X.2.2.2.1 6)), (1, .ref (X.1 0)), (2, .ref (X.1 96)), (3, .int x3)] [] h (some (.int r)) h') (x3 : Int32) (h : HP) (hf : f_L_law_J1284 X.2.2.2.2.1 X.2.2.2.2.2 rc18 x3 h = some (r, h')) : Run mL_law 103 X 1284 [(0, .ref (X.2.2.2.1 6)), (1, .ref (X.1 0)), (2, .ref (X.1 96)), (3, .int x3)] [] h (some (.int r)) h' := by
  unfold f_L_law_J1284 at hf
  refine r_aload_n 1285 rfl 1 rfl rfl (ck DL_law_17 28 rfl) ?_
  refine r_aload_n 1286 rfl 0 rfl rfl (ck DL_law_17 29 rfl) ?_
  refine r_iload_n 1287 rfl 3 rfl rfl (ck DL_law_17 30 rfl) ?_
  refine r_iconst 1288 rfl ic_1 (ck DL_law_17 31 rfl) ?_
  refine r_iadd 1289 rfl (ck DL_law_17 32 rfl) ?_
  obtain ⟨b476, hf⟩ := gd_so hf
  refine r_sald 1290 rfl (inb_vp b476) (ck DL_law_17 33 rfl) ?_
  refine r_aload_n 1291 rfl 0 rfl rfl (ck DL_law_17 34 rfl) ?_
  refine r_iload_n 1292 rfl 3 rfl rfl (ck DL_law_17 35 rfl) ?_
  refine r_iconst 1293 rfl ic_2 (ck DL_law_17 36 rfl) ?_
  refine r_iadd 1294 rfl (ck DL_law_17 37 rfl) ?_
  obtain ⟨b477, hf⟩ := gd_so hf
  refine r_sald 1295 rfl (inb_vp b477) (ck DL_law_17 38 rfl) ?_
  refine r_aload_n 1296 rfl 0 rfl rfl (ck DL_law_17 39 rfl) ?_
  refine r_iload_n 1297 rfl 3 rfl rfl (ck DL_law_17 40 rfl) ?_
  refine r_iconst 1298 rfl ic_3 (ck DL_law_17 41 rfl) ?_
  refine r_iadd 1299 rfl (ck DL_law_17 42 rfl) ?_
  obtain ⟨b478, hf⟩ := gd_so hf
  refine r_sald 1300 rfl (inb_vp b478) (ck DL_law_17 43 rfl) ?_
  refine r_aload_n 1301 rfl 0 rfl rfl (ck DL_law_17 44 rfl) ?_
  refine r_iload_n 1302 rfl 3 rfl rfl (ck DL_law_17 45 rfl) ?_
  refine r_iconst 1303 rfl ic_4 (ck DL_law_17 46 rfl) ?_
  refine r_iadd 1304 rfl (ck DL_law_17 47 rfl) ?_
  obtain ⟨b479, hf⟩ := gd_so hf
  refine r_sald 1305 rfl (inb_vp b479) (ck DL_law_17 48 rfl) ?_
  refine r_aload_n 1306 rfl 0 rfl rfl (ck DL_law_17 49 rfl) ?_
  refine r_iload_n 1307 rfl 3 rfl rfl (ck DL_law_18 0 rfl) ?_
  refine r_iconst 1308 rfl ic_5 (ck DL_law_18 1 rfl) ?_
  refine r_iadd 1309 rfl (ck DL_law_18 2 rfl) ?_
  obtain ⟨b480, hf⟩ := gd_so hf
  refine r_sald 1310 rfl (inb_vp b480) (ck DL_law_18 3 rfl) ?_
  obtain ⟨v483, g481, e482, hf⟩ := bd_so hf
  refine r_callVi 1313 rfl (A_X6_shift X (X.2.2.2.2.2 (Int32.toNatClampNeg (x3 + 1))) (X.2.2.2.2.2 (Int32.toNatClampNeg (x3 + 2))) (X.2.2.2.2.2 (Int32.toNatClampNeg (x3 + 3))) (X.2.2.2.2.2 (Int32.toNatClampNeg (x3 + 4))) (X.2.2.2.2.2 (Int32.toNatClampNeg (x3 + 5))) h v483 g481 e482) (by omega) cw_L_170 sh_0 cl_6 rfl rfl (Nat.le_of_ble_eq_true rfl) (ck DL_law_18 4 rfl) ?_
  refine r_aload_n 1314 rfl 2 rfl rfl (ck DL_law_18 5 rfl) ?_
  refine r_aload_n 1315 rfl 0 rfl rfl (ck DL_law_18 6 rfl) ?_
  refine r_iload_n 1316 rfl 3 rfl rfl (ck DL_law_18 7 rfl) ?_
  refine r_iconst 1317 rfl ic_1 (ck DL_law_18 8 rfl) ?_
  refine r_iadd 1318 rfl (ck DL_law_18 9 rfl) ?_
  obtain ⟨b484, hf⟩ := gd_so hf
  refine r_sald 1319 rfl (inb_vp b484) (ck DL_law_18 10 rfl) ?_
  refine r_aload_n 1320 rfl 0 rfl rfl (ck DL_law_18 11 rfl) ?_
  refine r_iload_n 1321 rfl 3 rfl rfl (ck DL_law_18 12 rfl) ?_
  refine r_iconst 1322 rfl ic_2 (ck DL_law_18 13 rfl) ?_
  refine r_iadd 1323 rfl (ck DL_law_18 14 rfl) ?_
  obtain ⟨b485, hf⟩ := gd_so hf
  refine r_sald 1324 rfl (inb_vp b485) (ck DL_law_18 15 rfl) ?_
  refine r_aload_n 1325 rfl 0 rfl rfl (ck DL_law_18 16 rfl) ?_
  refine r_iload_n 1326 rfl 3 rfl rfl (ck DL_law_18 17 rfl) ?_
  refine r_iconst 1327 rfl ic_3 (ck DL_law_18 18 rfl) ?_
  refine r_iadd 1328 rfl (ck DL_law_18 19 rfl) ?_
  obtain ⟨b486, hf⟩ := gd_so hf
  refine r_sald 1329 rfl (inb_vp b486) (ck DL_law_18 20 rfl) ?_
  refine r_aload_n 1330 rfl 0 rfl rfl (ck DL_law_18 21 rfl) ?_
  refine r_iload_n 1331 rfl 3 rfl rfl (ck DL_law_18 22 rfl) ?_
  refine r_iconst 1332 rfl ic_4 (ck DL_law_18 23 rfl) ?_
  refine r_iadd 1333 rfl (ck DL_law_18 24 rfl) ?_
  obtain ⟨b487, hf⟩ := gd_so hf
  refine r_sald 1334 rfl (inb_vp b487) (ck DL_law_18 25 rfl) ?_
  refine r_aload_n 1335 rfl 0 rfl rfl (ck DL_law_18 26 rfl) ?_
  refine r_iload_n 1336 rfl 3 rfl rfl (ck DL_law_18 27 rfl) ?_
  refine r_iconst 1337 rfl ic_5 (ck DL_law_18 28 rfl) ?_
  refine r_iadd 1338 rfl (ck DL_law_18 29 rfl) ?_
  obtain ⟨b488, hf⟩ := gd_so hf
  refine r_sald 1339 rfl (inb_vp b488) (ck DL_law_18 30 rfl) ?_
  obtain ⟨v491, g489, e490, hf⟩ := bd_so hf
  refine r_callVi 1342 rfl (A_X7_shift X (X.2.2.2.2.2 (Int32.toNatClampNeg (x3 + 1))) (X.2.2.2.2.2 (Int32.toNatClampNeg (x3 + 2))) (X.2.2.2.2.2 (Int32.toNatClampNeg (x3 + 3))) (X.2.2.2.2.2 (Int32.toNatClampNeg (x3 + 4))) (X.2.2.2.2.2 (Int32.toNatClampNeg (x3 + 5))) g481 v491 g489 e490) (by omega) cw_L_174 sh_96 cl_7 rfl rfl (Nat.le_of_ble_eq_true rfl) (ck DL_law_18 31 rfl) ?_
  rcases if_so hf with ⟨c492, hf⟩ | ⟨c492, hf⟩
  · refine r_icmp_eq_t 1347 (ck DL_law_18 32 rfl) (by decide) c492 ?_
    obtain ⟨v493, e494, hf⟩ := lt_so hf
    refine r_iinc (lv' := [(3, .int v493), (0, .ref (X.2.2.2.1 6)), (1, .ref (X.1 0)), (2, .ref (X.1 96))]) 1350 rfl 3 (ck DL_law_18 35 rfl) rfl (by rw [e494, ic_6]) (by decide) rfl ?_
    refine r_goto 18 (ck DL_law_18 36 rfl) (by decide) ?_
    refine r_sub (lv' := [(0, .ref (X.2.2.2.1 6)), (1, .ref (X.1 0)), (2, .ref (X.1 96)), (3, .int v493)]) [1, 2, 3, 0] rfl ?_
    exact hr18 v493 g489 hf
  · refine r_icmp_eq_f 1345 rfl 1347 (ck DL_law_18 32 rfl) (by decide) c492 ?_
    refine r_iconst 1346 rfl ic_0 (ck DL_law_18 33 rfl) ?_
    obtain ⟨rfl, rfl⟩ := so2 hf
    exact r_iret rfl rfl (ck DL_law_18 34 rfl)
def f_L_law_L18 (L : Nat) (xs : Nat → Int32) : Nat → Int32 → HP → Option (Int32 × HP)
  | 0, _, _ => none
  | n + 1, x3, h => if ((Int32.ofNat L) - 6) < x3 then (some (1, h)) else (gd (inb x3 L) (lt (((xs (Int32.toNatClampNeg x3)) &&& 63) : Int32) fun v3 => if v3 = 0 then (f_L_law_J200 L xs (fun z0 z1 => f_L_law_L18 L xs n z0 z1) x3 h) else (if v3 = 1 then (f_L_law_J243 L xs (fun z0 z1 => f_L_law_L18 L xs n z0 z1) x3 h) else (if v3 = 2 then (f_L_law_J276 L xs (fun z0 z1 => f_L_law_L18 L xs n z0 z1) x3 h) else (if v3 = 3 then (f_L_law_J319 L xs (fun z0 z1 => f_L_law_L18 L xs n z0 z1) x3 h) else (if v3 = 4 then (f_L_law_J362 L xs (fun z0 z1 => f_L_law_L18 L xs n z0 z1) x3 h) else (if v3 = 5 then (f_L_law_J385 L xs (fun z0 z1 => f_L_law_L18 L xs n z0 z1) x3 h) else (if v3 = 6 then (f_L_law_J408 L xs (fun z0 z1 => f_L_law_L18 L xs n z0 z1) x3 h) else (if v3 = 7 then (f_L_law_J441 L xs (fun z0 z1 => f_L_law_L18 L xs n z0 z1) x3 h) else (if v3 = 8 then (f_L_law_J464 L xs (fun z0 z1 => f_L_law_L18 L xs n z0 z1) x3 h) else (if v3 = 9 then (f_L_law_J477 L xs (fun z0 z1 => f_L_law_L18 L xs n z0 z1) x3 h) else (if v3 = 10 then (f_L_law_J500 L xs (fun z0 z1 => f_L_law_L18 L xs n z0 z1) x3 h) else (if v3 = 11 then (f_L_law_J523 L xs (fun z0 z1 => f_L_law_L18 L xs n z0 z1) x3 h) else (if v3 = 12 then (f_L_law_J556 L xs (fun z0 z1 => f_L_law_L18 L xs n z0 z1) x3 h) else (if v3 = 13 then (f_L_law_J579 L xs (fun z0 z1 => f_L_law_L18 L xs n z0 z1) x3 h) else (if v3 = 14 then (f_L_law_J602 L xs (fun z0 z1 => f_L_law_L18 L xs n z0 z1) x3 h) else (if v3 = 15 then (f_L_law_J615 L xs (fun z0 z1 => f_L_law_L18 L xs n z0 z1) x3 h) else (if v3 = 16 then (f_L_law_J638 L xs (fun z0 z1 => f_L_law_L18 L xs n z0 z1) x3 h) else (if v3 = 17 then (f_L_law_J671 L xs (fun z0 z1 => f_L_law_L18 L xs n z0 z1) x3 h) else (if v3 = 18 then (f_L_law_J694 L xs (fun z0 z1 => f_L_law_L18 L xs n z0 z1) x3 h) else (if v3 = 19 then (f_L_law_J727 L xs (fun z0 z1 => f_L_law_L18 L xs n z0 z1) x3 h) else (if v3 = 20 then (f_L_law_J760 L xs (fun z0 z1 => f_L_law_L18 L xs n z0 z1) x3 h) else (if v3 = 21 then (f_L_law_J793 L xs (fun z0 z1 => f_L_law_L18 L xs n z0 z1) x3 h) else (if v3 = 22 then (f_L_law_J827 L xs (fun z0 z1 => f_L_law_L18 L xs n z0 z1) x3 h) else (if v3 = 23 then (f_L_law_J851 L xs (fun z0 z1 => f_L_law_L18 L xs n z0 z1) x3 h) else (if v3 = 24 then (f_L_law_J884 L xs (fun z0 z1 => f_L_law_L18 L xs n z0 z1) x3 h) else (if v3 = 25 then (f_L_law_J907 L xs (fun z0 z1 => f_L_law_L18 L xs n z0 z1) x3 h) else (if v3 = 26 then (f_L_law_J940 L xs (fun z0 z1 => f_L_law_L18 L xs n z0 z1) x3 h) else (if v3 = 27 then (f_L_law_J953 L xs (fun z0 z1 => f_L_law_L18 L xs n z0 z1) x3 h) else (if v3 = 28 then (f_L_law_J986 L xs (fun z0 z1 => f_L_law_L18 L xs n z0 z1) x3 h) else (if v3 = 29 then (f_L_law_J999 L xs (fun z0 z1 => f_L_law_L18 L xs n z0 z1) x3 h) else (if v3 = 30 then (f_L_law_J1012 L xs (fun z0 z1 => f_L_law_L18 L xs n z0 z1) x3 h) else (if v3 = 31 then (f_L_law_J1055 L xs (fun z0 z1 => f_L_law_L18 L xs n z0 z1) x3 h) else (if v3 = 32 then (f_L_law_J1078 L xs (fun z0 z1 => f_L_law_L18 L xs n z0 z1) x3 h) else (if v3 = 33 then (f_L_law_J1111 L xs (fun z0 z1 => f_L_law_L18 L xs n z0 z1) x3 h) else (if v3 = 34 then (f_L_law_J1134 L xs (fun z0 z1 => f_L_law_L18 L xs n z0 z1) x3 h) else (if v3 = 35 then (f_L_law_J1177 L xs (fun z0 z1 => f_L_law_L18 L xs n z0 z1) x3 h) else (if v3 = 36 then (f_L_law_J1250 L xs (fun z0 z1 => f_L_law_L18 L xs n z0 z1) x3 h) else (if v3 = 37 then (f_L_law_J1284 L xs (fun z0 z1 => f_L_law_L18 L xs n z0 z1) x3 h) else ((lt (x3 + 6 : Int32) fun v495 => f_L_law_L18 L xs n v495 h)))))))))))))))))))))))))))))))))))))))))
set_option maxHeartbeats 4000000 in
set_option maxRecDepth 100000 in
theorem A_L_law_L18 (X : XE) (r : Int32) (h' : HP) : ∀ (n : Nat) (x3 : Int32) (h : HP), f_L_law_L18 X.2.2.2.2.1 X.2.2.2.2.2 n x3 h = some (r, h') → Run mL_law 103 X 18 [(0, .ref (X.2.2.2.1 6)), (1, .ref (X.1 0)), (2, .ref (X.1 96)), (3, .int x3)] [] h (some (.int r)) h' := by
  intro n
  induction n with
  | zero => intro x3 h hf; cases hf
  | succ n ih =>
    intro x3 h hf
    rw [f_L_law_L18] at hf
    refine r_iload_n 19 rfl 3 rfl rfl (ck DL_law_0 10 rfl) ?_
    refine r_aload_n 20 rfl 0 rfl rfl (ck DL_law_0 11 rfl) ?_
    refine r_slen 21 rfl rfl (ck DL_law_0 12 rfl) ?_
    refine r_bipush 23 rfl bp_6 (ck DL_law_0 13 rfl) ?_
    refine r_isub 24 rfl (ck DL_law_0 14 rfl) ?_
    rcases if_so hf with ⟨c1, hf⟩ | ⟨c1, hf⟩
    · refine r_icmp_gt_t 1353 (ck DL_law_0 15 rfl) (by decide) c1 ?_
      refine r_iconst 1354 rfl ic_1 (ck DL_law_18 37 rfl) ?_
      obtain ⟨rfl, rfl⟩ := so2 hf
      exact r_iret rfl rfl (ck DL_law_18 38 rfl)
    · refine r_icmp_gt_f 27 rfl 1353 (ck DL_law_0 15 rfl) (by decide) c1 ?_
      refine r_aload_n 28 rfl 0 rfl rfl (ck DL_law_0 16 rfl) ?_
      refine r_iload_n 29 rfl 3 rfl rfl (ck DL_law_0 17 rfl) ?_
      obtain ⟨b2, hf⟩ := gd_so hf
      refine r_sald 30 rfl (inb_vp b2) (ck DL_law_0 18 rfl) ?_
      refine r_bipush 32 rfl bp_63 (ck DL_law_0 19 rfl) ?_
      refine r_iand 33 rfl (ck DL_law_0 20 rfl) ?_
      obtain ⟨v3, e4, hf⟩ := lt_so hf
      refine r_top e4 ?_
      rcases if_so hf with ⟨c5, hf⟩ | ⟨c5, hf⟩
      · refine r_tsw_in (v := 0) 200 (ck DL_law_0 21 rfl) c5 (by decide) (by decide) rfl (by decide) ?_
        refine r_sub (lv' := [(0, .ref (X.2.2.2.1 6)), (1, .ref (X.1 0)), (2, .ref (X.1 96)), (3, .int x3)]) [0, 1, 2, 3] rfl ?_
        exact A_L_law_J200 X (fun z0 z1 => f_L_law_L18 X.2.2.2.2.1 X.2.2.2.2.2 n z0 z1) _ _ ih x3 h hf
      · skip
        rcases if_so hf with ⟨c21, hf⟩ | ⟨c21, hf⟩
        · refine r_tsw_in (v := 1) 243 (ck DL_law_0 21 rfl) c21 (by decide) (by decide) rfl (by decide) ?_
          refine r_sub (lv' := [(0, .ref (X.2.2.2.1 6)), (1, .ref (X.1 0)), (2, .ref (X.1 96)), (3, .int x3)]) [0, 1, 2, 3] rfl ?_
          exact A_L_law_J243 X (fun z0 z1 => f_L_law_L18 X.2.2.2.2.1 X.2.2.2.2.2 n z0 z1) _ _ ih x3 h hf
        · skip
          rcases if_so hf with ⟨c35, hf⟩ | ⟨c35, hf⟩
          · refine r_tsw_in (v := 2) 276 (ck DL_law_0 21 rfl) c35 (by decide) (by decide) rfl (by decide) ?_
            refine r_sub (lv' := [(0, .ref (X.2.2.2.1 6)), (1, .ref (X.1 0)), (2, .ref (X.1 96)), (3, .int x3)]) [0, 1, 2, 3] rfl ?_
            exact A_L_law_J276 X (fun z0 z1 => f_L_law_L18 X.2.2.2.2.1 X.2.2.2.2.2 n z0 z1) _ _ ih x3 h hf
          · skip
            rcases if_so hf with ⟨c51, hf⟩ | ⟨c51, hf⟩
            · refine r_tsw_in (v := 3) 319 (ck DL_law_0 21 rfl) c51 (by decide) (by decide) rfl (by decide) ?_
              refine r_sub (lv' := [(0, .ref (X.2.2.2.1 6)), (1, .ref (X.1 0)), (2, .ref (X.1 96)), (3, .int x3)]) [0, 1, 2, 3] rfl ?_
              exact A_L_law_J319 X (fun z0 z1 => f_L_law_L18 X.2.2.2.2.1 X.2.2.2.2.2 n z0 z1) _ _ ih x3 h hf
            · skip
              rcases if_so hf with ⟨c67, hf⟩ | ⟨c67, hf⟩
              · refine r_tsw_in (v := 4) 362 (ck DL_law_0 21 rfl) c67 (by decide) (by decide) rfl (by decide) ?_
                refine r_sub (lv' := [(0, .ref (X.2.2.2.1 6)), (1, .ref (X.1 0)), (2, .ref (X.1 96)), (3, .int x3)]) [0, 1, 2, 3] rfl ?_
                exact A_L_law_J362 X (fun z0 z1 => f_L_law_L18 X.2.2.2.2.1 X.2.2.2.2.2 n z0 z1) _ _ ih x3 h hf
              · skip
                rcases if_so hf with ⟨c79, hf⟩ | ⟨c79, hf⟩
                · refine r_tsw_in (v := 5) 385 (ck DL_law_0 21 rfl) c79 (by decide) (by decide) rfl (by decide) ?_
                  refine r_sub (lv' := [(0, .ref (X.2.2.2.1 6)), (1, .ref (X.1 0)), (2, .ref (X.1 96)), (3, .int x3)]) [0, 1, 2, 3] rfl ?_
                  exact A_L_law_J385 X (fun z0 z1 => f_L_law_L18 X.2.2.2.2.1 X.2.2.2.2.2 n z0 z1) _ _ ih x3 h hf
                · skip
                  rcases if_so hf with ⟨c91, hf⟩ | ⟨c91, hf⟩
                  · refine r_tsw_in (v := 6) 408 (ck DL_law_0 21 rfl) c91 (by decide) (by decide) rfl (by decide) ?_
                    refine r_sub (lv' := [(0, .ref (X.2.2.2.1 6)), (1, .ref (X.1 0)), (2, .ref (X.1 96)), (3, .int x3)]) [0, 1, 2, 3] rfl ?_
                    exact A_L_law_J408 X (fun z0 z1 => f_L_law_L18 X.2.2.2.2.1 X.2.2.2.2.2 n z0 z1) _ _ ih x3 h hf
                  · skip
                    rcases if_so hf with ⟨c105, hf⟩ | ⟨c105, hf⟩
                    · refine r_tsw_in (v := 7) 441 (ck DL_law_0 21 rfl) c105 (by decide) (by decide) rfl (by decide) ?_
                      refine r_sub (lv' := [(0, .ref (X.2.2.2.1 6)), (1, .ref (X.1 0)), (2, .ref (X.1 96)), (3, .int x3)]) [0, 1, 2, 3] rfl ?_
                      exact A_L_law_J441 X (fun z0 z1 => f_L_law_L18 X.2.2.2.2.1 X.2.2.2.2.2 n z0 z1) _ _ ih x3 h hf
                    · skip
                      rcases if_so hf with ⟨c117, hf⟩ | ⟨c117, hf⟩
                      · refine r_tsw_in (v := 8) 464 (ck DL_law_0 21 rfl) c117 (by decide) (by decide) rfl (by decide) ?_
                        refine r_sub (lv' := [(0, .ref (X.2.2.2.1 6)), (1, .ref (X.1 0)), (2, .ref (X.1 96)), (3, .int x3)]) [0, 1, 2, 3] rfl ?_
                        exact A_L_law_J464 X (fun z0 z1 => f_L_law_L18 X.2.2.2.2.1 X.2.2.2.2.2 n z0 z1) _ _ ih x3 h hf
                      · skip
                        rcases if_so hf with ⟨c127, hf⟩ | ⟨c127, hf⟩
                        · refine r_tsw_in (v := 9) 477 (ck DL_law_0 21 rfl) c127 (by decide) (by decide) rfl (by decide) ?_
                          refine r_sub (lv' := [(0, .ref (X.2.2.2.1 6)), (1, .ref (X.1 0)), (2, .ref (X.1 96)), (3, .int x3)]) [0, 1, 2, 3] rfl ?_
                          exact A_L_law_J477 X (fun z0 z1 => f_L_law_L18 X.2.2.2.2.1 X.2.2.2.2.2 n z0 z1) _ _ ih x3 h hf
                        · skip
                          rcases if_so hf with ⟨c137, hf⟩ | ⟨c137, hf⟩
                          · refine r_tsw_in (v := 10) 500 (ck DL_law_0 21 rfl) c137 (by decide) (by decide) rfl (by decide) ?_
                            refine r_sub (lv' := [(0, .ref (X.2.2.2.1 6)), (1, .ref (X.1 0)), (2, .ref (X.1 96)), (3, .int x3)]) [0, 1, 2, 3] rfl ?_
                            exact A_L_law_J500 X (fun z0 z1 => f_L_law_L18 X.2.2.2.2.1 X.2.2.2.2.2 n z0 z1) _ _ ih x3 h hf
                          · skip
                            rcases if_so hf with ⟨c149, hf⟩ | ⟨c149, hf⟩
                            · refine r_tsw_in (v := 11) 523 (ck DL_law_0 21 rfl) c149 (by decide) (by decide) rfl (by decide) ?_
                              refine r_sub (lv' := [(0, .ref (X.2.2.2.1 6)), (1, .ref (X.1 0)), (2, .ref (X.1 96)), (3, .int x3)]) [0, 1, 2, 3] rfl ?_
                              exact A_L_law_J523 X (fun z0 z1 => f_L_law_L18 X.2.2.2.2.1 X.2.2.2.2.2 n z0 z1) _ _ ih x3 h hf
                            · skip
                              rcases if_so hf with ⟨c163, hf⟩ | ⟨c163, hf⟩
                              · refine r_tsw_in (v := 12) 556 (ck DL_law_0 21 rfl) c163 (by decide) (by decide) rfl (by decide) ?_
                                refine r_sub (lv' := [(0, .ref (X.2.2.2.1 6)), (1, .ref (X.1 0)), (2, .ref (X.1 96)), (3, .int x3)]) [0, 1, 2, 3] rfl ?_
                                exact A_L_law_J556 X (fun z0 z1 => f_L_law_L18 X.2.2.2.2.1 X.2.2.2.2.2 n z0 z1) _ _ ih x3 h hf
                              · skip
                                rcases if_so hf with ⟨c175, hf⟩ | ⟨c175, hf⟩
                                · refine r_tsw_in (v := 13) 579 (ck DL_law_0 21 rfl) c175 (by decide) (by decide) rfl (by decide) ?_
                                  refine r_sub (lv' := [(0, .ref (X.2.2.2.1 6)), (1, .ref (X.1 0)), (2, .ref (X.1 96)), (3, .int x3)]) [0, 1, 2, 3] rfl ?_
                                  exact A_L_law_J579 X (fun z0 z1 => f_L_law_L18 X.2.2.2.2.1 X.2.2.2.2.2 n z0 z1) _ _ ih x3 h hf
                                · skip
                                  rcases if_so hf with ⟨c187, hf⟩ | ⟨c187, hf⟩
                                  · refine r_tsw_in (v := 14) 602 (ck DL_law_0 21 rfl) c187 (by decide) (by decide) rfl (by decide) ?_
                                    refine r_sub (lv' := [(0, .ref (X.2.2.2.1 6)), (1, .ref (X.1 0)), (2, .ref (X.1 96)), (3, .int x3)]) [0, 1, 2, 3] rfl ?_
                                    exact A_L_law_J602 X (fun z0 z1 => f_L_law_L18 X.2.2.2.2.1 X.2.2.2.2.2 n z0 z1) _ _ ih x3 h hf
                                  · skip
                                    rcases if_so hf with ⟨c197, hf⟩ | ⟨c197, hf⟩
                                    · refine r_tsw_in (v := 15) 615 (ck DL_law_0 21 rfl) c197 (by decide) (by decide) rfl (by decide) ?_
                                      refine r_sub (lv' := [(0, .ref (X.2.2.2.1 6)), (1, .ref (X.1 0)), (2, .ref (X.1 96)), (3, .int x3)]) [0, 1, 2, 3] rfl ?_
                                      exact A_L_law_J615 X (fun z0 z1 => f_L_law_L18 X.2.2.2.2.1 X.2.2.2.2.2 n z0 z1) _ _ ih x3 h hf
                                    · skip
                                      rcases if_so hf with ⟨c209, hf⟩ | ⟨c209, hf⟩
                                      · refine r_tsw_in (v := 16) 638 (ck DL_law_0 21 rfl) c209 (by decide) (by decide) rfl (by decide) ?_
                                        refine r_sub (lv' := [(0, .ref (X.2.2.2.1 6)), (1, .ref (X.1 0)), (2, .ref (X.1 96)), (3, .int x3)]) [0, 1, 2, 3] rfl ?_
                                        exact A_L_law_J638 X (fun z0 z1 => f_L_law_L18 X.2.2.2.2.1 X.2.2.2.2.2 n z0 z1) _ _ ih x3 h hf
                                      · skip
                                        rcases if_so hf with ⟨c223, hf⟩ | ⟨c223, hf⟩
                                        · refine r_tsw_in (v := 17) 671 (ck DL_law_0 21 rfl) c223 (by decide) (by decide) rfl (by decide) ?_
                                          refine r_sub (lv' := [(0, .ref (X.2.2.2.1 6)), (1, .ref (X.1 0)), (2, .ref (X.1 96)), (3, .int x3)]) [0, 1, 2, 3] rfl ?_
                                          exact A_L_law_J671 X (fun z0 z1 => f_L_law_L18 X.2.2.2.2.1 X.2.2.2.2.2 n z0 z1) _ _ ih x3 h hf
                                        · skip
                                          rcases if_so hf with ⟨c235, hf⟩ | ⟨c235, hf⟩
                                          · refine r_tsw_in (v := 18) 694 (ck DL_law_0 21 rfl) c235 (by decide) (by decide) rfl (by decide) ?_
                                            refine r_sub (lv' := [(0, .ref (X.2.2.2.1 6)), (1, .ref (X.1 0)), (2, .ref (X.1 96)), (3, .int x3)]) [0, 1, 2, 3] rfl ?_
                                            exact A_L_law_J694 X (fun z0 z1 => f_L_law_L18 X.2.2.2.2.1 X.2.2.2.2.2 n z0 z1) _ _ ih x3 h hf
                                          · skip
                                            rcases if_so hf with ⟨c249, hf⟩ | ⟨c249, hf⟩
                                            · refine r_tsw_in (v := 19) 727 (ck DL_law_0 21 rfl) c249 (by decide) (by decide) rfl (by decide) ?_
                                              refine r_sub (lv' := [(0, .ref (X.2.2.2.1 6)), (1, .ref (X.1 0)), (2, .ref (X.1 96)), (3, .int x3)]) [0, 1, 2, 3] rfl ?_
                                              exact A_L_law_J727 X (fun z0 z1 => f_L_law_L18 X.2.2.2.2.1 X.2.2.2.2.2 n z0 z1) _ _ ih x3 h hf
                                            · skip
                                              rcases if_so hf with ⟨c263, hf⟩ | ⟨c263, hf⟩
                                              · refine r_tsw_in (v := 20) 760 (ck DL_law_0 21 rfl) c263 (by decide) (by decide) rfl (by decide) ?_
                                                refine r_sub (lv' := [(0, .ref (X.2.2.2.1 6)), (1, .ref (X.1 0)), (2, .ref (X.1 96)), (3, .int x3)]) [0, 1, 2, 3] rfl ?_
                                                exact A_L_law_J760 X (fun z0 z1 => f_L_law_L18 X.2.2.2.2.1 X.2.2.2.2.2 n z0 z1) _ _ ih x3 h hf
                                              · skip
                                                rcases if_so hf with ⟨c277, hf⟩ | ⟨c277, hf⟩
                                                · refine r_tsw_in (v := 21) 793 (ck DL_law_0 21 rfl) c277 (by decide) (by decide) rfl (by decide) ?_
                                                  refine r_sub (lv' := [(0, .ref (X.2.2.2.1 6)), (1, .ref (X.1 0)), (2, .ref (X.1 96)), (3, .int x3)]) [0, 1, 2, 3] rfl ?_
                                                  exact A_L_law_J793 X (fun z0 z1 => f_L_law_L18 X.2.2.2.2.1 X.2.2.2.2.2 n z0 z1) _ _ ih x3 h hf
                                                · skip
                                                  rcases if_so hf with ⟨c291, hf⟩ | ⟨c291, hf⟩
                                                  · refine r_tsw_in (v := 22) 827 (ck DL_law_0 21 rfl) c291 (by decide) (by decide) rfl (by decide) ?_
                                                    refine r_sub (lv' := [(0, .ref (X.2.2.2.1 6)), (1, .ref (X.1 0)), (2, .ref (X.1 96)), (3, .int x3)]) [0, 1, 2, 3] rfl ?_
                                                    exact A_L_law_J827 X (fun z0 z1 => f_L_law_L18 X.2.2.2.2.1 X.2.2.2.2.2 n z0 z1) _ _ ih x3 h hf
                                                  · skip
                                                    rcases if_so hf with ⟨c301, hf⟩ | ⟨c301, hf⟩
                                                    · refine r_tsw_in (v := 23) 851 (ck DL_law_0 21 rfl) c301 (by decide) (by decide) rfl (by decide) ?_
                                                      refine r_sub (lv' := [(0, .ref (X.2.2.2.1 6)), (1, .ref (X.1 0)), (2, .ref (X.1 96)), (3, .int x3)]) [0, 1, 2, 3] rfl ?_
                                                      exact A_L_law_J851 X (fun z0 z1 => f_L_law_L18 X.2.2.2.2.1 X.2.2.2.2.2 n z0 z1) _ _ ih x3 h hf
                                                    · skip
                                                      rcases if_so hf with ⟨c315, hf⟩ | ⟨c315, hf⟩
                                                      · refine r_tsw_in (v := 24) 884 (ck DL_law_0 21 rfl) c315 (by decide) (by decide) rfl (by decide) ?_
                                                        refine r_sub (lv' := [(0, .ref (X.2.2.2.1 6)), (1, .ref (X.1 0)), (2, .ref (X.1 96)), (3, .int x3)]) [0, 1, 2, 3] rfl ?_
                                                        exact A_L_law_J884 X (fun z0 z1 => f_L_law_L18 X.2.2.2.2.1 X.2.2.2.2.2 n z0 z1) _ _ ih x3 h hf
                                                      · skip
                                                        rcases if_so hf with ⟨c327, hf⟩ | ⟨c327, hf⟩
                                                        · refine r_tsw_in (v := 25) 907 (ck DL_law_0 21 rfl) c327 (by decide) (by decide) rfl (by decide) ?_
                                                          refine r_sub (lv' := [(0, .ref (X.2.2.2.1 6)), (1, .ref (X.1 0)), (2, .ref (X.1 96)), (3, .int x3)]) [0, 1, 2, 3] rfl ?_
                                                          exact A_L_law_J907 X (fun z0 z1 => f_L_law_L18 X.2.2.2.2.1 X.2.2.2.2.2 n z0 z1) _ _ ih x3 h hf
                                                        · skip
                                                          rcases if_so hf with ⟨c341, hf⟩ | ⟨c341, hf⟩
                                                          · refine r_tsw_in (v := 26) 940 (ck DL_law_0 21 rfl) c341 (by decide) (by decide) rfl (by decide) ?_
                                                            refine r_sub (lv' := [(0, .ref (X.2.2.2.1 6)), (1, .ref (X.1 0)), (2, .ref (X.1 96)), (3, .int x3)]) [0, 1, 2, 3] rfl ?_
                                                            exact A_L_law_J940 X (fun z0 z1 => f_L_law_L18 X.2.2.2.2.1 X.2.2.2.2.2 n z0 z1) _ _ ih x3 h hf
                                                          · skip
                                                            rcases if_so hf with ⟨c349, hf⟩ | ⟨c349, hf⟩
                                                            · refine r_tsw_in (v := 27) 953 (ck DL_law_0 21 rfl) c349 (by decide) (by decide) rfl (by decide) ?_
                                                              refine r_sub (lv' := [(0, .ref (X.2.2.2.1 6)), (1, .ref (X.1 0)), (2, .ref (X.1 96)), (3, .int x3)]) [0, 1, 2, 3] rfl ?_
                                                              exact A_L_law_J953 X (fun z0 z1 => f_L_law_L18 X.2.2.2.2.1 X.2.2.2.2.2 n z0 z1) _ _ ih x3 h hf
                                                            · skip
                                                              rcases if_so hf with ⟨c361, hf⟩ | ⟨c361, hf⟩
                                                              · refine r_tsw_in (v := 28) 986 (ck DL_law_0 21 rfl) c361 (by decide) (by decide) rfl (by decide) ?_
                                                                refine r_sub (lv' := [(0, .ref (X.2.2.2.1 6)), (1, .ref (X.1 0)), (2, .ref (X.1 96)), (3, .int x3)]) [0, 1, 2, 3] rfl ?_
                                                                exact A_L_law_J986 X (fun z0 z1 => f_L_law_L18 X.2.2.2.2.1 X.2.2.2.2.2 n z0 z1) _ _ ih x3 h hf
                                                              · skip
                                                                rcases if_so hf with ⟨c371, hf⟩ | ⟨c371, hf⟩
                                                                · refine r_tsw_in (v := 29) 999 (ck DL_law_0 21 rfl) c371 (by decide) (by decide) rfl (by decide) ?_
                                                                  refine r_sub (lv' := [(0, .ref (X.2.2.2.1 6)), (1, .ref (X.1 0)), (2, .ref (X.1 96)), (3, .int x3)]) [0, 1, 2, 3] rfl ?_
                                                                  exact A_L_law_J999 X (fun z0 z1 => f_L_law_L18 X.2.2.2.2.1 X.2.2.2.2.2 n z0 z1) _ _ ih x3 h hf
                                                                · skip
                                                                  rcases if_so hf with ⟨c381, hf⟩ | ⟨c381, hf⟩
                                                                  · refine r_tsw_in (v := 30) 1012 (ck DL_law_0 21 rfl) c381 (by decide) (by decide) rfl (by decide) ?_
                                                                    refine r_sub (lv' := [(0, .ref (X.2.2.2.1 6)), (1, .ref (X.1 0)), (2, .ref (X.1 96)), (3, .int x3)]) [0, 1, 2, 3] rfl ?_
                                                                    exact A_L_law_J1012 X (fun z0 z1 => f_L_law_L18 X.2.2.2.2.1 X.2.2.2.2.2 n z0 z1) _ _ ih x3 h hf
                                                                  · skip
                                                                    rcases if_so hf with ⟨c397, hf⟩ | ⟨c397, hf⟩
                                                                    · refine r_tsw_in (v := 31) 1055 (ck DL_law_0 21 rfl) c397 (by decide) (by decide) rfl (by decide) ?_
                                                                      refine r_sub (lv' := [(0, .ref (X.2.2.2.1 6)), (1, .ref (X.1 0)), (2, .ref (X.1 96)), (3, .int x3)]) [0, 1, 2, 3] rfl ?_
                                                                      exact A_L_law_J1055 X (fun z0 z1 => f_L_law_L18 X.2.2.2.2.1 X.2.2.2.2.2 n z0 z1) _ _ ih x3 h hf
                                                                    · skip
                                                                      rcases if_so hf with ⟨c407, hf⟩ | ⟨c407, hf⟩
                                                                      · refine r_tsw_in (v := 32) 1078 (ck DL_law_0 21 rfl) c407 (by decide) (by decide) rfl (by decide) ?_
                                                                        refine r_sub (lv' := [(0, .ref (X.2.2.2.1 6)), (1, .ref (X.1 0)), (2, .ref (X.1 96)), (3, .int x3)]) [0, 1, 2, 3] rfl ?_
                                                                        exact A_L_law_J1078 X (fun z0 z1 => f_L_law_L18 X.2.2.2.2.1 X.2.2.2.2.2 n z0 z1) _ _ ih x3 h hf
                                                                      · skip
                                                                        rcases if_so hf with ⟨c419, hf⟩ | ⟨c419, hf⟩
                                                                        · refine r_tsw_in (v := 33) 1111 (ck DL_law_0 21 rfl) c419 (by decide) (by decide) rfl (by decide) ?_
                                                                          refine r_sub (lv' := [(0, .ref (X.2.2.2.1 6)), (1, .ref (X.1 0)), (2, .ref (X.1 96)), (3, .int x3)]) [0, 1, 2, 3] rfl ?_
                                                                          exact A_L_law_J1111 X (fun z0 z1 => f_L_law_L18 X.2.2.2.2.1 X.2.2.2.2.2 n z0 z1) _ _ ih x3 h hf
                                                                        · skip
                                                                          rcases if_so hf with ⟨c429, hf⟩ | ⟨c429, hf⟩
                                                                          · refine r_tsw_in (v := 34) 1134 (ck DL_law_0 21 rfl) c429 (by decide) (by decide) rfl (by decide) ?_
                                                                            refine r_sub (lv' := [(0, .ref (X.2.2.2.1 6)), (1, .ref (X.1 0)), (2, .ref (X.1 96)), (3, .int x3)]) [0, 1, 2, 3] rfl ?_
                                                                            exact A_L_law_J1134 X (fun z0 z1 => f_L_law_L18 X.2.2.2.2.1 X.2.2.2.2.2 n z0 z1) _ _ ih x3 h hf
                                                                          · skip
                                                                            rcases if_so hf with ⟨c445, hf⟩ | ⟨c445, hf⟩
                                                                            · refine r_tsw_in (v := 35) 1177 (ck DL_law_0 21 rfl) c445 (by decide) (by decide) rfl (by decide) ?_
                                                                              refine r_sub (lv' := [(0, .ref (X.2.2.2.1 6)), (1, .ref (X.1 0)), (2, .ref (X.1 96)), (3, .int x3)]) [0, 1, 2, 3] rfl ?_
                                                                              exact A_L_law_J1177 X (fun z0 z1 => f_L_law_L18 X.2.2.2.2.1 X.2.2.2.2.2 n z0 z1) _ _ ih x3 h hf
                                                                            · skip
                                                                              rcases if_so hf with ⟨c463, hf⟩ | ⟨c463, hf⟩
                                                                              · refine r_tsw_in (v := 36) 1250 (ck DL_law_0 21 rfl) c463 (by decide) (by decide) rfl (by decide) ?_
                                                                                refine r_sub (lv' := [(0, .ref (X.2.2.2.1 6)), (1, .ref (X.1 0)), (2, .ref (X.1 96)), (3, .int x3)]) [0, 1, 2, 3] rfl ?_
                                                                                exact A_L_law_J1250 X (fun z0 z1 => f_L_law_L18 X.2.2.2.2.1 X.2.2.2.2.2 n z0 z1) _ _ ih x3 h hf
                                                                              · skip
                                                                                rcases if_so hf with ⟨c475, hf⟩ | ⟨c475, hf⟩
                                                                                · refine r_tsw_in (v := 37) 1284 (ck DL_law_0 21 rfl) c475 (by decide) (by decide) rfl (by decide) ?_
                                                                                  refine r_sub (lv' := [(0, .ref (X.2.2.2.1 6)), (1, .ref (X.1 0)), (2, .ref (X.1 96)), (3, .int x3)]) [0, 1, 2, 3] rfl ?_
                                                                                  exact A_L_law_J1284 X (fun z0 z1 => f_L_law_L18 X.2.2.2.2.1 X.2.2.2.2.2 n z0 z1) _ _ ih x3 h hf
                                                                                · skip
                                                                                  have hx9 : v3.toInt < 0 ∨ (37 : Int) < v3.toInt := by
                                                                                    have h8 := tsw_o (x := v3) 0 38 (fun k hk => by
                                                                                      match k, hk with
                                                                                      | 0, _ => exact ne_int c5
                                                                                      | 1, _ => exact ne_int c21
                                                                                      | 2, _ => exact ne_int c35
                                                                                      | 3, _ => exact ne_int c51
                                                                                      | 4, _ => exact ne_int c67
                                                                                      | 5, _ => exact ne_int c79
                                                                                      | 6, _ => exact ne_int c91
                                                                                      | 7, _ => exact ne_int c105
                                                                                      | 8, _ => exact ne_int c117
                                                                                      | 9, _ => exact ne_int c127
                                                                                      | 10, _ => exact ne_int c137
                                                                                      | 11, _ => exact ne_int c149
                                                                                      | 12, _ => exact ne_int c163
                                                                                      | 13, _ => exact ne_int c175
                                                                                      | 14, _ => exact ne_int c187
                                                                                      | 15, _ => exact ne_int c197
                                                                                      | 16, _ => exact ne_int c209
                                                                                      | 17, _ => exact ne_int c223
                                                                                      | 18, _ => exact ne_int c235
                                                                                      | 19, _ => exact ne_int c249
                                                                                      | 20, _ => exact ne_int c263
                                                                                      | 21, _ => exact ne_int c277
                                                                                      | 22, _ => exact ne_int c291
                                                                                      | 23, _ => exact ne_int c301
                                                                                      | 24, _ => exact ne_int c315
                                                                                      | 25, _ => exact ne_int c327
                                                                                      | 26, _ => exact ne_int c341
                                                                                      | 27, _ => exact ne_int c349
                                                                                      | 28, _ => exact ne_int c361
                                                                                      | 29, _ => exact ne_int c371
                                                                                      | 30, _ => exact ne_int c381
                                                                                      | 31, _ => exact ne_int c397
                                                                                      | 32, _ => exact ne_int c407
                                                                                      | 33, _ => exact ne_int c419
                                                                                      | 34, _ => exact ne_int c429
                                                                                      | 35, _ => exact ne_int c445
                                                                                      | 36, _ => exact ne_int c463
                                                                                      | 37, _ => exact ne_int c475
                                                                                      | k + 38, hk => exact absurd hk (by omega))
                                                                                    exact h8
                                                                                  refine r_tsw_out 1347 (ck DL_law_0 21 rfl) hx9 (by decide) ?_
                                                                                  obtain ⟨v495, e496, hf⟩ := lt_so hf
                                                                                  refine r_iinc (lv' := [(3, .int v495), (0, .ref (X.2.2.2.1 6)), (1, .ref (X.1 0)), (2, .ref (X.1 96))]) 1350 rfl 3 (ck DL_law_18 35 rfl) rfl (by rw [e496, ic_6]) (by decide) rfl ?_
                                                                                  refine r_goto 18 (ck DL_law_18 36 rfl) (by decide) ?_
                                                                                  refine r_sub (lv' := [(0, .ref (X.2.2.2.1 6)), (1, .ref (X.1 0)), (2, .ref (X.1 96)), (3, .int v495)]) [1, 2, 3, 0] rfl ?_
                                                                                  exact ih v495 h hf
end
