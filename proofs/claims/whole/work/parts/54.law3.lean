/-! ===== the law's cases ===== -/
section LCS
variable {p : Program} {l : Launch} {e : Env} {s : State} {m : MethodId} {below : List Frame} {meth : Method} {c : Code} {D : va_G} {cI cZ cR sb L : Nat} {xs : Nat → Int32}
variable {slots : Nat} {i : Int} {x : wC} {M : wM}
theorem law_0 (X : LX p s m meth c D cI cZ cR sb L xs) (hM : wRM M) (hv : LINV x M) (h0 : 0 ≤ i) (h5 : i + 5 ≤ L) (hsl : slots ≤ 7302250) (k : ∀ (x' : wC) (M' : wM), wRM M' → LINV x' M' → LW p l e s m below meth c D cI cZ cR sb (wW x' M') (lvs s sb i) 127 slots 1076 []) : LW p l e s m below meth c D cI cZ cR sb (wW x M) (lvs s sb i) 127 slots 172 [] := by
  obtain ⟨T, P, R, La, Tm, sd, K, hC, hI, hA⟩ := hv
  obtain ⟨z1, e1, w1⟩ := rdz (xs (i + 1).toNat)
  refine l_a1 X c_190_172 ?_
  refine l_rd X c_190_173 c_190_174 c_190_175 c_190_176 c_190_177 (by omega) (by omega) e1 ?_
  refine l_cl (QC (fun r => r = (aWrite T z1).1) (aWrite T z1).2 P R La Tm sd K x M) (av := [.ref 0, .int (iI z1)]) (rest := []) X c_190_178 (by decide +kernel) rfl (Nat.le_of_ble_eq_true rfl) (Nat.le_of_ble_eq_true rfl) (zrecv_of (by decide +kernel) (by decide +kernel)) hM hsl (s_66 hC hA w1 (fun h => by rw [aWrite_0 h]; exact ⟨_, rfl, rfl, hC, fun b hb => rfl, rfl⟩) (fun h h1 => by rw [aWrite_1 h h1]; exact ⟨_, rfl, rfl, hC, fun b hb => rfl, rfl⟩) (fun h h1 M' h2 h3 => by rw [aWrite_2 h h1]; exact ⟨_, rfl, rfl, h2, fun b hb => h3 b (by omega), rfl⟩)) ?_
  rintro v x1 M1 hM1 ⟨r, hr, rfl, hC1, hf1, hx1⟩
  have hI1 := MI_hi hI hf1 hx1
  refine l_a2 X c_190_181 ?_
  refine l_rd X c_190_182 c_190_183 c_190_184 c_190_185 c_190_186 (by omega) (by omega) e1 ?_
  refine l_cl (QM (fun r => r = (aWrite T z1).1) (aWrite T z1).2 P R La Tm sd K x1 M1) (av := [.ref 106, .int (iI z1)]) (rest := [.int (iI r)]) X c_190_187 (by decide +kernel) rfl (Nat.le_of_ble_eq_true rfl) (Nat.le_of_ble_eq_true rfl) (zrecv_of (by decide +kernel) (by decide +kernel)) hM1 hsl (s_124 hI1 hA w1 (fun h M' h2 h3 => by rw [aWrite_0 h]; exact ⟨_, rfl, rfl, h2, h3, rfl, rfl⟩) (fun h h1 M' h2 h3 => by rw [aWrite_1 h h1]; exact ⟨_, rfl, rfl, h2, h3, rfl, rfl⟩) (fun h h1 M' h2 h3 => by rw [aWrite_2 h h1]; exact ⟨_, rfl, rfl, h2, h3, rfl, rfl⟩)) ?_
  rintro v x2 M2 hM2 ⟨r2, hr2, rfl, hI2, hf2, hx0, hx2⟩
  have hC2 := CI_lo hC1 hf2 hx0 hx2
  obtain rfl : r2 = r := hr2.trans hr.symm
  refine l_eq X (t := 1076) c_190_190 (by decide) ?_
  exact k _ _ hM2 ⟨_, _, _, _, _, _, _, hC2, hI2, (AOK_write hA)⟩
theorem law_1 (X : LX p s m meth c D cI cZ cR sb L xs) (hM : wRM M) (hv : LINV x M) (h0 : 0 ≤ i) (h5 : i + 5 ≤ L) (hsl : slots ≤ 7302250) (k : ∀ (x' : wC) (M' : wM), wRM M' → LINV x' M' → LW p l e s m below meth c D cI cZ cR sb (wW x' M') (lvs s sb i) 127 slots 1076 []) : LW p l e s m below meth c D cI cZ cR sb (wW x M) (lvs s sb i) 127 slots 195 [] := by
  obtain ⟨T, P, R, La, Tm, sd, K, hC, hI, hA⟩ := hv
  refine l_a1 X c_190_195 ?_
  refine l_cl (QC (fun r => r = (T.length : Int)) [] P R La Tm sd K x M) (av := [.ref 0]) (rest := []) X c_190_196 (by decide +kernel) rfl (Nat.le_of_ble_eq_true rfl) (Nat.le_of_ble_eq_true rfl) (zrecv_of (by decide +kernel) (by decide +kernel)) hM hsl (s_67 hC hA (fun M' h1 h2 => ⟨_, rfl, rfl, h1, fun b hb => h2 b (by omega), rfl⟩)) ?_
  rintro v x1 M1 hM1 ⟨r, hr, rfl, hC1, hf1, hx1⟩
  have hI1 := MI_hi hI hf1 hx1
  refine l_a2 X c_190_199 ?_
  refine l_cl (QM (fun r => r = (T.length : Int)) [] P R La Tm sd K x1 M1) (av := [.ref 106]) (rest := [.int (iI r)]) X c_190_200 (by decide +kernel) rfl (Nat.le_of_ble_eq_true rfl) (Nat.le_of_ble_eq_true rfl) (zrecv_of (by decide +kernel) (by decide +kernel)) hM1 hsl (s_125 hI1 hA (fun M' h1 h2 => ⟨_, rfl, rfl, h1, h2, rfl, rfl⟩)) ?_
  rintro v x2 M2 hM2 ⟨r2, hr2, rfl, hI2, hf2, hx0, hx2⟩
  have hC2 := CI_lo hC1 hf2 hx0 hx2
  obtain rfl : r2 = r := hr2.trans hr.symm
  refine l_eq X (t := 1076) c_190_203 (by decide) ?_
  exact k _ _ hM2 ⟨_, _, _, _, _, _, _, hC2, hI2, (AOK_wipe hA)⟩
theorem law_2 (X : LX p s m meth c D cI cZ cR sb L xs) (hM : wRM M) (hv : LINV x M) (h0 : 0 ≤ i) (h5 : i + 5 ≤ L) (hsl : slots ≤ 7302250) (k : ∀ (x' : wC) (M' : wM), wRM M' → LINV x' M' → LW p l e s m below meth c D cI cZ cR sb (wW x' M') (lvs s sb i) 127 slots 1076 []) : LW p l e s m below meth c D cI cZ cR sb (wW x M) (lvs s sb i) 127 slots 208 [] := by
  obtain ⟨T, P, R, La, Tm, sd, K, hC, hI, hA⟩ := hv
  refine l_a1 X c_190_208 ?_
  refine l_cl (QC (fun r => r = (aFault T).1) T P R La Tm sd K x M) (av := [.ref 0]) (rest := []) X c_190_209 (by decide +kernel) rfl (Nat.le_of_ble_eq_true rfl) (Nat.le_of_ble_eq_true rfl) (zrecv_of (by decide +kernel) (by decide +kernel)) hM hsl (s_68 hC hA (fun M' h1 h2 => ⟨_, rfl, rfl, h1, h2, rfl⟩)) ?_
  rintro v x1 M1 hM1 ⟨r, hr, rfl, hC1, hf1, hx1⟩
  have hI1 := MI_hi hI hf1 hx1
  refine l_a2 X c_190_212 ?_
  refine l_cl (QM (fun r => r = (aFault T).1) T P R La Tm sd K x1 M1) (av := [.ref 106]) (rest := [.int (iI r)]) X c_190_213 (by decide +kernel) rfl (Nat.le_of_ble_eq_true rfl) (Nat.le_of_ble_eq_true rfl) (zrecv_of (by decide +kernel) (by decide +kernel)) hM1 hsl (s_132 hI1 hA (fun M' h1 h2 => ⟨_, rfl, rfl, h1, h2, rfl, rfl⟩)) ?_
  rintro v x2 M2 hM2 ⟨r2, hr2, rfl, hI2, hf2, hx0, hx2⟩
  have hC2 := CI_lo hC1 hf2 hx0 hx2
  obtain rfl : r2 = r := hr2.trans hr.symm
  refine l_eq X (t := 1076) c_190_216 (by decide) ?_
  exact k _ _ hM2 ⟨_, _, _, _, _, _, _, hC2, hI2, hA⟩
theorem law_3 (X : LX p s m meth c D cI cZ cR sb L xs) (hM : wRM M) (hv : LINV x M) (h0 : 0 ≤ i) (h5 : i + 5 ≤ L) (hsl : slots ≤ 7302250) (k : ∀ (x' : wC) (M' : wM), wRM M' → LINV x' M' → LW p l e s m below meth c D cI cZ cR sb (wW x' M') (lvs s sb i) 127 slots 1076 []) : LW p l e s m below meth c D cI cZ cR sb (wW x M) (lvs s sb i) 127 slots 221 [] := by
  obtain ⟨T, P, R, La, Tm, sd, K, hC, hI, hA⟩ := hv
  refine l_a1 X c_190_221 ?_
  refine l_cl (QC (fun r => r = (aPortZ T P R La K).1) T (aPortZ T P R La K).2.1 (aPortZ T P R La K).2.2.1 (aPortZ T P R La K).2.2.2.1 Tm sd (aPortZ T P R La K).2.2.2.2 x M) (av := [.ref 0]) (rest := []) X c_190_222 (by decide +kernel) rfl (Nat.le_of_ble_eq_true rfl) (Nat.le_of_ble_eq_true rfl) (zrecv_of (by decide +kernel) (by decide +kernel)) hM hsl (s_69 hC hA (fun M' h h1 h2 => by rw [aPortZ_n h]; exact ⟨_, rfl, rfl, h1, h2, rfl⟩) (fun rows x' M' h hx h1 h2 => by rw [aPortZ_y h]; exact ⟨_, rfl, rfl, h1, h2, by rw [hx]⟩)) ?_
  rintro v x1 M1 hM1 ⟨r, hr, rfl, hC1, hf1, hx1⟩
  have hI1 := MI_hi hI hf1 hx1
  refine l_a2 X c_190_225 ?_
  refine l_cl (QM (fun r => r = (aPortZ T P R La K).1) T (aPortZ T P R La K).2.1 (aPortZ T P R La K).2.2.1 (aPortZ T P R La K).2.2.2.1 Tm sd (aPortZ T P R La K).2.2.2.2 x1 M1) (av := [.ref 106]) (rest := [.int (iI r)]) X c_190_226 (by decide +kernel) rfl (Nat.le_of_ble_eq_true rfl) (Nat.le_of_ble_eq_true rfl) (zrecv_of (by decide +kernel) (by decide +kernel)) hM1 hsl (s_134 hI1 hA (fun M' h h1 h2 => by rw [aPortZ_n h]; exact ⟨_, rfl, rfl, h1, h2, rfl, rfl⟩) (fun rows M' h h1 h2 => by rw [aPortZ_y h]; exact ⟨_, rfl, rfl, h1, h2, rfl, rfl⟩)) ?_
  rintro v x2 M2 hM2 ⟨r2, hr2, rfl, hI2, hf2, hx0, hx2⟩
  have hC2 := CI_lo hC1 hf2 hx0 hx2
  obtain rfl : r2 = r := hr2.trans hr.symm
  refine l_eq X (t := 1076) c_190_229 (by decide) ?_
  exact k _ _ hM2 ⟨_, _, _, _, _, _, _, hC2, hI2, (AOK_port hA)⟩
theorem law_4 (X : LX p s m meth c D cI cZ cR sb L xs) (hM : wRM M) (hv : LINV x M) (h0 : 0 ≤ i) (h5 : i + 5 ≤ L) (hsl : slots ≤ 7302250) (k : ∀ (x' : wC) (M' : wM), wRM M' → LINV x' M' → LW p l e s m below meth c D cI cZ cR sb (wW x' M') (lvs s sb i) 127 slots 1076 []) : LW p l e s m below meth c D cI cZ cR sb (wW x M) (lvs s sb i) 127 slots 234 [] := by
  obtain ⟨T, P, R, La, Tm, sd, K, hC, hI, hA⟩ := hv
  obtain ⟨z1, e1, w1⟩ := rdz (xs (i + 1).toNat)
  refine l_a1 X c_190_234 ?_
  refine l_rd X c_190_235 c_190_236 c_190_237 c_190_238 c_190_239 (by omega) (by omega) e1 ?_
  refine l_cl (QC (fun r => r = aAbout T P R La Tm z1) T P R La Tm sd K x M) (av := [.ref 0, .int (iI z1)]) (rest := []) X c_190_240 (by decide +kernel) rfl (Nat.le_of_ble_eq_true rfl) (Nat.le_of_ble_eq_true rfl) (zrecv_of (by decide +kernel) (by decide +kernel)) hM hsl (s_70 hC hA w1 ⟨_, rfl, rfl, hC, fun b hb => rfl, rfl⟩) ?_
  rintro v x1 M1 hM1 ⟨r, hr, rfl, hC1, hf1, hx1⟩
  have hI1 := MI_hi hI hf1 hx1
  refine l_a2 X c_190_243 ?_
  refine l_rd X c_190_244 c_190_245 c_190_246 c_190_247 c_190_248 (by omega) (by omega) e1 ?_
  refine l_cl (QM (fun r => r = aAbout T P R La Tm z1) T P R La Tm sd K x1 M1) (av := [.ref 106, .int (iI z1)]) (rest := [.int (iI r)]) X c_190_249 (by decide +kernel) rfl (Nat.le_of_ble_eq_true rfl) (Nat.le_of_ble_eq_true rfl) (zrecv_of (by decide +kernel) (by decide +kernel)) hM1 hsl (s_141 hI1 hA w1 (fun M' h1 h2 => ⟨_, rfl, rfl, h1, h2, rfl, rfl⟩)) ?_
  rintro v x2 M2 hM2 ⟨r2, hr2, rfl, hI2, hf2, hx0, hx2⟩
  have hC2 := CI_lo hC1 hf2 hx0 hx2
  obtain rfl : r2 = r := hr2.trans hr.symm
  refine l_eq X (t := 1076) c_190_252 (by decide) ?_
  exact k _ _ hM2 ⟨_, _, _, _, _, _, _, hC2, hI2, hA⟩
theorem law_5 (X : LX p s m meth c D cI cZ cR sb L xs) (hM : wRM M) (hv : LINV x M) (h0 : 0 ≤ i) (h5 : i + 5 ≤ L) (hsl : slots ≤ 7302250) (k : ∀ (x' : wC) (M' : wM), wRM M' → LINV x' M' → LW p l e s m below meth c D cI cZ cR sb (wW x' M') (lvs s sb i) 127 slots 1076 []) : LW p l e s m below meth c D cI cZ cR sb (wW x M) (lvs s sb i) 127 slots 257 [] := by
  obtain ⟨T, P, R, La, Tm, sd, K, hC, hI, hA⟩ := hv
  obtain ⟨z1, e1, w1⟩ := rdz (xs (i + 1).toNat)
  obtain ⟨z2, e2, w2⟩ := rdz (xs (i + 2).toNat)
  refine l_a1 X c_190_257 ?_
  refine l_rd X c_190_258 c_190_259 c_190_260 c_190_261 c_190_262 (by omega) (by omega) e1 ?_
  refine l_rd X c_190_263 c_190_264 c_190_265 c_190_266 c_190_267 (by omega) (by omega) e2 ?_
  refine l_cl (QC (fun r => r = aGlass P z1 z2) T P R La Tm sd K x M) (av := [.ref 0, .int (iI z1), .int (iI z2)]) (rest := []) X c_190_268 (by decide +kernel) rfl (Nat.le_of_ble_eq_true rfl) (Nat.le_of_ble_eq_true rfl) (zrecv_of (by decide +kernel) (by decide +kernel)) hM hsl (s_72 hC hA w1 w2 ⟨_, rfl, rfl, hC, fun b hb => rfl, rfl⟩) ?_
  rintro v x1 M1 hM1 ⟨r, hr, rfl, hC1, hf1, hx1⟩
  have hI1 := MI_hi hI hf1 hx1
  refine l_a2 X c_190_271 ?_
  refine l_rd X c_190_272 c_190_273 c_190_274 c_190_275 c_190_276 (by omega) (by omega) e1 ?_
  refine l_rd X c_190_277 c_190_278 c_190_279 c_190_280 c_190_281 (by omega) (by omega) e2 ?_
  refine l_cl (QM (fun r => r = aGlass P z1 z2) T P R La Tm sd K x1 M1) (av := [.ref 106, .int (iI z1), .int (iI z2)]) (rest := [.int (iI r)]) X c_190_282 (by decide +kernel) rfl (Nat.le_of_ble_eq_true rfl) (Nat.le_of_ble_eq_true rfl) (zrecv_of (by decide +kernel) (by decide +kernel)) hM1 hsl (s_142 hI1 hA w1 w2 (fun M' h1 h2 => ⟨_, rfl, rfl, h1, h2, rfl, rfl⟩)) ?_
  rintro v x2 M2 hM2 ⟨r2, hr2, rfl, hI2, hf2, hx0, hx2⟩
  have hC2 := CI_lo hC1 hf2 hx0 hx2
  obtain rfl : r2 = r := hr2.trans hr.symm
  refine l_eq X (t := 1076) c_190_285 (by decide) ?_
  exact k _ _ hM2 ⟨_, _, _, _, _, _, _, hC2, hI2, hA⟩
theorem law_6 (X : LX p s m meth c D cI cZ cR sb L xs) (hM : wRM M) (hv : LINV x M) (h0 : 0 ≤ i) (h5 : i + 5 ≤ L) (hsl : slots ≤ 7302250) (k : ∀ (x' : wC) (M' : wM), wRM M' → LINV x' M' → LW p l e s m below meth c D cI cZ cR sb (wW x' M') (lvs s sb i) 127 slots 1076 []) : LW p l e s m below meth c D cI cZ cR sb (wW x M) (lvs s sb i) 127 slots 290 [] := by
  obtain ⟨T, P, R, La, Tm, sd, K, hC, hI, hA⟩ := hv
  obtain ⟨z1, e1, w1⟩ := rdz (xs (i + 1).toNat)
  obtain ⟨z2, e2, w2⟩ := rdz (xs (i + 2).toNat)
  refine l_a1 X c_190_290 ?_
  refine l_rd X c_190_291 c_190_292 c_190_293 c_190_294 c_190_295 (by omega) (by omega) e1 ?_
  refine l_rd X c_190_296 c_190_297 c_190_298 c_190_299 c_190_300 (by omega) (by omega) e2 ?_
  refine l_cl (QC (fun r => r = aSuitor P z1 z2) T P R La Tm sd K x M) (av := [.ref 0, .int (iI z1), .int (iI z2)]) (rest := []) X c_190_301 (by decide +kernel) rfl (Nat.le_of_ble_eq_true rfl) (Nat.le_of_ble_eq_true rfl) (zrecv_of (by decide +kernel) (by decide +kernel)) hM hsl (s_73 hC hA w1 w2 ⟨_, rfl, rfl, hC, fun b hb => rfl, rfl⟩) ?_
  rintro v x1 M1 hM1 ⟨r, hr, rfl, hC1, hf1, hx1⟩
  have hI1 := MI_hi hI hf1 hx1
  refine l_a2 X c_190_304 ?_
  refine l_rd X c_190_305 c_190_306 c_190_307 c_190_308 c_190_309 (by omega) (by omega) e1 ?_
  refine l_rd X c_190_310 c_190_311 c_190_312 c_190_313 c_190_314 (by omega) (by omega) e2 ?_
  refine l_cl (QM (fun r => r = aSuitor P z1 z2) T P R La Tm sd K x1 M1) (av := [.ref 106, .int (iI z1), .int (iI z2)]) (rest := [.int (iI r)]) X c_190_315 (by decide +kernel) rfl (Nat.le_of_ble_eq_true rfl) (Nat.le_of_ble_eq_true rfl) (zrecv_of (by decide +kernel) (by decide +kernel)) hM1 hsl (s_143 hI1 hA w1 w2 (fun M' h1 h2 => ⟨_, rfl, rfl, h1, h2, rfl, rfl⟩)) ?_
  rintro v x2 M2 hM2 ⟨r2, hr2, rfl, hI2, hf2, hx0, hx2⟩
  have hC2 := CI_lo hC1 hf2 hx0 hx2
  obtain rfl : r2 = r := hr2.trans hr.symm
  refine l_eq X (t := 1076) c_190_318 (by decide) ?_
  exact k _ _ hM2 ⟨_, _, _, _, _, _, _, hC2, hI2, hA⟩
theorem law_7 (X : LX p s m meth c D cI cZ cR sb L xs) (hM : wRM M) (hv : LINV x M) (h0 : 0 ≤ i) (h5 : i + 5 ≤ L) (hsl : slots ≤ 7302250) (k : ∀ (x' : wC) (M' : wM), wRM M' → LINV x' M' → LW p l e s m below meth c D cI cZ cR sb (wW x' M') (lvs s sb i) 127 slots 1076 []) : LW p l e s m below meth c D cI cZ cR sb (wW x M) (lvs s sb i) 127 slots 323 [] := by
  obtain ⟨T, P, R, La, Tm, sd, K, hC, hI, hA⟩ := hv
  obtain ⟨z1, e1, w1⟩ := rdz (xs (i + 1).toNat)
  obtain ⟨z2, e2, w2⟩ := rdz (xs (i + 2).toNat)
  refine l_a1 X c_190_323 ?_
  refine l_rd X c_190_324 c_190_325 c_190_326 c_190_327 c_190_328 (by omega) (by omega) e1 ?_
  refine l_rd X c_190_329 c_190_330 c_190_331 c_190_332 c_190_333 (by omega) (by omega) e2 ?_
  refine l_cl (QC (fun r => r = aSaying P R z1 z2) T P R La Tm sd K x M) (av := [.ref 0, .int (iI z1), .int (iI z2)]) (rest := []) X c_190_334 (by decide +kernel) rfl (Nat.le_of_ble_eq_true rfl) (Nat.le_of_ble_eq_true rfl) (zrecv_of (by decide +kernel) (by decide +kernel)) hM hsl (s_74 hC hA w1 w2 ⟨_, rfl, rfl, hC, fun b hb => rfl, rfl⟩) ?_
  rintro v x1 M1 hM1 ⟨r, hr, rfl, hC1, hf1, hx1⟩
  have hI1 := MI_hi hI hf1 hx1
  refine l_a2 X c_190_337 ?_
  refine l_rd X c_190_338 c_190_339 c_190_340 c_190_341 c_190_342 (by omega) (by omega) e1 ?_
  refine l_rd X c_190_343 c_190_344 c_190_345 c_190_346 c_190_347 (by omega) (by omega) e2 ?_
  refine l_cl (QM (fun r => r = aSaying P R z1 z2) T P R La Tm sd K x1 M1) (av := [.ref 106, .int (iI z1), .int (iI z2)]) (rest := [.int (iI r)]) X c_190_348 (by decide +kernel) rfl (Nat.le_of_ble_eq_true rfl) (Nat.le_of_ble_eq_true rfl) (zrecv_of (by decide +kernel) (by decide +kernel)) hM1 hsl (s_145 hI1 hA w1 w2 (fun M' h1 h2 => ⟨_, rfl, rfl, h1, h2, rfl, rfl⟩)) ?_
  rintro v x2 M2 hM2 ⟨r2, hr2, rfl, hI2, hf2, hx0, hx2⟩
  have hC2 := CI_lo hC1 hf2 hx0 hx2
  obtain rfl : r2 = r := hr2.trans hr.symm
  refine l_eq X (t := 1076) c_190_351 (by decide) ?_
  exact k _ _ hM2 ⟨_, _, _, _, _, _, _, hC2, hI2, hA⟩
theorem law_8 (X : LX p s m meth c D cI cZ cR sb L xs) (hM : wRM M) (hv : LINV x M) (h0 : 0 ≤ i) (h5 : i + 5 ≤ L) (hsl : slots ≤ 7302250) (k : ∀ (x' : wC) (M' : wM), wRM M' → LINV x' M' → LW p l e s m below meth c D cI cZ cR sb (wW x' M') (lvs s sb i) 127 slots 1076 []) : LW p l e s m below meth c D cI cZ cR sb (wW x M) (lvs s sb i) 127 slots 356 [] := by
  obtain ⟨T, P, R, La, Tm, sd, K, hC, hI, hA⟩ := hv
  obtain ⟨z1, e1, w1⟩ := rdz (xs (i + 1).toNat)
  refine l_a1 X c_190_356 ?_
  refine l_rd X c_190_357 c_190_358 c_190_359 c_190_360 c_190_361 (by omega) (by omega) e1 ?_
  refine l_cl (QC (fun r => r = aSaidAt R z1) T P R La Tm sd K x M) (av := [.ref 0, .int (iI z1)]) (rest := []) X c_190_362 (by decide +kernel) rfl (Nat.le_of_ble_eq_true rfl) (Nat.le_of_ble_eq_true rfl) (zrecv_of (by decide +kernel) (by decide +kernel)) hM hsl (s_75 hC hA w1 ⟨_, rfl, rfl, hC, fun b hb => rfl, rfl⟩) ?_
  rintro v x1 M1 hM1 ⟨r, hr, rfl, hC1, hf1, hx1⟩
  have hI1 := MI_hi hI hf1 hx1
  refine l_a2 X c_190_365 ?_
  refine l_rd X c_190_366 c_190_367 c_190_368 c_190_369 c_190_370 (by omega) (by omega) e1 ?_
  refine l_cl (QM (fun r => r = aSaidAt R z1) T P R La Tm sd K x1 M1) (av := [.ref 106, .int (iI z1)]) (rest := [.int (iI r)]) X c_190_371 (by decide +kernel) rfl (Nat.le_of_ble_eq_true rfl) (Nat.le_of_ble_eq_true rfl) (zrecv_of (by decide +kernel) (by decide +kernel)) hM1 hsl (s_146 hI1 hA w1 (fun M' h1 h2 => ⟨_, rfl, rfl, h1, h2, rfl, rfl⟩)) ?_
  rintro v x2 M2 hM2 ⟨r2, hr2, rfl, hI2, hf2, hx0, hx2⟩
  have hC2 := CI_lo hC1 hf2 hx0 hx2
  obtain rfl : r2 = r := hr2.trans hr.symm
  refine l_eq X (t := 1076) c_190_374 (by decide) ?_
  exact k _ _ hM2 ⟨_, _, _, _, _, _, _, hC2, hI2, hA⟩
theorem law_9 (X : LX p s m meth c D cI cZ cR sb L xs) (hM : wRM M) (hv : LINV x M) (h0 : 0 ≤ i) (h5 : i + 5 ≤ L) (hsl : slots ≤ 7302250) (k : ∀ (x' : wC) (M' : wM), wRM M' → LINV x' M' → LW p l e s m below meth c D cI cZ cR sb (wW x' M') (lvs s sb i) 127 slots 1076 []) : LW p l e s m below meth c D cI cZ cR sb (wW x M) (lvs s sb i) 127 slots 379 [] := by
  obtain ⟨T, P, R, La, Tm, sd, K, hC, hI, hA⟩ := hv
  obtain ⟨z1, e1, w1⟩ := rdz (xs (i + 1).toNat)
  obtain ⟨z2, e2, w2⟩ := rdz (xs (i + 2).toNat)
  obtain ⟨z3, e3, w3⟩ := rdz (xs (i + 3).toNat)
  obtain ⟨z4, e4, w4⟩ := rdz (xs (i + 4).toNat)
  refine l_a1 X c_190_379 ?_
  refine l_rd X c_190_380 c_190_381 c_190_382 c_190_383 c_190_384 (by omega) (by omega) e1 ?_
  refine l_rd X c_190_385 c_190_386 c_190_387 c_190_388 c_190_389 (by omega) (by omega) e2 ?_
  refine l_rd X c_190_390 c_190_391 c_190_392 c_190_393 c_190_394 (by omega) (by omega) e3 ?_
  refine l_rd X c_190_395 c_190_396 c_190_397 c_190_398 c_190_399 (by omega) (by omega) e4 ?_
  refine l_cl (QC (fun r => r = aTakes P z1 z2 z3 z4) T P R La Tm sd K x M) (av := [.ref 0, .int (iI z1), .int (iI z2), .int (iI z3), .int (iI z4)]) (rest := []) X c_190_400 (by decide +kernel) rfl (Nat.le_of_ble_eq_true rfl) (Nat.le_of_ble_eq_true rfl) (zrecv_of (by decide +kernel) (by decide +kernel)) hM hsl (s_76 hC hA w1 w2 w3 w4 ⟨_, rfl, rfl, hC, fun b hb => rfl, rfl⟩) ?_
  rintro v x1 M1 hM1 ⟨r, hr, rfl, hC1, hf1, hx1⟩
  have hI1 := MI_hi hI hf1 hx1
  refine l_a2 X c_190_403 ?_
  refine l_rd X c_190_404 c_190_405 c_190_406 c_190_407 c_190_408 (by omega) (by omega) e1 ?_
  refine l_rd X c_190_409 c_190_410 c_190_411 c_190_412 c_190_413 (by omega) (by omega) e2 ?_
  refine l_rd X c_190_414 c_190_415 c_190_416 c_190_417 c_190_418 (by omega) (by omega) e3 ?_
  refine l_rd X c_190_419 c_190_420 c_190_421 c_190_422 c_190_423 (by omega) (by omega) e4 ?_
  refine l_cl (QM (fun r => r = aTakes P z1 z2 z3 z4) T P R La Tm sd K x1 M1) (av := [.ref 106, .int (iI z1), .int (iI z2), .int (iI z3), .int (iI z4)]) (rest := [.int (iI r)]) X c_190_424 (by decide +kernel) rfl (Nat.le_of_ble_eq_true rfl) (Nat.le_of_ble_eq_true rfl) (zrecv_of (by decide +kernel) (by decide +kernel)) hM1 hsl (s_147 hI1 hA w1 w2 w3 w4 (fun M' h1 h2 => ⟨_, rfl, rfl, h1, h2, rfl, rfl⟩)) ?_
  rintro v x2 M2 hM2 ⟨r2, hr2, rfl, hI2, hf2, hx0, hx2⟩
  have hC2 := CI_lo hC1 hf2 hx0 hx2
  obtain rfl : r2 = r := hr2.trans hr.symm
  refine l_eq X (t := 1076) c_190_427 (by decide) ?_
  exact k _ _ hM2 ⟨_, _, _, _, _, _, _, hC2, hI2, hA⟩
theorem law_10 (X : LX p s m meth c D cI cZ cR sb L xs) (hM : wRM M) (hv : LINV x M) (h0 : 0 ≤ i) (h5 : i + 5 ≤ L) (hsl : slots ≤ 7302250) (k : ∀ (x' : wC) (M' : wM), wRM M' → LINV x' M' → LW p l e s m below meth c D cI cZ cR sb (wW x' M') (lvs s sb i) 127 slots 1076 []) : LW p l e s m below meth c D cI cZ cR sb (wW x M) (lvs s sb i) 127 slots 432 [] := by
  obtain ⟨T, P, R, La, Tm, sd, K, hC, hI, hA⟩ := hv
  obtain ⟨z1, e1, w1⟩ := rdz (xs (i + 1).toNat)
  obtain ⟨z2, e2, w2⟩ := rdz (xs (i + 2).toNat)
  refine l_a1 X c_190_432 ?_
  refine l_rd X c_190_433 c_190_434 c_190_435 c_190_436 c_190_437 (by omega) (by omega) e1 ?_
  refine l_rd X c_190_438 c_190_439 c_190_440 c_190_441 c_190_442 (by omega) (by omega) e2 ?_
  refine l_cl (QC (fun r => r = (aTurn P R La z1 z2).1) T P (aTurn P R La z1 z2).2.1 (aTurn P R La z1 z2).2.2 Tm sd K x M) (av := [.ref 0, .int (iI z1), .int (iI z2)]) (rest := []) X c_190_443 (by decide +kernel) rfl (Nat.le_of_ble_eq_true rfl) (Nat.le_of_ble_eq_true rfl) (zrecv_of (by decide +kernel) (by decide +kernel)) hM hsl (s_77 hC hA w1 w2 (fun M' h1 h2 => ⟨_, rfl, rfl, h1, h2, rfl⟩)) ?_
  rintro v x1 M1 hM1 ⟨r, hr, rfl, hC1, hf1, hx1⟩
  have hI1 := MI_hi hI hf1 hx1
  refine l_a2 X c_190_446 ?_
  refine l_rd X c_190_447 c_190_448 c_190_449 c_190_450 c_190_451 (by omega) (by omega) e1 ?_
  refine l_rd X c_190_452 c_190_453 c_190_454 c_190_455 c_190_456 (by omega) (by omega) e2 ?_
  refine l_cl (QM (fun r => r = (aTurn P R La z1 z2).1) T P (aTurn P R La z1 z2).2.1 (aTurn P R La z1 z2).2.2 Tm sd K x1 M1) (av := [.ref 106, .int (iI z1), .int (iI z2)]) (rest := [.int (iI r)]) X c_190_457 (by decide +kernel) rfl (Nat.le_of_ble_eq_true rfl) (Nat.le_of_ble_eq_true rfl) (zrecv_of (by decide +kernel) (by decide +kernel)) hM1 hsl (s_150 hI1 hA w1 w2 (fun M' h1 h2 => ⟨_, rfl, rfl, h1, h2, rfl, rfl⟩)) ?_
  rintro v x2 M2 hM2 ⟨r2, hr2, rfl, hI2, hf2, hx0, hx2⟩
  have hC2 := CI_lo hC1 hf2 hx0 hx2
  obtain rfl : r2 = r := hr2.trans hr.symm
  refine l_eq X (t := 1076) c_190_460 (by decide) ?_
  exact k _ _ hM2 ⟨_, _, _, _, _, _, _, hC2, hI2, (AOK_turn hA)⟩
theorem law_11 (X : LX p s m meth c D cI cZ cR sb L xs) (hM : wRM M) (hv : LINV x M) (h0 : 0 ≤ i) (h5 : i + 5 ≤ L) (hsl : slots ≤ 7302250) (k : ∀ (x' : wC) (M' : wM), wRM M' → LINV x' M' → LW p l e s m below meth c D cI cZ cR sb (wW x' M') (lvs s sb i) 127 slots 1076 []) : LW p l e s m below meth c D cI cZ cR sb (wW x M) (lvs s sb i) 127 slots 465 [] := by
  obtain ⟨T, P, R, La, Tm, sd, K, hC, hI, hA⟩ := hv
  obtain ⟨z1, e1, w1⟩ := rdz (xs (i + 1).toNat)
  refine l_a1 X c_190_465 ?_
  refine l_rd X c_190_466 c_190_467 c_190_468 c_190_469 c_190_470 (by omega) (by omega) e1 ?_
  refine l_cl (QC (fun r => r = (aSayA P R La z1).1) T P (aSayA P R La z1).2.1 (aSayA P R La z1).2.2 Tm sd K x M) (av := [.ref 0, .int (iI z1)]) (rest := []) X c_190_471 (by decide +kernel) rfl (Nat.le_of_ble_eq_true rfl) (Nat.le_of_ble_eq_true rfl) (zrecv_of (by decide +kernel) (by decide +kernel)) hM hsl (s_78 hC hA w1 (fun M' h1 h2 => ⟨_, rfl, rfl, h1, h2, rfl⟩)) ?_
  rintro v x1 M1 hM1 ⟨r, hr, rfl, hC1, hf1, hx1⟩
  have hI1 := MI_hi hI hf1 hx1
  refine l_a2 X c_190_474 ?_
  refine l_rd X c_190_475 c_190_476 c_190_477 c_190_478 c_190_479 (by omega) (by omega) e1 ?_
  refine l_cl (QM (fun r => r = (aSayA P R La z1).1) T P (aSayA P R La z1).2.1 (aSayA P R La z1).2.2 Tm sd K x1 M1) (av := [.ref 106, .int (iI z1)]) (rest := [.int (iI r)]) X c_190_480 (by decide +kernel) rfl (Nat.le_of_ble_eq_true rfl) (Nat.le_of_ble_eq_true rfl) (zrecv_of (by decide +kernel) (by decide +kernel)) hM1 hsl (s_153 hI1 hA w1 (fun M' h1 h2 => ⟨_, rfl, rfl, h1, h2, rfl, rfl⟩)) ?_
  rintro v x2 M2 hM2 ⟨r2, hr2, rfl, hI2, hf2, hx0, hx2⟩
  have hC2 := CI_lo hC1 hf2 hx0 hx2
  obtain rfl : r2 = r := hr2.trans hr.symm
  refine l_eq X (t := 1076) c_190_483 (by decide) ?_
  exact k _ _ hM2 ⟨_, _, _, _, _, _, _, hC2, hI2, (AOK_say hA)⟩
theorem law_12 (X : LX p s m meth c D cI cZ cR sb L xs) (hM : wRM M) (hv : LINV x M) (h0 : 0 ≤ i) (h5 : i + 5 ≤ L) (hsl : slots ≤ 7302250) (k : ∀ (x' : wC) (M' : wM), wRM M' → LINV x' M' → LW p l e s m below meth c D cI cZ cR sb (wW x' M') (lvs s sb i) 127 slots 1076 []) : LW p l e s m below meth c D cI cZ cR sb (wW x M) (lvs s sb i) 127 slots 488 [] := by
  obtain ⟨T, P, R, La, Tm, sd, K, hC, hI, hA⟩ := hv
  refine l_a1 X c_190_488 ?_
  refine l_cl (QC (fun r => r = (aPauseA P R La).1) T P (aPauseA P R La).2.1 (aPauseA P R La).2.2 Tm sd K x M) (av := [.ref 0]) (rest := []) X c_190_489 (by decide +kernel) rfl (Nat.le_of_ble_eq_true rfl) (Nat.le_of_ble_eq_true rfl) (zrecv_of (by decide +kernel) (by decide +kernel)) hM hsl (s_79 hC hA (fun M' h1 h2 => ⟨_, rfl, rfl, h1, h2, rfl⟩)) ?_
  rintro v x1 M1 hM1 ⟨r, hr, rfl, hC1, hf1, hx1⟩
  have hI1 := MI_hi hI hf1 hx1
  refine l_a2 X c_190_492 ?_
  refine l_cl (QM (fun r => r = (aPauseA P R La).1) T P (aPauseA P R La).2.1 (aPauseA P R La).2.2 Tm sd K x1 M1) (av := [.ref 106]) (rest := [.int (iI r)]) X c_190_493 (by decide +kernel) rfl (Nat.le_of_ble_eq_true rfl) (Nat.le_of_ble_eq_true rfl) (zrecv_of (by decide +kernel) (by decide +kernel)) hM1 hsl (s_155 hI1 hA (fun M' h1 h2 => ⟨_, rfl, rfl, h1, h2, rfl, rfl⟩)) ?_
  rintro v x2 M2 hM2 ⟨r2, hr2, rfl, hI2, hf2, hx0, hx2⟩
  have hC2 := CI_lo hC1 hf2 hx0 hx2
  obtain rfl : r2 = r := hr2.trans hr.symm
  refine l_eq X (t := 1076) c_190_496 (by decide) ?_
  exact k _ _ hM2 ⟨_, _, _, _, _, _, _, hC2, hI2, (AOK_pause hA)⟩
theorem law_13 (X : LX p s m meth c D cI cZ cR sb L xs) (hM : wRM M) (hv : LINV x M) (h0 : 0 ≤ i) (h5 : i + 5 ≤ L) (hsl : slots ≤ 7302250) (k : ∀ (x' : wC) (M' : wM), wRM M' → LINV x' M' → LW p l e s m below meth c D cI cZ cR sb (wW x' M') (lvs s sb i) 127 slots 1076 []) : LW p l e s m below meth c D cI cZ cR sb (wW x M) (lvs s sb i) 127 slots 501 [] := by
  obtain ⟨T, P, R, La, Tm, sd, K, hC, hI, hA⟩ := hv
  obtain ⟨z1, e1, w1⟩ := rdz (xs (i + 1).toNat)
  refine l_a1 X c_190_501 ?_
  refine l_rd X c_190_502 c_190_503 c_190_504 c_190_505 c_190_506 (by omega) (by omega) e1 ?_
  refine l_cl (QC (fun r => r = (aDrawA R La z1).1) T P (aDrawA R La z1).2.1 (aDrawA R La z1).2.2 Tm sd K x M) (av := [.ref 0, .int (iI z1)]) (rest := []) X c_190_507 (by decide +kernel) rfl (Nat.le_of_ble_eq_true rfl) (Nat.le_of_ble_eq_true rfl) (zrecv_of (by decide +kernel) (by decide +kernel)) hM hsl (s_80 hC hA w1 (fun M' h1 h2 => ⟨_, rfl, rfl, h1, h2, rfl⟩)) ?_
  rintro v x1 M1 hM1 ⟨r, hr, rfl, hC1, hf1, hx1⟩
  have hI1 := MI_hi hI hf1 hx1
  refine l_a2 X c_190_510 ?_
  refine l_rd X c_190_511 c_190_512 c_190_513 c_190_514 c_190_515 (by omega) (by omega) e1 ?_
  refine l_cl (QM (fun r => r = (aDrawA R La z1).1) T P (aDrawA R La z1).2.1 (aDrawA R La z1).2.2 Tm sd K x1 M1) (av := [.ref 106, .int (iI z1)]) (rest := [.int (iI r)]) X c_190_516 (by decide +kernel) rfl (Nat.le_of_ble_eq_true rfl) (Nat.le_of_ble_eq_true rfl) (zrecv_of (by decide +kernel) (by decide +kernel)) hM1 hsl (s_158 hI1 hA w1 (fun M' h1 h2 => ⟨_, rfl, rfl, h1, h2, rfl, rfl⟩)) ?_
  rintro v x2 M2 hM2 ⟨r2, hr2, rfl, hI2, hf2, hx0, hx2⟩
  have hC2 := CI_lo hC1 hf2 hx0 hx2
  obtain rfl : r2 = r := hr2.trans hr.symm
  refine l_eq X (t := 1076) c_190_519 (by decide) ?_
  exact k _ _ hM2 ⟨_, _, _, _, _, _, _, hC2, hI2, (AOK_draw hA)⟩
theorem law_14 (X : LX p s m meth c D cI cZ cR sb L xs) (hM : wRM M) (hv : LINV x M) (h0 : 0 ≤ i) (h5 : i + 5 ≤ L) (hsl : slots ≤ 7302250) (k : ∀ (x' : wC) (M' : wM), wRM M' → LINV x' M' → LW p l e s m below meth c D cI cZ cR sb (wW x' M') (lvs s sb i) 127 slots 1076 []) : LW p l e s m below meth c D cI cZ cR sb (wW x M) (lvs s sb i) 127 slots 524 [] := by
  obtain ⟨T, P, R, La, Tm, sd, K, hC, hI, hA⟩ := hv
  refine l_a1 X c_190_524 ?_
  refine l_cl (QC (fun r => r = (aUndo R La).1) T P (aUndo R La).2.1 (aUndo R La).2.2 Tm sd K x M) (av := [.ref 0]) (rest := []) X c_190_525 (by decide +kernel) rfl (Nat.le_of_ble_eq_true rfl) (Nat.le_of_ble_eq_true rfl) (zrecv_of (by decide +kernel) (by decide +kernel)) hM hsl (s_82 hC hA (fun M' h1 h2 => ⟨_, rfl, rfl, h1, h2, rfl⟩)) ?_
  rintro v x1 M1 hM1 ⟨r, hr, rfl, hC1, hf1, hx1⟩
  have hI1 := MI_hi hI hf1 hx1
  refine l_a2 X c_190_528 ?_
  refine l_cl (QM (fun r => r = (aUndo R La).1) T P (aUndo R La).2.1 (aUndo R La).2.2 Tm sd K x1 M1) (av := [.ref 106]) (rest := [.int (iI r)]) X c_190_529 (by decide +kernel) rfl (Nat.le_of_ble_eq_true rfl) (Nat.le_of_ble_eq_true rfl) (zrecv_of (by decide +kernel) (by decide +kernel)) hM1 hsl (s_159 hI1 hA (fun M' h1 h2 => ⟨_, rfl, rfl, h1, h2, rfl, rfl⟩)) ?_
  rintro v x2 M2 hM2 ⟨r2, hr2, rfl, hI2, hf2, hx0, hx2⟩
  have hC2 := CI_lo hC1 hf2 hx0 hx2
  obtain rfl : r2 = r := hr2.trans hr.symm
  refine l_eq X (t := 1076) c_190_532 (by decide) ?_
  exact k _ _ hM2 ⟨_, _, _, _, _, _, _, hC2, hI2, (AOK_undo hA)⟩
theorem law_15 (X : LX p s m meth c D cI cZ cR sb L xs) (hM : wRM M) (hv : LINV x M) (h0 : 0 ≤ i) (h5 : i + 5 ≤ L) (hsl : slots ≤ 7302250) (k : ∀ (x' : wC) (M' : wM), wRM M' → LINV x' M' → LW p l e s m below meth c D cI cZ cR sb (wW x' M') (lvs s sb i) 127 slots 1076 []) : LW p l e s m below meth c D cI cZ cR sb (wW x M) (lvs s sb i) 127 slots 537 [] := by
  obtain ⟨T, P, R, La, Tm, sd, K, hC, hI, hA⟩ := hv
  obtain ⟨z1, e1, w1⟩ := rdz (xs (i + 1).toNat)
  obtain ⟨y1, hy1⟩ : ∃ y : Int, y = (if z1 = 0 then 0 else 1) := ⟨_, rfl⟩
  have b1 : y1 = 0 ∨ y1 = 1 := by rw [hy1]; split <;> simp
  refine l_a1 X c_190_537 ?_
  refine l_rdb X c_190_538 c_190_539 c_190_540 c_190_541 c_190_542 c_190_543 c_190_546 c_190_547 c_190_550 (by omega) (by omega) e1 w1 ?_
  rw [← hy1]
  refine l_cl (QC (aWarmV P R y1) T P R La Tm sd K x M) (av := [.ref 0, .int (iI y1)]) (rest := []) X c_190_551 (by decide +kernel) rfl (Nat.le_of_ble_eq_true rfl) (Nat.le_of_ble_eq_true rfl) (zrecv_of (by decide +kernel) (by decide +kernel)) hM hsl (s_83 hC hA b1 (fun r M' h1 h2 h3 => ⟨r, h1, rfl, h2, h3, rfl⟩)) ?_
  rintro v x1 M1 hM1 ⟨r, hr, rfl, hC1, hf1, hx1⟩
  have hI1 := MI_hi hI hf1 hx1
  refine l_a2 X c_190_554 ?_
  refine l_rdb X c_190_555 c_190_556 c_190_557 c_190_558 c_190_559 c_190_560 c_190_563 c_190_564 c_190_567 (by omega) (by omega) e1 w1 ?_
  rw [← hy1]
  refine l_cl (QM (aWarmV P R y1) T P R La Tm sd K x1 M1) (av := [.ref 106, .int (iI y1)]) (rest := [.int (iI r)]) X c_190_568 (by decide +kernel) rfl (Nat.le_of_ble_eq_true rfl) (Nat.le_of_ble_eq_true rfl) (zrecv_of (by decide +kernel) (by decide +kernel)) hM1 hsl (s_164 hI1 hA b1 (fun r M' h1 h2 h3 => ⟨r, h1, rfl, h2, h3, rfl, rfl⟩)) ?_
  rintro v x2 M2 hM2 ⟨r2, hr2, rfl, hI2, hf2, hx0, hx2⟩
  have hC2 := CI_lo hC1 hf2 hx0 hx2
  obtain rfl : r2 = r := aWarmV_one hr2 hr
  refine l_eq X (t := 1076) c_190_571 (by decide) ?_
  exact k _ _ hM2 ⟨_, _, _, _, _, _, _, hC2, hI2, hA⟩
theorem law_16 (X : LX p s m meth c D cI cZ cR sb L xs) (hM : wRM M) (hv : LINV x M) (h0 : 0 ≤ i) (h5 : i + 5 ≤ L) (hsl : slots ≤ 7302250) (k : ∀ (x' : wC) (M' : wM), wRM M' → LINV x' M' → LW p l e s m below meth c D cI cZ cR sb (wW x' M') (lvs s sb i) 127 slots 1076 []) : LW p l e s m below meth c D cI cZ cR sb (wW x M) (lvs s sb i) 127 slots 576 [] := by
  obtain ⟨T, P, R, La, Tm, sd, K, hC, hI, hA⟩ := hv
  obtain ⟨z1, e1, w1⟩ := rdz (xs (i + 1).toNat)
  obtain ⟨y1, hy1⟩ : ∃ y : Int, y = (if z1 = 0 then 0 else 1) := ⟨_, rfl⟩
  have b1 : y1 = 0 ∨ y1 = 1 := by rw [hy1]; split <;> simp
  refine l_a1 X c_190_576 ?_
  refine l_rdb X c_190_577 c_190_578 c_190_579 c_190_580 c_190_581 c_190_582 c_190_585 c_190_586 c_190_589 (by omega) (by omega) e1 w1 ?_
  rw [← hy1]
  refine l_cl (QC (aShortV P R y1) T P R La Tm sd K x M) (av := [.ref 0, .int (iI y1)]) (rest := []) X c_190_590 (by decide +kernel) rfl (Nat.le_of_ble_eq_true rfl) (Nat.le_of_ble_eq_true rfl) (zrecv_of (by decide +kernel) (by decide +kernel)) hM hsl (s_84 hC hA b1 (fun r M' h1 h2 h3 => ⟨r, h1, rfl, h2, h3, rfl⟩)) ?_
  rintro v x1 M1 hM1 ⟨r, hr, rfl, hC1, hf1, hx1⟩
  have hI1 := MI_hi hI hf1 hx1
  refine l_a2 X c_190_593 ?_
  refine l_rdb X c_190_594 c_190_595 c_190_596 c_190_597 c_190_598 c_190_599 c_190_602 c_190_603 c_190_606 (by omega) (by omega) e1 w1 ?_
  rw [← hy1]
  refine l_cl (QM (aShortV P R y1) T P R La Tm sd K x1 M1) (av := [.ref 106, .int (iI y1)]) (rest := [.int (iI r)]) X c_190_607 (by decide +kernel) rfl (Nat.le_of_ble_eq_true rfl) (Nat.le_of_ble_eq_true rfl) (zrecv_of (by decide +kernel) (by decide +kernel)) hM1 hsl (s_165 hI1 hA b1 (fun r M' h1 h2 h3 => ⟨r, h1, rfl, h2, h3, rfl, rfl⟩)) ?_
  rintro v x2 M2 hM2 ⟨r2, hr2, rfl, hI2, hf2, hx0, hx2⟩
  have hC2 := CI_lo hC1 hf2 hx0 hx2
  obtain rfl : r2 = r := aShortV_one hr2 hr
  refine l_eq X (t := 1076) c_190_610 (by decide) ?_
  exact k _ _ hM2 ⟨_, _, _, _, _, _, _, hC2, hI2, hA⟩
theorem law_17 (X : LX p s m meth c D cI cZ cR sb L xs) (hM : wRM M) (hv : LINV x M) (h0 : 0 ≤ i) (h5 : i + 5 ≤ L) (hsl : slots ≤ 7302250) (k : ∀ (x' : wC) (M' : wM), wRM M' → LINV x' M' → LW p l e s m below meth c D cI cZ cR sb (wW x' M') (lvs s sb i) 127 slots 1076 []) : LW p l e s m below meth c D cI cZ cR sb (wW x M) (lvs s sb i) 127 slots 615 [] := by
  obtain ⟨T, P, R, La, Tm, sd, K, hC, hI, hA⟩ := hv
  obtain ⟨z1, e1, w1⟩ := rdz (xs (i + 1).toNat)
  refine l_a1 X c_190_615 ?_
  refine l_rd X c_190_616 c_190_617 c_190_618 c_190_619 c_190_620 (by omega) (by omega) e1 ?_
  refine l_cl (QC (aCanV P z1) T P R La Tm sd K x M) (av := [.ref 0, .int (iI z1)]) (rest := []) X c_190_621 (by decide +kernel) rfl (Nat.le_of_ble_eq_true rfl) (Nat.le_of_ble_eq_true rfl) (zrecv_of (by decide +kernel) (by decide +kernel)) hM hsl (s_85 hC hA w1 (fun r M' h1 h2 h3 => ⟨r, h1, rfl, h2, h3, rfl⟩)) ?_
  rintro v x1 M1 hM1 ⟨r, hr, rfl, hC1, hf1, hx1⟩
  have hI1 := MI_hi hI hf1 hx1
  refine l_a2 X c_190_624 ?_
  refine l_rd X c_190_625 c_190_626 c_190_627 c_190_628 c_190_629 (by omega) (by omega) e1 ?_
  refine l_cl (QM (aCanV P z1) T P R La Tm sd K x1 M1) (av := [.ref 106, .int (iI z1)]) (rest := [.int (iI r)]) X c_190_630 (by decide +kernel) rfl (Nat.le_of_ble_eq_true rfl) (Nat.le_of_ble_eq_true rfl) (zrecv_of (by decide +kernel) (by decide +kernel)) hM1 hsl (s_167 hI1 hA w1 (fun r M' h1 h2 h3 => ⟨r, h1, rfl, h2, h3, rfl, rfl⟩)) ?_
  rintro v x2 M2 hM2 ⟨r2, hr2, rfl, hI2, hf2, hx0, hx2⟩
  have hC2 := CI_lo hC1 hf2 hx0 hx2
  obtain rfl : r2 = r := aCanV_one hr2 hr
  refine l_eq X (t := 1076) c_190_633 (by decide) ?_
  exact k _ _ hM2 ⟨_, _, _, _, _, _, _, hC2, hI2, hA⟩
theorem law_18 (X : LX p s m meth c D cI cZ cR sb L xs) (hM : wRM M) (hv : LINV x M) (h0 : 0 ≤ i) (h5 : i + 5 ≤ L) (hsl : slots ≤ 7302250) (k : ∀ (x' : wC) (M' : wM), wRM M' → LINV x' M' → LW p l e s m below meth c D cI cZ cR sb (wW x' M') (lvs s sb i) 127 slots 1076 []) : LW p l e s m below meth c D cI cZ cR sb (wW x M) (lvs s sb i) 127 slots 638 [] := by
  obtain ⟨T, P, R, La, Tm, sd, K, hC, hI, hA⟩ := hv
  obtain ⟨z1, e1, w1⟩ := rdz (xs (i + 1).toNat)
  refine l_a1 X c_190_638 ?_
  refine l_rd X c_190_639 c_190_640 c_190_641 c_190_642 c_190_643 (by omega) (by omega) e1 ?_
  refine l_cl (QC (aDoesV P z1) T P R La Tm sd K x M) (av := [.ref 0, .int (iI z1)]) (rest := []) X c_190_644 (by decide +kernel) rfl (Nat.le_of_ble_eq_true rfl) (Nat.le_of_ble_eq_true rfl) (zrecv_of (by decide +kernel) (by decide +kernel)) hM hsl (s_87 hC hA w1 (fun r M' h1 h2 h3 => ⟨r, h1, rfl, h2, h3, rfl⟩)) ?_
  rintro v x1 M1 hM1 ⟨r, hr, rfl, hC1, hf1, hx1⟩
  have hI1 := MI_hi hI hf1 hx1
  refine l_a2 X c_190_647 ?_
  refine l_rd X c_190_648 c_190_649 c_190_650 c_190_651 c_190_652 (by omega) (by omega) e1 ?_
  refine l_cl (QM (aDoesV P z1) T P R La Tm sd K x1 M1) (av := [.ref 106, .int (iI z1)]) (rest := [.int (iI r)]) X c_190_653 (by decide +kernel) rfl (Nat.le_of_ble_eq_true rfl) (Nat.le_of_ble_eq_true rfl) (zrecv_of (by decide +kernel) (by decide +kernel)) hM1 hsl (s_168 hI1 hA w1 (fun r M' h1 h2 h3 => ⟨r, h1, rfl, h2, h3, rfl, rfl⟩)) ?_
  rintro v x2 M2 hM2 ⟨r2, hr2, rfl, hI2, hf2, hx0, hx2⟩
  have hC2 := CI_lo hC1 hf2 hx0 hx2
  obtain rfl : r2 = r := aDoesV_one hr2 hr
  refine l_eq X (t := 1076) c_190_656 (by decide) ?_
  exact k _ _ hM2 ⟨_, _, _, _, _, _, _, hC2, hI2, hA⟩
theorem law_19 (X : LX p s m meth c D cI cZ cR sb L xs) (hM : wRM M) (hv : LINV x M) (h0 : 0 ≤ i) (h5 : i + 5 ≤ L) (hsl : slots ≤ 7302250) (k : ∀ (x' : wC) (M' : wM), wRM M' → LINV x' M' → LW p l e s m below meth c D cI cZ cR sb (wW x' M') (lvs s sb i) 127 slots 1076 []) : LW p l e s m below meth c D cI cZ cR sb (wW x M) (lvs s sb i) 127 slots 661 [] := by
  obtain ⟨T, P, R, La, Tm, sd, K, hC, hI, hA⟩ := hv
  obtain ⟨z1, e1, w1⟩ := rdz (xs (i + 1).toNat)
  obtain ⟨y1, hy1⟩ : ∃ y : Int, y = (if z1 = 0 then 0 else 1) := ⟨_, rfl⟩
  have b1 : y1 = 0 ∨ y1 = 1 := by rw [hy1]; split <;> simp
  refine l_a1 X c_190_661 ?_
  refine l_rdb X c_190_662 c_190_663 c_190_664 c_190_665 c_190_666 c_190_667 c_190_670 c_190_671 c_190_674 (by omega) (by omega) e1 w1 ?_
  rw [← hy1]
  refine l_cl (QC (aMatV P y1) T P R La Tm sd K x M) (av := [.ref 0, .int (iI y1)]) (rest := []) X c_190_675 (by decide +kernel) rfl (Nat.le_of_ble_eq_true rfl) (Nat.le_of_ble_eq_true rfl) (zrecv_of (by decide +kernel) (by decide +kernel)) hM hsl (s_88 hC hA b1 (fun r M' h1 h2 h3 => ⟨r, h1, rfl, h2, h3, rfl⟩)) ?_
  rintro v x1 M1 hM1 ⟨r, hr, rfl, hC1, hf1, hx1⟩
  have hI1 := MI_hi hI hf1 hx1
  refine l_a2 X c_190_678 ?_
  refine l_rdb X c_190_679 c_190_680 c_190_681 c_190_682 c_190_683 c_190_684 c_190_687 c_190_688 c_190_691 (by omega) (by omega) e1 w1 ?_
  rw [← hy1]
  refine l_cl (QM (aMatV P y1) T P R La Tm sd K x1 M1) (av := [.ref 106, .int (iI y1)]) (rest := [.int (iI r)]) X c_190_692 (by decide +kernel) rfl (Nat.le_of_ble_eq_true rfl) (Nat.le_of_ble_eq_true rfl) (zrecv_of (by decide +kernel) (by decide +kernel)) hM1 hsl (s_170 hI1 hA b1 (fun r M' h1 h2 h3 => ⟨r, h1, rfl, h2, h3, rfl, rfl⟩)) ?_
  rintro v x2 M2 hM2 ⟨r2, hr2, rfl, hI2, hf2, hx0, hx2⟩
  have hC2 := CI_lo hC1 hf2 hx0 hx2
  obtain rfl : r2 = r := aMatV_one hr2 hr
  refine l_eq X (t := 1076) c_190_695 (by decide) ?_
  exact k _ _ hM2 ⟨_, _, _, _, _, _, _, hC2, hI2, hA⟩
theorem law_20 (X : LX p s m meth c D cI cZ cR sb L xs) (hM : wRM M) (hv : LINV x M) (h0 : 0 ≤ i) (h5 : i + 5 ≤ L) (hsl : slots ≤ 7302250) (k : ∀ (x' : wC) (M' : wM), wRM M' → LINV x' M' → LW p l e s m below meth c D cI cZ cR sb (wW x' M') (lvs s sb i) 127 slots 1076 []) : LW p l e s m below meth c D cI cZ cR sb (wW x M) (lvs s sb i) 127 slots 700 [] := by
  obtain ⟨T, P, R, La, Tm, sd, K, hC, hI, hA⟩ := hv
  obtain ⟨z1, e1, w1⟩ := rdz (xs (i + 1).toNat)
  obtain ⟨z2, e2, w2⟩ := rdz (xs (i + 2).toNat)
  refine l_a1 X c_190_700 ?_
  refine l_rd X c_190_701 c_190_702 c_190_703 c_190_704 c_190_705 (by omega) (by omega) e1 ?_
  refine l_rd X c_190_706 c_190_707 c_190_708 c_190_709 c_190_710 (by omega) (by omega) e2 ?_
  refine l_cl (QC (fun r => r = aJudge P R z1 z2) T P R La Tm sd K x M) (av := [.ref 0, .int (iI z1), .int (iI z2)]) (rest := []) X c_190_711 (by decide +kernel) rfl (Nat.le_of_ble_eq_true rfl) (Nat.le_of_ble_eq_true rfl) (zrecv_of (by decide +kernel) (by decide +kernel)) hM hsl (s_93 hC hA w1 w2 (fun M' h1 h2 => ⟨_, rfl, rfl, h1, h2, rfl⟩)) ?_
  rintro v x1 M1 hM1 ⟨r, hr, rfl, hC1, hf1, hx1⟩
  have hI1 := MI_hi hI hf1 hx1
  refine l_a2 X c_190_714 ?_
  refine l_rd X c_190_715 c_190_716 c_190_717 c_190_718 c_190_719 (by omega) (by omega) e1 ?_
  refine l_rd X c_190_720 c_190_721 c_190_722 c_190_723 c_190_724 (by omega) (by omega) e2 ?_
  refine l_cl (QM (fun r => r = aJudge P R z1 z2) T P R La Tm sd K x1 M1) (av := [.ref 106, .int (iI z1), .int (iI z2)]) (rest := [.int (iI r)]) X c_190_725 (by decide +kernel) rfl (Nat.le_of_ble_eq_true rfl) (Nat.le_of_ble_eq_true rfl) (zrecv_of (by decide +kernel) (by decide +kernel)) hM1 hsl (s_172 hI1 hA w1 w2 (fun M' h1 h2 => ⟨_, rfl, rfl, h1, h2, rfl, rfl⟩)) ?_
  rintro v x2 M2 hM2 ⟨r2, hr2, rfl, hI2, hf2, hx0, hx2⟩
  have hC2 := CI_lo hC1 hf2 hx0 hx2
  obtain rfl : r2 = r := hr2.trans hr.symm
  refine l_eq X (t := 1076) c_190_728 (by decide) ?_
  exact k _ _ hM2 ⟨_, _, _, _, _, _, _, hC2, hI2, hA⟩
theorem law_21 (X : LX p s m meth c D cI cZ cR sb L xs) (hM : wRM M) (hv : LINV x M) (h0 : 0 ≤ i) (h5 : i + 5 ≤ L) (hsl : slots ≤ 7302250) (k : ∀ (x' : wC) (M' : wM), wRM M' → LINV x' M' → LW p l e s m below meth c D cI cZ cR sb (wW x' M') (lvs s sb i) 127 slots 1076 []) : LW p l e s m below meth c D cI cZ cR sb (wW x M) (lvs s sb i) 127 slots 733 [] := by
  obtain ⟨T, P, R, La, Tm, sd, K, hC, hI, hA⟩ := hv
  obtain ⟨z1, e1, w1⟩ := rdz (xs (i + 1).toNat)
  obtain ⟨z2, e2, w2⟩ := rdz (xs (i + 2).toNat)
  obtain ⟨y2, hy2⟩ : ∃ y : Int, y = (if z2 = 0 then 0 else 1) := ⟨_, rfl⟩
  have b2 : y2 = 0 ∨ y2 = 1 := by rw [hy2]; split <;> simp
  refine l_a1 X c_190_733 ?_
  refine l_rd X c_190_734 c_190_735 c_190_736 c_190_737 c_190_738 (by omega) (by omega) e1 ?_
  refine l_rdb X c_190_739 c_190_740 c_190_741 c_190_742 c_190_743 c_190_744 c_190_747 c_190_748 c_190_751 (by omega) (by omega) e2 w2 ?_
  rw [← hy2]
  refine l_cl (QC (aShareV P R z1 y2) T P R La Tm sd K x M) (av := [.ref 0, .int (iI z1), .int (iI y2)]) (rest := []) X c_190_752 (by decide +kernel) rfl (Nat.le_of_ble_eq_true rfl) (Nat.le_of_ble_eq_true rfl) (zrecv_of (by decide +kernel) (by decide +kernel)) hM hsl (s_96 hC hA w1 b2 (fun r M' h1 h2 h3 => ⟨r, h1, rfl, h2, h3, rfl⟩)) ?_
  rintro v x1 M1 hM1 ⟨r, hr, rfl, hC1, hf1, hx1⟩
  have hI1 := MI_hi hI hf1 hx1
  refine l_a2 X c_190_755 ?_
  refine l_rd X c_190_756 c_190_757 c_190_758 c_190_759 c_190_760 (by omega) (by omega) e1 ?_
  refine l_rdb X c_190_761 c_190_762 c_190_763 c_190_764 c_190_765 c_190_766 c_190_769 c_190_770 c_190_773 (by omega) (by omega) e2 w2 ?_
  rw [← hy2]
  refine l_cl (QM (aShareV P R z1 y2) T P R La Tm sd K x1 M1) (av := [.ref 106, .int (iI z1), .int (iI y2)]) (rest := [.int (iI r)]) X c_190_774 (by decide +kernel) rfl (Nat.le_of_ble_eq_true rfl) (Nat.le_of_ble_eq_true rfl) (zrecv_of (by decide +kernel) (by decide +kernel)) hM1 hsl (s_177 hI1 hA w1 b2 (fun r M' h1 h2 h3 => ⟨r, h1, rfl, h2, h3, rfl, rfl⟩)) ?_
  rintro v x2 M2 hM2 ⟨r2, hr2, rfl, hI2, hf2, hx0, hx2⟩
  have hC2 := CI_lo hC1 hf2 hx0 hx2
  obtain rfl : r2 = r := aShareV_one hA.2.1 hr2 hr
  refine l_eq X (t := 1076) c_190_777 (by decide) ?_
  exact k _ _ hM2 ⟨_, _, _, _, _, _, _, hC2, hI2, hA⟩
theorem law_22 (X : LX p s m meth c D cI cZ cR sb L xs) (hM : wRM M) (hv : LINV x M) (h0 : 0 ≤ i) (h5 : i + 5 ≤ L) (hsl : slots ≤ 7302250) (k : ∀ (x' : wC) (M' : wM), wRM M' → LINV x' M' → LW p l e s m below meth c D cI cZ cR sb (wW x' M') (lvs s sb i) 127 slots 1076 []) : LW p l e s m below meth c D cI cZ cR sb (wW x M) (lvs s sb i) 127 slots 782 [] := by
  obtain ⟨T, P, R, La, Tm, sd, K, hC, hI, hA⟩ := hv
  obtain ⟨z1, e1, w1⟩ := rdz (xs (i + 1).toNat)
  obtain ⟨z2, e2, w2⟩ := rdz (xs (i + 2).toNat)
  obtain ⟨z3, e3, w3⟩ := rdz (xs (i + 3).toNat)
  obtain ⟨z4, e4, w4⟩ := rdz (xs (i + 4).toNat)
  refine l_a1 X c_190_782 ?_
  refine l_rd X c_190_783 c_190_784 c_190_785 c_190_786 c_190_787 (by omega) (by omega) e1 ?_
  refine l_rd X c_190_788 c_190_789 c_190_790 c_190_791 c_190_792 (by omega) (by omega) e2 ?_
  refine l_rd X c_190_793 c_190_794 c_190_795 c_190_796 c_190_797 (by omega) (by omega) e3 ?_
  refine l_rd X c_190_798 c_190_799 c_190_800 c_190_801 c_190_802 (by omega) (by omega) e4 ?_
  refine l_cl (QC (fun r => r = (aTime P Tm z1 z2 z3 z4).1) T P R La (aTime P Tm z1 z2 z3 z4).2 sd K x M) (av := [.ref 0, .int (iI z1), .int (iI z2), .int (iI z3), .int (iI z4)]) (rest := []) X c_190_803 (by decide +kernel) rfl (Nat.le_of_ble_eq_true rfl) (Nat.le_of_ble_eq_true rfl) (zrecv_of (by decide +kernel) (by decide +kernel)) hM hsl (s_100 hC hA w1 w2 w3 w4 (fun M' h1 h2 => ⟨_, rfl, rfl, h1, h2, rfl⟩)) ?_
  rintro v x1 M1 hM1 ⟨r, hr, rfl, hC1, hf1, hx1⟩
  have hI1 := MI_hi hI hf1 hx1
  refine l_a2 X c_190_806 ?_
  refine l_rd X c_190_807 c_190_808 c_190_809 c_190_810 c_190_811 (by omega) (by omega) e1 ?_
  refine l_rd X c_190_812 c_190_813 c_190_814 c_190_815 c_190_816 (by omega) (by omega) e2 ?_
  refine l_rd X c_190_817 c_190_818 c_190_819 c_190_820 c_190_821 (by omega) (by omega) e3 ?_
  refine l_rd X c_190_822 c_190_823 c_190_824 c_190_825 c_190_826 (by omega) (by omega) e4 ?_
  refine l_cl (QM (fun r => r = (aTime P Tm z1 z2 z3 z4).1) T P R La (aTime P Tm z1 z2 z3 z4).2 sd K x1 M1) (av := [.ref 106, .int (iI z1), .int (iI z2), .int (iI z3), .int (iI z4)]) (rest := [.int (iI r)]) X c_190_827 (by decide +kernel) rfl (Nat.le_of_ble_eq_true rfl) (Nat.le_of_ble_eq_true rfl) (zrecv_of (by decide +kernel) (by decide +kernel)) hM1 hsl (s_178 hI1 hA w1 w2 w3 w4 (fun M' h1 h2 => ⟨_, rfl, rfl, h1, h2, rfl, rfl⟩)) ?_
  rintro v x2 M2 hM2 ⟨r2, hr2, rfl, hI2, hf2, hx0, hx2⟩
  have hC2 := CI_lo hC1 hf2 hx0 hx2
  obtain rfl : r2 = r := hr2.trans hr.symm
  refine l_eq X (t := 1076) c_190_830 (by decide) ?_
  exact k _ _ hM2 ⟨_, _, _, _, _, _, _, hC2, hI2, (AOK_time hA)⟩
theorem law_23 (X : LX p s m meth c D cI cZ cR sb L xs) (hM : wRM M) (hv : LINV x M) (h0 : 0 ≤ i) (h5 : i + 5 ≤ L) (hsl : slots ≤ 7302250) (k : ∀ (x' : wC) (M' : wM), wRM M' → LINV x' M' → LW p l e s m below meth c D cI cZ cR sb (wW x' M') (lvs s sb i) 127 slots 1076 []) : LW p l e s m below meth c D cI cZ cR sb (wW x M) (lvs s sb i) 127 slots 835 [] := by
  obtain ⟨T, P, R, La, Tm, sd, K, hC, hI, hA⟩ := hv
  refine l_a1 X c_190_835 ?_
  refine l_cl (QC (fun r => r = (Tm.1 : Int)) T P R La (0, fun _ _ => 0) sd K x M) (av := [.ref 0]) (rest := []) X c_190_836 (by decide +kernel) rfl (Nat.le_of_ble_eq_true rfl) (Nat.le_of_ble_eq_true rfl) (zrecv_of (by decide +kernel) (by decide +kernel)) hM hsl (s_101 hC hA (fun M' h1 h2 => ⟨_, rfl, rfl, h1, h2, rfl⟩)) ?_
  rintro v x1 M1 hM1 ⟨r, hr, rfl, hC1, hf1, hx1⟩
  have hI1 := MI_hi hI hf1 hx1
  refine l_a2 X c_190_839 ?_
  refine l_cl (QM (fun r => r = (Tm.1 : Int)) T P R La (0, fun _ _ => 0) sd K x1 M1) (av := [.ref 106]) (rest := [.int (iI r)]) X c_190_840 (by decide +kernel) rfl (Nat.le_of_ble_eq_true rfl) (Nat.le_of_ble_eq_true rfl) (zrecv_of (by decide +kernel) (by decide +kernel)) hM1 hsl (s_179 hI1 hA (fun M' h1 h2 => ⟨_, rfl, rfl, h1, h2, rfl, rfl⟩)) ?_
  rintro v x2 M2 hM2 ⟨r2, hr2, rfl, hI2, hf2, hx0, hx2⟩
  have hC2 := CI_lo hC1 hf2 hx0 hx2
  obtain rfl : r2 = r := hr2.trans hr.symm
  refine l_eq X (t := 1076) c_190_843 (by decide) ?_
  exact k _ _ hM2 ⟨_, _, _, _, _, _, _, hC2, hI2, (AOK_untime hA)⟩
theorem law_24 (X : LX p s m meth c D cI cZ cR sb L xs) (hM : wRM M) (hv : LINV x M) (h0 : 0 ≤ i) (h5 : i + 5 ≤ L) (hsl : slots ≤ 7302250) (k : ∀ (x' : wC) (M' : wM), wRM M' → LINV x' M' → LW p l e s m below meth c D cI cZ cR sb (wW x' M') (lvs s sb i) 127 slots 1076 []) : LW p l e s m below meth c D cI cZ cR sb (wW x M) (lvs s sb i) 127 slots 848 [] := by
  obtain ⟨T, P, R, La, Tm, sd, K, hC, hI, hA⟩ := hv
  refine l_a1 X c_190_848 ?_
  refine l_cl (QC (aKindsV P Tm) T P R La Tm sd K x M) (av := [.ref 0]) (rest := []) X c_190_849 (by decide +kernel) rfl (Nat.le_of_ble_eq_true rfl) (Nat.le_of_ble_eq_true rfl) (zrecv_of (by decide +kernel) (by decide +kernel)) hM hsl (s_102 hC hA (fun r h => ⟨r, h, rfl, hC, fun b hb => rfl, rfl⟩)) ?_
  rintro v x1 M1 hM1 ⟨r, hr, rfl, hC1, hf1, hx1⟩
  have hI1 := MI_hi hI hf1 hx1
  refine l_a2 X c_190_852 ?_
  refine l_cl (QM (aKindsV P Tm) T P R La Tm sd K x1 M1) (av := [.ref 106]) (rest := [.int (iI r)]) X c_190_853 (by decide +kernel) rfl (Nat.le_of_ble_eq_true rfl) (Nat.le_of_ble_eq_true rfl) (zrecv_of (by decide +kernel) (by decide +kernel)) hM1 hsl (s_180 hI1 hA (fun r M' h1 h2 h3 => ⟨r, h1, rfl, h2, h3, rfl, rfl⟩)) ?_
  rintro v x2 M2 hM2 ⟨r2, hr2, rfl, hI2, hf2, hx0, hx2⟩
  have hC2 := CI_lo hC1 hf2 hx0 hx2
  obtain rfl : r2 = r := aKindsV_one hr2 hr
  refine l_eq X (t := 1076) c_190_856 (by decide) ?_
  exact k _ _ hM2 ⟨_, _, _, _, _, _, _, hC2, hI2, hA⟩
theorem law_25 (X : LX p s m meth c D cI cZ cR sb L xs) (hM : wRM M) (hv : LINV x M) (h0 : 0 ≤ i) (h5 : i + 5 ≤ L) (hsl : slots ≤ 7302250) (k : ∀ (x' : wC) (M' : wM), wRM M' → LINV x' M' → LW p l e s m below meth c D cI cZ cR sb (wW x' M') (lvs s sb i) 127 slots 1076 []) : LW p l e s m below meth c D cI cZ cR sb (wW x M) (lvs s sb i) 127 slots 861 [] := by
  obtain ⟨T, P, R, La, Tm, sd, K, hC, hI, hA⟩ := hv
  obtain ⟨z1, e1, w1⟩ := rdz (xs (i + 1).toNat)
  obtain ⟨z2, e2, w2⟩ := rdz (xs (i + 2).toNat)
  obtain ⟨z3, e3, w3⟩ := rdz (xs (i + 3).toNat)
  refine l_a1 X c_190_861 ?_
  refine l_rd X c_190_862 c_190_863 c_190_864 c_190_865 c_190_866 (by omega) (by omega) e1 ?_
  refine l_rd X c_190_867 c_190_868 c_190_869 c_190_870 c_190_871 (by omega) (by omega) e2 ?_
  refine l_rd X c_190_872 c_190_873 c_190_874 c_190_875 c_190_876 (by omega) (by omega) e3 ?_
  refine l_cl (QC (aRestsV P R z1 z2 z3) T P R La Tm sd K x M) (av := [.ref 0, .int (iI z1), .int (iI z2), .int (iI z3)]) (rest := []) X c_190_877 (by decide +kernel) rfl (Nat.le_of_ble_eq_true rfl) (Nat.le_of_ble_eq_true rfl) (zrecv_of (by decide +kernel) (by decide +kernel)) hM hsl (s_103 hC hA w1 w2 w3 (fun r M' h1 h2 h3 => ⟨r, h1, rfl, h2, h3, rfl⟩)) ?_
  rintro v x1 M1 hM1 ⟨r, hr, rfl, hC1, hf1, hx1⟩
  have hI1 := MI_hi hI hf1 hx1
  refine l_a2 X c_190_880 ?_
  refine l_rd X c_190_881 c_190_882 c_190_883 c_190_884 c_190_885 (by omega) (by omega) e1 ?_
  refine l_rd X c_190_886 c_190_887 c_190_888 c_190_889 c_190_890 (by omega) (by omega) e2 ?_
  refine l_rd X c_190_891 c_190_892 c_190_893 c_190_894 c_190_895 (by omega) (by omega) e3 ?_
  refine l_cl (QM (aRestsV P R z1 z2 z3) T P R La Tm sd K x1 M1) (av := [.ref 106, .int (iI z1), .int (iI z2), .int (iI z3)]) (rest := [.int (iI r)]) X c_190_896 (by decide +kernel) rfl (Nat.le_of_ble_eq_true rfl) (Nat.le_of_ble_eq_true rfl) (zrecv_of (by decide +kernel) (by decide +kernel)) hM1 hsl (s_182 hI1 hA w1 w2 w3 (fun r M' h1 h2 h3 => ⟨r, h1, rfl, h2, h3, rfl, rfl⟩)) ?_
  rintro v x2 M2 hM2 ⟨r2, hr2, rfl, hI2, hf2, hx0, hx2⟩
  have hC2 := CI_lo hC1 hf2 hx0 hx2
  obtain rfl : r2 = r := aRestsV_one hr2 hr
  refine l_eq X (t := 1076) c_190_899 (by decide) ?_
  exact k _ _ hM2 ⟨_, _, _, _, _, _, _, hC2, hI2, hA⟩
theorem law_26 (X : LX p s m meth c D cI cZ cR sb L xs) (hM : wRM M) (hv : LINV x M) (h0 : 0 ≤ i) (h5 : i + 5 ≤ L) (hsl : slots ≤ 7302250) (k : ∀ (x' : wC) (M' : wM), wRM M' → LINV x' M' → LW p l e s m below meth c D cI cZ cR sb (wW x' M') (lvs s sb i) 127 slots 1076 []) : LW p l e s m below meth c D cI cZ cR sb (wW x M) (lvs s sb i) 127 slots 904 [] := by
  obtain ⟨T, P, R, La, Tm, sd, K, hC, hI, hA⟩ := hv
  obtain ⟨z1, e1, w1⟩ := rdz (xs (i + 1).toNat)
  obtain ⟨z2, e2, w2⟩ := rdz (xs (i + 2).toNat)
  obtain ⟨y2, hy2⟩ : ∃ y : Int, y = (if z2 = 0 then 0 else 1) := ⟨_, rfl⟩
  have b2 : y2 = 0 ∨ y2 = 1 := by rw [hy2]; split <;> simp
  refine l_a1 X c_190_904 ?_
  refine l_rd X c_190_905 c_190_906 c_190_907 c_190_908 c_190_909 (by omega) (by omega) e1 ?_
  refine l_rdb X c_190_910 c_190_911 c_190_912 c_190_913 c_190_914 c_190_915 c_190_918 c_190_919 c_190_922 (by omega) (by omega) e2 w2 ?_
  rw [← hy2]
  refine l_cl (QC (fun r => r = aMis P R z1 y2) T P R La Tm sd K x M) (av := [.ref 0, .int (iI z1), .int (iI y2)]) (rest := []) X c_190_923 (by decide +kernel) rfl (Nat.le_of_ble_eq_true rfl) (Nat.le_of_ble_eq_true rfl) (zrecv_of (by decide +kernel) (by decide +kernel)) hM hsl (s_107 hC hA w1 b2 (fun M' h1 h2 => ⟨_, rfl, rfl, h1, h2, rfl⟩)) ?_
  rintro v x1 M1 hM1 ⟨r, hr, rfl, hC1, hf1, hx1⟩
  have hI1 := MI_hi hI hf1 hx1
  refine l_a2 X c_190_926 ?_
  refine l_rd X c_190_927 c_190_928 c_190_929 c_190_930 c_190_931 (by omega) (by omega) e1 ?_
  refine l_rdb X c_190_932 c_190_933 c_190_934 c_190_935 c_190_936 c_190_937 c_190_940 c_190_941 c_190_944 (by omega) (by omega) e2 w2 ?_
  rw [← hy2]
  refine l_cl (QM (fun r => r = aMis P R z1 y2) T P R La Tm sd K x1 M1) (av := [.ref 106, .int (iI z1), .int (iI y2)]) (rest := [.int (iI r)]) X c_190_945 (by decide +kernel) rfl (Nat.le_of_ble_eq_true rfl) (Nat.le_of_ble_eq_true rfl) (zrecv_of (by decide +kernel) (by decide +kernel)) hM1 hsl (s_183 hI1 hA w1 b2 (fun M' h1 h2 => ⟨_, rfl, rfl, h1, h2, rfl, rfl⟩)) ?_
  rintro v x2 M2 hM2 ⟨r2, hr2, rfl, hI2, hf2, hx0, hx2⟩
  have hC2 := CI_lo hC1 hf2 hx0 hx2
  obtain rfl : r2 = r := hr2.trans hr.symm
  refine l_eq X (t := 1076) c_190_948 (by decide) ?_
  exact k _ _ hM2 ⟨_, _, _, _, _, _, _, hC2, hI2, hA⟩
theorem law_28 (X : LX p s m meth c D cI cZ cR sb L xs) (hM : wRM M) (hv : LINV x M) (h0 : 0 ≤ i) (h5 : i + 5 ≤ L) (hsl : slots ≤ 7302250) (k : ∀ (x' : wC) (M' : wM), wRM M' → LINV x' M' → LW p l e s m below meth c D cI cZ cR sb (wW x' M') (lvs s sb i) 127 slots 1076 []) : LW p l e s m below meth c D cI cZ cR sb (wW x M) (lvs s sb i) 127 slots 1007 [] := by
  obtain ⟨T, P, R, La, Tm, sd, K, hC, hI, hA⟩ := hv
  obtain ⟨z1, e1, w1⟩ := rdz (xs (i + 1).toNat)
  refine l_a1 X c_190_1007 ?_
  refine l_rd X c_190_1008 c_190_1009 c_190_1010 c_190_1011 c_190_1012 (by omega) (by omega) e1 ?_
  refine l_cl (QC (fun r => r = (aWeeks aNs aDz P R sd z1).1) T P R La Tm (aWeeks aNs aDz P R sd z1).2 K x M) (av := [.ref 0, .int (iI z1)]) (rest := []) X c_190_1013 (by decide +kernel) rfl (Nat.le_of_ble_eq_true rfl) (Nat.le_of_ble_eq_true rfl) (zrecv_of (by decide +kernel) (by decide +kernel)) hM hsl (s_110 aNs aDz aNs_eq dz_eq aDz_lt hC hA w1 (fun x' M' h1 h2 h3 h4 => ⟨_, rfl, rfl, h3, h4, h2 106 (by decide)⟩)) ?_
  rintro v x1 M1 hM1 ⟨r, hr, rfl, hC1, hf1, hx1⟩
  have hI1 := MI_hi hI hf1 hx1
  refine l_a2 X c_190_1016 ?_
  refine l_rd X c_190_1017 c_190_1018 c_190_1019 c_190_1020 c_190_1021 (by omega) (by omega) e1 ?_
  refine l_cl (QM (fun r => r = (aWeeks aNs aDz P R sd z1).1) T P R La Tm (aWeeks aNs aDz P R sd z1).2 K x1 M1) (av := [.ref 106, .int (iI z1)]) (rest := [.int (iI r)]) X c_190_1022 (by decide +kernel) rfl (Nat.le_of_ble_eq_true rfl) (Nat.le_of_ble_eq_true rfl) (zrecv_of (by decide +kernel) (by decide +kernel)) hM1 hsl (s_185 aNs aDz aNs_eq dz_eq aDz_lt hI1 hA w1 (fun x' M' h1 h2 h3 h4 => ⟨_, rfl, rfl, h3, h4, h2 0 (by decide), h1⟩)) ?_
  rintro v x2 M2 hM2 ⟨r2, hr2, rfl, hI2, hf2, hx0, hx2⟩
  have hC2 := CI_lo hC1 hf2 hx0 hx2
  obtain rfl : r2 = r := hr2.trans hr.symm
  refine l_eq X (t := 1076) c_190_1025 (by decide) ?_
  exact k _ _ hM2 ⟨_, _, _, _, _, _, _, hC2, hI2, hA⟩
theorem law_29 (X : LX p s m meth c D cI cZ cR sb L xs) (hM : wRM M) (hv : LINV x M) (h0 : 0 ≤ i) (h5 : i + 5 ≤ L) (hsl : slots ≤ 7302250) (k : ∀ (x' : wC) (M' : wM), wRM M' → LINV x' M' → LW p l e s m below meth c D cI cZ cR sb (wW x' M') (lvs s sb i) 127 slots 1076 []) : LW p l e s m below meth c D cI cZ cR sb (wW x M) (lvs s sb i) 127 slots 1030 [] := by
  obtain ⟨T, P, R, La, Tm, sd, K, hC, hI, hA⟩ := hv
  obtain ⟨z1, e1, w1⟩ := rdz (xs (i + 1).toNat)
  refine l_a1 X c_190_1030 ?_
  refine l_rd X c_190_1031 c_190_1032 c_190_1033 c_190_1034 c_190_1035 (by omega) (by omega) e1 ?_
  refine l_cl (QC (fun r => r = (aKeep R K z1).1) T P R La Tm sd (aKeep R K z1).2 x M) (av := [.ref 0, .int (iI z1)]) (rest := []) X c_190_1036 (by decide +kernel) rfl (Nat.le_of_ble_eq_true rfl) (Nat.le_of_ble_eq_true rfl) (zrecv_of (by decide +kernel) (by decide +kernel)) hM hsl (s_112 hC hA w1 (fun M' h1 h2 => ⟨_, rfl, rfl, h1, h2, rfl⟩)) ?_
  rintro v x1 M1 hM1 ⟨r, hr, rfl, hC1, hf1, hx1⟩
  have hI1 := MI_hi hI hf1 hx1
  refine l_a2 X c_190_1039 ?_
  refine l_rd X c_190_1040 c_190_1041 c_190_1042 c_190_1043 c_190_1044 (by omega) (by omega) e1 ?_
  refine l_cl (QM (fun r => r = (aKeep R K z1).1) T P R La Tm sd (aKeep R K z1).2 x1 M1) (av := [.ref 106, .int (iI z1)]) (rest := [.int (iI r)]) X c_190_1045 (by decide +kernel) rfl (Nat.le_of_ble_eq_true rfl) (Nat.le_of_ble_eq_true rfl) (zrecv_of (by decide +kernel) (by decide +kernel)) hM1 hsl (s_186 hI1 hA w1 (fun M' h1 h2 => ⟨_, rfl, rfl, h1, h2, rfl, rfl⟩)) ?_
  rintro v x2 M2 hM2 ⟨r2, hr2, rfl, hI2, hf2, hx0, hx2⟩
  have hC2 := CI_lo hC1 hf2 hx0 hx2
  obtain rfl : r2 = r := hr2.trans hr.symm
  refine l_eq X (t := 1076) c_190_1048 (by decide) ?_
  exact k _ _ hM2 ⟨_, _, _, _, _, _, _, hC2, hI2, (AOK_keep hA)⟩
theorem law_30 (X : LX p s m meth c D cI cZ cR sb L xs) (hM : wRM M) (hv : LINV x M) (h0 : 0 ≤ i) (h5 : i + 5 ≤ L) (hsl : slots ≤ 7302250) (k : ∀ (x' : wC) (M' : wM), wRM M' → LINV x' M' → LW p l e s m below meth c D cI cZ cR sb (wW x' M') (lvs s sb i) 127 slots 1076 []) : LW p l e s m below meth c D cI cZ cR sb (wW x M) (lvs s sb i) 127 slots 1053 [] := by
  obtain ⟨T, P, R, La, Tm, sd, K, hC, hI, hA⟩ := hv
  obtain ⟨z1, e1, w1⟩ := rdz (xs (i + 1).toNat)
  refine l_a1 X c_190_1053 ?_
  refine l_rd X c_190_1054 c_190_1055 c_190_1056 c_190_1057 c_190_1058 (by omega) (by omega) e1 ?_
  refine l_cl (QC (fun r => r = (aAgain R La K z1).1) T P (aAgain R La K z1).2.1 (aAgain R La K z1).2.2 Tm sd K x M) (av := [.ref 0, .int (iI z1)]) (rest := []) X c_190_1059 (by decide +kernel) rfl (Nat.le_of_ble_eq_true rfl) (Nat.le_of_ble_eq_true rfl) (zrecv_of (by decide +kernel) (by decide +kernel)) hM hsl (s_113 hC hA w1 (fun M' h1 h2 => ⟨_, rfl, rfl, h1, h2, rfl⟩)) ?_
  rintro v x1 M1 hM1 ⟨r, hr, rfl, hC1, hf1, hx1⟩
  have hI1 := MI_hi hI hf1 hx1
  refine l_a2 X c_190_1062 ?_
  refine l_rd X c_190_1063 c_190_1064 c_190_1065 c_190_1066 c_190_1067 (by omega) (by omega) e1 ?_
  refine l_cl (QM (fun r => r = (aAgain R La K z1).1) T P (aAgain R La K z1).2.1 (aAgain R La K z1).2.2 Tm sd K x1 M1) (av := [.ref 106, .int (iI z1)]) (rest := [.int (iI r)]) X c_190_1068 (by decide +kernel) rfl (Nat.le_of_ble_eq_true rfl) (Nat.le_of_ble_eq_true rfl) (zrecv_of (by decide +kernel) (by decide +kernel)) hM1 hsl (s_187 hI1 hA w1 (fun M' h1 h2 => ⟨_, rfl, rfl, h1, h2, rfl, rfl⟩)) ?_
  rintro v x2 M2 hM2 ⟨r2, hr2, rfl, hI2, hf2, hx0, hx2⟩
  have hC2 := CI_lo hC1 hf2 hx0 hx2
  obtain rfl : r2 = r := hr2.trans hr.symm
  refine l_eq X (t := 1076) c_190_1071 (by decide) ?_
  exact k _ _ hM2 ⟨_, _, _, _, _, _, _, hC2, hI2, (AOK_again hA)⟩
theorem law_27 (X : LX p s m meth c D cI cZ cR sb L xs) (hM : wRM M) (hv : LINV x M) (h0 : 0 ≤ i) (h5 : i + 5 ≤ L) (hsl : slots ≤ 7302250) (k : ∀ (x' : wC) (M' : wM), wRM M' → LINV x' M' → LW p l e s m below meth c D cI cZ cR sb (wW x' M') (lvs s sb i) 127 slots 1076 []) : LW p l e s m below meth c D cI cZ cR sb (wW x M) (lvs s sb i) 127 slots 953 [] := by
  obtain ⟨T, P, R, La, Tm, sd, K, hC, hI, hA⟩ := hv
  obtain ⟨z1, e1, w1⟩ := rdz (xs (i + 1).toNat)
  obtain ⟨z2, e2, w2⟩ := rdz (xs (i + 2).toNat)
  obtain ⟨v, hv⟩ : ∃ v : Int64, v = ((iI z1).toInt64 <<< ((iI 32).toInt64 &&& 63)) ||| ((iI z2).toInt64 &&& Int64.ofNat 4294967295) := ⟨_, rfl⟩
  refine l_a1 X c_190_953 ?_
  refine l_rd X c_190_954 c_190_955 c_190_956 c_190_957 c_190_958 (by omega) (by omega) e1 ?_
  refine l_i2l X c_190_959 ?_
  refine l_bi X c_190_960 (by decide) ?_
  refine l_lshl X c_190_962 ?_
  refine l_rd X c_190_963 c_190_964 c_190_965 c_190_966 c_190_967 (by omega) (by omega) e2 ?_
  refine l_i2l X c_190_968 ?_
  refine l_ldc2 X c_190_969 ?_
  refine l_land X c_190_972 ?_
  refine l_lor X c_190_973 ?_
  rw [← hv]
  refine l_cl (fun v' x' M' => v' = some (.long sd) ∧ CI x' M' T P R La Tm v K ∧ (∀ b, 106 ≤ b → M' b = M b) ∧ x'.1 106 = x.1 106) (av := [.ref 0, .long v]) (rest := []) X c_190_974 (by decide +kernel) rfl (Nat.le_of_ble_eq_true rfl) (Nat.le_of_ble_eq_true rfl) (zrecv_of (by decide +kernel) (by decide +kernel)) hM hsl (s_109 hC hA (fun h1 => ⟨rfl, h1, fun b hb => rfl, rfl⟩)) ?_
  rintro v1 x1 M1 hM1 ⟨rfl, hC1, hf1, hx1⟩
  have hI1 := MI_hi hI hf1 hx1
  refine l_a2 X c_190_977 ?_
  refine l_rd X c_190_978 c_190_979 c_190_980 c_190_981 c_190_982 (by omega) (by omega) e1 ?_
  refine l_i2l X c_190_983 ?_
  refine l_bi X c_190_984 (by decide) ?_
  refine l_lshl X c_190_986 ?_
  refine l_rd X c_190_987 c_190_988 c_190_989 c_190_990 c_190_991 (by omega) (by omega) e2 ?_
  refine l_i2l X c_190_992 ?_
  refine l_ldc2 X c_190_993 ?_
  refine l_land X c_190_996 ?_
  refine l_lor X c_190_997 ?_
  rw [← hv]
  refine l_cl (fun v' x' M' => v' = some (.long sd) ∧ MI x' M' T P R La Tm v K ∧ (∀ b, b < 106 → M' b = M1 b) ∧ x'.1 0 = x1.1 0 ∧ x'.2 = x1.2) (av := [.ref 106, .long v]) (rest := [.long sd]) X c_190_998 (by decide +kernel) rfl (Nat.le_of_ble_eq_true rfl) (Nat.le_of_ble_eq_true rfl) (zrecv_of (by decide +kernel) (by decide +kernel)) hM1 hsl (s_184 hI1 hA (fun M' h1 h2 => ⟨rfl, h1, h2, rfl, rfl⟩)) ?_
  rintro v2 x2 M2 hM2 ⟨rfl, hI2, hf2, hx0, hx2⟩
  have hC2 := CI_lo hC1 hf2 hx0 hx2
  refine l_lcmp X c_190_1001 ?_
  refine l_z0 X (t := 1076) c_190_1002 (by decide) ?_
  exact k _ _ hM2 ⟨_, _, _, _, _, _, _, hC2, hI2, hA⟩
end LCS
