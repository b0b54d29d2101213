/-! ===== the law's cases ===== -/
section LCS
variable {p : Program} {l : Launch} {e : Env} {s : State} {m : MethodId} {below : List Frame} {meth : Method} {c : Code} {D : va_G} {cI cZ cR sb L : Nat} {xs : Nat → Int32}
variable {slots : Nat} {i : Int} {x : wC} {M : wM}
theorem law_0 (X : LX p s m meth c D cI cZ cR sb L xs) (hM : wRM M) (hv : LINV x M) (h0 : 0 ≤ i) (h5 : i + 5 ≤ L) (hsl : slots ≤ 7302250) (k : ∀ (x' : wC) (M' : wM), wRM M' → LINV x' M' → LW p l e s m below meth c D cI cZ cR sb (wW x' M') (lvs s sb i) 127 slots 1076 []) : LW p l e s m below meth c D cI cZ cR sb (wW x M) (lvs s sb i) 127 slots 172 [] := by
  obtain ⟨T, P, R, La, Tm, sd, K, hC, hI, hA⟩ := hv
  obtain ⟨z1, e1, w1⟩ := rdz (xs (i + 1).toNat)
  refine l_a1 X c_191_172 ?_
  refine l_rd X c_191_173 c_191_174 c_191_175 c_191_176 c_191_177 (by omega) (by omega) e1 ?_
  refine l_cl (QC (fun r => r = (aWrite T z1).1) (aWrite T z1).2 P R La Tm sd K x M) (av := [.ref 0, .int (iI z1)]) (rest := []) X c_191_178 (by decide +kernel) rfl (Nat.le_of_ble_eq_true rfl) (Nat.le_of_ble_eq_true rfl) (zrecv_of (by decide +kernel) (by decide +kernel)) hM hsl (s_66 hC hA w1 (fun h => by rw [aWrite_0 h]; exact ⟨_, rfl, rfl, hC, fun b hb => rfl, rfl⟩) (fun h h1 => by rw [aWrite_1 h h1]; exact ⟨_, rfl, rfl, hC, fun b hb => rfl, rfl⟩) (fun h h1 M' h2 h3 => by rw [aWrite_2 h h1]; exact ⟨_, rfl, rfl, h2, fun b hb => h3 b (by omega), rfl⟩)) ?_
  rintro v x1 M1 hM1 ⟨r, hr, rfl, hC1, hf1, hx1⟩
  have hI1 := MI_hi hI hf1 hx1
  refine l_a2 X c_191_181 ?_
  refine l_rd X c_191_182 c_191_183 c_191_184 c_191_185 c_191_186 (by omega) (by omega) e1 ?_
  refine l_cl (QM (fun r => r = (aWrite T z1).1) (aWrite T z1).2 P R La Tm sd K x1 M1) (av := [.ref 106, .int (iI z1)]) (rest := [.int (iI r)]) X c_191_187 (by decide +kernel) rfl (Nat.le_of_ble_eq_true rfl) (Nat.le_of_ble_eq_true rfl) (zrecv_of (by decide +kernel) (by decide +kernel)) hM1 hsl (s_124 hI1 hA w1 (fun h M' h2 h3 => by rw [aWrite_0 h]; exact ⟨_, rfl, rfl, h2, h3, rfl, rfl⟩) (fun h h1 M' h2 h3 => by rw [aWrite_1 h h1]; exact ⟨_, rfl, rfl, h2, h3, rfl, rfl⟩) (fun h h1 M' h2 h3 => by rw [aWrite_2 h h1]; exact ⟨_, rfl, rfl, h2, h3, rfl, rfl⟩)) ?_
  rintro v x2 M2 hM2 ⟨r2, hr2, rfl, hI2, hf2, hx0, hx2⟩
  have hC2 := CI_lo hC1 hf2 hx0 hx2
  obtain rfl : r2 = r := hr2.trans hr.symm
  refine l_eq X (t := 1076) c_191_190 (by decide) ?_
  exact k _ _ hM2 ⟨_, _, _, _, _, _, _, hC2, hI2, (AOK_write hA)⟩
theorem law_1 (X : LX p s m meth c D cI cZ cR sb L xs) (hM : wRM M) (hv : LINV x M) (h0 : 0 ≤ i) (h5 : i + 5 ≤ L) (hsl : slots ≤ 7302250) (k : ∀ (x' : wC) (M' : wM), wRM M' → LINV x' M' → LW p l e s m below meth c D cI cZ cR sb (wW x' M') (lvs s sb i) 127 slots 1076 []) : LW p l e s m below meth c D cI cZ cR sb (wW x M) (lvs s sb i) 127 slots 195 [] := by
  obtain ⟨T, P, R, La, Tm, sd, K, hC, hI, hA⟩ := hv
  refine l_a1 X c_191_195 ?_
  refine l_cl (QC (fun r => r = (T.length : Int)) [] P R La Tm sd K x M) (av := [.ref 0]) (rest := []) X c_191_196 (by decide +kernel) rfl (Nat.le_of_ble_eq_true rfl) (Nat.le_of_ble_eq_true rfl) (zrecv_of (by decide +kernel) (by decide +kernel)) hM hsl (s_67 hC hA (fun M' h1 h2 => ⟨_, rfl, rfl, h1, fun b hb => h2 b (by omega), rfl⟩)) ?_
  rintro v x1 M1 hM1 ⟨r, hr, rfl, hC1, hf1, hx1⟩
  have hI1 := MI_hi hI hf1 hx1
  refine l_a2 X c_191_199 ?_
  refine l_cl (QM (fun r => r = (T.length : Int)) [] P R La Tm sd K x1 M1) (av := [.ref 106]) (rest := [.int (iI r)]) X c_191_200 (by decide +kernel) rfl (Nat.le_of_ble_eq_true rfl) (Nat.le_of_ble_eq_true rfl) (zrecv_of (by decide +kernel) (by decide +kernel)) hM1 hsl (s_125 hI1 hA (fun M' h1 h2 => ⟨_, rfl, rfl, h1, h2, rfl, rfl⟩)) ?_
  rintro v x2 M2 hM2 ⟨r2, hr2, rfl, hI2, hf2, hx0, hx2⟩
  have hC2 := CI_lo hC1 hf2 hx0 hx2
  obtain rfl : r2 = r := hr2.trans hr.symm
  refine l_eq X (t := 1076) c_191_203 (by decide) ?_
  exact k _ _ hM2 ⟨_, _, _, _, _, _, _, hC2, hI2, (AOK_wipe hA)⟩
theorem law_2 (X : LX p s m meth c D cI cZ cR sb L xs) (hM : wRM M) (hv : LINV x M) (h0 : 0 ≤ i) (h5 : i + 5 ≤ L) (hsl : slots ≤ 7302250) (k : ∀ (x' : wC) (M' : wM), wRM M' → LINV x' M' → LW p l e s m below meth c D cI cZ cR sb (wW x' M') (lvs s sb i) 127 slots 1076 []) : LW p l e s m below meth c D cI cZ cR sb (wW x M) (lvs s sb i) 127 slots 208 [] := by
  obtain ⟨T, P, R, La, Tm, sd, K, hC, hI, hA⟩ := hv
  refine l_a1 X c_191_208 ?_
  refine l_cl (QC (fun r => r = (aFault T).1) T P R La Tm sd K x M) (av := [.ref 0]) (rest := []) X c_191_209 (by decide +kernel) rfl (Nat.le_of_ble_eq_true rfl) (Nat.le_of_ble_eq_true rfl) (zrecv_of (by decide +kernel) (by decide +kernel)) hM hsl (s_68 hC hA (fun M' h1 h2 => ⟨_, rfl, rfl, h1, h2, rfl⟩)) ?_
  rintro v x1 M1 hM1 ⟨r, hr, rfl, hC1, hf1, hx1⟩
  have hI1 := MI_hi hI hf1 hx1
  refine l_a2 X c_191_212 ?_
  refine l_cl (QM (fun r => r = (aFault T).1) T P R La Tm sd K x1 M1) (av := [.ref 106]) (rest := [.int (iI r)]) X c_191_213 (by decide +kernel) rfl (Nat.le_of_ble_eq_true rfl) (Nat.le_of_ble_eq_true rfl) (zrecv_of (by decide +kernel) (by decide +kernel)) hM1 hsl (s_132 hI1 hA (fun M' h1 h2 => ⟨_, rfl, rfl, h1, h2, rfl, rfl⟩)) ?_
  rintro v x2 M2 hM2 ⟨r2, hr2, rfl, hI2, hf2, hx0, hx2⟩
  have hC2 := CI_lo hC1 hf2 hx0 hx2
  obtain rfl : r2 = r := hr2.trans hr.symm
  refine l_eq X (t := 1076) c_191_216 (by decide) ?_
  exact k _ _ hM2 ⟨_, _, _, _, _, _, _, hC2, hI2, hA⟩
theorem law_3 (X : LX p s m meth c D cI cZ cR sb L xs) (hM : wRM M) (hv : LINV x M) (h0 : 0 ≤ i) (h5 : i + 5 ≤ L) (hsl : slots ≤ 7302250) (k : ∀ (x' : wC) (M' : wM), wRM M' → LINV x' M' → LW p l e s m below meth c D cI cZ cR sb (wW x' M') (lvs s sb i) 127 slots 1076 []) : LW p l e s m below meth c D cI cZ cR sb (wW x M) (lvs s sb i) 127 slots 221 [] := by
  obtain ⟨T, P, R, La, Tm, sd, K, hC, hI, hA⟩ := hv
  refine l_a1 X c_191_221 ?_
  refine l_cl (QC (fun r => r = (aPortZ T P R La K).1) T (aPortZ T P R La K).2.1 (aPortZ T P R La K).2.2.1 (aPortZ T P R La K).2.2.2.1 Tm sd (aPortZ T P R La K).2.2.2.2 x M) (av := [.ref 0]) (rest := []) X c_191_222 (by decide +kernel) rfl (Nat.le_of_ble_eq_true rfl) (Nat.le_of_ble_eq_true rfl) (zrecv_of (by decide +kernel) (by decide +kernel)) hM hsl (s_69 hC hA (fun M' h h1 h2 => by rw [aPortZ_n h]; exact ⟨_, rfl, rfl, h1, h2, rfl⟩) (fun rows x' M' h hx h1 h2 => by rw [aPortZ_y h]; exact ⟨_, rfl, rfl, h1, h2, by rw [hx]⟩)) ?_
  rintro v x1 M1 hM1 ⟨r, hr, rfl, hC1, hf1, hx1⟩
  have hI1 := MI_hi hI hf1 hx1
  refine l_a2 X c_191_225 ?_
  refine l_cl (QM (fun r => r = (aPortZ T P R La K).1) T (aPortZ T P R La K).2.1 (aPortZ T P R La K).2.2.1 (aPortZ T P R La K).2.2.2.1 Tm sd (aPortZ T P R La K).2.2.2.2 x1 M1) (av := [.ref 106]) (rest := [.int (iI r)]) X c_191_226 (by decide +kernel) rfl (Nat.le_of_ble_eq_true rfl) (Nat.le_of_ble_eq_true rfl) (zrecv_of (by decide +kernel) (by decide +kernel)) hM1 hsl (s_134 hI1 hA (fun M' h h1 h2 => by rw [aPortZ_n h]; exact ⟨_, rfl, rfl, h1, h2, rfl, rfl⟩) (fun rows M' h h1 h2 => by rw [aPortZ_y h]; exact ⟨_, rfl, rfl, h1, h2, rfl, rfl⟩)) ?_
  rintro v x2 M2 hM2 ⟨r2, hr2, rfl, hI2, hf2, hx0, hx2⟩
  have hC2 := CI_lo hC1 hf2 hx0 hx2
  obtain rfl : r2 = r := hr2.trans hr.symm
  refine l_eq X (t := 1076) c_191_229 (by decide) ?_
  exact k _ _ hM2 ⟨_, _, _, _, _, _, _, hC2, hI2, (AOK_port hA)⟩
theorem law_4 (X : LX p s m meth c D cI cZ cR sb L xs) (hM : wRM M) (hv : LINV x M) (h0 : 0 ≤ i) (h5 : i + 5 ≤ L) (hsl : slots ≤ 7302250) (k : ∀ (x' : wC) (M' : wM), wRM M' → LINV x' M' → LW p l e s m below meth c D cI cZ cR sb (wW x' M') (lvs s sb i) 127 slots 1076 []) : LW p l e s m below meth c D cI cZ cR sb (wW x M) (lvs s sb i) 127 slots 234 [] := by
  obtain ⟨T, P, R, La, Tm, sd, K, hC, hI, hA⟩ := hv
  obtain ⟨z1, e1, w1⟩ := rdz (xs (i + 1).toNat)
  refine l_a1 X c_191_234 ?_
  refine l_rd X c_191_235 c_191_236 c_191_237 c_191_238 c_191_239 (by omega) (by omega) e1 ?_
  refine l_cl (QC (fun r => r = aAbout T P R La Tm z1) T P R La Tm sd K x M) (av := [.ref 0, .int (iI z1)]) (rest := []) X c_191_240 (by decide +kernel) rfl (Nat.le_of_ble_eq_true rfl) (Nat.le_of_ble_eq_true rfl) (zrecv_of (by decide +kernel) (by decide +kernel)) hM hsl (s_70 hC hA w1 ⟨_, rfl, rfl, hC, fun b hb => rfl, rfl⟩) ?_
  rintro v x1 M1 hM1 ⟨r, hr, rfl, hC1, hf1, hx1⟩
  have hI1 := MI_hi hI hf1 hx1
  refine l_a2 X c_191_243 ?_
  refine l_rd X c_191_244 c_191_245 c_191_246 c_191_247 c_191_248 (by omega) (by omega) e1 ?_
  refine l_cl (QM (fun r => r = aAbout T P R La Tm z1) T P R La Tm sd K x1 M1) (av := [.ref 106, .int (iI z1)]) (rest := [.int (iI r)]) X c_191_249 (by decide +kernel) rfl (Nat.le_of_ble_eq_true rfl) (Nat.le_of_ble_eq_true rfl) (zrecv_of (by decide +kernel) (by decide +kernel)) hM1 hsl (s_141 hI1 hA w1 (fun M' h1 h2 => ⟨_, rfl, rfl, h1, h2, rfl, rfl⟩)) ?_
  rintro v x2 M2 hM2 ⟨r2, hr2, rfl, hI2, hf2, hx0, hx2⟩
  have hC2 := CI_lo hC1 hf2 hx0 hx2
  obtain rfl : r2 = r := hr2.trans hr.symm
  refine l_eq X (t := 1076) c_191_252 (by decide) ?_
  exact k _ _ hM2 ⟨_, _, _, _, _, _, _, hC2, hI2, hA⟩
theorem law_5 (X : LX p s m meth c D cI cZ cR sb L xs) (hM : wRM M) (hv : LINV x M) (h0 : 0 ≤ i) (h5 : i + 5 ≤ L) (hsl : slots ≤ 7302250) (k : ∀ (x' : wC) (M' : wM), wRM M' → LINV x' M' → LW p l e s m below meth c D cI cZ cR sb (wW x' M') (lvs s sb i) 127 slots 1076 []) : LW p l e s m below meth c D cI cZ cR sb (wW x M) (lvs s sb i) 127 slots 257 [] := by
  obtain ⟨T, P, R, La, Tm, sd, K, hC, hI, hA⟩ := hv
  obtain ⟨z1, e1, w1⟩ := rdz (xs (i + 1).toNat)
  obtain ⟨z2, e2, w2⟩ := rdz (xs (i + 2).toNat)
  refine l_a1 X c_191_257 ?_
  refine l_rd X c_191_258 c_191_259 c_191_260 c_191_261 c_191_262 (by omega) (by omega) e1 ?_
  refine l_rd X c_191_263 c_191_264 c_191_265 c_191_266 c_191_267 (by omega) (by omega) e2 ?_
  refine l_cl (QC (fun r => r = aGlass P z1 z2) T P R La Tm sd K x M) (av := [.ref 0, .int (iI z1), .int (iI z2)]) (rest := []) X c_191_268 (by decide +kernel) rfl (Nat.le_of_ble_eq_true rfl) (Nat.le_of_ble_eq_true rfl) (zrecv_of (by decide +kernel) (by decide +kernel)) hM hsl (s_72 hC hA w1 w2 ⟨_, rfl, rfl, hC, fun b hb => rfl, rfl⟩) ?_
  rintro v x1 M1 hM1 ⟨r, hr, rfl, hC1, hf1, hx1⟩
  have hI1 := MI_hi hI hf1 hx1
  refine l_a2 X c_191_271 ?_
  refine l_rd X c_191_272 c_191_273 c_191_274 c_191_275 c_191_276 (by omega) (by omega) e1 ?_
  refine l_rd X c_191_277 c_191_278 c_191_279 c_191_280 c_191_281 (by omega) (by omega) e2 ?_
  refine l_cl (QM (fun r => r = aGlass P z1 z2) T P R La Tm sd K x1 M1) (av := [.ref 106, .int (iI z1), .int (iI z2)]) (rest := [.int (iI r)]) X c_191_282 (by decide +kernel) rfl (Nat.le_of_ble_eq_true rfl) (Nat.le_of_ble_eq_true rfl) (zrecv_of (by decide +kernel) (by decide +kernel)) hM1 hsl (s_142 hI1 hA w1 w2 (fun M' h1 h2 => ⟨_, rfl, rfl, h1, h2, rfl, rfl⟩)) ?_
  rintro v x2 M2 hM2 ⟨r2, hr2, rfl, hI2, hf2, hx0, hx2⟩
  have hC2 := CI_lo hC1 hf2 hx0 hx2
  obtain rfl : r2 = r := hr2.trans hr.symm
  refine l_eq X (t := 1076) c_191_285 (by decide) ?_
  exact k _ _ hM2 ⟨_, _, _, _, _, _, _, hC2, hI2, hA⟩
theorem law_6 (X : LX p s m meth c D cI cZ cR sb L xs) (hM : wRM M) (hv : LINV x M) (h0 : 0 ≤ i) (h5 : i + 5 ≤ L) (hsl : slots ≤ 7302250) (k : ∀ (x' : wC) (M' : wM), wRM M' → LINV x' M' → LW p l e s m below meth c D cI cZ cR sb (wW x' M') (lvs s sb i) 127 slots 1076 []) : LW p l e s m below meth c D cI cZ cR sb (wW x M) (lvs s sb i) 127 slots 290 [] := by
  obtain ⟨T, P, R, La, Tm, sd, K, hC, hI, hA⟩ := hv
  obtain ⟨z1, e1, w1⟩ := rdz (xs (i + 1).toNat)
  obtain ⟨z2, e2, w2⟩ := rdz (xs (i + 2).toNat)
  refine l_a1 X c_191_290 ?_
  refine l_rd X c_191_291 c_191_292 c_191_293 c_191_294 c_191_295 (by omega) (by omega) e1 ?_
  refine l_rd X c_191_296 c_191_297 c_191_298 c_191_299 c_191_300 (by omega) (by omega) e2 ?_
  refine l_cl (QC (fun r => r = aSuitor P z1 z2) T P R La Tm sd K x M) (av := [.ref 0, .int (iI z1), .int (iI z2)]) (rest := []) X c_191_301 (by decide +kernel) rfl (Nat.le_of_ble_eq_true rfl) (Nat.le_of_ble_eq_true rfl) (zrecv_of (by decide +kernel) (by decide +kernel)) hM hsl (s_73 hC hA w1 w2 ⟨_, rfl, rfl, hC, fun b hb => rfl, rfl⟩) ?_
  rintro v x1 M1 hM1 ⟨r, hr, rfl, hC1, hf1, hx1⟩
  have hI1 := MI_hi hI hf1 hx1
  refine l_a2 X c_191_304 ?_
  refine l_rd X c_191_305 c_191_306 c_191_307 c_191_308 c_191_309 (by omega) (by omega) e1 ?_
  refine l_rd X c_191_310 c_191_311 c_191_312 c_191_313 c_191_314 (by omega) (by omega) e2 ?_
  refine l_cl (QM (fun r => r = aSuitor P z1 z2) T P R La Tm sd K x1 M1) (av := [.ref 106, .int (iI z1), .int (iI z2)]) (rest := [.int (iI r)]) X c_191_315 (by decide +kernel) rfl (Nat.le_of_ble_eq_true rfl) (Nat.le_of_ble_eq_true rfl) (zrecv_of (by decide +kernel) (by decide +kernel)) hM1 hsl (s_143 hI1 hA w1 w2 (fun M' h1 h2 => ⟨_, rfl, rfl, h1, h2, rfl, rfl⟩)) ?_
  rintro v x2 M2 hM2 ⟨r2, hr2, rfl, hI2, hf2, hx0, hx2⟩
  have hC2 := CI_lo hC1 hf2 hx0 hx2
  obtain rfl : r2 = r := hr2.trans hr.symm
  refine l_eq X (t := 1076) c_191_318 (by decide) ?_
  exact k _ _ hM2 ⟨_, _, _, _, _, _, _, hC2, hI2, hA⟩
theorem law_7 (X : LX p s m meth c D cI cZ cR sb L xs) (hM : wRM M) (hv : LINV x M) (h0 : 0 ≤ i) (h5 : i + 5 ≤ L) (hsl : slots ≤ 7302250) (k : ∀ (x' : wC) (M' : wM), wRM M' → LINV x' M' → LW p l e s m below meth c D cI cZ cR sb (wW x' M') (lvs s sb i) 127 slots 1076 []) : LW p l e s m below meth c D cI cZ cR sb (wW x M) (lvs s sb i) 127 slots 323 [] := by
  obtain ⟨T, P, R, La, Tm, sd, K, hC, hI, hA⟩ := hv
  obtain ⟨z1, e1, w1⟩ := rdz (xs (i + 1).toNat)
  obtain ⟨z2, e2, w2⟩ := rdz (xs (i + 2).toNat)
  refine l_a1 X c_191_323 ?_
  refine l_rd X c_191_324 c_191_325 c_191_326 c_191_327 c_191_328 (by omega) (by omega) e1 ?_
  refine l_rd X c_191_329 c_191_330 c_191_331 c_191_332 c_191_333 (by omega) (by omega) e2 ?_
  refine l_cl (QC (fun r => r = aSaying P R z1 z2) T P R La Tm sd K x M) (av := [.ref 0, .int (iI z1), .int (iI z2)]) (rest := []) X c_191_334 (by decide +kernel) rfl (Nat.le_of_ble_eq_true rfl) (Nat.le_of_ble_eq_true rfl) (zrecv_of (by decide +kernel) (by decide +kernel)) hM hsl (s_74 hC hA w1 w2 ⟨_, rfl, rfl, hC, fun b hb => rfl, rfl⟩) ?_
  rintro v x1 M1 hM1 ⟨r, hr, rfl, hC1, hf1, hx1⟩
  have hI1 := MI_hi hI hf1 hx1
  refine l_a2 X c_191_337 ?_
  refine l_rd X c_191_338 c_191_339 c_191_340 c_191_341 c_191_342 (by omega) (by omega) e1 ?_
  refine l_rd X c_191_343 c_191_344 c_191_345 c_191_346 c_191_347 (by omega) (by omega) e2 ?_
  refine l_cl (QM (fun r => r = aSaying P R z1 z2) T P R La Tm sd K x1 M1) (av := [.ref 106, .int (iI z1), .int (iI z2)]) (rest := [.int (iI r)]) X c_191_348 (by decide +kernel) rfl (Nat.le_of_ble_eq_true rfl) (Nat.le_of_ble_eq_true rfl) (zrecv_of (by decide +kernel) (by decide +kernel)) hM1 hsl (s_145 hI1 hA w1 w2 (fun M' h1 h2 => ⟨_, rfl, rfl, h1, h2, rfl, rfl⟩)) ?_
  rintro v x2 M2 hM2 ⟨r2, hr2, rfl, hI2, hf2, hx0, hx2⟩
  have hC2 := CI_lo hC1 hf2 hx0 hx2
  obtain rfl : r2 = r := hr2.trans hr.symm
  refine l_eq X (t := 1076) c_191_351 (by decide) ?_
  exact k _ _ hM2 ⟨_, _, _, _, _, _, _, hC2, hI2, hA⟩
theorem law_8 (X : LX p s m meth c D cI cZ cR sb L xs) (hM : wRM M) (hv : LINV x M) (h0 : 0 ≤ i) (h5 : i + 5 ≤ L) (hsl : slots ≤ 7302250) (k : ∀ (x' : wC) (M' : wM), wRM M' → LINV x' M' → LW p l e s m below meth c D cI cZ cR sb (wW x' M') (lvs s sb i) 127 slots 1076 []) : LW p l e s m below meth c D cI cZ cR sb (wW x M) (lvs s sb i) 127 slots 356 [] := by
  obtain ⟨T, P, R, La, Tm, sd, K, hC, hI, hA⟩ := hv
  obtain ⟨z1, e1, w1⟩ := rdz (xs (i + 1).toNat)
  refine l_a1 X c_191_356 ?_
  refine l_rd X c_191_357 c_191_358 c_191_359 c_191_360 c_191_361 (by omega) (by omega) e1 ?_
  refine l_cl (QC (fun r => r = aSaidAt R z1) T P R La Tm sd K x M) (av := [.ref 0, .int (iI z1)]) (rest := []) X c_191_362 (by decide +kernel) rfl (Nat.le_of_ble_eq_true rfl) (Nat.le_of_ble_eq_true rfl) (zrecv_of (by decide +kernel) (by decide +kernel)) hM hsl (s_75 hC hA w1 ⟨_, rfl, rfl, hC, fun b hb => rfl, rfl⟩) ?_
  rintro v x1 M1 hM1 ⟨r, hr, rfl, hC1, hf1, hx1⟩
  have hI1 := MI_hi hI hf1 hx1
  refine l_a2 X c_191_365 ?_
  refine l_rd X c_191_366 c_191_367 c_191_368 c_191_369 c_191_370 (by omega) (by omega) e1 ?_
  refine l_cl (QM (fun r => r = aSaidAt R z1) T P R La Tm sd K x1 M1) (av := [.ref 106, .int (iI z1)]) (rest := [.int (iI r)]) X c_191_371 (by decide +kernel) rfl (Nat.le_of_ble_eq_true rfl) (Nat.le_of_ble_eq_true rfl) (zrecv_of (by decide +kernel) (by decide +kernel)) hM1 hsl (s_146 hI1 hA w1 (fun M' h1 h2 => ⟨_, rfl, rfl, h1, h2, rfl, rfl⟩)) ?_
  rintro v x2 M2 hM2 ⟨r2, hr2, rfl, hI2, hf2, hx0, hx2⟩
  have hC2 := CI_lo hC1 hf2 hx0 hx2
  obtain rfl : r2 = r := hr2.trans hr.symm
  refine l_eq X (t := 1076) c_191_374 (by decide) ?_
  exact k _ _ hM2 ⟨_, _, _, _, _, _, _, hC2, hI2, hA⟩
theorem law_9 (X : LX p s m meth c D cI cZ cR sb L xs) (hM : wRM M) (hv : LINV x M) (h0 : 0 ≤ i) (h5 : i + 5 ≤ L) (hsl : slots ≤ 7302250) (k : ∀ (x' : wC) (M' : wM), wRM M' → LINV x' M' → LW p l e s m below meth c D cI cZ cR sb (wW x' M') (lvs s sb i) 127 slots 1076 []) : LW p l e s m below meth c D cI cZ cR sb (wW x M) (lvs s sb i) 127 slots 379 [] := by
  obtain ⟨T, P, R, La, Tm, sd, K, hC, hI, hA⟩ := hv
  obtain ⟨z1, e1, w1⟩ := rdz (xs (i + 1).toNat)
  obtain ⟨z2, e2, w2⟩ := rdz (xs (i + 2).toNat)
  obtain ⟨z3, e3, w3⟩ := rdz (xs (i + 3).toNat)
  obtain ⟨z4, e4, w4⟩ := rdz (xs (i + 4).toNat)
  refine l_a1 X c_191_379 ?_
  refine l_rd X c_191_380 c_191_381 c_191_382 c_191_383 c_191_384 (by omega) (by omega) e1 ?_
  refine l_rd X c_191_385 c_191_386 c_191_387 c_191_388 c_191_389 (by omega) (by omega) e2 ?_
  refine l_rd X c_191_390 c_191_391 c_191_392 c_191_393 c_191_394 (by omega) (by omega) e3 ?_
  refine l_rd X c_191_395 c_191_396 c_191_397 c_191_398 c_191_399 (by omega) (by omega) e4 ?_
  refine l_cl (QC (fun r => r = aTakes P z1 z2 z3 z4) T P R La Tm sd K x M) (av := [.ref 0, .int (iI z1), .int (iI z2), .int (iI z3), .int (iI z4)]) (rest := []) X c_191_400 (by decide +kernel) rfl (Nat.le_of_ble_eq_true rfl) (Nat.le_of_ble_eq_true rfl) (zrecv_of (by decide +kernel) (by decide +kernel)) hM hsl (s_76 hC hA w1 w2 w3 w4 ⟨_, rfl, rfl, hC, fun b hb => rfl, rfl⟩) ?_
  rintro v x1 M1 hM1 ⟨r, hr, rfl, hC1, hf1, hx1⟩
  have hI1 := MI_hi hI hf1 hx1
  refine l_a2 X c_191_403 ?_
  refine l_rd X c_191_404 c_191_405 c_191_406 c_191_407 c_191_408 (by omega) (by omega) e1 ?_
  refine l_rd X c_191_409 c_191_410 c_191_411 c_191_412 c_191_413 (by omega) (by omega) e2 ?_
  refine l_rd X c_191_414 c_191_415 c_191_416 c_191_417 c_191_418 (by omega) (by omega) e3 ?_
  refine l_rd X c_191_419 c_191_420 c_191_421 c_191_422 c_191_423 (by omega) (by omega) e4 ?_
  refine l_cl (QM (fun r => r = aTakes P z1 z2 z3 z4) T P R La Tm sd K x1 M1) (av := [.ref 106, .int (iI z1), .int (iI z2), .int (iI z3), .int (iI z4)]) (rest := [.int (iI r)]) X c_191_424 (by decide +kernel) rfl (Nat.le_of_ble_eq_true rfl) (Nat.le_of_ble_eq_true rfl) (zrecv_of (by decide +kernel) (by decide +kernel)) hM1 hsl (s_147 hI1 hA w1 w2 w3 w4 (fun M' h1 h2 => ⟨_, rfl, rfl, h1, h2, rfl, rfl⟩)) ?_
  rintro v x2 M2 hM2 ⟨r2, hr2, rfl, hI2, hf2, hx0, hx2⟩
  have hC2 := CI_lo hC1 hf2 hx0 hx2
  obtain rfl : r2 = r := hr2.trans hr.symm
  refine l_eq X (t := 1076) c_191_427 (by decide) ?_
  exact k _ _ hM2 ⟨_, _, _, _, _, _, _, hC2, hI2, hA⟩
theorem law_10 (X : LX p s m meth c D cI cZ cR sb L xs) (hM : wRM M) (hv : LINV x M) (h0 : 0 ≤ i) (h5 : i + 5 ≤ L) (hsl : slots ≤ 7302250) (k : ∀ (x' : wC) (M' : wM), wRM M' → LINV x' M' → LW p l e s m below meth c D cI cZ cR sb (wW x' M') (lvs s sb i) 127 slots 1076 []) : LW p l e s m below meth c D cI cZ cR sb (wW x M) (lvs s sb i) 127 slots 432 [] := by
  obtain ⟨T, P, R, La, Tm, sd, K, hC, hI, hA⟩ := hv
  obtain ⟨z1, e1, w1⟩ := rdz (xs (i + 1).toNat)
  obtain ⟨z2, e2, w2⟩ := rdz (xs (i + 2).toNat)
  refine l_a1 X c_191_432 ?_
  refine l_rd X c_191_433 c_191_434 c_191_435 c_191_436 c_191_437 (by omega) (by omega) e1 ?_
  refine l_rd X c_191_438 c_191_439 c_191_440 c_191_441 c_191_442 (by omega) (by omega) e2 ?_
  refine l_cl (QC (fun r => r = (aTurn P R La z1 z2).1) T P (aTurn P R La z1 z2).2.1 (aTurn P R La z1 z2).2.2 Tm sd K x M) (av := [.ref 0, .int (iI z1), .int (iI z2)]) (rest := []) X c_191_443 (by decide +kernel) rfl (Nat.le_of_ble_eq_true rfl) (Nat.le_of_ble_eq_true rfl) (zrecv_of (by decide +kernel) (by decide +kernel)) hM hsl (s_77 hC hA w1 w2 (fun M' h1 h2 => ⟨_, rfl, rfl, h1, h2, rfl⟩)) ?_
  rintro v x1 M1 hM1 ⟨r, hr, rfl, hC1, hf1, hx1⟩
  have hI1 := MI_hi hI hf1 hx1
  refine l_a2 X c_191_446 ?_
  refine l_rd X c_191_447 c_191_448 c_191_449 c_191_450 c_191_451 (by omega) (by omega) e1 ?_
  refine l_rd X c_191_452 c_191_453 c_191_454 c_191_455 c_191_456 (by omega) (by omega) e2 ?_
  refine l_cl (QM (fun r => r = (aTurn P R La z1 z2).1) T P (aTurn P R La z1 z2).2.1 (aTurn P R La z1 z2).2.2 Tm sd K x1 M1) (av := [.ref 106, .int (iI z1), .int (iI z2)]) (rest := [.int (iI r)]) X c_191_457 (by decide +kernel) rfl (Nat.le_of_ble_eq_true rfl) (Nat.le_of_ble_eq_true rfl) (zrecv_of (by decide +kernel) (by decide +kernel)) hM1 hsl (s_150 hI1 hA w1 w2 (fun M' h1 h2 => ⟨_, rfl, rfl, h1, h2, rfl, rfl⟩)) ?_
  rintro v x2 M2 hM2 ⟨r2, hr2, rfl, hI2, hf2, hx0, hx2⟩
  have hC2 := CI_lo hC1 hf2 hx0 hx2
  obtain rfl : r2 = r := hr2.trans hr.symm
  refine l_eq X (t := 1076) c_191_460 (by decide) ?_
  exact k _ _ hM2 ⟨_, _, _, _, _, _, _, hC2, hI2, (AOK_turn hA)⟩
theorem law_11 (X : LX p s m meth c D cI cZ cR sb L xs) (hM : wRM M) (hv : LINV x M) (h0 : 0 ≤ i) (h5 : i + 5 ≤ L) (hsl : slots ≤ 7302250) (k : ∀ (x' : wC) (M' : wM), wRM M' → LINV x' M' → LW p l e s m below meth c D cI cZ cR sb (wW x' M') (lvs s sb i) 127 slots 1076 []) : LW p l e s m below meth c D cI cZ cR sb (wW x M) (lvs s sb i) 127 slots 465 [] := by
  obtain ⟨T, P, R, La, Tm, sd, K, hC, hI, hA⟩ := hv
  obtain ⟨z1, e1, w1⟩ := rdz (xs (i + 1).toNat)
  refine l_a1 X c_191_465 ?_
  refine l_rd X c_191_466 c_191_467 c_191_468 c_191_469 c_191_470 (by omega) (by omega) e1 ?_
  refine l_cl (QC (fun r => r = (aSayA P R La z1).1) T P (aSayA P R La z1).2.1 (aSayA P R La z1).2.2 Tm sd K x M) (av := [.ref 0, .int (iI z1)]) (rest := []) X c_191_471 (by decide +kernel) rfl (Nat.le_of_ble_eq_true rfl) (Nat.le_of_ble_eq_true rfl) (zrecv_of (by decide +kernel) (by decide +kernel)) hM hsl (s_78 hC hA w1 (fun M' h1 h2 => ⟨_, rfl, rfl, h1, h2, rfl⟩)) ?_
  rintro v x1 M1 hM1 ⟨r, hr, rfl, hC1, hf1, hx1⟩
  have hI1 := MI_hi hI hf1 hx1
  refine l_a2 X c_191_474 ?_
  refine l_rd X c_191_475 c_191_476 c_191_477 c_191_478 c_191_479 (by omega) (by omega) e1 ?_
  refine l_cl (QM (fun r => r = (aSayA P R La z1).1) T P (aSayA P R La z1).2.1 (aSayA P R La z1).2.2 Tm sd K x1 M1) (av := [.ref 106, .int (iI z1)]) (rest := [.int (iI r)]) X c_191_480 (by decide +kernel) rfl (Nat.le_of_ble_eq_true rfl) (Nat.le_of_ble_eq_true rfl) (zrecv_of (by decide +kernel) (by decide +kernel)) hM1 hsl (s_153 hI1 hA w1 (fun M' h1 h2 => ⟨_, rfl, rfl, h1, h2, rfl, rfl⟩)) ?_
  rintro v x2 M2 hM2 ⟨r2, hr2, rfl, hI2, hf2, hx0, hx2⟩
  have hC2 := CI_lo hC1 hf2 hx0 hx2
  obtain rfl : r2 = r := hr2.trans hr.symm
  refine l_eq X (t := 1076) c_191_483 (by decide) ?_
  exact k _ _ hM2 ⟨_, _, _, _, _, _, _, hC2, hI2, (AOK_say hA)⟩
theorem law_12 (X : LX p s m meth c D cI cZ cR sb L xs) (hM : wRM M) (hv : LINV x M) (h0 : 0 ≤ i) (h5 : i + 5 ≤ L) (hsl : slots ≤ 7302250) (k : ∀ (x' : wC) (M' : wM), wRM M' → LINV x' M' → LW p l e s m below meth c D cI cZ cR sb (wW x' M') (lvs s sb i) 127 slots 1076 []) : LW p l e s m below meth c D cI cZ cR sb (wW x M) (lvs s sb i) 127 slots 488 [] := by
  obtain ⟨T, P, R, La, Tm, sd, K, hC, hI, hA⟩ := hv
  refine l_a1 X c_191_488 ?_
  refine l_cl (QC (fun r => r = (aPauseA P R La).1) T P (aPauseA P R La).2.1 (aPauseA P R La).2.2 Tm sd K x M) (av := [.ref 0]) (rest := []) X c_191_489 (by decide +kernel) rfl (Nat.le_of_ble_eq_true rfl) (Nat.le_of_ble_eq_true rfl) (zrecv_of (by decide +kernel) (by decide +kernel)) hM hsl (s_79 hC hA (fun M' h1 h2 => ⟨_, rfl, rfl, h1, h2, rfl⟩)) ?_
  rintro v x1 M1 hM1 ⟨r, hr, rfl, hC1, hf1, hx1⟩
  have hI1 := MI_hi hI hf1 hx1
  refine l_a2 X c_191_492 ?_
  refine l_cl (QM (fun r => r = (aPauseA P R La).1) T P (aPauseA P R La).2.1 (aPauseA P R La).2.2 Tm sd K x1 M1) (av := [.ref 106]) (rest := [.int (iI r)]) X c_191_493 (by decide +kernel) rfl (Nat.le_of_ble_eq_true rfl) (Nat.le_of_ble_eq_true rfl) (zrecv_of (by decide +kernel) (by decide +kernel)) hM1 hsl (s_155 hI1 hA (fun M' h1 h2 => ⟨_, rfl, rfl, h1, h2, rfl, rfl⟩)) ?_
  rintro v x2 M2 hM2 ⟨r2, hr2, rfl, hI2, hf2, hx0, hx2⟩
  have hC2 := CI_lo hC1 hf2 hx0 hx2
  obtain rfl : r2 = r := hr2.trans hr.symm
  refine l_eq X (t := 1076) c_191_496 (by decide) ?_
  exact k _ _ hM2 ⟨_, _, _, _, _, _, _, hC2, hI2, (AOK_pause hA)⟩
theorem law_13 (X : LX p s m meth c D cI cZ cR sb L xs) (hM : wRM M) (hv : LINV x M) (h0 : 0 ≤ i) (h5 : i + 5 ≤ L) (hsl : slots ≤ 7302250) (k : ∀ (x' : wC) (M' : wM), wRM M' → LINV x' M' → LW p l e s m below meth c D cI cZ cR sb (wW x' M') (lvs s sb i) 127 slots 1076 []) : LW p l e s m below meth c D cI cZ cR sb (wW x M) (lvs s sb i) 127 slots 501 [] := by
  obtain ⟨T, P, R, La, Tm, sd, K, hC, hI, hA⟩ := hv
  obtain ⟨z1, e1, w1⟩ := rdz (xs (i + 1).toNat)
  refine l_a1 X c_191_501 ?_
  refine l_rd X c_191_502 c_191_503 c_191_504 c_191_505 c_191_506 (by omega) (by omega) e1 ?_
  refine l_cl (QC (fun r => r = (aDrawA R La z1).1) T P (aDrawA R La z1).2.1 (aDrawA R La z1).2.2 Tm sd K x M) (av := [.ref 0, .int (iI z1)]) (rest := []) X c_191_507 (by decide +kernel) rfl (Nat.le_of_ble_eq_true rfl) (Nat.le_of_ble_eq_true rfl) (zrecv_of (by decide +kernel) (by decide +kernel)) hM hsl (s_80 hC hA w1 (fun M' h1 h2 => ⟨_, rfl, rfl, h1, h2, rfl⟩)) ?_
  rintro v x1 M1 hM1 ⟨r, hr, rfl, hC1, hf1, hx1⟩
  have hI1 := MI_hi hI hf1 hx1
  refine l_a2 X c_191_510 ?_
  refine l_rd X c_191_511 c_191_512 c_191_513 c_191_514 c_191_515 (by omega) (by omega) e1 ?_
  refine l_cl (QM (fun r => r = (aDrawA R La z1).1) T P (aDrawA R La z1).2.1 (aDrawA R La z1).2.2 Tm sd K x1 M1) (av := [.ref 106, .int (iI z1)]) (rest := [.int (iI r)]) X c_191_516 (by decide +kernel) rfl (Nat.le_of_ble_eq_true rfl) (Nat.le_of_ble_eq_true rfl) (zrecv_of (by decide +kernel) (by decide +kernel)) hM1 hsl (s_158 hI1 hA w1 (fun M' h1 h2 => ⟨_, rfl, rfl, h1, h2, rfl, rfl⟩)) ?_
  rintro v x2 M2 hM2 ⟨r2, hr2, rfl, hI2, hf2, hx0, hx2⟩
  have hC2 := CI_lo hC1 hf2 hx0 hx2
  obtain rfl : r2 = r := hr2.trans hr.symm
  refine l_eq X (t := 1076) c_191_519 (by decide) ?_
  exact k _ _ hM2 ⟨_, _, _, _, _, _, _, hC2, hI2, (AOK_draw hA)⟩
theorem law_14 (X : LX p s m meth c D cI cZ cR sb L xs) (hM : wRM M) (hv : LINV x M) (h0 : 0 ≤ i) (h5 : i + 5 ≤ L) (hsl : slots ≤ 7302250) (k : ∀ (x' : wC) (M' : wM), wRM M' → LINV x' M' → LW p l e s m below meth c D cI cZ cR sb (wW x' M') (lvs s sb i) 127 slots 1076 []) : LW p l e s m below meth c D cI cZ cR sb (wW x M) (lvs s sb i) 127 slots 524 [] := by
  obtain ⟨T, P, R, La, Tm, sd, K, hC, hI, hA⟩ := hv
  refine l_a1 X c_191_524 ?_
  refine l_cl (QC (fun r => r = (aUndo R La).1) T P (aUndo R La).2.1 (aUndo R La).2.2 Tm sd K x M) (av := [.ref 0]) (rest := []) X c_191_525 (by decide +kernel) rfl (Nat.le_of_ble_eq_true rfl) (Nat.le_of_ble_eq_true rfl) (zrecv_of (by decide +kernel) (by decide +kernel)) hM hsl (s_82 hC hA (fun M' h1 h2 => ⟨_, rfl, rfl, h1, h2, rfl⟩)) ?_
  rintro v x1 M1 hM1 ⟨r, hr, rfl, hC1, hf1, hx1⟩
  have hI1 := MI_hi hI hf1 hx1
  refine l_a2 X c_191_528 ?_
  refine l_cl (QM (fun r => r = (aUndo R La).1) T P (aUndo R La).2.1 (aUndo R La).2.2 Tm sd K x1 M1) (av := [.ref 106]) (rest := [.int (iI r)]) X c_191_529 (by decide +kernel) rfl (Nat.le_of_ble_eq_true rfl) (Nat.le_of_ble_eq_true rfl) (zrecv_of (by decide +kernel) (by decide +kernel)) hM1 hsl (s_159 hI1 hA (fun M' h1 h2 => ⟨_, rfl, rfl, h1, h2, rfl, rfl⟩)) ?_
  rintro v x2 M2 hM2 ⟨r2, hr2, rfl, hI2, hf2, hx0, hx2⟩
  have hC2 := CI_lo hC1 hf2 hx0 hx2
  obtain rfl : r2 = r := hr2.trans hr.symm
  refine l_eq X (t := 1076) c_191_532 (by decide) ?_
  exact k _ _ hM2 ⟨_, _, _, _, _, _, _, hC2, hI2, (AOK_undo hA)⟩
theorem law_15 (X : LX p s m meth c D cI cZ cR sb L xs) (hM : wRM M) (hv : LINV x M) (h0 : 0 ≤ i) (h5 : i + 5 ≤ L) (hsl : slots ≤ 7302250) (k : ∀ (x' : wC) (M' : wM), wRM M' → LINV x' M' → LW p l e s m below meth c D cI cZ cR sb (wW x' M') (lvs s sb i) 127 slots 1076 []) : LW p l e s m below meth c D cI cZ cR sb (wW x M) (lvs s sb i) 127 slots 537 [] := by
  obtain ⟨T, P, R, La, Tm, sd, K, hC, hI, hA⟩ := hv
  obtain ⟨z1, e1, w1⟩ := rdz (xs (i + 1).toNat)
  obtain ⟨y1, hy1⟩ : ∃ y : Int, y = (if z1 = 0 then 0 else 1) := ⟨_, rfl⟩
  have b1 : y1 = 0 ∨ y1 = 1 := by rw [hy1]; split <;> simp
  refine l_a1 X c_191_537 ?_
  refine l_rdb X c_191_538 c_191_539 c_191_540 c_191_541 c_191_542 c_191_543 c_191_546 c_191_547 c_191_550 (by omega) (by omega) e1 w1 ?_
  rw [← hy1]
  refine l_cl (QC (aWarmV P R y1) T P R La Tm sd K x M) (av := [.ref 0, .int (iI y1)]) (rest := []) X c_191_551 (by decide +kernel) rfl (Nat.le_of_ble_eq_true rfl) (Nat.le_of_ble_eq_true rfl) (zrecv_of (by decide +kernel) (by decide +kernel)) hM hsl (s_83 hC hA b1 (fun r M' h1 h2 h3 => ⟨r, h1, rfl, h2, h3, rfl⟩)) ?_
  rintro v x1 M1 hM1 ⟨r, hr, rfl, hC1, hf1, hx1⟩
  have hI1 := MI_hi hI hf1 hx1
  refine l_a2 X c_191_554 ?_
  refine l_rdb X c_191_555 c_191_556 c_191_557 c_191_558 c_191_559 c_191_560 c_191_563 c_191_564 c_191_567 (by omega) (by omega) e1 w1 ?_
  rw [← hy1]
  refine l_cl (QM (aWarmV P R y1) T P R La Tm sd K x1 M1) (av := [.ref 106, .int (iI y1)]) (rest := [.int (iI r)]) X c_191_568 (by decide +kernel) rfl (Nat.le_of_ble_eq_true rfl) (Nat.le_of_ble_eq_true rfl) (zrecv_of (by decide +kernel) (by decide +kernel)) hM1 hsl (s_164 hI1 hA b1 (fun r M' h1 h2 h3 => ⟨r, h1, rfl, h2, h3, rfl, rfl⟩)) ?_
  rintro v x2 M2 hM2 ⟨r2, hr2, rfl, hI2, hf2, hx0, hx2⟩
  have hC2 := CI_lo hC1 hf2 hx0 hx2
  obtain rfl : r2 = r := aWarmV_one hr2 hr
  refine l_eq X (t := 1076) c_191_571 (by decide) ?_
  exact k _ _ hM2 ⟨_, _, _, _, _, _, _, hC2, hI2, hA⟩
theorem law_16 (X : LX p s m meth c D cI cZ cR sb L xs) (hM : wRM M) (hv : LINV x M) (h0 : 0 ≤ i) (h5 : i + 5 ≤ L) (hsl : slots ≤ 7302250) (k : ∀ (x' : wC) (M' : wM), wRM M' → LINV x' M' → LW p l e s m below meth c D cI cZ cR sb (wW x' M') (lvs s sb i) 127 slots 1076 []) : LW p l e s m below meth c D cI cZ cR sb (wW x M) (lvs s sb i) 127 slots 576 [] := by
  obtain ⟨T, P, R, La, Tm, sd, K, hC, hI, hA⟩ := hv
  obtain ⟨z1, e1, w1⟩ := rdz (xs (i + 1).toNat)
  obtain ⟨y1, hy1⟩ : ∃ y : Int, y = (if z1 = 0 then 0 else 1) := ⟨_, rfl⟩
  have b1 : y1 = 0 ∨ y1 = 1 := by rw [hy1]; split <;> simp
  refine l_a1 X c_191_576 ?_
  refine l_rdb X c_191_577 c_191_578 c_191_579 c_191_580 c_191_581 c_191_582 c_191_585 c_191_586 c_191_589 (by omega) (by omega) e1 w1 ?_
  rw [← hy1]
  refine l_cl (QC (aShortV P R y1) T P R La Tm sd K x M) (av := [.ref 0, .int (iI y1)]) (rest := []) X c_191_590 (by decide +kernel) rfl (Nat.le_of_ble_eq_true rfl) (Nat.le_of_ble_eq_true rfl) (zrecv_of (by decide +kernel) (by decide +kernel)) hM hsl (s_84 hC hA b1 (fun r M' h1 h2 h3 => ⟨r, h1, rfl, h2, h3, rfl⟩)) ?_
  rintro v x1 M1 hM1 ⟨r, hr, rfl, hC1, hf1, hx1⟩
  have hI1 := MI_hi hI hf1 hx1
  refine l_a2 X c_191_593 ?_
  refine l_rdb X c_191_594 c_191_595 c_191_596 c_191_597 c_191_598 c_191_599 c_191_602 c_191_603 c_191_606 (by omega) (by omega) e1 w1 ?_
  rw [← hy1]
  refine l_cl (QM (aShortV P R y1) T P R La Tm sd K x1 M1) (av := [.ref 106, .int (iI y1)]) (rest := [.int (iI r)]) X c_191_607 (by decide +kernel) rfl (Nat.le_of_ble_eq_true rfl) (Nat.le_of_ble_eq_true rfl) (zrecv_of (by decide +kernel) (by decide +kernel)) hM1 hsl (s_165 hI1 hA b1 (fun r M' h1 h2 h3 => ⟨r, h1, rfl, h2, h3, rfl, rfl⟩)) ?_
  rintro v x2 M2 hM2 ⟨r2, hr2, rfl, hI2, hf2, hx0, hx2⟩
  have hC2 := CI_lo hC1 hf2 hx0 hx2
  obtain rfl : r2 = r := aShortV_one hr2 hr
  refine l_eq X (t := 1076) c_191_610 (by decide) ?_
  exact k _ _ hM2 ⟨_, _, _, _, _, _, _, hC2, hI2, hA⟩
theorem law_17 (X : LX p s m meth c D cI cZ cR sb L xs) (hM : wRM M) (hv : LINV x M) (h0 : 0 ≤ i) (h5 : i + 5 ≤ L) (hsl : slots ≤ 7302250) (k : ∀ (x' : wC) (M' : wM), wRM M' → LINV x' M' → LW p l e s m below meth c D cI cZ cR sb (wW x' M') (lvs s sb i) 127 slots 1076 []) : LW p l e s m below meth c D cI cZ cR sb (wW x M) (lvs s sb i) 127 slots 615 [] := by
  obtain ⟨T, P, R, La, Tm, sd, K, hC, hI, hA⟩ := hv
  obtain ⟨z1, e1, w1⟩ := rdz (xs (i + 1).toNat)
  refine l_a1 X c_191_615 ?_
  refine l_rd X c_191_616 c_191_617 c_191_618 c_191_619 c_191_620 (by omega) (by omega) e1 ?_
  refine l_cl (QC (aCanV P z1) T P R La Tm sd K x M) (av := [.ref 0, .int (iI z1)]) (rest := []) X c_191_621 (by decide +kernel) rfl (Nat.le_of_ble_eq_true rfl) (Nat.le_of_ble_eq_true rfl) (zrecv_of (by decide +kernel) (by decide +kernel)) hM hsl (s_85 hC hA w1 (fun r M' h1 h2 h3 => ⟨r, h1, rfl, h2, h3, rfl⟩)) ?_
  rintro v x1 M1 hM1 ⟨r, hr, rfl, hC1, hf1, hx1⟩
  have hI1 := MI_hi hI hf1 hx1
  refine l_a2 X c_191_624 ?_
  refine l_rd X c_191_625 c_191_626 c_191_627 c_191_628 c_191_629 (by omega) (by omega) e1 ?_
  refine l_cl (QM (aCanV P z1) T P R La Tm sd K x1 M1) (av := [.ref 106, .int (iI z1)]) (rest := [.int (iI r)]) X c_191_630 (by decide +kernel) rfl (Nat.le_of_ble_eq_true rfl) (Nat.le_of_ble_eq_true rfl) (zrecv_of (by decide +kernel) (by decide +kernel)) hM1 hsl (s_167 hI1 hA w1 (fun r M' h1 h2 h3 => ⟨r, h1, rfl, h2, h3, rfl, rfl⟩)) ?_
  rintro v x2 M2 hM2 ⟨r2, hr2, rfl, hI2, hf2, hx0, hx2⟩
  have hC2 := CI_lo hC1 hf2 hx0 hx2
  obtain rfl : r2 = r := aCanV_one hr2 hr
  refine l_eq X (t := 1076) c_191_633 (by decide) ?_
  exact k _ _ hM2 ⟨_, _, _, _, _, _, _, hC2, hI2, hA⟩
theorem law_18 (X : LX p s m meth c D cI cZ cR sb L xs) (hM : wRM M) (hv : LINV x M) (h0 : 0 ≤ i) (h5 : i + 5 ≤ L) (hsl : slots ≤ 7302250) (k : ∀ (x' : wC) (M' : wM), wRM M' → LINV x' M' → LW p l e s m below meth c D cI cZ cR sb (wW x' M') (lvs s sb i) 127 slots 1076 []) : LW p l e s m below meth c D cI cZ cR sb (wW x M) (lvs s sb i) 127 slots 638 [] := by
  obtain ⟨T, P, R, La, Tm, sd, K, hC, hI, hA⟩ := hv
  obtain ⟨z1, e1, w1⟩ := rdz (xs (i + 1).toNat)
  refine l_a1 X c_191_638 ?_
  refine l_rd X c_191_639 c_191_640 c_191_641 c_191_642 c_191_643 (by omega) (by omega) e1 ?_
  refine l_cl (QC (aDoesV P z1) T P R La Tm sd K x M) (av := [.ref 0, .int (iI z1)]) (rest := []) X c_191_644 (by decide +kernel) rfl (Nat.le_of_ble_eq_true rfl) (Nat.le_of_ble_eq_true rfl) (zrecv_of (by decide +kernel) (by decide +kernel)) hM hsl (s_87 hC hA w1 (fun r M' h1 h2 h3 => ⟨r, h1, rfl, h2, h3, rfl⟩)) ?_
  rintro v x1 M1 hM1 ⟨r, hr, rfl, hC1, hf1, hx1⟩
  have hI1 := MI_hi hI hf1 hx1
  refine l_a2 X c_191_647 ?_
  refine l_rd X c_191_648 c_191_649 c_191_650 c_191_651 c_191_652 (by omega) (by omega) e1 ?_
  refine l_cl (QM (aDoesV P z1) T P R La Tm sd K x1 M1) (av := [.ref 106, .int (iI z1)]) (rest := [.int (iI r)]) X c_191_653 (by decide +kernel) rfl (Nat.le_of_ble_eq_true rfl) (Nat.le_of_ble_eq_true rfl) (zrecv_of (by decide +kernel) (by decide +kernel)) hM1 hsl (s_168 hI1 hA w1 (fun r M' h1 h2 h3 => ⟨r, h1, rfl, h2, h3, rfl, rfl⟩)) ?_
  rintro v x2 M2 hM2 ⟨r2, hr2, rfl, hI2, hf2, hx0, hx2⟩
  have hC2 := CI_lo hC1 hf2 hx0 hx2
  obtain rfl : r2 = r := aDoesV_one hr2 hr
  refine l_eq X (t := 1076) c_191_656 (by decide) ?_
  exact k _ _ hM2 ⟨_, _, _, _, _, _, _, hC2, hI2, hA⟩
theorem law_19 (X : LX p s m meth c D cI cZ cR sb L xs) (hM : wRM M) (hv : LINV x M) (h0 : 0 ≤ i) (h5 : i + 5 ≤ L) (hsl : slots ≤ 7302250) (k : ∀ (x' : wC) (M' : wM), wRM M' → LINV x' M' → LW p l e s m below meth c D cI cZ cR sb (wW x' M') (lvs s sb i) 127 slots 1076 []) : LW p l e s m below meth c D cI cZ cR sb (wW x M) (lvs s sb i) 127 slots 661 [] := by
  obtain ⟨T, P, R, La, Tm, sd, K, hC, hI, hA⟩ := hv
  obtain ⟨z1, e1, w1⟩ := rdz (xs (i + 1).toNat)
  obtain ⟨y1, hy1⟩ : ∃ y : Int, y = (if z1 = 0 then 0 else 1) := ⟨_, rfl⟩
  have b1 : y1 = 0 ∨ y1 = 1 := by rw [hy1]; split <;> simp
  refine l_a1 X c_191_661 ?_
  refine l_rdb X c_191_662 c_191_663 c_191_664 c_191_665 c_191_666 c_191_667 c_191_670 c_191_671 c_191_674 (by omega) (by omega) e1 w1 ?_
  rw [← hy1]
  refine l_cl (QC (aMatV P y1) T P R La Tm sd K x M) (av := [.ref 0, .int (iI y1)]) (rest := []) X c_191_675 (by decide +kernel) rfl (Nat.le_of_ble_eq_true rfl) (Nat.le_of_ble_eq_true rfl) (zrecv_of (by decide +kernel) (by decide +kernel)) hM hsl (s_88 hC hA b1 (fun r M' h1 h2 h3 => ⟨r, h1, rfl, h2, h3, rfl⟩)) ?_
  rintro v x1 M1 hM1 ⟨r, hr, rfl, hC1, hf1, hx1⟩
  have hI1 := MI_hi hI hf1 hx1
  refine l_a2 X c_191_678 ?_
  refine l_rdb X c_191_679 c_191_680 c_191_681 c_191_682 c_191_683 c_191_684 c_191_687 c_191_688 c_191_691 (by omega) (by omega) e1 w1 ?_
  rw [← hy1]
  refine l_cl (QM (aMatV P y1) T P R La Tm sd K x1 M1) (av := [.ref 106, .int (iI y1)]) (rest := [.int (iI r)]) X c_191_692 (by decide +kernel) rfl (Nat.le_of_ble_eq_true rfl) (Nat.le_of_ble_eq_true rfl) (zrecv_of (by decide +kernel) (by decide +kernel)) hM1 hsl (s_170 hI1 hA b1 (fun r M' h1 h2 h3 => ⟨r, h1, rfl, h2, h3, rfl, rfl⟩)) ?_
  rintro v x2 M2 hM2 ⟨r2, hr2, rfl, hI2, hf2, hx0, hx2⟩
  have hC2 := CI_lo hC1 hf2 hx0 hx2
  obtain rfl : r2 = r := aMatV_one hr2 hr
  refine l_eq X (t := 1076) c_191_695 (by decide) ?_
  exact k _ _ hM2 ⟨_, _, _, _, _, _, _, hC2, hI2, hA⟩
theorem law_20 (X : LX p s m meth c D cI cZ cR sb L xs) (hM : wRM M) (hv : LINV x M) (h0 : 0 ≤ i) (h5 : i + 5 ≤ L) (hsl : slots ≤ 7302250) (k : ∀ (x' : wC) (M' : wM), wRM M' → LINV x' M' → LW p l e s m below meth c D cI cZ cR sb (wW x' M') (lvs s sb i) 127 slots 1076 []) : LW p l e s m below meth c D cI cZ cR sb (wW x M) (lvs s sb i) 127 slots 700 [] := by
  obtain ⟨T, P, R, La, Tm, sd, K, hC, hI, hA⟩ := hv
  obtain ⟨z1, e1, w1⟩ := rdz (xs (i + 1).toNat)
  obtain ⟨z2, e2, w2⟩ := rdz (xs (i + 2).toNat)
  refine l_a1 X c_191_700 ?_
  refine l_rd X c_191_701 c_191_702 c_191_703 c_191_704 c_191_705 (by omega) (by omega) e1 ?_
  refine l_rd X c_191_706 c_191_707 c_191_708 c_191_709 c_191_710 (by omega) (by omega) e2 ?_
  refine l_cl (QC (fun r => r = aJudge P R z1 z2) T P R La Tm sd K x M) (av := [.ref 0, .int (iI z1), .int (iI z2)]) (rest := []) X c_191_711 (by decide +kernel) rfl (Nat.le_of_ble_eq_true rfl) (Nat.le_of_ble_eq_true rfl) (zrecv_of (by decide +kernel) (by decide +kernel)) hM hsl (s_93 hC hA w1 w2 (fun M' h1 h2 => ⟨_, rfl, rfl, h1, h2, rfl⟩)) ?_
  rintro v x1 M1 hM1 ⟨r, hr, rfl, hC1, hf1, hx1⟩
  have hI1 := MI_hi hI hf1 hx1
  refine l_a2 X c_191_714 ?_
  refine l_rd X c_191_715 c_191_716 c_191_717 c_191_718 c_191_719 (by omega) (by omega) e1 ?_
  refine l_rd X c_191_720 c_191_721 c_191_722 c_191_723 c_191_724 (by omega) (by omega) e2 ?_
  refine l_cl (QM (fun r => r = aJudge P R z1 z2) T P R La Tm sd K x1 M1) (av := [.ref 106, .int (iI z1), .int (iI z2)]) (rest := [.int (iI r)]) X c_191_725 (by decide +kernel) rfl (Nat.le_of_ble_eq_true rfl) (Nat.le_of_ble_eq_true rfl) (zrecv_of (by decide +kernel) (by decide +kernel)) hM1 hsl (s_172 hI1 hA w1 w2 (fun M' h1 h2 => ⟨_, rfl, rfl, h1, h2, rfl, rfl⟩)) ?_
  rintro v x2 M2 hM2 ⟨r2, hr2, rfl, hI2, hf2, hx0, hx2⟩
  have hC2 := CI_lo hC1 hf2 hx0 hx2
  obtain rfl : r2 = r := hr2.trans hr.symm
  refine l_eq X (t := 1076) c_191_728 (by decide) ?_
  exact k _ _ hM2 ⟨_, _, _, _, _, _, _, hC2, hI2, hA⟩
theorem law_21 (X : LX p s m meth c D cI cZ cR sb L xs) (hM : wRM M) (hv : LINV x M) (h0 : 0 ≤ i) (h5 : i + 5 ≤ L) (hsl : slots ≤ 7302250) (k : ∀ (x' : wC) (M' : wM), wRM M' → LINV x' M' → LW p l e s m below meth c D cI cZ cR sb (wW x' M') (lvs s sb i) 127 slots 1076 []) : LW p l e s m below meth c D cI cZ cR sb (wW x M) (lvs s sb i) 127 slots 733 [] := by
  obtain ⟨T, P, R, La, Tm, sd, K, hC, hI, hA⟩ := hv
  obtain ⟨z1, e1, w1⟩ := rdz (xs (i + 1).toNat)
  obtain ⟨z2, e2, w2⟩ := rdz (xs (i + 2).toNat)
  obtain ⟨y2, hy2⟩ : ∃ y : Int, y = (if z2 = 0 then 0 else 1) := ⟨_, rfl⟩
  have b2 : y2 = 0 ∨ y2 = 1 := by rw [hy2]; split <;> simp
  refine l_a1 X c_191_733 ?_
  refine l_rd X c_191_734 c_191_735 c_191_736 c_191_737 c_191_738 (by omega) (by omega) e1 ?_
  refine l_rdb X c_191_739 c_191_740 c_191_741 c_191_742 c_191_743 c_191_744 c_191_747 c_191_748 c_191_751 (by omega) (by omega) e2 w2 ?_
  rw [← hy2]
  refine l_cl (QC (aShareV P R z1 y2) T P R La Tm sd K x M) (av := [.ref 0, .int (iI z1), .int (iI y2)]) (rest := []) X c_191_752 (by decide +kernel) rfl (Nat.le_of_ble_eq_true rfl) (Nat.le_of_ble_eq_true rfl) (zrecv_of (by decide +kernel) (by decide +kernel)) hM hsl (s_96 hC hA w1 b2 (fun r M' h1 h2 h3 => ⟨r, h1, rfl, h2, h3, rfl⟩)) ?_
  rintro v x1 M1 hM1 ⟨r, hr, rfl, hC1, hf1, hx1⟩
  have hI1 := MI_hi hI hf1 hx1
  refine l_a2 X c_191_755 ?_
  refine l_rd X c_191_756 c_191_757 c_191_758 c_191_759 c_191_760 (by omega) (by omega) e1 ?_
  refine l_rdb X c_191_761 c_191_762 c_191_763 c_191_764 c_191_765 c_191_766 c_191_769 c_191_770 c_191_773 (by omega) (by omega) e2 w2 ?_
  rw [← hy2]
  refine l_cl (QM (aShareV P R z1 y2) T P R La Tm sd K x1 M1) (av := [.ref 106, .int (iI z1), .int (iI y2)]) (rest := [.int (iI r)]) X c_191_774 (by decide +kernel) rfl (Nat.le_of_ble_eq_true rfl) (Nat.le_of_ble_eq_true rfl) (zrecv_of (by decide +kernel) (by decide +kernel)) hM1 hsl (s_177 hI1 hA w1 b2 (fun r M' h1 h2 h3 => ⟨r, h1, rfl, h2, h3, rfl, rfl⟩)) ?_
  rintro v x2 M2 hM2 ⟨r2, hr2, rfl, hI2, hf2, hx0, hx2⟩
  have hC2 := CI_lo hC1 hf2 hx0 hx2
  obtain rfl : r2 = r := aShareV_one hA.2.1 hr2 hr
  refine l_eq X (t := 1076) c_191_777 (by decide) ?_
  exact k _ _ hM2 ⟨_, _, _, _, _, _, _, hC2, hI2, hA⟩
theorem law_22 (X : LX p s m meth c D cI cZ cR sb L xs) (hM : wRM M) (hv : LINV x M) (h0 : 0 ≤ i) (h5 : i + 5 ≤ L) (hsl : slots ≤ 7302250) (k : ∀ (x' : wC) (M' : wM), wRM M' → LINV x' M' → LW p l e s m below meth c D cI cZ cR sb (wW x' M') (lvs s sb i) 127 slots 1076 []) : LW p l e s m below meth c D cI cZ cR sb (wW x M) (lvs s sb i) 127 slots 782 [] := by
  obtain ⟨T, P, R, La, Tm, sd, K, hC, hI, hA⟩ := hv
  obtain ⟨z1, e1, w1⟩ := rdz (xs (i + 1).toNat)
  obtain ⟨z2, e2, w2⟩ := rdz (xs (i + 2).toNat)
  obtain ⟨z3, e3, w3⟩ := rdz (xs (i + 3).toNat)
  obtain ⟨z4, e4, w4⟩ := rdz (xs (i + 4).toNat)
  refine l_a1 X c_191_782 ?_
  refine l_rd X c_191_783 c_191_784 c_191_785 c_191_786 c_191_787 (by omega) (by omega) e1 ?_
  refine l_rd X c_191_788 c_191_789 c_191_790 c_191_791 c_191_792 (by omega) (by omega) e2 ?_
  refine l_rd X c_191_793 c_191_794 c_191_795 c_191_796 c_191_797 (by omega) (by omega) e3 ?_
  refine l_rd X c_191_798 c_191_799 c_191_800 c_191_801 c_191_802 (by omega) (by omega) e4 ?_
  refine l_cl (QC (fun r => r = (aTime P Tm z1 z2 z3 z4).1) T P R La (aTime P Tm z1 z2 z3 z4).2 sd K x M) (av := [.ref 0, .int (iI z1), .int (iI z2), .int (iI z3), .int (iI z4)]) (rest := []) X c_191_803 (by decide +kernel) rfl (Nat.le_of_ble_eq_true rfl) (Nat.le_of_ble_eq_true rfl) (zrecv_of (by decide +kernel) (by decide +kernel)) hM hsl (s_100 hC hA w1 w2 w3 w4 (fun M' h1 h2 => ⟨_, rfl, rfl, h1, h2, rfl⟩)) ?_
  rintro v x1 M1 hM1 ⟨r, hr, rfl, hC1, hf1, hx1⟩
  have hI1 := MI_hi hI hf1 hx1
  refine l_a2 X c_191_806 ?_
  refine l_rd X c_191_807 c_191_808 c_191_809 c_191_810 c_191_811 (by omega) (by omega) e1 ?_
  refine l_rd X c_191_812 c_191_813 c_191_814 c_191_815 c_191_816 (by omega) (by omega) e2 ?_
  refine l_rd X c_191_817 c_191_818 c_191_819 c_191_820 c_191_821 (by omega) (by omega) e3 ?_
  refine l_rd X c_191_822 c_191_823 c_191_824 c_191_825 c_191_826 (by omega) (by omega) e4 ?_
  refine l_cl (QM (fun r => r = (aTime P Tm z1 z2 z3 z4).1) T P R La (aTime P Tm z1 z2 z3 z4).2 sd K x1 M1) (av := [.ref 106, .int (iI z1), .int (iI z2), .int (iI z3), .int (iI z4)]) (rest := [.int (iI r)]) X c_191_827 (by decide +kernel) rfl (Nat.le_of_ble_eq_true rfl) (Nat.le_of_ble_eq_true rfl) (zrecv_of (by decide +kernel) (by decide +kernel)) hM1 hsl (s_178 hI1 hA w1 w2 w3 w4 (fun M' h1 h2 => ⟨_, rfl, rfl, h1, h2, rfl, rfl⟩)) ?_
  rintro v x2 M2 hM2 ⟨r2, hr2, rfl, hI2, hf2, hx0, hx2⟩
  have hC2 := CI_lo hC1 hf2 hx0 hx2
  obtain rfl : r2 = r := hr2.trans hr.symm
  refine l_eq X (t := 1076) c_191_830 (by decide) ?_
  exact k _ _ hM2 ⟨_, _, _, _, _, _, _, hC2, hI2, (AOK_time hA)⟩
theorem law_23 (X : LX p s m meth c D cI cZ cR sb L xs) (hM : wRM M) (hv : LINV x M) (h0 : 0 ≤ i) (h5 : i + 5 ≤ L) (hsl : slots ≤ 7302250) (k : ∀ (x' : wC) (M' : wM), wRM M' → LINV x' M' → LW p l e s m below meth c D cI cZ cR sb (wW x' M') (lvs s sb i) 127 slots 1076 []) : LW p l e s m below meth c D cI cZ cR sb (wW x M) (lvs s sb i) 127 slots 835 [] := by
  obtain ⟨T, P, R, La, Tm, sd, K, hC, hI, hA⟩ := hv
  refine l_a1 X c_191_835 ?_
  refine l_cl (QC (fun r => r = (Tm.1 : Int)) T P R La (0, fun _ _ => 0) sd K x M) (av := [.ref 0]) (rest := []) X c_191_836 (by decide +kernel) rfl (Nat.le_of_ble_eq_true rfl) (Nat.le_of_ble_eq_true rfl) (zrecv_of (by decide +kernel) (by decide +kernel)) hM hsl (s_101 hC hA (fun M' h1 h2 => ⟨_, rfl, rfl, h1, h2, rfl⟩)) ?_
  rintro v x1 M1 hM1 ⟨r, hr, rfl, hC1, hf1, hx1⟩
  have hI1 := MI_hi hI hf1 hx1
  refine l_a2 X c_191_839 ?_
  refine l_cl (QM (fun r => r = (Tm.1 : Int)) T P R La (0, fun _ _ => 0) sd K x1 M1) (av := [.ref 106]) (rest := [.int (iI r)]) X c_191_840 (by decide +kernel) rfl (Nat.le_of_ble_eq_true rfl) (Nat.le_of_ble_eq_true rfl) (zrecv_of (by decide +kernel) (by decide +kernel)) hM1 hsl (s_179 hI1 hA (fun M' h1 h2 => ⟨_, rfl, rfl, h1, h2, rfl, rfl⟩)) ?_
  rintro v x2 M2 hM2 ⟨r2, hr2, rfl, hI2, hf2, hx0, hx2⟩
  have hC2 := CI_lo hC1 hf2 hx0 hx2
  obtain rfl : r2 = r := hr2.trans hr.symm
  refine l_eq X (t := 1076) c_191_843 (by decide) ?_
  exact k _ _ hM2 ⟨_, _, _, _, _, _, _, hC2, hI2, (AOK_untime hA)⟩
theorem law_24 (X : LX p s m meth c D cI cZ cR sb L xs) (hM : wRM M) (hv : LINV x M) (h0 : 0 ≤ i) (h5 : i + 5 ≤ L) (hsl : slots ≤ 7302250) (k : ∀ (x' : wC) (M' : wM), wRM M' → LINV x' M' → LW p l e s m below meth c D cI cZ cR sb (wW x' M') (lvs s sb i) 127 slots 1076 []) : LW p l e s m below meth c D cI cZ cR sb (wW x M) (lvs s sb i) 127 slots 848 [] := by
  obtain ⟨T, P, R, La, Tm, sd, K, hC, hI, hA⟩ := hv
  refine l_a1 X c_191_848 ?_
  refine l_cl (QC (aKindsV P Tm) T P R La Tm sd K x M) (av := [.ref 0]) (rest := []) X c_191_849 (by decide +kernel) rfl (Nat.le_of_ble_eq_true rfl) (Nat.le_of_ble_eq_true rfl) (zrecv_of (by decide +kernel) (by decide +kernel)) hM hsl (s_102 hC hA (fun r h => ⟨r, h, rfl, hC, fun b hb => rfl, rfl⟩)) ?_
  rintro v x1 M1 hM1 ⟨r, hr, rfl, hC1, hf1, hx1⟩
  have hI1 := MI_hi hI hf1 hx1
  refine l_a2 X c_191_852 ?_
  refine l_cl (QM (aKindsV P Tm) T P R La Tm sd K x1 M1) (av := [.ref 106]) (rest := [.int (iI r)]) X c_191_853 (by decide +kernel) rfl (Nat.le_of_ble_eq_true rfl) (Nat.le_of_ble_eq_true rfl) (zrecv_of (by decide +kernel) (by decide +kernel)) hM1 hsl (s_180 hI1 hA (fun r M' h1 h2 h3 => ⟨r, h1, rfl, h2, h3, rfl, rfl⟩)) ?_
  rintro v x2 M2 hM2 ⟨r2, hr2, rfl, hI2, hf2, hx0, hx2⟩
  have hC2 := CI_lo hC1 hf2 hx0 hx2
  obtain rfl : r2 = r := aKindsV_one hr2 hr
  refine l_eq X (t := 1076) c_191_856 (by decide) ?_
  exact k _ _ hM2 ⟨_, _, _, _, _, _, _, hC2, hI2, hA⟩
theorem law_25 (X : LX p s m meth c D cI cZ cR sb L xs) (hM : wRM M) (hv : LINV x M) (h0 : 0 ≤ i) (h5 : i + 5 ≤ L) (hsl : slots ≤ 7302250) (k : ∀ (x' : wC) (M' : wM), wRM M' → LINV x' M' → LW p l e s m below meth c D cI cZ cR sb (wW x' M') (lvs s sb i) 127 slots 1076 []) : LW p l e s m below meth c D cI cZ cR sb (wW x M) (lvs s sb i) 127 slots 861 [] := by
  obtain ⟨T, P, R, La, Tm, sd, K, hC, hI, hA⟩ := hv
  obtain ⟨z1, e1, w1⟩ := rdz (xs (i + 1).toNat)
  obtain ⟨z2, e2, w2⟩ := rdz (xs (i + 2).toNat)
  obtain ⟨z3, e3, w3⟩ := rdz (xs (i + 3).toNat)
  refine l_a1 X c_191_861 ?_
  refine l_rd X c_191_862 c_191_863 c_191_864 c_191_865 c_191_866 (by omega) (by omega) e1 ?_
  refine l_rd X c_191_867 c_191_868 c_191_869 c_191_870 c_191_871 (by omega) (by omega) e2 ?_
  refine l_rd X c_191_872 c_191_873 c_191_874 c_191_875 c_191_876 (by omega) (by omega) e3 ?_
  refine l_cl (QC (aRestsV P R z1 z2 z3) T P R La Tm sd K x M) (av := [.ref 0, .int (iI z1), .int (iI z2), .int (iI z3)]) (rest := []) X c_191_877 (by decide +kernel) rfl (Nat.le_of_ble_eq_true rfl) (Nat.le_of_ble_eq_true rfl) (zrecv_of (by decide +kernel) (by decide +kernel)) hM hsl (s_103 hC hA w1 w2 w3 (fun r M' h1 h2 h3 => ⟨r, h1, rfl, h2, h3, rfl⟩)) ?_
  rintro v x1 M1 hM1 ⟨r, hr, rfl, hC1, hf1, hx1⟩
  have hI1 := MI_hi hI hf1 hx1
  refine l_a2 X c_191_880 ?_
  refine l_rd X c_191_881 c_191_882 c_191_883 c_191_884 c_191_885 (by omega) (by omega) e1 ?_
  refine l_rd X c_191_886 c_191_887 c_191_888 c_191_889 c_191_890 (by omega) (by omega) e2 ?_
  refine l_rd X c_191_891 c_191_892 c_191_893 c_191_894 c_191_895 (by omega) (by omega) e3 ?_
  refine l_cl (QM (aRestsV P R z1 z2 z3) T P R La Tm sd K x1 M1) (av := [.ref 106, .int (iI z1), .int (iI z2), .int (iI z3)]) (rest := [.int (iI r)]) X c_191_896 (by decide +kernel) rfl (Nat.le_of_ble_eq_true rfl) (Nat.le_of_ble_eq_true rfl) (zrecv_of (by decide +kernel) (by decide +kernel)) hM1 hsl (s_182 hI1 hA w1 w2 w3 (fun r M' h1 h2 h3 => ⟨r, h1, rfl, h2, h3, rfl, rfl⟩)) ?_
  rintro v x2 M2 hM2 ⟨r2, hr2, rfl, hI2, hf2, hx0, hx2⟩
  have hC2 := CI_lo hC1 hf2 hx0 hx2
  obtain rfl : r2 = r := aRestsV_one hr2 hr
  refine l_eq X (t := 1076) c_191_899 (by decide) ?_
  exact k _ _ hM2 ⟨_, _, _, _, _, _, _, hC2, hI2, hA⟩
theorem law_26 (X : LX p s m meth c D cI cZ cR sb L xs) (hM : wRM M) (hv : LINV x M) (h0 : 0 ≤ i) (h5 : i + 5 ≤ L) (hsl : slots ≤ 7302250) (k : ∀ (x' : wC) (M' : wM), wRM M' → LINV x' M' → LW p l e s m below meth c D cI cZ cR sb (wW x' M') (lvs s sb i) 127 slots 1076 []) : LW p l e s m below meth c D cI cZ cR sb (wW x M) (lvs s sb i) 127 slots 904 [] := by
  obtain ⟨T, P, R, La, Tm, sd, K, hC, hI, hA⟩ := hv
  obtain ⟨z1, e1, w1⟩ := rdz (xs (i + 1).toNat)
  obtain ⟨z2, e2, w2⟩ := rdz (xs (i + 2).toNat)
  obtain ⟨y2, hy2⟩ : ∃ y : Int, y = (if z2 = 0 then 0 else 1) := ⟨_, rfl⟩
  have b2 : y2 = 0 ∨ y2 = 1 := by rw [hy2]; split <;> simp
  refine l_a1 X c_191_904 ?_
  refine l_rd X c_191_905 c_191_906 c_191_907 c_191_908 c_191_909 (by omega) (by omega) e1 ?_
  refine l_rdb X c_191_910 c_191_911 c_191_912 c_191_913 c_191_914 c_191_915 c_191_918 c_191_919 c_191_922 (by omega) (by omega) e2 w2 ?_
  rw [← hy2]
  refine l_cl (QC (fun r => r = aMis P R z1 y2) T P R La Tm sd K x M) (av := [.ref 0, .int (iI z1), .int (iI y2)]) (rest := []) X c_191_923 (by decide +kernel) rfl (Nat.le_of_ble_eq_true rfl) (Nat.le_of_ble_eq_true rfl) (zrecv_of (by decide +kernel) (by decide +kernel)) hM hsl (s_107 hC hA w1 b2 (fun M' h1 h2 => ⟨_, rfl, rfl, h1, h2, rfl⟩)) ?_
  rintro v x1 M1 hM1 ⟨r, hr, rfl, hC1, hf1, hx1⟩
  have hI1 := MI_hi hI hf1 hx1
  refine l_a2 X c_191_926 ?_
  refine l_rd X c_191_927 c_191_928 c_191_929 c_191_930 c_191_931 (by omega) (by omega) e1 ?_
  refine l_rdb X c_191_932 c_191_933 c_191_934 c_191_935 c_191_936 c_191_937 c_191_940 c_191_941 c_191_944 (by omega) (by omega) e2 w2 ?_
  rw [← hy2]
  refine l_cl (QM (fun r => r = aMis P R z1 y2) T P R La Tm sd K x1 M1) (av := [.ref 106, .int (iI z1), .int (iI y2)]) (rest := [.int (iI r)]) X c_191_945 (by decide +kernel) rfl (Nat.le_of_ble_eq_true rfl) (Nat.le_of_ble_eq_true rfl) (zrecv_of (by decide +kernel) (by decide +kernel)) hM1 hsl (s_183 hI1 hA w1 b2 (fun M' h1 h2 => ⟨_, rfl, rfl, h1, h2, rfl, rfl⟩)) ?_
  rintro v x2 M2 hM2 ⟨r2, hr2, rfl, hI2, hf2, hx0, hx2⟩
  have hC2 := CI_lo hC1 hf2 hx0 hx2
  obtain rfl : r2 = r := hr2.trans hr.symm
  refine l_eq X (t := 1076) c_191_948 (by decide) ?_
  exact k _ _ hM2 ⟨_, _, _, _, _, _, _, hC2, hI2, hA⟩
theorem law_28 (X : LX p s m meth c D cI cZ cR sb L xs) (hM : wRM M) (hv : LINV x M) (h0 : 0 ≤ i) (h5 : i + 5 ≤ L) (hsl : slots ≤ 7302250) (k : ∀ (x' : wC) (M' : wM), wRM M' → LINV x' M' → LW p l e s m below meth c D cI cZ cR sb (wW x' M') (lvs s sb i) 127 slots 1076 []) : LW p l e s m below meth c D cI cZ cR sb (wW x M) (lvs s sb i) 127 slots 1007 [] := by
  obtain ⟨T, P, R, La, Tm, sd, K, hC, hI, hA⟩ := hv
  obtain ⟨z1, e1, w1⟩ := rdz (xs (i + 1).toNat)
  refine l_a1 X c_191_1007 ?_
  refine l_rd X c_191_1008 c_191_1009 c_191_1010 c_191_1011 c_191_1012 (by omega) (by omega) e1 ?_
  refine l_cl (QC (fun r => r = (aWeeks aNs aDz P R sd z1).1) T P R La Tm (aWeeks aNs aDz P R sd z1).2 K x M) (av := [.ref 0, .int (iI z1)]) (rest := []) X c_191_1013 (by decide +kernel) rfl (Nat.le_of_ble_eq_true rfl) (Nat.le_of_ble_eq_true rfl) (zrecv_of (by decide +kernel) (by decide +kernel)) hM hsl (s_110 aNs aDz aNs_eq dz_eq aDz_lt hC hA w1 (fun x' M' h1 h2 h3 h4 => ⟨_, rfl, rfl, h3, h4, h2 106 (by decide)⟩)) ?_
  rintro v x1 M1 hM1 ⟨r, hr, rfl, hC1, hf1, hx1⟩
  have hI1 := MI_hi hI hf1 hx1
  refine l_a2 X c_191_1016 ?_
  refine l_rd X c_191_1017 c_191_1018 c_191_1019 c_191_1020 c_191_1021 (by omega) (by omega) e1 ?_
  refine l_cl (QM (fun r => r = (aWeeks aNs aDz P R sd z1).1) T P R La Tm (aWeeks aNs aDz P R sd z1).2 K x1 M1) (av := [.ref 106, .int (iI z1)]) (rest := [.int (iI r)]) X c_191_1022 (by decide +kernel) rfl (Nat.le_of_ble_eq_true rfl) (Nat.le_of_ble_eq_true rfl) (zrecv_of (by decide +kernel) (by decide +kernel)) hM1 hsl (s_185 aNs aDz aNs_eq dz_eq aDz_lt hI1 hA w1 (fun x' M' h1 h2 h3 h4 => ⟨_, rfl, rfl, h3, h4, h2 0 (by decide), h1⟩)) ?_
  rintro v x2 M2 hM2 ⟨r2, hr2, rfl, hI2, hf2, hx0, hx2⟩
  have hC2 := CI_lo hC1 hf2 hx0 hx2
  obtain rfl : r2 = r := hr2.trans hr.symm
  refine l_eq X (t := 1076) c_191_1025 (by decide) ?_
  exact k _ _ hM2 ⟨_, _, _, _, _, _, _, hC2, hI2, hA⟩
theorem law_29 (X : LX p s m meth c D cI cZ cR sb L xs) (hM : wRM M) (hv : LINV x M) (h0 : 0 ≤ i) (h5 : i + 5 ≤ L) (hsl : slots ≤ 7302250) (k : ∀ (x' : wC) (M' : wM), wRM M' → LINV x' M' → LW p l e s m below meth c D cI cZ cR sb (wW x' M') (lvs s sb i) 127 slots 1076 []) : LW p l e s m below meth c D cI cZ cR sb (wW x M) (lvs s sb i) 127 slots 1030 [] := by
  obtain ⟨T, P, R, La, Tm, sd, K, hC, hI, hA⟩ := hv
  obtain ⟨z1, e1, w1⟩ := rdz (xs (i + 1).toNat)
  refine l_a1 X c_191_1030 ?_
  refine l_rd X c_191_1031 c_191_1032 c_191_1033 c_191_1034 c_191_1035 (by omega) (by omega) e1 ?_
  refine l_cl (QC (fun r => r = (aKeep R K z1).1) T P R La Tm sd (aKeep R K z1).2 x M) (av := [.ref 0, .int (iI z1)]) (rest := []) X c_191_1036 (by decide +kernel) rfl (Nat.le_of_ble_eq_true rfl) (Nat.le_of_ble_eq_true rfl) (zrecv_of (by decide +kernel) (by decide +kernel)) hM hsl (s_112 hC hA w1 (fun M' h1 h2 => ⟨_, rfl, rfl, h1, h2, rfl⟩)) ?_
  rintro v x1 M1 hM1 ⟨r, hr, rfl, hC1, hf1, hx1⟩
  have hI1 := MI_hi hI hf1 hx1
  refine l_a2 X c_191_1039 ?_
  refine l_rd X c_191_1040 c_191_1041 c_191_1042 c_191_1043 c_191_1044 (by omega) (by omega) e1 ?_
  refine l_cl (QM (fun r => r = (aKeep R K z1).1) T P R La Tm sd (aKeep R K z1).2 x1 M1) (av := [.ref 106, .int (iI z1)]) (rest := [.int (iI r)]) X c_191_1045 (by decide +kernel) rfl (Nat.le_of_ble_eq_true rfl) (Nat.le_of_ble_eq_true rfl) (zrecv_of (by decide +kernel) (by decide +kernel)) hM1 hsl (s_186 hI1 hA w1 (fun M' h1 h2 => ⟨_, rfl, rfl, h1, h2, rfl, rfl⟩)) ?_
  rintro v x2 M2 hM2 ⟨r2, hr2, rfl, hI2, hf2, hx0, hx2⟩
  have hC2 := CI_lo hC1 hf2 hx0 hx2
  obtain rfl : r2 = r := hr2.trans hr.symm
  refine l_eq X (t := 1076) c_191_1048 (by decide) ?_
  exact k _ _ hM2 ⟨_, _, _, _, _, _, _, hC2, hI2, (AOK_keep hA)⟩
theorem law_30 (X : LX p s m meth c D cI cZ cR sb L xs) (hM : wRM M) (hv : LINV x M) (h0 : 0 ≤ i) (h5 : i + 5 ≤ L) (hsl : slots ≤ 7302250) (k : ∀ (x' : wC) (M' : wM), wRM M' → LINV x' M' → LW p l e s m below meth c D cI cZ cR sb (wW x' M') (lvs s sb i) 127 slots 1076 []) : LW p l e s m below meth c D cI cZ cR sb (wW x M) (lvs s sb i) 127 slots 1053 [] := by
  obtain ⟨T, P, R, La, Tm, sd, K, hC, hI, hA⟩ := hv
  obtain ⟨z1, e1, w1⟩ := rdz (xs (i + 1).toNat)
  refine l_a1 X c_191_1053 ?_
  refine l_rd X c_191_1054 c_191_1055 c_191_1056 c_191_1057 c_191_1058 (by omega) (by omega) e1 ?_
  refine l_cl (QC (fun r => r = (aAgain R La K z1).1) T P (aAgain R La K z1).2.1 (aAgain R La K z1).2.2 Tm sd K x M) (av := [.ref 0, .int (iI z1)]) (rest := []) X c_191_1059 (by decide +kernel) rfl (Nat.le_of_ble_eq_true rfl) (Nat.le_of_ble_eq_true rfl) (zrecv_of (by decide +kernel) (by decide +kernel)) hM hsl (s_113 hC hA w1 (fun M' h1 h2 => ⟨_, rfl, rfl, h1, h2, rfl⟩)) ?_
  rintro v x1 M1 hM1 ⟨r, hr, rfl, hC1, hf1, hx1⟩
  have hI1 := MI_hi hI hf1 hx1
  refine l_a2 X c_191_1062 ?_
  refine l_rd X c_191_1063 c_191_1064 c_191_1065 c_191_1066 c_191_1067 (by omega) (by omega) e1 ?_
  refine l_cl (QM (fun r => r = (aAgain R La K z1).1) T P (aAgain R La K z1).2.1 (aAgain R La K z1).2.2 Tm sd K x1 M1) (av := [.ref 106, .int (iI z1)]) (rest := [.int (iI r)]) X c_191_1068 (by decide +kernel) rfl (Nat.le_of_ble_eq_true rfl) (Nat.le_of_ble_eq_true rfl) (zrecv_of (by decide +kernel) (by decide +kernel)) hM1 hsl (s_187 hI1 hA w1 (fun M' h1 h2 => ⟨_, rfl, rfl, h1, h2, rfl, rfl⟩)) ?_
  rintro v x2 M2 hM2 ⟨r2, hr2, rfl, hI2, hf2, hx0, hx2⟩
  have hC2 := CI_lo hC1 hf2 hx0 hx2
  obtain rfl : r2 = r := hr2.trans hr.symm
  refine l_eq X (t := 1076) c_191_1071 (by decide) ?_
  exact k _ _ hM2 ⟨_, _, _, _, _, _, _, hC2, hI2, (AOK_again hA)⟩
theorem law_27 (X : LX p s m meth c D cI cZ cR sb L xs) (hM : wRM M) (hv : LINV x M) (h0 : 0 ≤ i) (h5 : i + 5 ≤ L) (hsl : slots ≤ 7302250) (k : ∀ (x' : wC) (M' : wM), wRM M' → LINV x' M' → LW p l e s m below meth c D cI cZ cR sb (wW x' M') (lvs s sb i) 127 slots 1076 []) : LW p l e s m below meth c D cI cZ cR sb (wW x M) (lvs s sb i) 127 slots 953 [] := by
  obtain ⟨T, P, R, La, Tm, sd, K, hC, hI, hA⟩ := hv
  obtain ⟨z1, e1, w1⟩ := rdz (xs (i + 1).toNat)
  obtain ⟨z2, e2, w2⟩ := rdz (xs (i + 2).toNat)
  obtain ⟨v, hv⟩ : ∃ v : Int64, v = ((iI z1).toInt64 <<< ((iI 32).toInt64 &&& 63)) ||| ((iI z2).toInt64 &&& Int64.ofNat 4294967295) := ⟨_, rfl⟩
  refine l_a1 X c_191_953 ?_
  refine l_rd X c_191_954 c_191_955 c_191_956 c_191_957 c_191_958 (by omega) (by omega) e1 ?_
  refine l_i2l X c_191_959 ?_
  refine l_bi X c_191_960 (by decide) ?_
  refine l_lshl X c_191_962 ?_
  refine l_rd X c_191_963 c_191_964 c_191_965 c_191_966 c_191_967 (by omega) (by omega) e2 ?_
  refine l_i2l X c_191_968 ?_
  refine l_ldc2 X c_191_969 ?_
  refine l_land X c_191_972 ?_
  refine l_lor X c_191_973 ?_
  rw [← hv]
  refine l_cl (fun v' x' M' => v' = some (.long sd) ∧ CI x' M' T P R La Tm v K ∧ (∀ b, 106 ≤ b → M' b = M b) ∧ x'.1 106 = x.1 106) (av := [.ref 0, .long v]) (rest := []) X c_191_974 (by decide +kernel) rfl (Nat.le_of_ble_eq_true rfl) (Nat.le_of_ble_eq_true rfl) (zrecv_of (by decide +kernel) (by decide +kernel)) hM hsl (s_109 hC hA (fun h1 => ⟨rfl, h1, fun b hb => rfl, rfl⟩)) ?_
  rintro v1 x1 M1 hM1 ⟨rfl, hC1, hf1, hx1⟩
  have hI1 := MI_hi hI hf1 hx1
  refine l_a2 X c_191_977 ?_
  refine l_rd X c_191_978 c_191_979 c_191_980 c_191_981 c_191_982 (by omega) (by omega) e1 ?_
  refine l_i2l X c_191_983 ?_
  refine l_bi X c_191_984 (by decide) ?_
  refine l_lshl X c_191_986 ?_
  refine l_rd X c_191_987 c_191_988 c_191_989 c_191_990 c_191_991 (by omega) (by omega) e2 ?_
  refine l_i2l X c_191_992 ?_
  refine l_ldc2 X c_191_993 ?_
  refine l_land X c_191_996 ?_
  refine l_lor X c_191_997 ?_
  rw [← hv]
  refine l_cl (fun v' x' M' => v' = some (.long sd) ∧ MI x' M' T P R La Tm v K ∧ (∀ b, b < 106 → M' b = M1 b) ∧ x'.1 0 = x1.1 0 ∧ x'.2 = x1.2) (av := [.ref 106, .long v]) (rest := [.long sd]) X c_191_998 (by decide +kernel) rfl (Nat.le_of_ble_eq_true rfl) (Nat.le_of_ble_eq_true rfl) (zrecv_of (by decide +kernel) (by decide +kernel)) hM1 hsl (s_184 hI1 hA (fun M' h1 h2 => ⟨rfl, h1, h2, rfl, rfl⟩)) ?_
  rintro v2 x2 M2 hM2 ⟨rfl, hI2, hf2, hx0, hx2⟩
  have hC2 := CI_lo hC1 hf2 hx0 hx2
  refine l_lcmp X c_191_1001 ?_
  refine l_z0 X (t := 1076) c_191_1002 (by decide) ?_
  exact k _ _ hM2 ⟨_, _, _, _, _, _, _, hC2, hI2, hA⟩
end LCS
