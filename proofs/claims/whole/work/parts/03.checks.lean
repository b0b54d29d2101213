set_option maxRecDepth 100000 in
theorem zok_0 : (List.range 10).all (fun i => zokA (0 + i)) = true := by decide +kernel
set_option maxRecDepth 100000 in
theorem zok_10 : (List.range 10).all (fun i => zokA (10 + i)) = true := by decide +kernel
set_option maxRecDepth 100000 in
theorem zok_20 : (List.range 10).all (fun i => zokA (20 + i)) = true := by decide +kernel
set_option maxRecDepth 100000 in
theorem zok_30 : (List.range 10).all (fun i => zokA (30 + i)) = true := by decide +kernel
set_option maxRecDepth 100000 in
theorem zok_40 : (List.range 10).all (fun i => zokA (40 + i)) = true := by decide +kernel
set_option maxRecDepth 100000 in
theorem zok_50 : (List.range 10).all (fun i => zokA (50 + i)) = true := by decide +kernel
set_option maxRecDepth 100000 in
theorem zok_60 : (List.range 10).all (fun i => zokA (60 + i)) = true := by decide +kernel
set_option maxRecDepth 100000 in
theorem zok_70 : (List.range 10).all (fun i => zokA (70 + i)) = true := by decide +kernel
set_option maxRecDepth 100000 in
theorem zok_80 : (List.range 10).all (fun i => zokA (80 + i)) = true := by decide +kernel
set_option maxRecDepth 100000 in
theorem zok_90 : (List.range 10).all (fun i => zokA (90 + i)) = true := by decide +kernel
set_option maxRecDepth 100000 in
theorem zok_100 : (List.range 10).all (fun i => zokA (100 + i)) = true := by decide +kernel
set_option maxRecDepth 100000 in
theorem zok_110 : (List.range 10).all (fun i => zokA (110 + i)) = true := by decide +kernel
set_option maxRecDepth 100000 in
theorem zok_120 : (List.range 10).all (fun i => zokA (120 + i)) = true := by decide +kernel
set_option maxRecDepth 100000 in
theorem zok_130 : (List.range 10).all (fun i => zokA (130 + i)) = true := by decide +kernel
set_option maxRecDepth 100000 in
theorem zok_140 : (List.range 10).all (fun i => zokA (140 + i)) = true := by decide +kernel
set_option maxRecDepth 100000 in
theorem zok_150 : (List.range 10).all (fun i => zokA (150 + i)) = true := by decide +kernel
set_option maxRecDepth 100000 in
theorem zok_160 : (List.range 10).all (fun i => zokA (160 + i)) = true := by decide +kernel
set_option maxRecDepth 100000 in
theorem zok_170 : (List.range 10).all (fun i => zokA (170 + i)) = true := by decide +kernel
set_option maxRecDepth 100000 in
theorem zok_180 : (List.range 10).all (fun i => zokA (180 + i)) = true := by decide +kernel
set_option maxRecDepth 100000 in
theorem zok_190 : (List.range 1).all (fun i => zokA (190 + i)) = true := by decide +kernel
theorem zok {mi : Nat} (h : mi < 191) : zokA mi = true := by
  have key : ∀ k c : Nat, (List.range c).all (fun i => zokA (k + i)) = true → k ≤ mi → mi < k + c → zokA mi = true := by
    intro k c hc h1 h2
    have h3 := List.all_eq_true.mp hc (mi - k) (List.mem_range.mpr (by omega))
    rwa [show k + (mi - k) = mi by omega] at h3
  rcases Nat.lt_or_ge mi 10 with q0 | q0
  · exact key 0 10 zok_0 (by omega) (by omega)
  rcases Nat.lt_or_ge mi 20 with q1 | q1
  · exact key 10 10 zok_10 (by omega) (by omega)
  rcases Nat.lt_or_ge mi 30 with q2 | q2
  · exact key 20 10 zok_20 (by omega) (by omega)
  rcases Nat.lt_or_ge mi 40 with q3 | q3
  · exact key 30 10 zok_30 (by omega) (by omega)
  rcases Nat.lt_or_ge mi 50 with q4 | q4
  · exact key 40 10 zok_40 (by omega) (by omega)
  rcases Nat.lt_or_ge mi 60 with q5 | q5
  · exact key 50 10 zok_50 (by omega) (by omega)
  rcases Nat.lt_or_ge mi 70 with q6 | q6
  · exact key 60 10 zok_60 (by omega) (by omega)
  rcases Nat.lt_or_ge mi 80 with q7 | q7
  · exact key 70 10 zok_70 (by omega) (by omega)
  rcases Nat.lt_or_ge mi 90 with q8 | q8
  · exact key 80 10 zok_80 (by omega) (by omega)
  rcases Nat.lt_or_ge mi 100 with q9 | q9
  · exact key 90 10 zok_90 (by omega) (by omega)
  rcases Nat.lt_or_ge mi 110 with q10 | q10
  · exact key 100 10 zok_100 (by omega) (by omega)
  rcases Nat.lt_or_ge mi 120 with q11 | q11
  · exact key 110 10 zok_110 (by omega) (by omega)
  rcases Nat.lt_or_ge mi 130 with q12 | q12
  · exact key 120 10 zok_120 (by omega) (by omega)
  rcases Nat.lt_or_ge mi 140 with q13 | q13
  · exact key 130 10 zok_130 (by omega) (by omega)
  rcases Nat.lt_or_ge mi 150 with q14 | q14
  · exact key 140 10 zok_140 (by omega) (by omega)
  rcases Nat.lt_or_ge mi 160 with q15 | q15
  · exact key 150 10 zok_150 (by omega) (by omega)
  rcases Nat.lt_or_ge mi 170 with q16 | q16
  · exact key 160 10 zok_160 (by omega) (by omega)
  rcases Nat.lt_or_ge mi 180 with q17 | q17
  · exact key 170 10 zok_170 (by omega) (by omega)
  rcases Nat.lt_or_ge mi 190 with q18 | q18
  · exact key 180 10 zok_180 (by omega) (by omega)
  exact key 190 1 zok_190 (by omega) (by omega)
def zokK (ci : Nat) : Bool := (u_ws (zcd ci).1 (zcd ci).2.1 (zcd ci).2.2).all (fun w => decide (w ∈ lw_tbl) && goodWord w) && zwd (zt_ci.getD ci (0, 0)).1 (.instantiable (zcd ci).1 (zcd ci).2.2) && zwd (zt_ci.getD ci (0, 0)).2 (.initialized (zcd ci).1) && Nat.beq (zdf ci).length (zcd ci).2.2
set_option maxRecDepth 100000 in
theorem zokK_0 : zokK 0 = true := by decide +kernel
set_option maxRecDepth 100000 in
theorem zokK_1 : zokK 1 = true := by decide +kernel
set_option maxRecDepth 100000 in
theorem zokK_2 : zokK 2 = true := by decide +kernel
set_option maxRecDepth 100000 in
theorem zokK_3 : zokK 3 = true := by decide +kernel
set_option maxRecDepth 100000 in
theorem zokK_4 : zokK 4 = true := by decide +kernel
set_option maxRecDepth 100000 in
theorem zokK_5 : zokK 5 = true := by decide +kernel
set_option maxRecDepth 100000 in
theorem zokK_6 : zokK 6 = true := by decide +kernel
set_option maxRecDepth 100000 in
theorem zokK_7 : zokK 7 = true := by decide +kernel
set_option maxRecDepth 100000 in
theorem zokK_8 : zokK 8 = true := by decide +kernel
theorem zokKs {ci : Nat} (h : ci < 9) : zokK ci = true := by
  rcases (show ci = 0 ∨ ci = 1 ∨ ci = 2 ∨ ci = 3 ∨ ci = 4 ∨ ci = 5 ∨ ci = 6 ∨ ci = 7 ∨ ci = 8 by omega) with rfl | rfl | rfl | rfl | rfl | rfl | rfl | rfl | rfl
  · exact zokK_0
  · exact zokK_1
  · exact zokK_2
  · exact zokK_3
  · exact zokK_4
  · exact zokK_5
  · exact zokK_6
  · exact zokK_7
  · exact zokK_8
theorem zmax_s : (Jvm.Cond.static Lib.Math.max.name) ∈ zt_w0 := zwd_mem (w := 1028) (by decide +kernel)
theorem zmax_c : (Jvm.Cond.code Lib.Math.max.name Lib.Math.max.code 2 (some .int)) ∈ zt_w0 := zwd_mem (w := 1029) (by decide +kernel)
theorem zmin_s : (Jvm.Cond.static Lib.Math.min.name) ∈ zt_w0 := zwd_mem (w := 2207) (by decide +kernel)
theorem zmin_c : (Jvm.Cond.code Lib.Math.min.name Lib.Math.min.code 2 (some .int)) ∈ zt_w0 := zwd_mem (w := 2208) (by decide +kernel)
theorem zmm_i : (Jvm.Cond.initialized "java/lang/Math") ∈ zt_w0 := zwd_mem (w := 1003) (by decide +kernel)
theorem zob_i : (Jvm.Cond.instanceMethod Lib.objectInit) ∈ zt_w0 := zwd_mem (w := 1019) (by decide +kernel)
theorem zob_c : (Jvm.Cond.code Lib.objectInit ⟨#[0xb1]⟩ 1 none) ∈ zt_w0 := zwd_mem (w := 1020) (by decide +kernel)
theorem zar_i : (Jvm.Cond.arrayClass .int) ∈ zt_w0 := zwd_mem (w := 1043) (by decide +kernel)
theorem zar_z : (Jvm.Cond.arrayClass .boolean) ∈ zt_w0 := zwd_mem (w := 4129) (by decide +kernel)
theorem zar_q : (Jvm.Cond.arrayOver (.object "LoveGlass$Run")) ∈ lw_tbl := zwls_in (k := 1) (List.mem_of_getElem? (i := 126) (by decide +kernel))
