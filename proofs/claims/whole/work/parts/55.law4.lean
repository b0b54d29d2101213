/-! ===== the law's loop ===== -/
section LLP
variable {p : Program} {l : Launch} {e : Env} {s : State} {m : MethodId} {below : List Frame} {meth : Method} {c : Code} {D : va_G} {cI cZ cR sb L : Nat} {xs : Nat → Int32}
variable {h : List zE} {lv lv' : List (Nat × Value)} {cells slots pc a b w : Nat} {st : List Value} {i : Int} {x : wC} {M : wM}
theorem l_gt {off x1 x2 : Int} {t : Nat} (X : LX p s m meth c D cI cZ cR sb L xs) (hc : zcode 191 pc = some (.if_icmp .gt off, 3, a, b, w)) (h1 : wR x1) (h2 : wR x2) (ht : (pc : Int) + off = (t : Int)) (k1 : x2 < x1 → LW p l e s m below meth c D cI cZ cR sb h lv cells slots t st) (k2 : ¬ x2 < x1 → LW p l e s m below meth c D cI cZ cR sb h lv cells slots (pc + 3) st) : LW p l e s m below meth c D cI cZ cR sb h lv cells slots pc (.int (iI x2) :: .int (iI x1) :: st) := fun H locs ls hP hS hl =>
  lv_icmp_gt X.1 X.2.1 (zd hc) ht (fun g => k1 ((iI_lt h2 h1).mp g) H locs ls hP hS hl) (fun g => k2 (fun q => g ((iI_lt h2 h1).mpr q)) H locs ls hP hS hl)
theorem l_ts {d lo hi z off : Int} {offs : Array Int} {ln t : Nat} (X : LX p s m meth c D cI cZ cR sb L xs) (hc : zcode 191 pc = some (.tableswitch d lo hi offs, ln, a, b, w)) (hz : wR z) (h1 : ¬ z < lo) (h2 : ¬ hi < z) (ho : offs[(z - lo).toNat]? = some off) (ht : (pc : Int) + off = (t : Int)) (k : LW p l e s m below meth c D cI cZ cR sb h lv cells slots t st) : LW p l e s m below meth c D cI cZ cR sb h lv cells slots pc (.int (iI z) :: st) := fun H locs ls hP hS hl =>
  lv_tableIn X.1 X.2.1 (zd hc) (by rw [iI_ti hz]; exact h1) (by rw [iI_ti hz]; exact h2) (by rw [iI_ti hz]; exact ho) ht (k H locs ls hP hS hl)
theorem l_td {d lo hi z : Int} {offs : Array Int} {ln t : Nat} (X : LX p s m meth c D cI cZ cR sb L xs) (hc : zcode 191 pc = some (.tableswitch d lo hi offs, ln, a, b, w)) (hz : wR z) (h1 : z < lo ∨ hi < z) (ht : (pc : Int) + d = (t : Int)) (k : LW p l e s m below meth c D cI cZ cR sb h lv cells slots t st) : LW p l e s m below meth c D cI cZ cR sb h lv cells slots pc (.int (iI z) :: st) := fun H locs ls hP hS hl =>
  lv_tableOut X.1 X.2.1 (zd hc) (by rw [iI_ti hz]; exact h1) ht (k H locs ls hP hS hl)
theorem l_inc (X : LX p s m meth c D cI cZ cR sb L xs) (hc : zcode 191 pc = some (.iinc 3 5, 3, a, b, w)) (k : LW p l e s m below meth c D cI cZ cR sb h (lvs s sb (i + 5)) cells slots (pc + 3) st) : LW p l e s m below meth c D cI cZ cR sb h (lvs s sb i) cells slots pc st := fun H locs ls hP hS hl =>
  lv_iinc (v := iI (i + 5)) (lv' := [(3, .int (iI (i + 5))), (0, .ref sb), (1, .ref (s.heap.size + 0)), (2, .ref (s.heap.size + 106))]) X.1 X.2.1 (zd hc) hl (k := 3) rfl (iI_add i 5) (by decide) rfl (fun ls' hl' => k H locs ls' hP hS (lv_sub hl' [1, 2, 3, 0] rfl))
theorem l_as {kf : Fin 4} {j o : Nat} (X : LX p s m meth c D cI cZ cR sb L xs) (hc : zcode 191 pc = some (.astore_n kf, 1, a, b, w)) (hj : (kf : Nat) = j) (hn : j < 4) (hv : (j, Value.ref (s.heap.size + o)) :: lv.filter (fun q => !(q.1 == j) && !(q.1 + 1 == j && q.2.category == 2)) = lv') (k : LW p l e s m below meth c D cI cZ cR sb h lv' cells slots (pc + 1) st) : LW p l e s m below meth c D cI cZ cR sb h lv cells slots pc (.ref o :: st) := fun H locs ls hP hS hl =>
  lv_astore_n X.1 X.2.1 (zd hc) hj hl hn hv (fun ls' hl' => k H locs ls' hP hS hl')
theorem l_is {kf : Fin 4} {j : Nat} {z : Int} (X : LX p s m meth c D cI cZ cR sb L xs) (hc : zcode 191 pc = some (.istore_n kf, 1, a, b, w)) (hj : (kf : Nat) = j) (hn : j < 4) (hv : (j, Value.int (iI z)) :: lv.filter (fun q => !(q.1 == j) && !(q.1 + 1 == j && q.2.category == 2)) = lv') (k : LW p l e s m below meth c D cI cZ cR sb h lv' cells slots (pc + 1) st) : LW p l e s m below meth c D cI cZ cR sb h lv cells slots pc (.int (iI z) :: st) := fun H locs ls hP hS hl =>
  lv_istore_n X.1 X.2.1 (zd hc) hj hl hn hv (fun ls' hl' => k H locs ls' hP hS hl')
theorem l_sb (ks : List Nat) (hv : lv_pick lv ks = lv') (k : LW p l e s m below meth c D cI cZ cR sb h lv' cells slots pc st) : LW p l e s m below meth c D cI cZ cR sb h lv cells slots pc st := fun H locs ls hP hS hl => k H locs ls hP hS (lv_sub hl ks hv)
theorem zbs_law : zbs 191 = code := rfl
theorem l_end (X : LX p s m meth c D cI cZ cR sb L xs) (hcl : cells ≤ 600000) (hsl : slots ≤ 7302250) : LW p l e s m below meth c D cI cZ cR sb h lv cells slots 1082 [] := fun H locs ls hP hS hl => by
  obtain ⟨hx, hb, hml, hr, hown, hts, hnw, hao, hK, hX, hbl, hlk, hL⟩ := id X
  refine lv_iconst (v := 1) hx hb (zd c_191_1082) (by decide) ?_
  refine va_forget (fun q hq => hS.2.2 q hq) ?_
  refine W.widen (k := 600000) (n := 7302250) hcl hsl ?_
  exact lw_ret hx (hb.trans zbs_law) hr hlk (by rw [← zbs_law]; exact zd c_191_1083)
theorem law_loop (X : LX p s m meth c D cI cZ cR sb L xs) (hsl : slots ≤ 7302250) : ∀ (n i : Nat), L < i + n → i ≤ L → ∀ (x : wC) (M : wM), wRM M → LINV x M → LW p l e s m below meth c D cI cZ cR sb (wW x M) (lvs s sb (i : Int)) 127 slots 18 [] := by
  have hL : L ≤ 2560 := X.2.2.2.2.2.2.2.2.2.2.2.2
  intro n
  induction n with
  | zero => intro i h1 h2; omega
  | succ n ih =>
    intro i h1 h2 x M hM hv
    refine l_i3 X c_191_18 ?_
    refine l_len X c_191_19 c_191_20 ?_
    refine l_ic X c_191_21 ?_
    refine l_sub X c_191_22 ?_
    refine l_gt X (t := 1082) c_191_23 (by omega) (by omega) (by decide) (fun _ => ?_) (fun hle => ?_)
    · exact l_end X (by decide) hsl
    have k : ∀ (x' : wC) (M' : wM), wRM M' → LINV x' M' → LW p l e s m below meth c D cI cZ cR sb (wW x' M') (lvs s sb (i : Int)) 127 slots 1076 [] := fun x' M' hM' hv' => by
      refine l_inc X c_191_1076 ?_
      refine l_goto X (t := 18) c_191_1079 (by decide) ?_
      have h5 := ih (i + 5) (by omega) (by omega) x' M' hM' hv'
      rw [show ((i + 5 : Nat) : Int) = (i : Int) + 5 by omega] at h5
      exact h5
    obtain ⟨z, ez, wz⟩ := rdz (xs (i : Int).toNat)
    refine l_rd0 X c_191_26 c_191_27 c_191_28 (by omega) (by omega) ez ?_
    refine l_bi X c_191_29 (by decide) ?_
    refine l_and X c_191_31 ?_
    obtain ⟨key, hk32, hke⟩ := and31 (iI z)
    rw [hke]
    rcases (show key = 0 ∨ key = 1 ∨ key = 2 ∨ key = 3 ∨ key = 4 ∨ key = 5 ∨ key = 6 ∨ key = 7 ∨ key = 8 ∨ key = 9 ∨ key = 10 ∨ key = 11 ∨ key = 12 ∨ key = 13 ∨ key = 14 ∨ key = 15 ∨ key = 16 ∨ key = 17 ∨ key = 18 ∨ key = 19 ∨ key = 20 ∨ key = 21 ∨ key = 22 ∨ key = 23 ∨ key = 24 ∨ key = 25 ∨ key = 26 ∨ key = 27 ∨ key = 28 ∨ key = 29 ∨ key = 30 ∨ key = 31 by omega) with rfl | rfl | rfl | rfl | rfl | rfl | rfl | rfl | rfl | rfl | rfl | rfl | rfl | rfl | rfl | rfl | rfl | rfl | rfl | rfl | rfl | rfl | rfl | rfl | rfl | rfl | rfl | rfl | rfl | rfl | rfl | rfl
    · exact l_ts X (off := 140) (t := 172) c_191_32 (by decide) (by decide) (by decide) rfl (by decide) (law_0 X hM hv (by omega) (by omega) hsl k)
    · exact l_ts X (off := 163) (t := 195) c_191_32 (by decide) (by decide) (by decide) rfl (by decide) (law_1 X hM hv (by omega) (by omega) hsl k)
    · exact l_ts X (off := 176) (t := 208) c_191_32 (by decide) (by decide) (by decide) rfl (by decide) (law_2 X hM hv (by omega) (by omega) hsl k)
    · exact l_ts X (off := 189) (t := 221) c_191_32 (by decide) (by decide) (by decide) rfl (by decide) (law_3 X hM hv (by omega) (by omega) hsl k)
    · exact l_ts X (off := 202) (t := 234) c_191_32 (by decide) (by decide) (by decide) rfl (by decide) (law_4 X hM hv (by omega) (by omega) hsl k)
    · exact l_ts X (off := 225) (t := 257) c_191_32 (by decide) (by decide) (by decide) rfl (by decide) (law_5 X hM hv (by omega) (by omega) hsl k)
    · exact l_ts X (off := 258) (t := 290) c_191_32 (by decide) (by decide) (by decide) rfl (by decide) (law_6 X hM hv (by omega) (by omega) hsl k)
    · exact l_ts X (off := 291) (t := 323) c_191_32 (by decide) (by decide) (by decide) rfl (by decide) (law_7 X hM hv (by omega) (by omega) hsl k)
    · exact l_ts X (off := 324) (t := 356) c_191_32 (by decide) (by decide) (by decide) rfl (by decide) (law_8 X hM hv (by omega) (by omega) hsl k)
    · exact l_ts X (off := 347) (t := 379) c_191_32 (by decide) (by decide) (by decide) rfl (by decide) (law_9 X hM hv (by omega) (by omega) hsl k)
    · exact l_ts X (off := 400) (t := 432) c_191_32 (by decide) (by decide) (by decide) rfl (by decide) (law_10 X hM hv (by omega) (by omega) hsl k)
    · exact l_ts X (off := 433) (t := 465) c_191_32 (by decide) (by decide) (by decide) rfl (by decide) (law_11 X hM hv (by omega) (by omega) hsl k)
    · exact l_ts X (off := 456) (t := 488) c_191_32 (by decide) (by decide) (by decide) rfl (by decide) (law_12 X hM hv (by omega) (by omega) hsl k)
    · exact l_ts X (off := 469) (t := 501) c_191_32 (by decide) (by decide) (by decide) rfl (by decide) (law_13 X hM hv (by omega) (by omega) hsl k)
    · exact l_ts X (off := 492) (t := 524) c_191_32 (by decide) (by decide) (by decide) rfl (by decide) (law_14 X hM hv (by omega) (by omega) hsl k)
    · exact l_ts X (off := 505) (t := 537) c_191_32 (by decide) (by decide) (by decide) rfl (by decide) (law_15 X hM hv (by omega) (by omega) hsl k)
    · exact l_ts X (off := 544) (t := 576) c_191_32 (by decide) (by decide) (by decide) rfl (by decide) (law_16 X hM hv (by omega) (by omega) hsl k)
    · exact l_ts X (off := 583) (t := 615) c_191_32 (by decide) (by decide) (by decide) rfl (by decide) (law_17 X hM hv (by omega) (by omega) hsl k)
    · exact l_ts X (off := 606) (t := 638) c_191_32 (by decide) (by decide) (by decide) rfl (by decide) (law_18 X hM hv (by omega) (by omega) hsl k)
    · exact l_ts X (off := 629) (t := 661) c_191_32 (by decide) (by decide) (by decide) rfl (by decide) (law_19 X hM hv (by omega) (by omega) hsl k)
    · exact l_ts X (off := 668) (t := 700) c_191_32 (by decide) (by decide) (by decide) rfl (by decide) (law_20 X hM hv (by omega) (by omega) hsl k)
    · exact l_ts X (off := 701) (t := 733) c_191_32 (by decide) (by decide) (by decide) rfl (by decide) (law_21 X hM hv (by omega) (by omega) hsl k)
    · exact l_ts X (off := 750) (t := 782) c_191_32 (by decide) (by decide) (by decide) rfl (by decide) (law_22 X hM hv (by omega) (by omega) hsl k)
    · exact l_ts X (off := 803) (t := 835) c_191_32 (by decide) (by decide) (by decide) rfl (by decide) (law_23 X hM hv (by omega) (by omega) hsl k)
    · exact l_ts X (off := 816) (t := 848) c_191_32 (by decide) (by decide) (by decide) rfl (by decide) (law_24 X hM hv (by omega) (by omega) hsl k)
    · exact l_ts X (off := 829) (t := 861) c_191_32 (by decide) (by decide) (by decide) rfl (by decide) (law_25 X hM hv (by omega) (by omega) hsl k)
    · exact l_ts X (off := 872) (t := 904) c_191_32 (by decide) (by decide) (by decide) rfl (by decide) (law_26 X hM hv (by omega) (by omega) hsl k)
    · exact l_ts X (off := 921) (t := 953) c_191_32 (by decide) (by decide) (by decide) rfl (by decide) (law_27 X hM hv (by omega) (by omega) hsl k)
    · exact l_ts X (off := 975) (t := 1007) c_191_32 (by decide) (by decide) (by decide) rfl (by decide) (law_28 X hM hv (by omega) (by omega) hsl k)
    · exact l_ts X (off := 998) (t := 1030) c_191_32 (by decide) (by decide) (by decide) rfl (by decide) (law_29 X hM hv (by omega) (by omega) hsl k)
    · exact l_ts X (off := 1021) (t := 1053) c_191_32 (by decide) (by decide) (by decide) rfl (by decide) (law_30 X hM hv (by omega) (by omega) hsl k)
    · exact l_td X (t := 1076) c_191_32 (by decide) (by decide) (by decide) (k x M hM hv)
theorem law_X (hL : L ≤ 2560) (C0 : lw_At p s m meth c sb L xs) : ∃ (D : va_G) (cI cZ cR : Nat), LX p s m meth c D cI cZ cR sb L xs := by
  obtain ⟨hx, hb, hr, hml, hown, hts, hX, hbl, hlocks, hgv⟩ := C0
  have hts0 : ∀ w ∈ zt_w0, w.before #[Value.ref sb] s = true := fun w hw => hts w (List.mem_filter.mp hw).1
  have hts1 : ∀ w ∈ zt_w1, va_Nw w s := fun w hw => va_Nw.of (zN_onT hw) (hts w (List.mem_filter.mp hw).1)
  obtain ⟨cI, kI, compI, i1, i2, i3⟩ := Cond.arrayClass_spec (hts0 _ zar_i)
  obtain ⟨cZ, kZ, compZ, j1, j2, j3⟩ := Cond.arrayClass_spec (hts0 _ zar_z)
  obtain ⟨compR, cR, kR, g1, g2, g3, g4, g5⟩ := Cond.arrayOver_spec (hts _ zar_q)
  have hk : ∀ ci, ci < 9 → ∃ q : ClassId × (Nat → Nat), u_Kn s (zcd ci).1 (zcd ci).2.1 (zcd ci).2.2 q.1 q.2 := fun ci h => by
    obtain ⟨q1, q2, h2⟩ := u_known hts0 (zcd_in h) (hts0 _ (zcd_ins h).1)
    exact ⟨(q1, q2), h2⟩
  obtain ⟨F, hF⟩ : ∃ F : Nat → ClassId × (Nat → Nat), ∀ ci, ci < 9 → u_Kn s (zcd ci).1 (zcd ci).2.1 (zcd ci).2.2 (F ci).1 (F ci).2 :=
    ⟨fun ci => if h : ci < 9 then (hk ci h).choose else (0, fun _ => 0), fun ci h => by simp only [dif_pos h]; exact (hk ci h).choose_spec⟩
  refine ⟨(fun k => (F k).1, fun k => (F k).2), cI, cZ, cR, hx, hb, hml, hr, hown, hts0, hts1, va_AO.of (hts _ zar_q), ⟨fun k q hq => ?_, fun k q hq => ?_⟩, hX, hbl, hlocks, hL⟩
  · have h9 : k < 9 := (List.getElem?_eq_some_iff.mp hq).1
    rw [zcd_get h9] at hq
    cases hq
    exact hF k h9
  · match k, hq with
    | 0, hq => cases hq; exact ⟨fun n z => ⟨fun k h => (by cases h), kI, i2, compI, i3⟩, i1⟩
    | 1, hq => cases hq; exact ⟨fun n z => ⟨fun k h => (by cases h), kZ, j2, compZ, j3⟩, j1⟩
    | 2, hq => cases hq; exact ⟨fun n z => ⟨fun k h => (by cases h), kR, g3, compR, g4⟩, kR, compR, g3, g4, g1, g5⟩
    | k + 3, hq => simp [zTY] at hq
theorem h0A_len : h0A.length = 106 := by decide +kernel
theorem h0B_len : h0B.length = 107 := by unfold h0B; rw [List.length_append, h0A_len]; rfl
theorem h0A_sz : zsz h0A ≤ 5000 := by decide +kernel
theorem h0_sz : zsz (wW x0 M0) ≤ 5000 := by decide +kernel
theorem law_go (X : LX p s m meth c D cI cZ cR sb L xs) : LW p l e s m below meth c D cI cZ cR sb [] [(0, .ref sb)] 0 0 0 [] := by
  refine l_new X c_191_0 rfl (by decide) (Nat.le_of_ble_eq_true rfl) ?_
  refine l_dup X c_191_3 rfl ?_
  have hs0 : 0 + (zcd 7).2.2 ≤ 100 := Nat.le_of_ble_eq_true rfl
  generalize 0 + (zcd 7).2.2 = sl0 at hs0 ⊢
  have hsA := h0A_sz
  refine l_call (v1 := 0) (av := [.ref 0]) (rest := [.ref 0]) X c_191_4 (Or.inr ⟨rfl, by decide +kernel⟩) rfl (Nat.le_of_ble_eq_true rfl) (Nat.le_of_ble_eq_true rfl) (by decide +kernel) r_65 rfl (by rw [h0A_len]; decide) (by omega) ?_
  have e1 : 0 + 1 + (h0A.length - (([] : List zE) ++ [Sum.inr (Sum.inr (7, zdf 7))]).length) = 106 := by rw [h0A_len]; rfl
  have hs1 : sl0 + (zsz h0A - zsz (([] : List zE) ++ [Sum.inr (Sum.inr (7, zdf 7))])) ≤ 5100 := by omega
  rw [e1]
  generalize sl0 + (zsz h0A - zsz (([] : List zE) ++ [Sum.inr (Sum.inr (7, zdf 7))])) = sl1 at hs1 ⊢
  refine l_as X c_191_7 rfl (by decide) rfl ?_
  refine l_new X c_191_8 (by rw [h0A_len]) (by decide) (by have : (zcd 8).2.2 ≤ 100 := Nat.le_of_ble_eq_true rfl; omega) ?_
  rw [h0A_len]
  refine l_dup X c_191_11 rfl ?_
  have hs2 : sl1 + (zcd 8).2.2 ≤ 5200 := by have : (zcd 8).2.2 ≤ 100 := Nat.le_of_ble_eq_true rfl; omega
  generalize sl1 + (zcd 8).2.2 = sl2 at hs2 ⊢
  have hsB := h0_sz
  have hBl : (h0A ++ [Sum.inr (Sum.inr (8, zdf 8))]).length = 107 := h0B_len
  refine l_call (v1 := 0) (av := [.ref 106]) (rest := [.ref 106]) X c_191_12 (Or.inr ⟨rfl, by decide +kernel⟩) rfl (Nat.le_of_ble_eq_true rfl) (Nat.le_of_ble_eq_true rfl) (by decide +kernel) r_116 (by rw [hBl]) (by rw [hBl, wW_len]; decide) (by omega) ?_
  have e2 : 106 + 1 + ((wW x0 M0).length - (h0A ++ [Sum.inr (Sum.inr (8, zdf 8))]).length) = 127 := by rw [hBl, wW_len]
  rw [e2]
  have hs3 : sl2 + (zsz (wW x0 M0) - zsz (h0A ++ [Sum.inr (Sum.inr (8, zdf 8))])) ≤ 7302250 := by omega
  generalize sl2 + (zsz (wW x0 M0) - zsz (h0A ++ [Sum.inr (Sum.inr (8, zdf 8))])) = sl3 at hs3 ⊢
  refine l_as (o := 106) X c_191_15 rfl (by decide) rfl ?_
  refine l_ic X c_191_16 ?_
  refine l_is X c_191_17 rfl (by decide) rfl ?_
  refine l_sb (lv' := lvs s sb ((0 : Nat) : Int)) [3, 2, 1, 0] rfl ?_
  exact law_loop X hs3 (L + 1) 0 (by omega) (Nat.zero_le _) x0 M0 wRM0 ⟨_, _, _, _, _, _, _, CI0, MI0, AOK0⟩
end LLP
set_option maxHeartbeats 4000000 in
theorem whole_start {p : Program} {e : Env} {s : State} {m : MethodId} {below : List Frame} {meth : Method} {c : Code} (l : Launch) (hflags : l.flags = flags0) {b L : Nat} {xs : Nat → Int32} (hL : L ≤ 2560) (C0 : lw_At p s m meth c b L xs) : W p l e room_1 s m #[Value.ref b] below meth c s.heap [] 0 0 (lw_Z below #[Value.ref b] s) (entryFrame m ([Value.ref b] : List Value).toArray 4) := by
  obtain ⟨D, cI, cZ, cR, X⟩ := law_X hL C0
  have hl := lv_entry ([.ref b]) (n := 4) (Nat.le_of_ble_eq_true rfl)
  rw [lg_entry_eq]
  generalize (lg_sl ([.ref b]) ++ List.replicate (4 - (lg_sl ([.ref b])).length) Slot.unset).toArray = ls at hl ⊢
  have hl : lv_has ls 4 [(0, .ref b)] := hl
  exact law_go (l := l) (e := e) (below := below) X s.heap [] ls (fun k q h => by simp [zW] at h) va_S.rf hl
