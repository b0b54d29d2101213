/-! ===== LoveGlass: what it holds ===== -/
def AOK (T : List Nat) (P : aP) (R : aR) (L : aA) (Tm : aT) (K : Nat → Option aR) : Prop := (T.length ≤ 56 ∧ ∀ c ∈ T, c < 256) ∧ aPok P ∧ aRok P R ∧ (L.1 ≤ 14 ∧ ∀ k, k < L.1 → aRok P (L.2 k)) ∧ aTok Tm ∧ ∀ k R', k < 2 → K k = some R' → aRok P R'
def aKb (K : Nat → Option aR) : Nat := (if (K 0).isSome = true then 1 else 0) + (if (K 1).isSome = true then 2 else 0)
def CI (x : wC) (M : wM) (T : List Nat) (P : aP) (R : aR) (L : aA) (Tm : aT) (sd : Int64) (K : Nat → Option aR) : Prop :=
  (x.2.1 = 3 ∧ x.2.2 = 18 ∨ x.2.1 = 18 ∧ x.2.2 = 3) ∧ x.1 0 = sd ∧ (M 1 3 = T.length ∧ ∀ i : Nat, i < T.length → M 2 i = (T.getD i 0 : Nat)) ∧ wport M x.2.1 P ∧ wrun M 33 R ∧ wacts M L ∧ wtim M Tm ∧ M 0 9 = aKb K ∧ ∀ k R', k < 2 → K k = some R' → wrun M (99 + 3 * k) R'
theorem CI_port {x : wC} (hx : x.2.1 = 3 ∧ x.2.2 = 18 ∨ x.2.1 = 18 ∧ x.2.2 = 3) : wportS x.2.1 ∧ x.2.1 + 14 < 33 := by
  rcases hx with ⟨h, -⟩ | ⟨h, -⟩ <;> rw [h]
  · exact ⟨wportS_3, by omega⟩
  · exact ⟨wportS_18, by omega⟩
/-- which cells LoveGlass's state stands in: all but what is tried, planned, drafted, chanced -/
def wown (x : wC) (b : Nat) : Prop := b ≤ 2 ∨ (x.2.1 ≤ b ∧ b ≤ x.2.1 + 14) ∨ (33 ≤ b ∧ b ≤ 35) ∨ (39 ≤ b ∧ b ≤ 92) ∨ (97 ≤ b ∧ b ≤ 104)
theorem CI_of {x : wC} {M M' : wM} {T : List Nat} {P : aP} {R : aR} {L : aA} {Tm : aT} {sd : Int64} {K : Nat → Option aR} (h : CI x M T P R L Tm sd K) (hf : ∀ b, wown x b → M' b = M b) : CI x M' T P R L Tm sd K := by
  obtain ⟨hx, hsd, hT, hM, hR, hL, hTm, hK0, hK⟩ := h
  refine ⟨hx, hsd, ?_, ?_, ?_, ?_, ?_, ?_, ?_⟩
  · rw [hf 1 (by unfold wown; omega), hf 2 (by unfold wown; omega)]; exact hT
  · exact wport_of hM (fun b h1 h2 => hf b (by unfold wown; omega))
  · exact wrun_of hR (hf _ (by unfold wown; omega)) (hf _ (by unfold wown; omega)) (hf _ (by unfold wown; omega))
  · exact wacts_of hL (fun b h1 h2 => hf b (by unfold wown; omega))
  · exact wtim_of hTm (fun b h1 h2 => hf b (by unfold wown; omega))
  · rw [hf 0 (by unfold wown; omega)]; exact hK0
  · exact fun k R' hk hR' => wrun_of (hK k R' hk hR') (hf _ (by unfold wown; omega)) (hf _ (by unfold wown; omega)) (hf _ (by unfold wown; omega))
theorem wrow_1 : wrow 1 56 0 255 := by refine ⟨?_, ?_, ?_, ?_, ?_, ?_, ?_, ?_, ?_, ?_⟩ <;> decide +kernel
theorem wrow_34 : wrow 34 6 0 5 := wrunS_33.2.2.2.2.2.1
def aAbout (T : List Nat) (P : aP) (R : aR) (L : aA) (Tm : aT) (z : Int) : Int :=
  if z = 0 then P.2.1 else if z = 1 then P.2.2.1 else if z = 2 then P.2.2.2 else if z = 3 then R.1 else if z = 4 then R.2.1 else if z = 5 then R.2.2.1 else if z = 6 then R.2.2.2.length else if z = 7 then aBits R.2.2.2 else if z = 8 then aWarm P R.2.2.2 else if z = 9 then (if aStage P R.2.2.2 = 3 then 1 else 0) else if z = 10 then L.1 else if z = 11 then Tm.1 else if z = 12 then T.length else -2
def aGlass (P : aP) (z w : Int) : Int := if 0 ≤ z ∧ z < P.2.1 then (if w = 0 then P.1 0 z.toNat else if w = 1 then P.1 1 z.toNat else if w = 2 then aGr P z.toNat else -2) else -1
def aSuitor (P : aP) (z w : Int) : Int := if 0 ≤ z ∧ z < P.2.2.1 then (if w = 0 then P.1 2 z.toNat else if w = 1 then P.1 3 z.toNat else -2) else -1
def aSaying (P : aP) (R : aR) (z w : Int) : Int := if 0 ≤ z ∧ z < P.2.2.2 then (if w = 0 then P.1 4 z.toNat else if w = 1 then P.1 5 z.toNat else if w = 2 then P.1 6 z.toNat else if w = 3 then (if R.1 ≠ -9 ∧ z.toNat ∉ R.2.2.2 then aTake P R z.toNat else -9) else -2) else -1
def aSaidAt (R : aR) (z : Int) : Int := if 0 ≤ z ∧ z < R.2.2.2.length then (R.2.2.2.getD z.toNat 0 : Nat) else -1
def aTakes (P : aP) (y s g i : Int) : Int := if (0 ≤ y ∧ y < P.2.2.2) ∧ (0 ≤ s ∧ s < P.2.2.1) ∧ 0 ≤ g ∧ g < P.2.1 then (if 0 ≤ i ∧ i < 6 then aCost P y.toNat s.toNat g.toNat i.toNat else -2) else -1
section S10
variable {x : wC} {M : wM} {Q : Option Value → wC → wM → Prop} {T : List Nat} {P : aP} {R : aR} {L : aA} {Tm : aT} {sd : Int64} {K : Nat → Option aR}
theorem s_66 {z : Int} (hC : CI x M T P R L Tm sd K) (hA : AOK T P R L Tm K) (hz : wR z) (hQ0 : ¬ (0 ≤ z ∧ z ≤ 255) → Q (some (.int (iI (-2)))) x M) (hQ1 : 0 ≤ z ∧ z ≤ 255 → T.length = 56 → Q (some (.int (iI (-4)))) x M)
    (hQ2 : 0 ≤ z ∧ z ≤ 255 → T.length < 56 → ∀ M', CI x M' (T ++ [z.toNat]) P R L Tm sd K → (∀ b, 3 ≤ b → M' b = M b) → Q (some (.int (iI ((T.length + 1 : Nat) : Int)))) x M') : yG x M 66 0 [.ref 0, .int (iI z)] [] Q := by
  obtain ⟨hx, hsd, hT, hM, hR, hL, hTm, hK0, hK⟩ := id hC
  obtain ⟨⟨ht56, ht256⟩, hok, hRk, ⟨hl14, hLk⟩, hTk, hKk⟩ := id hA
  obtain ⟨hp, hp33⟩ := CI_port hx
  obtain ⟨z1, z2, z3, z4, z5⟩ := aRok_len hok hRk
  have z6 : ∀ y ∈ R.2.2.2, y < 6 := fun y hy => by have := z3 y hy; have := hok.2.2.1; omega
  have hb1 := hok.1
  have hb2 := hok.2.1
  have hb3 := hok.2.2.1
  obtain ⟨q0, q1, q2, q3, q4, q5, q6, qc, j0, j1, j2, j3, j4, j5, j6, qlt⟩ := id hp
  obtain ⟨⟨n0, n1, n2, n3, n4, n5, n6⟩, v0, v1, v2, v3, v4, v5, v6⟩ := id hM
  refine y_al0 c_66_0 ?_
  refine y_gr 1 c_66_1 rfl (by omega) ?_
  refine y_il1 c_66_4 ?_
  refine k_34 c_66_5 rfl rfl (Nat.le_of_ble_eq_true rfl) ?_
  refine s_34 wrow_1 hz ?_
  refine y_pz_ne c_66_8 (fun h1 => ?_) (fun h1 => ?_)
  · refine y_al0 c_66_14 ?_
    refine y_gr 1 c_66_15 rfl (by omega) ?_
    refine k_33 c_66_18 rfl rfl (Nat.le_of_ble_eq_true rfl) ?_
    refine s_33 wrow_1 ?_
    rw [hT.1]
    refine y_pz_eq c_66_21 (fun h2 => ?_) (fun h2 => ?_)
    · refine y_al0 c_66_27 ?_
      refine y_gr 1 c_66_28 rfl (by omega) ?_
      refine y_il1 c_66_31 ?_
      refine k_37 c_66_32 rfl rfl (Nat.le_of_ble_eq_true rfl) ?_
      refine s_37 wrow_1 hz (by rw [hT.1]; omega) (by rw [hT.1]; omega) ?_
      rw [hT.1]
      refine y_al0 c_66_35 ?_
      refine y_gr 1 c_66_36 rfl (by omega) ?_
      refine k_32 c_66_39 rfl rfl (Nat.le_of_ble_eq_true rfl) ?_
      refine s_32 wrow_1 ?_
      rw [wup_s]
      refine y_ret c_66_42 rfl ?_
      refine yQi (hQ2 (by omega) (by omega) _ ?_ (fun b hb => by rw [wup_f _ _ _ (by omega), wup_f _ _ _ (by omega)])) (by omega)
      have hf : ∀ b, b ≠ 1 → b ≠ 2 → wup (wup M (1 + 1) ((T.length : Nat) : Int) z) 1 3 (((T.length : Nat) : Int) + 1) b = M b := fun b h3 h4 => by rw [wup_f _ _ _ h3, wup_f _ _ _ h4]
      refine ⟨hx, hsd, ⟨by rw [wup_s]; simp, fun i hi => ?_⟩, wport_of hM (fun b h3 h4 => hf b (by omega) (by omega)), wrun_of hR (hf _ (by omega) (by omega)) (hf _ (by omega) (by omega)) (hf _ (by omega) (by omega)), wacts_of hL (fun b h3 h4 => hf b (by omega) (by omega)), wtim_of hTm (fun b h3 h4 => hf b (by omega) (by omega)), by rw [hf 0 (by omega) (by omega)]; exact hK0, fun k R' hk hR' => wrun_of (hK k R' hk hR') (hf _ (by omega) (by omega)) (hf _ (by omega) (by omega)) (hf _ (by omega) (by omega))⟩
      rw [wup_a _ _ _ _ (by omega), getD_app]
      rw [List.length_append] at hi
      simp only [List.length_singleton] at hi
      by_cases hik : i = T.length
      · subst hik
        rw [wup_s, if_neg (by omega), if_pos rfl]; omega
      · rw [wup_k _ _ (by omega), if_pos (by omega)]; exact hT.2 i (by omega)
    · refine y_bi c_66_24 (by decide) ?_
      refine y_ret c_66_26 rfl ?_
      exact hQ1 (by omega) (by omega)
  · refine y_bi c_66_11 (by decide) ?_
    refine y_ret c_66_13 rfl ?_
    exact hQ0 (by omega)
theorem s_67 (hC : CI x M T P R L Tm sd K) (hA : AOK T P R L Tm K) (hQ : ∀ M', CI x M' [] P R L Tm sd K → (∀ b, 3 ≤ b → M' b = M b) → Q (some (.int (iI (T.length : Int)))) x M') : yG x M 67 0 [.ref 0, zU] [] Q := by
  obtain ⟨hx, hsd, hT, hM, hR, hL, hTm, hK0, hK⟩ := id hC
  obtain ⟨⟨ht56, ht256⟩, hok, hRk, ⟨hl14, hLk⟩, hTk, hKk⟩ := id hA
  obtain ⟨hp, hp33⟩ := CI_port hx
  obtain ⟨z1, z2, z3, z4, z5⟩ := aRok_len hok hRk
  have z6 : ∀ y ∈ R.2.2.2, y < 6 := fun y hy => by have := z3 y hy; have := hok.2.2.1; omega
  have hb1 := hok.1
  have hb2 := hok.2.1
  have hb3 := hok.2.2.1
  obtain ⟨q0, q1, q2, q3, q4, q5, q6, qc, j0, j1, j2, j3, j4, j5, j6, qlt⟩ := id hp
  obtain ⟨⟨n0, n1, n2, n3, n4, n5, n6⟩, v0, v1, v2, v3, v4, v5, v6⟩ := id hM
  refine y_al0 c_67_0 ?_
  refine y_gr 1 c_67_1 rfl (by omega) ?_
  refine k_32 c_67_4 rfl rfl (Nat.le_of_ble_eq_true rfl) ?_
  refine s_32 wrow_1 ?_
  rw [hT.1]
  refine y_is1 c_67_7 rfl ?_
  refine y_al0 c_67_8 ?_
  refine y_gr 1 c_67_9 rfl (by omega) ?_
  refine k_38 c_67_12 rfl rfl (Nat.le_of_ble_eq_true rfl) ?_
  refine s_38 wrow_1 ?_
  refine y_il1 c_67_15 ?_
  refine y_ret c_67_16 rfl ?_
  have hf : ∀ b, b ≠ 1 → wup M 1 3 0 b = M b := fun b h3 => wup_f _ _ _ h3
  refine hQ _ ⟨hx, hsd, ⟨by rw [wup_s]; rfl, fun i hi => by simp at hi⟩, wport_of hM (fun b h3 h4 => hf b (by omega)), wrun_of hR (hf _ (by omega)) (hf _ (by omega)) (hf _ (by omega)), wacts_of hL (fun b h3 h4 => hf b (by omega)), wtim_of hTm (fun b h3 h4 => hf b (by omega)), by rw [hf 0 (by omega)]; exact hK0, fun k R' hk hR' => wrun_of (hK k R' hk hR') (hf _ (by omega)) (hf _ (by omega)) (hf _ (by omega))⟩ (fun b hb => hf b (by omega))
theorem s_71 {z : Int} (hC : CI x M T P R L Tm sd K) (hA : AOK T P R L Tm K) (hz : wR z) (hn : ¬ (z = 0 ∨ z = 1 ∨ z = 2 ∨ z = 10 ∨ z = 11 ∨ z = 12)) (hQ : Q (some (.int (iI (aAbout T P R L Tm z)))) x M) : yG x M 71 0 [.ref 0, .int (iI z)] [] Q := by
  obtain ⟨hx, hsd, hT, hM, hR, hL, hTm, hK0, hK⟩ := id hC
  obtain ⟨⟨ht56, ht256⟩, hok, hRk, ⟨hl14, hLk⟩, hTk, hKk⟩ := id hA
  obtain ⟨hp, hp33⟩ := CI_port hx
  obtain ⟨z1, z2, z3, z4, z5⟩ := aRok_len hok hRk
  have z6 : ∀ y ∈ R.2.2.2, y < 6 := fun y hy => by have := z3 y hy; have := hok.2.2.1; omega
  have hb1 := hok.1
  have hb2 := hok.2.1
  have hb3 := hok.2.2.1
  obtain ⟨q0, q1, q2, q3, q4, q5, q6, qc, j0, j1, j2, j3, j4, j5, j6, qlt⟩ := id hp
  obtain ⟨⟨n0, n1, n2, n3, n4, n5, n6⟩, v0, v1, v2, v3, v4, v5, v6⟩ := id hM
  have hbt := aBits_lt z6
  refine y_il1 c_71_0 ?_
  by_cases hd_1 : z = 3 ∨ z = 4 ∨ z = 5 ∨ z = 6 ∨ z = 7 ∨ z = 8 ∨ z = 9
  rotate_left
  · refine y_td 119 c_71_1 (by omega) (by omega) rfl ?_
    unfold aAbout at hQ
    rw [if_neg (by omega), if_neg (by omega), if_neg (by omega), if_neg (by omega), if_neg (by omega), if_neg (by omega), if_neg (by omega), if_neg (by omega), if_neg (by omega), if_neg (by omega), if_neg (by omega), if_neg (by omega), if_neg (by omega)] at hQ
    refine y_bi c_71_119 (by decide) ?_
    refine y_ret c_71_121 rfl ?_
    exact hQ
  rcases hd_1 with rfl | rfl | rfl | rfl | rfl | rfl | rfl
  · refine y_ts 44 c_71_1 (by omega) (by omega) (by omega) rfl rfl ?_
    refine y_al0 c_71_44 ?_
    refine y_gr 33 c_71_45 rfl (by omega) ?_
    refine y_gi (j := 0) (z := R.1) c_71_48 rfl rfl hR.1 (fun r_48 => ?_)
    refine y_ret c_71_51 rfl ?_
    exact yQi hQ (by simp [aAbout])
  · refine y_ts 52 c_71_1 (by omega) (by omega) (by omega) rfl rfl ?_
    refine y_al0 c_71_52 ?_
    refine y_gr 33 c_71_53 rfl (by omega) ?_
    refine y_gi (j := 1) (z := R.2.1) c_71_56 rfl rfl hR.2.1 (fun r_56 => ?_)
    refine y_ret c_71_59 rfl ?_
    exact yQi hQ (by simp [aAbout])
  · refine y_ts 60 c_71_1 (by omega) (by omega) (by omega) rfl rfl ?_
    refine y_al0 c_71_60 ?_
    refine y_gr 33 c_71_61 rfl (by omega) ?_
    refine y_gi (j := 2) (z := (R.2.2.1 : Int)) c_71_64 rfl rfl hR.2.2.1 (fun r_64 => ?_)
    refine y_ret c_71_67 rfl ?_
    exact yQi hQ (by simp [aAbout])
  · refine y_ts 68 c_71_1 (by omega) (by omega) (by omega) rfl rfl ?_
    refine y_al0 c_71_68 ?_
    refine y_gr 33 c_71_69 rfl (by omega) ?_
    refine k_45 c_71_72 rfl rfl (Nat.le_of_ble_eq_true rfl) ?_
    refine s_45 wrunS_33 ?_
    rw [hR.2.2.2.1]
    refine y_ret c_71_75 rfl ?_
    exact yQi hQ (by simp [aAbout])
  · refine y_ts 76 c_71_1 (by omega) (by omega) (by omega) rfl rfl ?_
    refine y_al0 c_71_76 ?_
    refine y_gr 33 c_71_77 rfl (by omega) ?_
    refine k_46 c_71_80 rfl rfl (Nat.le_of_ble_eq_true rfl) ?_
    refine s_46 wrunS_33 hR z2 z6 ?_
    refine y_ret c_71_83 rfl ?_
    exact yQi hQ (by simp [aAbout])
  · refine y_ts 84 c_71_1 (by omega) (by omega) (by omega) rfl rfl ?_
    refine y_al0 c_71_84 ?_
    refine y_gp c_71_85 rfl ?_
    refine y_al0 c_71_88 ?_
    refine y_gr 33 c_71_89 rfl (by omega) ?_
    refine k_46 c_71_92 rfl rfl (Nat.le_of_ble_eq_true rfl) ?_
    refine s_46 wrunS_33 hR z2 z6 ?_
    refine k_30 c_71_95 rfl qc (Nat.le_of_ble_eq_true rfl) ?_
    refine s_30 hp hM hok (by omega) ?_
    rw [aWs_warm z5 z3]
    refine y_ret c_71_98 rfl ?_
    exact yQi hQ (by simp [aAbout])
  · refine y_ts 99 c_71_1 (by omega) (by omega) (by omega) rfl rfl ?_
    refine y_al0 c_71_99 ?_
    refine y_gr 33 c_71_100 rfl (by omega) ?_
    refine y_al0 c_71_103 ?_
    refine y_gp c_71_104 rfl ?_
    refine k_49 c_71_107 rfl rfl (Nat.le_of_ble_eq_true rfl) ?_
    refine s_49 wrunS_33 hR hp hM hok z2 z3 ?_
    refine y_pz_eq c_71_110 (fun h_110 => ?_) (fun h_110 => ?_)
    · refine y_ic c_71_117 ?_
      refine y_ret c_71_118 rfl ?_
      first
        | exact yQi hQ (by simp [aAbout]; omega)
        | exact yQi hQ (by simp [aAbout, h_110])
    · refine y_ic c_71_113 ?_
      refine y_goto c_71_114 ?_
      refine y_ret c_71_118 rfl ?_
      first
        | exact yQi hQ (by simp [aAbout]; omega)
        | exact yQi hQ (by simp [aAbout, h_110])
theorem s_70 {z : Int} (hC : CI x M T P R L Tm sd K) (hA : AOK T P R L Tm K) (hz : wR z) (hQ : Q (some (.int (iI (aAbout T P R L Tm z)))) x M) : yG x M 70 0 [.ref 0, .int (iI z)] [] Q := by
  obtain ⟨hx, hsd, hT, hM, hR, hL, hTm, hK0, hK⟩ := id hC
  obtain ⟨⟨ht56, ht256⟩, hok, hRk, ⟨hl14, hLk⟩, hTk, hKk⟩ := id hA
  obtain ⟨hp, hp33⟩ := CI_port hx
  obtain ⟨z1, z2, z3, z4, z5⟩ := aRok_len hok hRk
  have z6 : ∀ y ∈ R.2.2.2, y < 6 := fun y hy => by have := z3 y hy; have := hok.2.2.1; omega
  have hb1 := hok.1
  have hb2 := hok.2.1
  have hb3 := hok.2.2.1
  obtain ⟨q0, q1, q2, q3, q4, q5, q6, qc, j0, j1, j2, j3, j4, j5, j6, qlt⟩ := id hp
  obtain ⟨⟨n0, n1, n2, n3, n4, n5, n6⟩, v0, v1, v2, v3, v4, v5, v6⟩ := id hM
  refine y_il1 c_70_0 ?_
  have tail : yG x M 70 116 [.ref 0, .int (iI z)] [] Q ∨ True := Or.inr trivial
  by_cases hd_1 : z = 0 ∨ z = 1 ∨ z = 2 ∨ z = 10 ∨ z = 11 ∨ z = 12
  rotate_left
  · have fin : yG x M 70 116 [.ref 0, .int (iI z)] [] Q := by
      refine y_al0 c_70_116 ?_
      refine y_il1 c_70_117 ?_
      refine k_71 c_70_118 rfl rfl (Nat.le_of_ble_eq_true rfl) ?_
      refine s_71 hC hA hz hd_1 ?_
      refine y_ret c_70_121 rfl ?_
      exact hQ
    by_cases hd2 : z < 0 ∨ 12 < z
    · exact y_td 116 c_70_1 hz hd2 rfl fin
    · rcases (show z = 3 ∨ z = 4 ∨ z = 5 ∨ z = 6 ∨ z = 7 ∨ z = 8 ∨ z = 9 by omega) with rfl | rfl | rfl | rfl | rfl | rfl | rfl <;> exact y_ts 116 c_70_1 hz (by omega) (by omega) rfl rfl fin
  rcases hd_1 with rfl | rfl | rfl | rfl | rfl | rfl
  · refine y_ts 68 c_70_1 hz (by omega) (by omega) rfl rfl ?_
    refine y_al0 c_70_68 ?_
    refine y_gp c_70_69 rfl ?_
    refine k_21 c_70_72 rfl qc (Nat.le_of_ble_eq_true rfl) ?_
    refine s_21 hp ?_
    rw [n0]
    refine y_ret c_70_75 rfl ?_
    exact yQi hQ (by simp [aAbout])
  · refine y_ts 76 c_70_1 hz (by omega) (by omega) rfl rfl ?_
    refine y_al0 c_70_76 ?_
    refine y_gp c_70_77 rfl ?_
    refine k_22 c_70_80 rfl qc (Nat.le_of_ble_eq_true rfl) ?_
    refine s_22 hp ?_
    rw [n2]
    refine y_ret c_70_83 rfl ?_
    exact yQi hQ (by simp [aAbout])
  · refine y_ts 84 c_70_1 hz (by omega) (by omega) rfl rfl ?_
    refine y_al0 c_70_84 ?_
    refine y_gp c_70_85 rfl ?_
    refine k_23 c_70_88 rfl qc (Nat.le_of_ble_eq_true rfl) ?_
    refine s_23 hp ?_
    rw [n4]
    refine y_ret c_70_91 rfl ?_
    exact yQi hQ (by simp [aAbout])
  · refine y_ts 92 c_70_1 hz (by omega) (by omega) rfl rfl ?_
    refine y_al0 c_70_92 ?_
    refine y_gr 39 c_70_93 rfl (by omega) ?_
    refine k_1 c_70_96 rfl rfl (Nat.le_of_ble_eq_true rfl) ?_
    refine s_1 ?_
    obtain ⟨nx, hx1, hx2, hx3, -⟩ := hL
    rw [hx3]
    refine y_ret c_70_99 rfl ?_
    exact yQi hQ (by simp [aAbout])
  · refine y_ts 100 c_70_1 hz (by omega) (by omega) rfl rfl ?_
    refine y_al0 c_70_100 ?_
    refine y_gr 84 c_70_101 rfl (by omega) ?_
    refine k_59 c_70_104 rfl rfl (Nat.le_of_ble_eq_true rfl) ?_
    refine s_59 hTm ?_
    refine y_ret c_70_107 rfl ?_
    exact yQi hQ (by simp [aAbout])
  · refine y_ts 108 c_70_1 hz (by omega) (by omega) rfl rfl ?_
    refine y_al0 c_70_108 ?_
    refine y_gr 1 c_70_109 rfl (by omega) ?_
    refine k_32 c_70_112 rfl rfl (Nat.le_of_ble_eq_true rfl) ?_
    refine s_32 wrow_1 ?_
    rw [hT.1]
    refine y_ret c_70_115 rfl ?_
    exact yQi hQ (by simp [aAbout])
theorem s_72 {z w : Int} (hC : CI x M T P R L Tm sd K) (hA : AOK T P R L Tm K) (hz : wR z) (hw : wR w) (hQ : Q (some (.int (iI (aGlass P z w)))) x M) : yG x M 72 0 [.ref 0, .int (iI z), .int (iI w)] [] Q := by
  obtain ⟨hx, hsd, hT, hM, hR, hL, hTm, hK0, hK⟩ := id hC
  obtain ⟨⟨ht56, ht256⟩, hok, hRk, ⟨hl14, hLk⟩, hTk, hKk⟩ := id hA
  obtain ⟨hp, hp33⟩ := CI_port hx
  obtain ⟨z1, z2, z3, z4, z5⟩ := aRok_len hok hRk
  have z6 : ∀ y ∈ R.2.2.2, y < 6 := fun y hy => by have := z3 y hy; have := hok.2.2.1; omega
  have hb1 := hok.1
  have hb2 := hok.2.1
  have hb3 := hok.2.2.1
  obtain ⟨q0, q1, q2, q3, q4, q5, q6, qc, j0, j1, j2, j3, j4, j5, j6, qlt⟩ := id hp
  obtain ⟨⟨n0, n1, n2, n3, n4, n5, n6⟩, v0, v1, v2, v3, v4, v5, v6⟩ := id hM
  unfold aGlass at hQ
  refine y_al0 c_72_0 ?_
  refine y_gp c_72_1 rfl ?_
  refine y_il1 c_72_4 ?_
  refine k_24 c_72_5 rfl qc (Nat.le_of_ble_eq_true rfl) ?_
  refine s_24 hp hz ?_
  rw [n0]
  refine y_pz_ne c_72_8 (fun h1 => ?_) (fun h1 => ?_)
  · rw [if_pos h1] at hQ
    obtain ⟨i, rfl⟩ : ∃ i : Nat, z = i := ⟨z.toNat, by omega⟩
    rw [Int.toNat_natCast] at hQ
    have hi : i < P.2.1 := by omega
    refine y_il2 c_72_13 ?_
    by_cases hd_14 : w = 0 ∨ w = 1 ∨ w = 2
    rotate_left
    · refine y_td 73 c_72_14 (by omega) (by omega) rfl ?_
      refine y_bi c_72_73 (by decide) ?_
      refine y_ret c_72_75 rfl ?_
      rw [if_neg (by omega), if_neg (by omega), if_neg (by omega)] at hQ; exact hQ
    rcases hd_14 with rfl | rfl | rfl
    · refine y_ts 40 c_72_14 (by omega) (by omega) (by omega) rfl rfl ?_
      refine y_al0 c_72_40 ?_
      refine y_gp c_72_41 rfl ?_
      refine y_gr (x.2.1 + 1) c_72_44 q0 (by omega) ?_
      refine y_il1 c_72_47 ?_
      refine k_36 c_72_48 rfl (wrow_cl j0) (Nat.le_of_ble_eq_true rfl) ?_
      refine s_36i j0 (by omega) (by omega) (by omega) (v0 i hi) ?_
      refine y_ret c_72_51 rfl ?_
      exact yQi hQ (by simp)
    · refine y_ts 52 c_72_14 (by omega) (by omega) (by omega) rfl rfl ?_
      refine y_al0 c_72_52 ?_
      refine y_gp c_72_53 rfl ?_
      refine y_gr (x.2.1 + 3) c_72_56 q1 (by omega) ?_
      refine y_il1 c_72_59 ?_
      refine k_36 c_72_60 rfl (wrow_cl j1) (Nat.le_of_ble_eq_true rfl) ?_
      refine s_36i j1 (by omega) (by omega) (by omega) (v1 i hi) ?_
      refine y_ret c_72_63 rfl ?_
      exact yQi hQ (by simp)
    · refine y_ts 64 c_72_14 (by omega) (by omega) (by omega) rfl rfl ?_
      refine y_al0 c_72_64 ?_
      refine y_gp c_72_65 rfl ?_
      refine y_il1 c_72_68 ?_
      refine k_27 c_72_69 rfl qc (Nat.le_of_ble_eq_true rfl) ?_
      refine s_27 hp hM hok hi ?_
      refine y_ret c_72_72 rfl ?_
      exact yQi hQ (by simp)
  · refine y_ic c_72_11 ?_
    refine y_ret c_72_12 rfl ?_
    rw [if_neg h1] at hQ; exact hQ
theorem s_73 {z w : Int} (hC : CI x M T P R L Tm sd K) (hA : AOK T P R L Tm K) (hz : wR z) (hw : wR w) (hQ : Q (some (.int (iI (aSuitor P z w)))) x M) : yG x M 73 0 [.ref 0, .int (iI z), .int (iI w)] [] Q := by
  obtain ⟨hx, hsd, hT, hM, hR, hL, hTm, hK0, hK⟩ := id hC
  obtain ⟨⟨ht56, ht256⟩, hok, hRk, ⟨hl14, hLk⟩, hTk, hKk⟩ := id hA
  obtain ⟨hp, hp33⟩ := CI_port hx
  obtain ⟨z1, z2, z3, z4, z5⟩ := aRok_len hok hRk
  have z6 : ∀ y ∈ R.2.2.2, y < 6 := fun y hy => by have := z3 y hy; have := hok.2.2.1; omega
  have hb1 := hok.1
  have hb2 := hok.2.1
  have hb3 := hok.2.2.1
  obtain ⟨q0, q1, q2, q3, q4, q5, q6, qc, j0, j1, j2, j3, j4, j5, j6, qlt⟩ := id hp
  obtain ⟨⟨n0, n1, n2, n3, n4, n5, n6⟩, v0, v1, v2, v3, v4, v5, v6⟩ := id hM
  unfold aSuitor at hQ
  refine y_al0 c_73_0 ?_
  refine y_gp c_73_1 rfl ?_
  refine y_il1 c_73_4 ?_
  refine k_25 c_73_5 rfl qc (Nat.le_of_ble_eq_true rfl) ?_
  refine s_25 hp hz ?_
  rw [n2]
  refine y_pz_ne c_73_8 (fun h1 => ?_) (fun h1 => ?_)
  · rw [if_pos h1] at hQ
    obtain ⟨i, rfl⟩ : ∃ i : Nat, z = i := ⟨z.toNat, by omega⟩
    rw [Int.toNat_natCast] at hQ
    have hi : i < P.2.2.1 := by omega
    refine y_il2 c_73_13 ?_
    by_cases hd_14 : w = 0 ∨ w = 1
    rotate_left
    · refine y_lk (off := 50) 64 c_73_14 (by omega) (by rw [Op.lookupswitch.offset_cons, if_neg (by omega), Op.lookupswitch.offset_cons, if_neg (by omega)]; rfl) rfl ?_
      refine y_bi c_73_64 (by decide) ?_
      refine y_ret c_73_66 rfl ?_
      rw [if_neg (by omega), if_neg (by omega)] at hQ; exact hQ
    rcases hd_14 with rfl | rfl
    · refine y_lk 40 c_73_14 (by omega) rfl rfl ?_
      refine y_al0 c_73_40 ?_
      refine y_gp c_73_41 rfl ?_
      refine y_gr (x.2.1 + 5) c_73_44 q2 (by omega) ?_
      refine y_il1 c_73_47 ?_
      refine k_36 c_73_48 rfl (wrow_cl j2) (Nat.le_of_ble_eq_true rfl) ?_
      refine s_36i j2 (by omega) (by omega) (by omega) (v2 i hi) ?_
      refine y_ret c_73_51 rfl ?_
      exact yQi hQ (by simp)
    · refine y_lk 52 c_73_14 (by omega) rfl rfl ?_
      refine y_al0 c_73_52 ?_
      refine y_gp c_73_53 rfl ?_
      refine y_gr (x.2.1 + 7) c_73_56 q3 (by omega) ?_
      refine y_il1 c_73_59 ?_
      refine k_36 c_73_60 rfl (wrow_cl j3) (Nat.le_of_ble_eq_true rfl) ?_
      refine s_36i j3 (by omega) (by omega) (by omega) (v3 i hi) ?_
      refine y_ret c_73_63 rfl ?_
      exact yQi hQ (by simp)
  · refine y_ic c_73_11 ?_
    refine y_ret c_73_12 rfl ?_
    rw [if_neg h1] at hQ; exact hQ
theorem s_74 {z w : Int} (hC : CI x M T P R L Tm sd K) (hA : AOK T P R L Tm K) (hz : wR z) (hw : wR w) (hQ : Q (some (.int (iI (aSaying P R z w)))) x M) : yG x M 74 0 [.ref 0, .int (iI z), .int (iI w)] [] Q := by
  obtain ⟨hx, hsd, hT, hM, hR, hL, hTm, hK0, hK⟩ := id hC
  obtain ⟨⟨ht56, ht256⟩, hok, hRk, ⟨hl14, hLk⟩, hTk, hKk⟩ := id hA
  obtain ⟨hp, hp33⟩ := CI_port hx
  obtain ⟨z1, z2, z3, z4, z5⟩ := aRok_len hok hRk
  have z6 : ∀ y ∈ R.2.2.2, y < 6 := fun y hy => by have := z3 y hy; have := hok.2.2.1; omega
  have hb1 := hok.1
  have hb2 := hok.2.1
  have hb3 := hok.2.2.1
  obtain ⟨q0, q1, q2, q3, q4, q5, q6, qc, j0, j1, j2, j3, j4, j5, j6, qlt⟩ := id hp
  obtain ⟨⟨n0, n1, n2, n3, n4, n5, n6⟩, v0, v1, v2, v3, v4, v5, v6⟩ := id hM
  unfold aSaying at hQ
  refine y_al0 c_74_0 ?_
  refine y_gp c_74_1 rfl ?_
  refine y_il1 c_74_4 ?_
  refine k_26 c_74_5 rfl qc (Nat.le_of_ble_eq_true rfl) ?_
  refine s_26 hp hz ?_
  rw [n4]
  refine y_pz_ne c_74_8 (fun h1 => ?_) (fun h1 => ?_)
  · rw [if_pos h1] at hQ
    obtain ⟨i, rfl⟩ : ∃ i : Nat, z = i := ⟨z.toNat, by omega⟩
    rw [Int.toNat_natCast] at hQ
    have hi : i < P.2.2.2 := by omega
    refine y_il2 c_74_13 ?_
    by_cases hd_14 : w = 0 ∨ w = 1 ∨ w = 2 ∨ w = 3
    rotate_left
    · refine y_td 119 c_74_14 (by omega) (by omega) rfl ?_
      refine y_bi c_74_119 (by decide) ?_
      refine y_ret c_74_121 rfl ?_
      rw [if_neg (by omega), if_neg (by omega), if_neg (by omega), if_neg (by omega)] at hQ; exact hQ
    rcases hd_14 with rfl | rfl | rfl | rfl
    · refine y_ts 44 c_74_14 (by omega) (by omega) (by omega) rfl rfl ?_
      refine y_al0 c_74_44 ?_
      refine y_gp c_74_45 rfl ?_
      refine y_gr (x.2.1 + 9) c_74_48 q4 (by omega) ?_
      refine y_il1 c_74_51 ?_
      refine k_36 c_74_52 rfl (wrow_cl j4) (Nat.le_of_ble_eq_true rfl) ?_
      refine s_36i j4 (by omega) (by omega) (by omega) (v4 i hi) ?_
      refine y_ret c_74_55 rfl ?_
      exact yQi hQ (by simp)
    · refine y_ts 56 c_74_14 (by omega) (by omega) (by omega) rfl rfl ?_
      refine y_al0 c_74_56 ?_
      refine y_gp c_74_57 rfl ?_
      refine y_gr (x.2.1 + 11) c_74_60 q5 (by omega) ?_
      refine y_il1 c_74_63 ?_
      refine k_36 c_74_64 rfl (wrow_cl j5) (Nat.le_of_ble_eq_true rfl) ?_
      refine s_36i j5 (by omega) (by omega) (by omega) (v5 i hi) ?_
      refine y_ret c_74_67 rfl ?_
      exact yQi hQ (by simp)
    · refine y_ts 68 c_74_14 (by omega) (by omega) (by omega) rfl rfl ?_
      refine y_al0 c_74_68 ?_
      refine y_gp c_74_69 rfl ?_
      refine y_gr (x.2.1 + 13) c_74_72 q6 (by omega) ?_
      refine y_il1 c_74_75 ?_
      refine k_36 c_74_76 rfl (wrow_cl j6) (Nat.le_of_ble_eq_true rfl) ?_
      refine s_36i j6 (by omega) (by omega) (by omega) (v6 i hi) ?_
      refine y_ret c_74_79 rfl ?_
      exact yQi hQ (by simp)
    · refine y_ts 80 c_74_14 (by omega) (by omega) (by omega) rfl rfl ?_
      refine y_al0 c_74_80 ?_
      refine y_gr 33 c_74_81 rfl (by omega) ?_
      refine k_44 c_74_84 rfl rfl (Nat.le_of_ble_eq_true rfl) ?_
      refine s_44 wrunS_33 ?_
      rw [hR.1]
      by_cases hrun : R.1 = -9
      · rw [if_pos hrun]
        refine y_iz_eq c_74_87 (by omega) (fun _ => ?_) (fun h => absurd rfl h)
        refine y_bi c_74_116 (by decide) ?_
        refine y_ret c_74_118 rfl ?_
        exact yQi hQ (by simp [hrun])
      rw [if_neg hrun]
      refine y_iz_eq c_74_87 (by omega) (fun h => absurd h (by omega)) (fun _ => ?_)
      refine y_al0 c_74_90 ?_
      refine y_gr 33 c_74_91 rfl (by omega) ?_
      refine y_il1 c_74_94 ?_
      refine k_47 c_74_95 rfl rfl (Nat.le_of_ble_eq_true rfl) ?_
      refine s_47 wrunS_33 hR z2 z6 (by omega) ?_
      refine y_pz_ne c_74_98 (fun h2 => ?_) (fun h2 => ?_)
      · refine y_bi c_74_116 (by decide) ?_
        refine y_ret c_74_118 rfl ?_
        exact yQi hQ (by simp [hrun, h2])
      · refine y_al0 c_74_101 ?_
        refine y_gr 33 c_74_102 rfl (by omega) ?_
        refine y_al0 c_74_105 ?_
        refine y_gp c_74_106 rfl ?_
        refine y_il1 c_74_109 ?_
        refine k_50 c_74_110 rfl rfl (Nat.le_of_ble_eq_true rfl) ?_
        refine s_50 wrunS_33 hR hp hM hok hRk hrun hi ?_
        refine y_goto c_74_113 ?_
        refine y_ret c_74_118 rfl ?_
        exact yQi hQ (by simp [hrun, h2])
  · refine y_ic c_74_11 ?_
    refine y_ret c_74_12 rfl ?_
    rw [if_neg h1] at hQ; exact hQ
theorem s_75 {z : Int} (hC : CI x M T P R L Tm sd K) (hA : AOK T P R L Tm K) (hz : wR z) (hQ : Q (some (.int (iI (aSaidAt R z)))) x M) : yG x M 75 0 [.ref 0, .int (iI z)] [] Q := by
  obtain ⟨hx, hsd, hT, hM, hR, hL, hTm, hK0, hK⟩ := id hC
  obtain ⟨⟨ht56, ht256⟩, hok, hRk, ⟨hl14, hLk⟩, hTk, hKk⟩ := id hA
  obtain ⟨hp, hp33⟩ := CI_port hx
  obtain ⟨z1, z2, z3, z4, z5⟩ := aRok_len hok hRk
  have z6 : ∀ y ∈ R.2.2.2, y < 6 := fun y hy => by have := z3 y hy; have := hok.2.2.1; omega
  have hb1 := hok.1
  have hb2 := hok.2.1
  have hb3 := hok.2.2.1
  obtain ⟨q0, q1, q2, q3, q4, q5, q6, qc, j0, j1, j2, j3, j4, j5, j6, qlt⟩ := id hp
  obtain ⟨⟨n0, n1, n2, n3, n4, n5, n6⟩, v0, v1, v2, v3, v4, v5, v6⟩ := id hM
  unfold aSaidAt at hQ
  refine y_al0 c_75_0 ?_
  refine y_gr 33 c_75_1 rfl (by omega) ?_
  refine y_gr 34 c_75_4 rfl (by omega) ?_
  refine y_il1 c_75_7 ?_
  refine k_35 c_75_8 rfl rfl (Nat.le_of_ble_eq_true rfl) ?_
  refine s_35 wrow_34 hz ?_
  rw [hR.2.2.2.1]
  refine y_pz_eq c_75_11 (fun h1 => ?_) (fun h1 => ?_)
  · rw [if_neg h1] at hQ
    refine y_ic c_75_28 ?_
    refine y_ret c_75_29 rfl ?_
    exact hQ
  · rw [if_pos h1] at hQ
    obtain ⟨i, rfl⟩ : ∃ i : Nat, z = i := ⟨z.toNat, by omega⟩
    rw [Int.toNat_natCast] at hQ
    refine y_al0 c_75_14 ?_
    refine y_gr 33 c_75_15 rfl (by omega) ?_
    refine y_gr 34 c_75_18 rfl (by omega) ?_
    refine y_il1 c_75_21 ?_
    refine k_36 c_75_22 rfl rfl (Nat.le_of_ble_eq_true rfl) ?_
    refine s_36i wrow_34 (by omega) (by rw [hR.2.2.2.1]; omega) (by omega) (hR.2.2.2.2 i (by omega)) ?_
    refine y_goto c_75_25 ?_
    refine y_ret c_75_29 rfl ?_
    exact hQ
theorem s_76 {y s g i : Int} (hC : CI x M T P R L Tm sd K) (hA : AOK T P R L Tm K) (hy : wR y) (hs : wR s) (hg : wR g) (hi : wR i) (hQ : Q (some (.int (iI (aTakes P y s g i)))) x M) : yG x M 76 0 [.ref 0, .int (iI y), .int (iI s), .int (iI g), .int (iI i)] [] Q := by
  obtain ⟨hx, hsd, hT, hM, hR, hL, hTm, hK0, hK⟩ := id hC
  obtain ⟨⟨ht56, ht256⟩, hok, hRk, ⟨hl14, hLk⟩, hTk, hKk⟩ := id hA
  obtain ⟨hp, hp33⟩ := CI_port hx
  obtain ⟨z1, z2, z3, z4, z5⟩ := aRok_len hok hRk
  have z6 : ∀ y ∈ R.2.2.2, y < 6 := fun y hy => by have := z3 y hy; have := hok.2.2.1; omega
  have hb1 := hok.1
  have hb2 := hok.2.1
  have hb3 := hok.2.2.1
  obtain ⟨q0, q1, q2, q3, q4, q5, q6, qc, j0, j1, j2, j3, j4, j5, j6, qlt⟩ := id hp
  obtain ⟨⟨n0, n1, n2, n3, n4, n5, n6⟩, v0, v1, v2, v3, v4, v5, v6⟩ := id hM
  unfold aTakes at hQ
  refine y_al0 c_76_0 ?_
  refine y_gp c_76_1 rfl ?_
  refine y_il1 c_76_4 ?_
  refine k_26 c_76_5 rfl qc (Nat.le_of_ble_eq_true rfl) ?_
  refine s_26 hp hy ?_
  rw [n4]
  refine y_pz_eq c_76_8 (fun h1 => ?_) (fun h1 => ?_)
  · refine y_ic c_76_33 ?_
    refine y_ret c_76_34 rfl ?_
    rw [if_neg (by omega)] at hQ; exact hQ
  · refine y_al0 c_76_11 ?_
    refine y_gp c_76_12 rfl ?_
    refine y_il2 c_76_15 ?_
    refine k_25 c_76_16 rfl qc (Nat.le_of_ble_eq_true rfl) ?_
    refine s_25 hp hs ?_
    rw [n2]
    refine y_pz_eq c_76_19 (fun h2 => ?_) (fun h2 => ?_)
    · refine y_ic c_76_33 ?_
      refine y_ret c_76_34 rfl ?_
      rw [if_neg (by omega)] at hQ; exact hQ
    · refine y_al0 c_76_22 ?_
      refine y_gp c_76_23 rfl ?_
      refine y_il3 c_76_26 ?_
      refine k_24 c_76_27 rfl qc (Nat.le_of_ble_eq_true rfl) ?_
      refine s_24 hp hg ?_
      rw [n0]
      refine y_pz_ne c_76_30 (fun h3 => ?_) (fun h3 => ?_)
      · rw [if_pos ⟨h1, h2, h3⟩] at hQ
        refine y_il4 c_76_35 ?_
        refine y_iz_lt c_76_37 (by omega) (fun h_37 => ?_) (fun h_37 => ?_)
        · refine y_bi c_76_47 (by decide) ?_
          refine y_ret c_76_49 rfl ?_
          rw [if_neg (by omega)] at hQ; exact hQ
        · refine y_il4 c_76_40 ?_
          refine y_bi c_76_42 (by decide) ?_
          refine y_ic_lt c_76_44 (by omega) (by omega) (fun h_44 => ?_) (fun h_44 => ?_)
          · rw [if_pos (by omega)] at hQ
            obtain ⟨y, rfl⟩ : ∃ i : Nat, y = i := ⟨y.toNat, by omega⟩
            obtain ⟨s, rfl⟩ : ∃ i : Nat, s = i := ⟨s.toNat, by omega⟩
            obtain ⟨g, rfl⟩ : ∃ i : Nat, g = i := ⟨g.toNat, by omega⟩
            obtain ⟨i, rfl⟩ : ∃ j : Nat, i = j := ⟨i.toNat, by omega⟩
            simp only [Int.toNat_natCast] at hQ
            refine y_al0 c_76_50 ?_
            refine y_gp c_76_51 rfl ?_
            refine y_il1 c_76_54 ?_
            refine y_il2 c_76_55 ?_
            refine y_il3 c_76_56 ?_
            refine y_il4 c_76_57 ?_
            refine k_28 c_76_59 rfl qc (Nat.le_of_ble_eq_true rfl) ?_
            refine s_28 hp hM hok (by omega) (by omega) (by omega) (by omega) ?_
            refine y_ret c_76_62 rfl ?_
            exact hQ
          · refine y_bi c_76_47 (by decide) ?_
            refine y_ret c_76_49 rfl ?_
            rw [if_neg (by omega)] at hQ; exact hQ
      · refine y_ic c_76_33 ?_
        refine y_ret c_76_34 rfl ?_
        rw [if_neg (by omega)] at hQ; exact hQ
end S10
