/-! ===== the model: acts, slots ===== -/
theorem MI_page {x : wC} {M M' : wM} {T : List Nat} {P : aP} {R R' : aR} {L : aA} {Tm : aT} {sd : Int64} {K : Nat → Option aR} (h : MI x M T P R L Tm sd K) (hR : wpage M' 114 R') (hf : ∀ b, b ≠ 114 → M' b = M b) : MI x M' T P R' L Tm sd K :=
  MI_acts h hR (by rw [hf 106 (by omega)]; exact h.2.2.2.2.1.1) (fun k hk => wbk_of (h.2.2.2.2.1.2 k hk) (hf 116 (by omega))) ⟨fun b h1 h2 h3 h4 => hf b h2, fun j hj => by rw [hf 106 (by omega)]⟩
theorem mport_pg {M M' : wM} {P : aP} {a : Nat} (ha : 111 ≤ a) (h : mport M P) (hf : ∀ b, b ≠ a → M' b = M b) : mport M' P :=
  mport_of h (by rw [hf 106 (by omega)]) (by rw [hf 106 (by omega)]) (by rw [hf 106 (by omega)]) (hf 108 (by omega)) (hf 109 (by omega)) (hf 110 (by omega))
def aPof (P : aP) (R : aR) : Int := if R.1 = -9 then -9 else if aPz P R ≤ R.2.2.1 then aPz P R else -9
section S26
variable {x : wC} {M : wM} {Q : Option Value → wC → wM → Prop} {T : List Nat} {P : aP} {R : aR} {L : aA} {Tm : aT} {sd : Int64} {K : Nat → Option aR}
variable {R2 : aR} {a : Nat}
theorem s_151 {y : Nat} (hw : war a = (0, 10)) (ha : 111 ≤ a) (hM : mport M P) (hok : aPok P) (hR : wpage M a R2) (hRk : aRok P R2) (hy : y < P.2.2.2) (hQ0 : ¬ aCan P R2 y → Q (some (.int (iI 0))) x M) (hQ1 : aCan P R2 y → Q (some (.int (iI 1))) x M) : yG x M 151 0 [.ref 106, .ref a, .int (iI (y : Int))] [] Q := by
  obtain ⟨a0, a1, a2, a3, a4⟩ := id hR
  obtain ⟨z1, z2, z3, z4, z5⟩ := aRok_len hok hRk
  have z6 : ∀ y ∈ R2.2.2.2, y < 6 := fun y hy => by have := z3 y hy; have := hok.2.2.1; omega
  have hb3 := hok.2.2.1
  refine y_al1 c_151_0 ?_
  refine y_ic c_151_1 ?_
  refine y_ald (u := R2.1) c_151_2 hw (by omega) (by omega) (by omega) a0 (fun r_2 => ?_)
  refine y_bi c_151_3 (by decide) ?_
  refine y_ic_eq c_151_5 (by omega) (by omega) (fun h1 => ?_) (fun h1 => ?_)
  · have hc : ¬ aCan P R2 y := fun h => h.1 h1
    refine y_ic c_151_35 ?_
    refine y_zret c_151_36 rfl (by omega) ?_
    first
      | exact hQ0 hc
      | exact hQ1 hc
  · have htk := aTake_le hok hRk hy h1
    refine y_al1 c_151_8 ?_
    refine k_138 c_151_9 rfl (Nat.le_of_ble_eq_true rfl) ?_
    refine s_138 hw hR z2 z6 ?_
    refine y_il2 c_151_12 ?_
    refine k_118 c_151_13 rfl (Nat.le_of_ble_eq_true rfl) ?_
    have := aBits_lt z6
    refine s_118 (by omega) (by omega) ?_
    refine y_pz_ne c_151_16 (fun h2 => ?_) (fun h2 => ?_)
    · have hc : ¬ aCan P R2 y := fun h => h.2.1 ((aBits_mem _ _).mp h2)
      refine y_ic c_151_35 ?_
      refine y_zret c_151_36 rfl (by omega) ?_
      first
        | exact hQ0 hc
        | exact hQ1 hc
    · refine y_al0 c_151_19 ?_
      refine y_al1 c_151_20 ?_
      refine y_il2 c_151_21 ?_
      refine k_144 c_151_22 rfl rfl (Nat.le_of_ble_eq_true rfl) ?_
      refine s_144 hw hM hok hR hRk h1 hy ?_
      refine y_al1 c_151_25 ?_
      refine y_ic c_151_26 ?_
      refine y_ald (u := (R2.2.2.1 : Int)) c_151_27 hw (by omega) (by omega) (by omega) a2 (fun r_27 => ?_)
      refine y_ic_gt c_151_28 (by omega) (by omega) (fun h3 => ?_) (fun h3 => ?_)
      · have hc : ¬ aCan P R2 y := fun h => by have := h.2.2; omega
        refine y_ic c_151_35 ?_
        refine y_zret c_151_36 rfl (by omega) ?_
        first
          | exact hQ0 hc
          | exact hQ1 hc
      · have hc : aCan P R2 y := ⟨h1, fun h => h2 ((aBits_mem _ _).mpr h), by omega⟩
        refine y_ic c_151_31 ?_
        refine y_goto c_151_32 ?_
        refine y_zret c_151_36 rfl (by omega) ?_
        first
          | exact hQ0 hc
          | exact hQ1 hc
theorem s_152 {y : Nat} (hw : war a = (0, 10)) (ha : 111 ≤ a) (hM : mport M P) (hok : aPok P) (hR : wpage M a R2) (hRk : aRok P R2) (hy : y < P.2.2.2) (hcan : aCan P R2 y) (hQ : ∀ M', wpage M' a (aSay P R2 y) → (∀ b, b ≠ a → M' b = M b) → Q none x M') : yG x M 152 0 [.ref 106, .ref a, .int (iI (y : Int))] [] Q := by
  obtain ⟨a0, a1, a2, a3, a4⟩ := id hR
  obtain ⟨z1, z2, z3, z4, z5⟩ := aRok_len hok hRk
  have z6 : ∀ y ∈ R2.2.2.2, y < 6 := fun y hy => by have := z3 y hy; have := hok.2.2.1; omega
  have htk := aTake_le hok hRk hy hcan.1
  have hle := hcan.2.2
  have hl6 := aLen_lt hok hRk hy hcan.2.1
  have hb3 := hok.2.2.1
  refine y_al1 c_152_0 ?_
  refine y_ic c_152_1 ?_
  refine y_dup2 c_152_2 rfl rfl ?_
  refine y_ald (u := (R2.2.2.1 : Int)) c_152_3 hw (by omega) (by omega) (by omega) a2 (fun r_3 => ?_)
  refine y_al0 c_152_4 ?_
  refine y_al1 c_152_5 ?_
  refine y_il2 c_152_6 ?_
  refine k_144 c_152_7 rfl rfl (Nat.le_of_ble_eq_true rfl) ?_
  refine s_144 hw hM hok hR hRk hcan.1 hy ?_
  refine y_sub c_152_10 ?_
  refine y_ast c_152_11 hw (by omega) (by omega) (by omega) (by omega) ?_
  refine y_al1 c_152_12 ?_
  refine y_ic c_152_13 ?_
  refine y_al1 c_152_14 ?_
  refine y_ic c_152_15 ?_
  refine y_ald (u := (R2.2.2.2.length : Int)) c_152_16 hw (by omega) (by omega) (by omega) (by rw [wup_k _ _ (by decide)]; exact a3) (fun r_16 => ?_)
  refine y_add c_152_17 ?_
  refine y_il2 c_152_18 ?_
  refine y_ast c_152_19 hw (by omega) (by omega) (by omega) (by omega) ?_
  refine y_al1 c_152_20 ?_
  refine y_ic c_152_21 ?_
  refine y_dup2 c_152_22 rfl rfl ?_
  refine y_ald (u := (R2.2.2.2.length : Int)) c_152_23 hw (by omega) (by omega) (by omega) (by rw [wup_k _ _ (by omega), wup_k _ _ (by decide)]; exact a3) (fun r_23 => ?_)
  refine y_ic c_152_24 ?_
  refine y_add c_152_25 ?_
  refine y_ast c_152_26 hw (by omega) (by omega) (by omega) (by omega) ?_
  refine y_vret c_152_27 rfl ?_
  refine hQ _ ⟨?_, ?_, ?_, ?_, fun i hi => ?_⟩ (fun b hb => by rw [wup_f _ _ _ hb, wup_f _ _ _ hb, wup_f _ _ _ hb])
  · rw [wup_k _ _ (by omega), wup_k _ _ (by omega), wup_k _ _ (by omega)]; exact a0
  · rw [wup_k _ _ (by omega), wup_k _ _ (by omega), wup_k _ _ (by omega)]; exact a1
  · rw [wup_k _ _ (by omega), wup_k _ _ (by omega), wup_s]; show _ = ((R2.2.2.1 - aTake P R2 y : Nat) : Int); omega
  · rw [wup_s]; simp [aSay]
  · simp only [aSay, List.length_append, List.length_singleton] at hi
    simp only [aSay]
    rw [wup_k _ _ (by omega), getD_app]
    by_cases hik : i = R2.2.2.2.length
    · subst hik; rw [wup_s, if_neg (by omega), if_pos rfl]
    · rw [wup_k _ _ (by omega), wup_k _ _ (by omega), if_pos (by omega)]; exact a4 i (by omega)
theorem s_154 (hw : war a = (0, 10)) (ha : 111 ≤ a) (hM : mport M P) (hok : aPok P) (hR : wpage M a R2) (hRk : aRok P R2) (hQ : Q (some (.int (iI (aPof P R2)))) x M) : yG x M 154 0 [.ref 106, .ref a, zU] [] Q := by
  obtain ⟨a0, a1, a2, a3, a4⟩ := id hR
  obtain ⟨z1, z2, z3, z4, z5⟩ := aRok_len hok hRk
  have z6 : ∀ y ∈ R2.2.2.2, y < 6 := fun y hy => by have := z3 y hy; have := hok.2.2.1; omega
  unfold aPof at hQ
  refine y_al1 c_154_0 ?_
  refine y_ic c_154_1 ?_
  refine y_ald (u := R2.1) c_154_2 hw (by omega) (by omega) (by omega) a0 (fun r_2 => ?_)
  refine y_bi c_154_3 (by decide) ?_
  refine y_ic_ne c_154_5 (by omega) (by omega) (fun h1 => ?_) (fun h1 => ?_)
  · rw [if_neg h1] at hQ
    obtain ⟨g, s, eg, es, hg, hs⟩ := aRok_run hRk h1
    have vg := hM.2.2.2.1 g hg
    have hg4 := hok.1
    have hpz : aPz P R2 = if P.1 1 g = 3 then 0 else 1 := by unfold aPz; rw [eg, Int.toNat_natCast]
    have hk3 := (hok.2.2.2.1 g hg).2.2
    refine y_al0 c_154_11 ?_
    refine y_gr 108 c_154_12 rfl (by omega) ?_
    refine y_ic c_154_15 ?_
    refine y_al1 c_154_16 ?_
    refine y_ic c_154_17 ?_
    refine y_ald (u := (g : Int)) c_154_18 hw (by omega) (by omega) (by omega) (a0.trans eg) (fun r_18 => ?_)
    refine y_mul c_154_19 ?_
    refine y_ic c_154_20 ?_
    refine y_add c_154_21 ?_
    refine y_ald (n := 8) (u := (P.1 1 g : Int)) c_154_22 rfl (by omega) (by omega) (by omega) vg.2 (fun r_22 => ?_)
    refine y_ic c_154_23 ?_
    refine y_ic_ne c_154_24 (by omega) (by omega) (fun h2 => ?_) (fun h2 => ?_)
    · rw [if_neg (by omega)] at hpz
      refine y_ic c_154_31 ?_
      refine y_is2 c_154_32 rfl ?_
      refine y_il2 c_154_33 ?_
      refine y_al1 c_154_34 ?_
      refine y_ic c_154_35 ?_
      refine y_ald (u := (R2.2.2.1 : Int)) c_154_36 hw (by omega) (by omega) (by omega) a2 (fun r_36 => ?_)
      refine y_ic_le c_154_37 (by omega) (by omega) (fun h3 => ?_) (fun h3 => ?_)
      · refine y_il2 c_154_45 ?_
        refine y_ret c_154_46 rfl ?_
        first
          | (rw [if_pos (by omega)] at hQ; exact yQi hQ (by omega))
          | (rw [if_neg (by omega)] at hQ; exact hQ)
      · refine y_bi c_154_40 (by decide) ?_
        refine y_goto c_154_42 ?_
        refine y_ret c_154_46 rfl ?_
        first
          | (rw [if_pos (by omega)] at hQ; exact yQi hQ (by omega))
          | (rw [if_neg (by omega)] at hQ; exact hQ)
    · rw [if_pos (by omega)] at hpz
      refine y_ic c_154_27 ?_
      refine y_goto c_154_28 ?_
      refine y_is2 c_154_32 rfl ?_
      refine y_il2 c_154_33 ?_
      refine y_al1 c_154_34 ?_
      refine y_ic c_154_35 ?_
      refine y_ald (u := (R2.2.2.1 : Int)) c_154_36 hw (by omega) (by omega) (by omega) a2 (fun r_36 => ?_)
      refine y_ic_le c_154_37 (by omega) (by omega) (fun h3 => ?_) (fun h3 => ?_)
      · refine y_il2 c_154_45 ?_
        refine y_ret c_154_46 rfl ?_
        first
          | (rw [if_pos (by omega)] at hQ; exact yQi hQ (by omega))
          | (rw [if_neg (by omega)] at hQ; exact hQ)
      · refine y_bi c_154_40 (by decide) ?_
        refine y_goto c_154_42 ?_
        refine y_ret c_154_46 rfl ?_
        first
          | (rw [if_pos (by omega)] at hQ; exact yQi hQ (by omega))
          | (rw [if_neg (by omega)] at hQ; exact hQ)
  · rw [if_pos h1] at hQ
    refine y_bi c_154_8 (by decide) ?_
    refine y_ret c_154_10 rfl ?_
    exact hQ
theorem s_156 (hw : war a = (0, 10)) (hR : wpage M a R2) (hQ0 : ¬ (R2.1 ≠ -9 ∧ 1 ≤ R2.2.2.1) → Q (some (.int (iI 0))) x M) (hQ1 : R2.1 ≠ -9 ∧ 1 ≤ R2.2.2.1 → Q (some (.int (iI 1))) x M) : yG x M 156 0 [.ref a] [] Q := by
  obtain ⟨a0, a1, a2, a3, a4⟩ := id hR
  refine y_al0 c_156_0 ?_
  refine y_ic c_156_1 ?_
  refine y_ald (u := R2.1) c_156_2 hw (by omega) (by omega) (by omega) a0 (fun r_2 => ?_)
  refine y_bi c_156_3 (by decide) ?_
  refine y_ic_eq c_156_5 (by omega) (by omega) (fun h1 => ?_) (fun h1 => ?_)
  · refine y_ic c_156_18 ?_
    refine y_zret c_156_19 rfl (by omega) ?_
    first
      | exact hQ0 (by omega)
      | exact hQ1 (by omega)
  · refine y_al0 c_156_8 ?_
    refine y_ic c_156_9 ?_
    refine y_ald (u := (R2.2.2.1 : Int)) c_156_10 hw (by omega) (by omega) (by omega) a2 (fun r_10 => ?_)
    refine y_iz_le c_156_11 (by omega) (fun h2 => ?_) (fun h2 => ?_)
    · refine y_ic c_156_18 ?_
      refine y_zret c_156_19 rfl (by omega) ?_
      first
        | exact hQ0 (by omega)
        | exact hQ1 (by omega)
    · refine y_ic c_156_14 ?_
      refine y_goto c_156_15 ?_
      refine y_zret c_156_19 rfl (by omega) ?_
      first
        | exact hQ0 (by omega)
        | exact hQ1 (by omega)
theorem s_157 {n : Nat} (hw : war a = (0, 10)) (hR : wpage M a R2) (hl : R2.2.2.1 ≤ 135) (hn : n ≤ 9) (hQ : ∀ M', wpage M' a (R2.1, R2.2.1, R2.2.2.1 - n, R2.2.2.2) → (∀ b, b ≠ a → M' b = M b) → Q none x M') : yG x M 157 0 [.ref a, .int (iI (n : Int))] [] Q := by
  obtain ⟨a0, a1, a2, a3, a4⟩ := id hR
  refine y_al0 c_157_0 ?_
  refine y_ic c_157_1 ?_
  refine y_al0 c_157_2 ?_
  refine y_ic c_157_3 ?_
  refine y_ald (u := (R2.2.2.1 : Int)) c_157_4 hw (by omega) (by omega) (by omega) a2 (fun r_4 => ?_)
  refine y_il1 c_157_5 ?_
  refine y_ic_ge c_157_6 (by omega) (by omega) (fun h1 => ?_) (fun h1 => ?_)
  · refine y_al0 c_157_13 ?_
    refine y_ic c_157_14 ?_
    refine y_ald (u := (R2.2.2.1 : Int)) c_157_15 hw (by omega) (by omega) (by omega) a2 (fun r_15 => ?_)
    refine y_il1 c_157_16 ?_
    refine y_sub c_157_17 ?_
    refine y_ast c_157_18 hw (by omega) (by omega) (by omega) (by omega) ?_
    refine y_vret c_157_19 rfl ?_
    refine hQ _ ⟨by rw [wup_k _ _ (by decide)]; exact a0, by rw [wup_k _ _ (by decide)]; exact a1, ?_, by rw [wup_k _ _ (by decide)]; exact a3, fun i hi => by rw [wup_k _ _ (by omega)]; exact a4 i hi⟩ (fun b hb => wup_f _ _ _ hb)
    rw [wup_s]; show _ = ((R2.2.2.1 - n : Nat) : Int); omega
  · refine y_ic c_157_9 ?_
    refine y_goto c_157_10 ?_
    refine y_ast c_157_18 hw (by omega) (by omega) (by omega) (by omega) ?_
    refine y_vret c_157_19 rfl ?_
    refine hQ _ ⟨by rw [wup_k _ _ (by decide)]; exact a0, by rw [wup_k _ _ (by decide)]; exact a1, ?_, by rw [wup_k _ _ (by decide)]; exact a3, fun i hi => by rw [wup_k _ _ (by omega)]; exact a4 i hi⟩ (fun b hb => wup_f _ _ _ hb)
    rw [wup_s]; show _ = ((R2.2.2.1 - n : Nat) : Int); omega
theorem s_150 {z w : Int} (hC : MI x M T P R L Tm sd K) (hA : AOK T P R L Tm K) (hz : wR z) (hw : wR w) (hQ : ∀ M', MI x M' T P (aTurn P R L z w).2.1 (aTurn P R L z w).2.2 Tm sd K → (∀ b, b < 106 → M' b = M b) → Q (some (.int (iI (aTurn P R L z w).1))) x M') : yG x M 150 0 [.ref 106, .int (iI z), .int (iI w)] [] Q := by
  obtain ⟨⟨ht56, ht256⟩, hok, hRk, ⟨hl14, hLk⟩, hTk, hKk⟩ := id hA
  obtain ⟨z1, z2, z3, z4, z5⟩ := aRok_len hok hRk
  have z6 : ∀ y ∈ R.2.2.2, y < 6 := fun y hy => by have := z3 y hy; have := hok.2.2.1; omega
  have hb1 := hok.1
  have hb2 := hok.2.1
  have hb3 := hok.2.2.1
  unfold aTurn at hQ
  refine y_al0 c_150_0 ?_
  refine y_ic c_150_1 ?_
  refine y_pi (j := 0) c_150_2 rfl rfl rfl (by decide) ?_
  have hC0 := MI_thr hC
  have hF0 : ∀ b, b < 106 → (wup M 106 0 0) b = M b := fun b hb => wup_f _ _ _ (by omega)
  generalize (wup M 106 0 0) = M0 at hC0 hF0 ⊢
  obtain ⟨hsd, hT, hM, hR, hL, hTm, hK⟩ := id hC0
  obtain ⟨m4, m6, m8, v1, v2, v3⟩ := id hM
  obtain ⟨a0, a1, a2, a3, a4⟩ := id hR
  refine y_al0 c_150_5 ?_
  refine y_il1 c_150_6 ?_
  refine k_121 c_150_7 rfl rfl (Nat.le_of_ble_eq_true rfl) ?_
  refine s_121 hM hok hz ?_
  refine y_pz_ne c_150_10 (fun h1 => ?_) (fun h1 => ?_)
  · refine y_ic c_150_21 ?_
    refine y_ret c_150_22 rfl ?_
    rw [if_neg (by omega)] at hQ; exact hQ _ hC0 hF0
  · refine y_al0 c_150_13 ?_
    refine y_il2 c_150_14 ?_
    refine k_122 c_150_15 rfl rfl (Nat.le_of_ble_eq_true rfl) ?_
    refine s_122 hM hok hw ?_
    refine y_pz_eq c_150_18 (fun h2 => ?_) (fun h2 => ?_)
    · rw [if_pos ⟨by omega, by omega⟩] at hQ
      obtain ⟨g, rfl⟩ : ∃ i : Nat, z = i := ⟨z.toNat, by omega⟩
      obtain ⟨s, rfl⟩ : ∃ i : Nat, w = i := ⟨w.toNat, by omega⟩
      rw [Int.toNat_natCast] at hQ
      refine y_al0 c_150_23 ?_
      refine k_148 c_150_24 rfl rfl (Nat.le_of_ble_eq_true rfl) ?_
      refine s_148 hC0 hA (fun M1 hC1 hF1 hp1 hq1 => ?_)
      have hR1 := hC1.2.2.2.1
      have hM1 := hC1.2.2.1
      refine y_al0 c_150_27 ?_
      refine y_al0 c_150_28 ?_
      refine y_gr 114 c_150_29 rfl (by omega) ?_
      refine y_il1 c_150_32 ?_
      refine y_il2 c_150_33 ?_
      refine k_149 c_150_34 rfl rfl (Nat.le_of_ble_eq_true rfl) ?_
      refine s_149 rfl (by decide) hM1 hok (by omega) (by omega) (fun M2 hR2 hf2 => ?_)
      refine y_al0 c_150_37 ?_
      refine y_gr 114 c_150_38 rfl (by omega) ?_
      refine y_ic c_150_41 ?_
      refine y_ald (n := 10) (u := (aGr P g : Int)) c_150_42 rfl (by omega) (by omega) (by omega) hR2.2.2.1 (fun r_42 => ?_)
      refine y_ret c_150_43 rfl ?_
      exact hQ _ (MI_page hC1 hR2 hf2) (fun b hb => by rw [hf2 b (by omega), hF1 b hb, hF0 b hb])
    · refine y_ic c_150_21 ?_
      refine y_ret c_150_22 rfl ?_
      rw [if_neg (by omega)] at hQ; exact hQ _ hC0 hF0
theorem s_153 {z : Int} (hC : MI x M T P R L Tm sd K) (hA : AOK T P R L Tm K) (hz : wR z) (hQ : ∀ M', MI x M' T P (aSayA P R L z).2.1 (aSayA P R L z).2.2 Tm sd K → (∀ b, b < 106 → M' b = M b) → Q (some (.int (iI (aSayA P R L z).1))) x M') : yG x M 153 0 [.ref 106, .int (iI z)] [] Q := by
  obtain ⟨⟨ht56, ht256⟩, hok, hRk, ⟨hl14, hLk⟩, hTk, hKk⟩ := id hA
  obtain ⟨z1, z2, z3, z4, z5⟩ := aRok_len hok hRk
  have z6 : ∀ y ∈ R.2.2.2, y < 6 := fun y hy => by have := z3 y hy; have := hok.2.2.1; omega
  have hb1 := hok.1
  have hb2 := hok.2.1
  have hb3 := hok.2.2.1
  unfold aSayA at hQ
  refine y_al0 c_153_0 ?_
  refine y_ic c_153_1 ?_
  refine y_pi (j := 0) c_153_2 rfl rfl rfl (by decide) ?_
  have hC0 := MI_thr hC
  have hF0 : ∀ b, b < 106 → (wup M 106 0 0) b = M b := fun b hb => wup_f _ _ _ (by omega)
  generalize (wup M 106 0 0) = M0 at hC0 hF0 ⊢
  obtain ⟨hsd, hT, hM, hR, hL, hTm, hK⟩ := id hC0
  obtain ⟨m4, m6, m8, v1, v2, v3⟩ := id hM
  obtain ⟨a0, a1, a2, a3, a4⟩ := id hR
  refine y_al0 c_153_5 ?_
  refine y_il1 c_153_6 ?_
  refine k_123 c_153_7 rfl rfl (Nat.le_of_ble_eq_true rfl) ?_
  refine s_123 hM hok hz ?_
  refine y_pz_eq c_153_10 (fun h1 => ?_) (fun h1 => ?_)
  · have h1 : 0 ≤ z ∧ z < P.2.2.2 := by omega
    rw [if_pos h1] at hQ
    obtain ⟨y, rfl⟩ : ∃ i : Nat, z = i := ⟨z.toNat, by omega⟩
    have hy : y < P.2.2.2 := by omega
    refine y_al0 c_153_15 ?_
    refine y_al0 c_153_16 ?_
    refine y_gr 114 c_153_17 rfl (by omega) ?_
    refine y_il1 c_153_20 ?_
    refine k_151 c_153_21 rfl rfl (Nat.le_of_ble_eq_true rfl) ?_
    refine s_151 rfl (by decide) hM hok hR hRk hy (fun hno => ?_) (fun hcan => ?_)
    · have e : aSpk P R (y : Int) = none := by unfold aSpk; exact if_neg (fun h => hno h.2)
      rw [e] at hQ
      refine y_iz_ne c_153_24 (by decide) (fun h => absurd rfl h) (fun _ => ?_)
      refine y_bi c_153_27 (by decide) ?_
      refine y_ret c_153_29 rfl ?_
      exact hQ _ hC0 hF0
    · have e : aSpk P R (y : Int) = some (aSay P R y) := by unfold aSpk; exact if_pos ⟨h1, hcan⟩
      rw [e] at hQ
      refine y_iz_ne c_153_24 (by decide) (fun _ => ?_) (fun h => absurd h (by decide))
      refine y_al0 c_153_30 ?_
      refine k_148 c_153_31 rfl rfl (Nat.le_of_ble_eq_true rfl) ?_
      refine s_148 hC0 hA (fun M1 hC1 hF1 hp1 hq1 => ?_)
      have hR1 := hC1.2.2.2.1
      have hM1 := hC1.2.2.1
      refine y_al0 c_153_34 ?_
      refine y_al0 c_153_35 ?_
      refine y_gr 114 c_153_36 rfl (by omega) ?_
      refine y_il1 c_153_39 ?_
      refine k_152 c_153_40 rfl rfl (Nat.le_of_ble_eq_true rfl) ?_
      refine s_152 rfl (by decide) hM1 hok hR1 hRk hy hcan (fun M2 hR2 hf2 => ?_)
      refine y_al0 c_153_43 ?_
      refine y_gr 114 c_153_44 rfl (by omega) ?_
      refine y_ic c_153_47 ?_
      refine y_ald (n := 10) (u := ((aSay P R y).2.2.1 : Int)) c_153_48 rfl (by omega) (by omega) (by omega) hR2.2.2.1 (fun r_48 => ?_)
      refine y_ret c_153_49 rfl ?_
      exact hQ _ (MI_page hC1 hR2 hf2) (fun b hb => by rw [hf2 b (by omega), hF1 b hb, hF0 b hb])
  · refine y_ic c_153_13 ?_
    refine y_ret c_153_14 rfl ?_
    rw [if_neg h1] at hQ; exact hQ _ hC0 hF0
theorem s_155 (hC : MI x M T P R L Tm sd K) (hA : AOK T P R L Tm K) (hQ : ∀ M', MI x M' T P (aPauseA P R L).2.1 (aPauseA P R L).2.2 Tm sd K → (∀ b, b < 106 → M' b = M b) → Q (some (.int (iI (aPauseA P R L).1))) x M') : yG x M 155 0 [.ref 106, zU] [] Q := by
  obtain ⟨⟨ht56, ht256⟩, hok, hRk, ⟨hl14, hLk⟩, hTk, hKk⟩ := id hA
  obtain ⟨z1, z2, z3, z4, z5⟩ := aRok_len hok hRk
  have z6 : ∀ y ∈ R.2.2.2, y < 6 := fun y hy => by have := z3 y hy; have := hok.2.2.1; omega
  have hb1 := hok.1
  have hb2 := hok.2.1
  have hb3 := hok.2.2.1
  unfold aPauseA at hQ
  have hpz : aPz P R ≤ 1 := by unfold aPz; split <;> omega
  refine y_al0 c_155_0 ?_
  refine y_ic c_155_1 ?_
  refine y_pi (j := 0) c_155_2 rfl rfl rfl (by decide) ?_
  have hC0 := MI_thr hC
  have hF0 : ∀ b, b < 106 → (wup M 106 0 0) b = M b := fun b hb => wup_f _ _ _ (by omega)
  generalize (wup M 106 0 0) = M0 at hC0 hF0 ⊢
  obtain ⟨hsd, hT, hM, hR, hL, hTm, hK⟩ := id hC0
  obtain ⟨m4, m6, m8, v1, v2, v3⟩ := id hM
  obtain ⟨a0, a1, a2, a3, a4⟩ := id hR
  refine y_al0 c_155_5 ?_
  refine y_al0 c_155_6 ?_
  refine y_gr 114 c_155_7 rfl (by omega) ?_
  refine k_154 c_155_10 rfl rfl (Nat.le_of_ble_eq_true rfl) ?_
  refine s_154 rfl (by decide) hM hok hR hRk ?_
  by_cases hno : R.1 ≠ -9 ∧ aPz P R ≤ R.2.2.1
  rotate_left
  · have e : aRst P R = none := by unfold aRst; exact if_neg hno
    rw [e] at hQ
    rw [show aPof P R = -9 by unfold aPof; split <;> (try split) <;> omega]
    refine y_is1 c_155_13 rfl ?_
    refine y_il1 c_155_14 ?_
    refine y_bi c_155_15 (by decide) ?_
    refine y_ic_ne c_155_17 (by omega) (by omega) (fun h_17 => absurd h_17 (by decide)) (fun h_17 => ?_)
    refine y_bi c_155_20 (by decide) ?_
    refine y_ret c_155_22 rfl ?_
    exact hQ _ hC0 hF0
  have e : aRst P R = some (R.1, R.2.1, R.2.2.1 - aPz P R, R.2.2.2) := by unfold aRst; exact if_pos hno
  rw [e] at hQ
  rw [show aPof P R = (aPz P R : Int) by unfold aPof; rw [if_neg hno.1, if_pos hno.2]]
  refine y_is1 c_155_13 rfl ?_
  refine y_il1 c_155_14 ?_
  refine y_bi c_155_15 (by decide) ?_
  refine y_ic_ne c_155_17 (by omega) (by omega) (fun h_17 => ?_) (fun h_17 => absurd h_17 (by omega))
  refine y_al0 c_155_23 ?_
  refine k_148 c_155_24 rfl rfl (Nat.le_of_ble_eq_true rfl) ?_
  refine s_148 hC0 hA (fun M1 hC1 hF1 hp1 hq1 => ?_)
  have hR1 := hC1.2.2.2.1
  have hM1 := hC1.2.2.1
  refine y_al0 c_155_27 ?_
  refine y_gr 114 c_155_28 rfl (by omega) ?_
  refine y_ic c_155_31 ?_
  refine y_dup2 c_155_32 rfl rfl ?_
  refine y_ald (n := 10) (u := (R.2.2.1 : Int)) c_155_33 rfl (by omega) (by omega) (by omega) hR1.2.2.1 (fun r_33 => ?_)
  refine y_il1 c_155_34 ?_
  refine y_sub c_155_35 ?_
  refine y_ast (n := 10) c_155_36 rfl (by omega) (by omega) (by omega) (by omega) ?_
  obtain ⟨M2, hM2⟩ : ∃ M2 : wM, M2 = wup M1 114 2 ((R.2.2.1 : Int) - (aPz P R : Int)) := ⟨_, rfl⟩
  rw [← hM2]
  have hf2 : ∀ b, b ≠ 114 → M2 b = M1 b := fun b hb => by rw [hM2, wup_f _ _ _ hb]
  have hR2 : wpage M2 114 (R.1, R.2.1, R.2.2.1 - aPz P R, R.2.2.2) := by
    obtain ⟨b0, b1, b2, b3, b4⟩ := hR1
    refine ⟨by rw [hM2, wup_k _ _ (by decide)]; exact b0, by rw [hM2, wup_k _ _ (by decide)]; exact b1, ?_, by rw [hM2, wup_k _ _ (by decide)]; exact b3, fun i hi => by rw [hM2, wup_k _ _ (by omega)]; exact b4 i hi⟩
    rw [hM2, wup_s]; show _ = ((R.2.2.1 - aPz P R : Nat) : Int); omega
  refine y_al0 c_155_37 ?_
  refine y_gr 114 c_155_38 rfl (by omega) ?_
  refine y_ic c_155_41 ?_
  refine y_ald (n := 10) (u := ((R.2.2.1 - aPz P R : Nat) : Int)) c_155_42 rfl (by omega) (by omega) (by omega) hR2.2.2.1 (fun r_42 => ?_)
  refine y_ret c_155_43 rfl ?_
  exact hQ _ (MI_page hC1 hR2 hf2) (fun b hb => by rw [hf2 b (by omega), hF1 b hb, hF0 b hb])
theorem s_158 {z : Int} (hC : MI x M T P R L Tm sd K) (hA : AOK T P R L Tm K) (hz : wR z) (hQ : ∀ M', MI x M' T P (aDrawA R L z).2.1 (aDrawA R L z).2.2 Tm sd K → (∀ b, b < 106 → M' b = M b) → Q (some (.int (iI (aDrawA R L z).1))) x M') : yG x M 158 0 [.ref 106, .int (iI z)] [] Q := by
  obtain ⟨⟨ht56, ht256⟩, hok, hRk, ⟨hl14, hLk⟩, hTk, hKk⟩ := id hA
  obtain ⟨z1, z2, z3, z4, z5⟩ := aRok_len hok hRk
  have z6 : ∀ y ∈ R.2.2.2, y < 6 := fun y hy => by have := z3 y hy; have := hok.2.2.1; omega
  have hb1 := hok.1
  have hb2 := hok.2.1
  have hb3 := hok.2.2.1
  unfold aDrawA at hQ
  refine y_al0 c_158_0 ?_
  refine y_ic c_158_1 ?_
  refine y_pi (j := 0) c_158_2 rfl rfl rfl (by decide) ?_
  have hC0 := MI_thr hC
  have hF0 : ∀ b, b < 106 → (wup M 106 0 0) b = M b := fun b hb => wup_f _ _ _ (by omega)
  generalize (wup M 106 0 0) = M0 at hC0 hF0 ⊢
  obtain ⟨hsd, hT, hM, hR, hL, hTm, hK⟩ := id hC0
  obtain ⟨m4, m6, m8, v1, v2, v3⟩ := id hM
  obtain ⟨a0, a1, a2, a3, a4⟩ := id hR
  refine y_il1 c_158_5 ?_
  refine y_i2l c_158_6 (by omega) ?_
  refine y_lc (z := 1) c_158_7 rfl ?_
  refine y_ldc2 c_158_8 ?_
  refine k_117 c_158_11 rfl (Nat.le_of_ble_eq_true rfl) ?_
  refine s_117 hz (by decide) (by decide) ?_
  refine y_pz_ne c_158_14 (fun h1 => ?_) (fun h1 => ?_)
  · rw [if_pos (by omega)] at hQ
    obtain ⟨n, rfl⟩ : ∃ i : Nat, z = i := ⟨z.toNat, by omega⟩
    rw [Int.toNat_natCast] at hQ
    refine y_al0 c_158_20 ?_
    refine y_gr 114 c_158_21 rfl (by omega) ?_
    refine k_156 c_158_24 rfl (Nat.le_of_ble_eq_true rfl) ?_
    refine s_156 rfl hR (fun hno => ?_) (fun hyes => ?_)
    · have e : aLos R n = none := by unfold aLos; exact if_neg hno
      rw [e] at hQ
      refine y_iz_ne c_158_27 (by decide) (fun h => absurd rfl h) (fun _ => ?_)
      refine y_bi c_158_30 (by decide) ?_
      refine y_ret c_158_32 rfl ?_
      exact hQ _ hC0 hF0
    · have e : aLos R n = some (R.1, R.2.1, R.2.2.1 - n, R.2.2.2) := by unfold aLos; exact if_pos hyes
      rw [e] at hQ
      refine y_iz_ne c_158_27 (by decide) (fun _ => ?_) (fun h => absurd h (by decide))
      refine y_al0 c_158_33 ?_
      refine k_148 c_158_34 rfl rfl (Nat.le_of_ble_eq_true rfl) ?_
      refine s_148 hC0 hA (fun M1 hC1 hF1 hp1 hq1 => ?_)
      have hR1 := hC1.2.2.2.1
      have hM1 := hC1.2.2.1
      refine y_al0 c_158_37 ?_
      refine y_gr 114 c_158_38 rfl (by omega) ?_
      refine y_il1 c_158_41 ?_
      refine k_157 c_158_42 rfl (Nat.le_of_ble_eq_true rfl) ?_
      refine s_157 rfl hR1 z4 (by omega) (fun M2 hR2 hf2 => ?_)
      refine y_al0 c_158_45 ?_
      refine y_gr 114 c_158_46 rfl (by omega) ?_
      refine y_ic c_158_49 ?_
      refine y_ald (n := 10) (u := ((R.2.2.1 - n : Nat) : Int)) c_158_50 rfl (by omega) (by omega) (by omega) hR2.2.2.1 (fun r_50 => ?_)
      refine y_ret c_158_51 rfl ?_
      exact hQ _ (MI_page hC1 hR2 hf2) (fun b hb => by rw [hf2 b (by omega), hF1 b hb, hF0 b hb])
  · rw [if_neg (by omega)] at hQ
    refine y_bi c_158_17 (by decide) ?_
    refine y_ret c_158_19 rfl ?_
    exact hQ _ hC0 hF0
theorem s_159 (hC : MI x M T P R L Tm sd K) (hA : AOK T P R L Tm K) (hQ : ∀ M', MI x M' T P (aUndo R L).2.1 (aUndo R L).2.2 Tm sd K → (∀ b, b < 106 → M' b = M b) → Q (some (.int (iI (aUndo R L).1))) x M') : yG x M 159 0 [.ref 106, zU] [] Q := by
  obtain ⟨⟨ht56, ht256⟩, hok, hRk, ⟨hl14, hLk⟩, hTk, hKk⟩ := id hA
  obtain ⟨z1, z2, z3, z4, z5⟩ := aRok_len hok hRk
  have z6 : ∀ y ∈ R.2.2.2, y < 6 := fun y hy => by have := z3 y hy; have := hok.2.2.1; omega
  have hb1 := hok.1
  have hb2 := hok.2.1
  have hb3 := hok.2.2.1
  unfold aUndo at hQ
  have key : ∀ (M1 : wM) (A : Nat), A + 1 = L.1 → M1 106 19 = A → (∀ b, b ≠ 106 → M1 b = M b) → ∀ M0 : wM, (∀ b, b ≠ 106 → M0 b = M b) → (∀ j : Int, j ≠ 19 → M1 106 j = M0 106 j) → MI x M0 T P R L Tm sd K → ∀ d k : Nat, 10 < k + d → k ≤ 10 → ∀ M2 : wM, (∀ j : Nat, j < k → M2 114 j = M 116 (10 * (A : Int) + (j : Int))) → (∀ b, b ≠ 114 → M2 b = M1 b) → yG x M2 159 27 [.ref 106, .int (iI (k : Int))] [] Q := by
    intro M1 A hA1 hacts hf1 M0 hf0 hf1b hC0 d
    have hbkA := hC0.2.2.2.2.1.2 A (by omega)
    induction d with
    | zero => intro k g1 g2; omega
    | succ d ih =>
      intro k g1 g2 M2 hm hf2
      refine y_il1 c_159_27 ?_
      refine y_bi c_159_28 (by decide) ?_
      refine y_ic_ge c_159_30 (by omega) (by omega) (fun h_30 => ?_) (fun h_30 => ?_)
      · have hk : k = 10 := by omega
        subst hk
        refine y_al0 c_159_59 ?_
        refine y_gi (j := 19) (z := (A : Int)) c_159_60 rfl rfl (by rw [hf2 106 (by omega)]; exact hacts) (fun r_60 => ?_)
        refine y_ret c_159_63 rfl ?_
        rw [if_neg (by omega)] at hQ
        have eA : L.1 - 1 = A := by omega
        rw [eA] at hQ
        refine hQ M2 ?_ (fun b hb => by rw [hf2 b (by omega), hf1 b (by omega)])
        refine MI_acts hC0 (wpg_bk (wbk_of hbkA (hf0 116 (by omega)).symm) (aRok_len hok (hLk A (by omega))).2.1 (fun i hi => by rw [hm i hi]; congr 1)) (by rw [hf2 106 (by omega)]; exact hacts) (fun k hk => wbk_of (hC0.2.2.2.2.1.2 k (by simp only at hk; omega)) (by rw [hf2 116 (by omega), hf1 116 (by omega), hf0 116 (by omega)])) ⟨fun b h1 h2 h3 h4 => by rw [hf2 b h2, hf1 b h1, hf0 b h1], fun j hj => ?_⟩
        rw [hf2 106 (by omega)]
        exact hf1b j hj
      · refine y_al0 c_159_33 ?_
        refine y_gr 114 c_159_34 rfl (by omega) ?_
        refine y_il1 c_159_37 ?_
        refine y_al0 c_159_38 ?_
        refine y_gr 116 c_159_39 rfl (by omega) ?_
        refine y_bi c_159_42 (by decide) ?_
        refine y_al0 c_159_44 ?_
        refine y_gi (j := 19) (z := (A : Int)) c_159_45 rfl rfl (by rw [hf2 106 (by omega)]; exact hacts) (fun r_45 => ?_)
        refine y_mul c_159_48 ?_
        refine y_il1 c_159_49 ?_
        refine y_add c_159_50 ?_
        refine y_ald (n := 140) (u := (M 116 (10 * (A : Int) + (k : Int)))) c_159_51 rfl (by omega) (by omega) (by omega) (by rw [hf2 116 (by omega), hf1 116 (by omega)]) (fun r_51 => ?_)
        refine y_ast (n := 10) c_159_52 rfl (by omega) (by omega) (by omega) (by omega) ?_
        refine y_inc1 c_159_53 rfl ?_
        refine y_goto c_159_56 ?_
        refine ih (k + 1) (by omega) (by omega) _ (fun j hj => ?_) (fun b hb => by rw [wup_f _ _ _ hb]; exact hf2 b hb)
        by_cases hjk : j = k
        · subst hjk; rw [wup_s]
        · rw [wup_k _ _ (by omega)]; exact hm j (by omega)
  refine y_al0 c_159_0 ?_
  refine y_ic c_159_1 ?_
  refine y_pi (j := 0) c_159_2 rfl rfl rfl (by decide) ?_
  have hC0 := MI_thr hC
  have hF0 : ∀ b, b < 106 → (wup M 106 0 0) b = M b := fun b hb => wup_f _ _ _ (by omega)
  have hFb : ∀ b, b ≠ 106 → (wup M 106 0 0) b = M b := fun b hb => wup_f _ _ _ hb
  generalize (wup M 106 0 0) = M0 at hC0 hF0 hFb ⊢
  obtain ⟨hsd, hT, hM, hR, hL, hTm, hK⟩ := id hC0
  obtain ⟨m4, m6, m8, v1, v2, v3⟩ := id hM
  obtain ⟨a0, a1, a2, a3, a4⟩ := id hR
  refine y_al0 c_159_5 ?_
  refine y_gi (j := 19) (z := (L.1 : Int)) c_159_6 rfl rfl hL.1 (fun r_6 => ?_)
  refine y_iz_ne c_159_9 (by omega) (fun h1 => ?_) (fun h1 => ?_)
  · refine y_al0 c_159_15 ?_
    refine y_dup c_159_16 rfl ?_
    refine y_gi (j := 19) (z := (L.1 : Int)) c_159_17 rfl rfl hL.1 (fun r_17 => ?_)
    refine y_ic c_159_20 ?_
    refine y_sub c_159_21 ?_
    refine y_pi (j := 19) c_159_22 rfl rfl rfl (by omega) ?_
    refine y_ic c_159_25 ?_
    refine y_is1 c_159_26 rfl ?_
    exact key _ (L.1 - 1) (by omega) (by rw [wup_s]; omega) (fun b hb => by rw [wup_f _ _ _ hb]; exact hFb b hb) M0 hFb (fun j hj => wup_k _ _ hj) hC0 11 0 (by omega) (by omega) _ (fun j hj => by omega) (fun b hb => rfl)
  · refine y_bi c_159_12 (by decide) ?_
    refine y_ret c_159_14 rfl ?_
    rw [if_pos (by omega)] at hQ; exact hQ _ hC0 hF0
end S26
