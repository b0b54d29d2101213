/-! ===== the model: slots, fractions ===== -/
theorem MI_kept {x : wC} {M M' : wM} {T : List Nat} {P : aP} {R : aR} {L : aA} {Tm : aT} {sd : Int64} {K K' : Nat → Option aR} (h : MI x M T P R L Tm sd K) (hk : ∀ k : Nat, k < 2 → M' 118 k = (if (K' k).isSome = true then 1 else 0) ∧ ∀ R', K' k = some R' → wbk M' 117 (10 * k) R') (hf : ∀ b, b ≠ 117 → b ≠ 118 → M' b = M b) : MI x M' T P R L Tm sd K' := by
  obtain ⟨hsd, hT, hM, hR, hL, hTm, -⟩ := h
  refine ⟨hsd, ?_, mport_of hM (by rw [hf 106 (by omega) (by omega)]) (by rw [hf 106 (by omega) (by omega)]) (by rw [hf 106 (by omega) (by omega)]) (hf 108 (by omega) (by omega)) (hf 109 (by omega) (by omega)) (hf 110 (by omega) (by omega)), wpage_of hR (hf 114 (by omega) (by omega)), ?_, ?_, hk⟩
  · rw [hf 106 (by omega) (by omega), hf 107 (by omega) (by omega)]; exact hT
  · rw [hf 106 (by omega) (by omega)]; exact ⟨hL.1, fun k hk => wbk_of (hL.2 k hk) (hf 116 (by omega) (by omega))⟩
  · rw [hf 106 (by omega) (by omega), hf 119 (by omega) (by omega), hf 120 (by omega) (by omega), hf 121 (by omega) (by omega), hf 122 (by omega) (by omega)]; exact hTm
section S30
variable {x : wC} {M : wM} {Q : Option Value → wC → wM → Prop} {T : List Nat} {P : aP} {R : aR} {L : aA} {Tm : aT} {sd : Int64} {K : Nat → Option aR}
theorem s_186 {z : Int} (hC : MI x M T P R L Tm sd K) (hA : AOK T P R L Tm K) (hz : wR z) (hQ : ∀ M', MI x M' T P R L Tm sd (aKeep R K z).2 → (∀ b, b < 106 → M' b = M b) → Q (some (.int (iI (aKeep R K z).1))) x M') : yG x M 186 0 [.ref 106, .int (iI z), zU] [] Q := by
  obtain ⟨⟨ht56, ht256⟩, hok, hRk, ⟨hl14, hLk⟩, hTk, hKk⟩ := id hA
  obtain ⟨z1, z2, z3, z4, z5⟩ := aRok_len hok hRk
  have z6 : ∀ y ∈ R.2.2.2, y < 6 := fun y hy => by have := z3 y hy; have := hok.2.2.1; omega
  have hb1 := hok.1
  have hb2 := hok.2.1
  have hb3 := hok.2.2.1
  unfold aKeep at hQ
  have key : ∀ M0 : wM, MI x M0 T P R L Tm sd K → (∀ b, b < 106 → M0 b = M b) → ∀ q : Nat, z = q → q < 2 → ∀ d k : Nat, 10 < k + d → k ≤ 10 → ∀ M2 : wM, (∀ j : Nat, M2 117 j = if 10 * q ≤ j ∧ j < 10 * q + k then M0 114 ((j : Int) - 10 * q) else M0 117 j) → (∀ j : Nat, M2 118 j = if j = q then 1 else M0 118 j) → (∀ b, b ≠ 117 → b ≠ 118 → M2 b = M0 b) → yG x M2 186 26 [.ref 106, .int (iI (q : Int)), .int (iI (k : Int))] [] Q := by
    intro M0 hC0 hF0 q hzq hq d
    obtain ⟨hsd, hT, hM, hR, hL, hTm, hK⟩ := id hC0
    induction d with
    | zero => intro k g1 g2; omega
    | succ d ih =>
      intro k g1 g2 M2 hm hm8 hf2
      refine y_il2 c_186_26 ?_
      refine y_bi c_186_27 (by decide) ?_
      refine y_ic_ge c_186_29 (by omega) (by omega) (fun h_29 => ?_) (fun h_29 => ?_)
      · have hk : k = 10 := by omega
        subst hk
        refine y_al0 c_186_55 ?_
        refine y_gr 114 c_186_56 rfl (by omega) ?_
        refine y_ic c_186_59 ?_
        refine y_ald (n := 10) (u := (R.2.2.1 : Int)) c_186_60 rfl (by omega) (by omega) (by omega) (by rw [hf2 114 (by omega) (by omega)]; exact hR.2.2.1) (fun r_60 => ?_)
        refine y_ret c_186_61 rfl ?_
        rw [if_pos (by omega), hzq, Int.toNat_natCast] at hQ
        refine hQ M2 (MI_kept hC0 (fun j hj => ⟨?_, fun R' hR' => ?_⟩) hf2) (fun b hb => by rw [hf2 b (by omega) (by omega), hF0 b hb])
        · rw [hm8 j]
          show _ = (if (if j = q then some R else K j).isSome = true then (1 : Int) else 0)
          by_cases hjq : j = q
          · rw [if_pos hjq, if_pos hjq]; rfl
          · rw [if_neg hjq, if_neg hjq]; exact (hK j hj).1
        · replace hR' : (if j = q then some R else K j) = some R' := hR'
          by_cases hjq : j = q
          · rw [if_pos hjq] at hR'
            cases hR'
            refine wbk_pg hR z2 (fun i hi => ?_)
            rw [show (((10 * j : Nat) : Int) + (i : Int)) = ((10 * j + i : Nat) : Int) by omega, hm, if_pos (by omega)]
            congr 1; omega
          · rw [if_neg hjq] at hR'
            refine wbk_bk ((hK j hj).2 R' hR') (aRok_len hok (hKk j R' hj hR')).2.1 (fun i hi => ?_)
            rw [show (((10 * j : Nat) : Int) + (i : Int)) = ((10 * j + i : Nat) : Int) by omega, hm, if_neg (by omega)]
      · refine y_al0 c_186_32 ?_
        refine y_gr 117 c_186_33 rfl (by omega) ?_
        refine y_bi c_186_36 (by decide) ?_
        refine y_il1 c_186_38 ?_
        refine y_mul c_186_39 ?_
        refine y_il2 c_186_40 ?_
        refine y_add c_186_41 ?_
        refine y_al0 c_186_42 ?_
        refine y_gr 114 c_186_43 rfl (by omega) ?_
        refine y_il2 c_186_46 ?_
        refine y_ald (n := 10) (u := (M0 114 (k : Int))) c_186_47 rfl (by omega) (by omega) (by omega) (by rw [hf2 114 (by omega) (by omega)]) (fun r_47 => ?_)
        refine y_ast (n := 20) c_186_48 rfl (by omega) (by omega) (by omega) (by omega) ?_
        refine y_inc2 c_186_49 rfl ?_
        refine y_goto c_186_52 ?_
        refine ih (k + 1) (by omega) (by omega) _ (fun j => ?_) (fun j => by rw [wup_a _ _ _ _ (by omega)]; exact hm8 j) (fun b h1 h2 => by rw [wup_f _ _ _ h1]; exact hf2 b h1 h2)
        by_cases hj : j = 10 * q + k
        · subst hj
          rw [if_pos (by omega), show ((10 * q + k : Nat) : Int) = 10 * (q : Int) + (k : Int) by omega, wup_s]
          congr 1; omega
        · rw [wup_k _ _ (by omega), hm j]
          by_cases h9 : 10 * q ≤ j ∧ j < 10 * q + k
          · rw [if_pos h9, if_pos (by omega)]
          · rw [if_neg h9, if_neg (by omega)]
  refine y_al0 c_186_0 ?_
  refine y_ic c_186_1 ?_
  refine y_pi (j := 0) c_186_2 rfl rfl rfl (by decide) ?_
  have hC0 := MI_thr hC
  have hF0 : ∀ b, b < 106 → (wup M 106 0 0) b = M b := fun b hb => wup_f _ _ _ (by omega)
  generalize (wup M 106 0 0) = M0 at hC0 hF0 ⊢
  obtain ⟨hsd, hT, hM, hR, hL, hTm, hK⟩ := id hC0
  obtain ⟨m4, m6, m8, v1, v2, v3⟩ := id hM
  obtain ⟨a0, a1, a2, a3, a4⟩ := id hR
  refine y_il1 c_186_5 ?_
  refine y_i2l c_186_6 (by omega) ?_
  refine y_lc (z := 0) c_186_7 rfl ?_
  refine y_lc (z := 1) c_186_8 rfl ?_
  refine k_117 c_186_9 rfl (Nat.le_of_ble_eq_true rfl) ?_
  refine s_117 hz (by decide) (by decide) ?_
  refine y_pz_ne c_186_12 (fun h1 => ?_) (fun h1 => ?_)
  · obtain ⟨q, rfl⟩ : ∃ n : Nat, z = n := ⟨z.toNat, by omega⟩
    refine y_al0 c_186_17 ?_
    refine y_gr 118 c_186_18 rfl (by omega) ?_
    refine y_il1 c_186_21 ?_
    refine y_ic c_186_22 ?_
    refine y_bst (n := 2) c_186_23 rfl (by omega) (by omega) (by omega) (by omega) ?_
    refine y_ic c_186_24 ?_
    refine y_is2 c_186_25 rfl ?_
    exact key M0 hC0 hF0 q rfl (by omega) 11 0 (by omega) (by omega) _ (fun j => by rw [wup_a _ _ _ _ (by decide), if_neg (by omega)]) (fun j => by
      by_cases hj : j = q
      · subst hj; rw [wup_s, if_pos rfl]
      · rw [wup_k _ _ (by omega), if_neg hj]) (fun b _ h2 => wup_f _ _ _ h2)
  · refine y_ic c_186_15 ?_
    refine y_ret c_186_16 rfl ?_
    rw [if_neg (by omega)] at hQ; exact hQ _ hC0 hF0
theorem s_187 {z : Int} (hC : MI x M T P R L Tm sd K) (hA : AOK T P R L Tm K) (hz : wR z) (hQ : ∀ M', MI x M' T P (aAgain R L K z).2.1 (aAgain R L K z).2.2 Tm sd K → (∀ b, b < 106 → M' b = M b) → Q (some (.int (iI (aAgain R L K z).1))) x M') : yG x M 187 0 [.ref 106, .int (iI z), zU] [] Q := by
  obtain ⟨⟨ht56, ht256⟩, hok, hRk, ⟨hl14, hLk⟩, hTk, hKk⟩ := id hA
  obtain ⟨z1, z2, z3, z4, z5⟩ := aRok_len hok hRk
  have z6 : ∀ y ∈ R.2.2.2, y < 6 := fun y hy => by have := z3 y hy; have := hok.2.2.1; omega
  have hb1 := hok.1
  have hb2 := hok.2.1
  have hb3 := hok.2.2.1
  unfold aAgain at hQ
  have key : ∀ M0 : wM, MI x M0 T P R L Tm sd K → (∀ b, b < 106 → M0 b = M b) → ∀ (q : Nat) (R3 : aR), z = q → q < 2 → K q = some R3 → ∀ d k : Nat, 10 < k + d → k ≤ 10 → ∀ M2 : wM, (∀ j : Nat, j < k → M2 114 j = M0 117 (10 * (q : Int) + (j : Int))) → (∀ b, b ≠ 114 → M2 b = M0 b) → yG x M2 187 31 [.ref 106, .int (iI (q : Int)), .int (iI (k : Int))] [] Q := by
    intro M0 hC0 hF0 q R3 hzq hq hKq d
    obtain ⟨hsd, hT, hM, hR, hL, hTm, hK⟩ := id hC0
    induction d with
    | zero => intro k g1 g2; omega
    | succ d ih =>
      intro k g1 g2 M2 hm hf2
      refine y_il2 c_187_31 ?_
      refine y_bi c_187_32 (by decide) ?_
      refine y_ic_ge c_187_34 (by omega) (by omega) (fun h_34 => ?_) (fun h_34 => ?_)
      · have hk : k = 10 := by omega
        subst hk
        have hR3 : wpage M2 114 R3 := wpg_bk ((hK q hq).2 R3 hKq) (aRok_len hok (hKk q R3 hq hKq)).2.1 (fun i hi => by rw [hm i hi]; congr 1)
        refine y_al0 c_187_60 ?_
        refine y_ic c_187_61 ?_
        refine y_pi (j := 19) c_187_62 rfl rfl rfl (by decide) ?_
        refine y_al0 c_187_65 ?_
        refine y_gr 114 c_187_66 rfl (by omega) ?_
        refine y_ic c_187_69 ?_
        refine y_ald (n := 10) (u := (R3.2.2.1 : Int)) c_187_70 rfl (by omega) (by omega) (by omega) (by rw [wup_a _ _ _ _ (by decide)]; exact hR3.2.2.1) (fun r_70 => ?_)
        refine y_ret c_187_71 rfl ?_
        rw [if_pos (by omega), hzq, Int.toNat_natCast, hKq] at hQ
        refine hQ _ (MI_acts hC0 (wpage_of hR3 (wup_f _ _ _ (by decide))) (wup_s _ _ _ _) (fun j hj => absurd (show j < 0 from hj) (by omega)) ⟨fun b h1 h2 h3 h4 => by rw [wup_f _ _ _ h1, hf2 b h2], fun j hj => by rw [wup_k _ _ hj, hf2 106 (by omega)]⟩) (fun b hb => by rw [wup_f _ _ _ (by omega), hf2 b (by omega), hF0 b hb])
      · refine y_al0 c_187_37 ?_
        refine y_gr 114 c_187_38 rfl (by omega) ?_
        refine y_il2 c_187_41 ?_
        refine y_al0 c_187_42 ?_
        refine y_gr 117 c_187_43 rfl (by omega) ?_
        refine y_bi c_187_46 (by decide) ?_
        refine y_il1 c_187_48 ?_
        refine y_mul c_187_49 ?_
        refine y_il2 c_187_50 ?_
        refine y_add c_187_51 ?_
        refine y_ald (n := 20) (u := (M0 117 (10 * (q : Int) + (k : Int)))) c_187_52 rfl (by omega) (by omega) (by omega) (by rw [hf2 117 (by omega)]) (fun r_52 => ?_)
        refine y_ast (n := 10) c_187_53 rfl (by omega) (by omega) (by omega) (by omega) ?_
        refine y_inc2 c_187_54 rfl ?_
        refine y_goto c_187_57 ?_
        refine ih (k + 1) (by omega) (by omega) _ (fun j hj => ?_) (fun b hb => by rw [wup_f _ _ _ hb]; exact hf2 b hb)
        by_cases hjk : j = k
        · subst hjk; rw [wup_s]
        · rw [wup_k _ _ (by omega)]; exact hm j (by omega)
  refine y_al0 c_187_0 ?_
  refine y_ic c_187_1 ?_
  refine y_pi (j := 0) c_187_2 rfl rfl rfl (by decide) ?_
  have hC0 := MI_thr hC
  have hF0 : ∀ b, b < 106 → (wup M 106 0 0) b = M b := fun b hb => wup_f _ _ _ (by omega)
  generalize (wup M 106 0 0) = M0 at hC0 hF0 ⊢
  obtain ⟨hsd, hT, hM, hR, hL, hTm, hK⟩ := id hC0
  obtain ⟨m4, m6, m8, v1, v2, v3⟩ := id hM
  obtain ⟨a0, a1, a2, a3, a4⟩ := id hR
  refine y_il1 c_187_5 ?_
  refine y_i2l c_187_6 (by omega) ?_
  refine y_lc (z := 0) c_187_7 rfl ?_
  refine y_lc (z := 1) c_187_8 rfl ?_
  refine k_117 c_187_9 rfl (Nat.le_of_ble_eq_true rfl) ?_
  refine s_117 hz (by decide) (by decide) ?_
  refine y_pz_ne c_187_12 (fun h1 => ?_) (fun h1 => ?_)
  · obtain ⟨q, rfl⟩ : ∃ n : Nat, z = n := ⟨z.toNat, by omega⟩
    have hKq := (hK q (by omega)).1
    refine y_al0 c_187_17 ?_
    refine y_gr 118 c_187_18 rfl (by omega) ?_
    refine y_il1 c_187_21 ?_
    refine y_bld (n := 2) (u := (if (K q).isSome = true then 1 else 0)) c_187_22 rfl (by omega) (by omega) (by omega) hKq (fun r_22 => ?_)
    refine y_pz_ne c_187_23 (fun h2 => ?_) (fun h2 => ?_)
    · obtain ⟨R3, hKe⟩ := Option.isSome_iff_exists.mp h2
      refine y_ic c_187_29 ?_
      refine y_is2 c_187_30 rfl ?_
      exact key M0 hC0 hF0 q R3 rfl (by omega) hKe 11 0 (by omega) (by omega) M0 (fun j hj => by omega) (fun b _ => rfl)
    · rw [if_pos (by omega), Int.toNat_natCast] at hQ
      have hKe : K q = none := by
        cases h : K q with
        | none => rfl
        | some _ => rw [h] at h2; exact absurd rfl h2
      rw [hKe] at hQ
      refine y_bi c_187_26 (by decide) ?_
      refine y_ret c_187_28 rfl ?_
      exact hQ _ hC0 hF0
  · refine y_ic c_187_15 ?_
    refine y_ret c_187_16 rfl ?_
    rw [if_neg (by omega)] at hQ; exact hQ _ hC0 hF0
end S30
