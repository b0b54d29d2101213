/-! ===== the model: timed, seed, weeks ===== -/
theorem wu106 : ∀ s, wsh[106]? = some (3, 8, s) → ∀ i, i ≠ 27 → s[i]? ≠ some 1 := by
  have key : ∀ i, i < 41 → i ≠ 27 → ((wsh[106]?).map (fun e => e.2.2[i]?)) ≠ some (some 1) := by decide +kernel
  have hlen : (wsh[106]?).map (fun e => e.2.2.length) = some 41 := by decide +kernel
  intro s hs i hi h1
  rw [hs] at hlen
  have hl : s.length = 41 := by simpa using hlen
  have hi9 : i < 41 := by have h2 := (List.getElem?_eq_some_iff.mp h1).1; omega
  have h3 := key i hi9 hi
  rw [hs] at h3
  exact h3 (by simp [h1])
theorem MI_seed {x : wC} {M : wM} {T : List Nat} {P : aP} {R : aR} {L : aA} {Tm : aT} {sd : Int64} {K : Nat → Option aR} (h : MI x M T P R L Tm sd K) (v : Int64) : MI (xsd x 106 v) M T P R L Tm v K := by
  obtain ⟨hsd, h3⟩ := h
  exact ⟨rfl, h3⟩
theorem MI_tim {x : wC} {M M' : wM} {T : List Nat} {P : aP} {R : aR} {L : aA} {Tm Tm' : aT} {sd : Int64} {K : Nat → Option aR} (h : MI x M T P R L Tm sd K) (h22 : M' 106 22 = Tm'.1) (ht : ∀ i : Nat, i < Tm'.1 → M' 119 i = Tm'.2 0 i ∧ M' 120 i = Tm'.2 1 i ∧ M' 121 i = Tm'.2 2 i ∧ M' 122 i = Tm'.2 3 i) (hf : ∀ b, b ≠ 106 → (b < 119 ∨ 122 < b) → M' b = M b) (hf6 : ∀ j : Int, j ≠ 22 → M' 106 j = M 106 j) : MI x M' T P R L Tm' sd K := by
  obtain ⟨hsd, hT, hM, hR, hL, -, hK⟩ := h
  refine ⟨hsd, ?_, mport_of hM (hf6 4 (by omega)) (hf6 6 (by omega)) (hf6 8 (by omega)) (hf 108 (by omega) (by omega)) (hf 109 (by omega) (by omega)) (hf 110 (by omega) (by omega)), wpage_of hR (hf 114 (by omega) (by omega)), ?_, ⟨h22, ht⟩, ?_⟩
  · rw [hf6 2 (by omega), hf 107 (by omega) (by omega)]; exact hT
  · rw [hf6 19 (by omega)]; exact ⟨hL.1, fun k hk => wbk_of (hL.2 k hk) (hf 116 (by omega) (by omega))⟩
  · intro k hk
    rw [hf 118 (by omega) (by omega)]
    exact ⟨(hK k hk).1, fun R' h => wbk_of ((hK k hk).2 R' h) (hf 117 (by omega) (by omega))⟩
section S28
variable {x : wC} {M : wM} {Q : Option Value → wC → wM → Prop} {T : List Nat} {P : aP} {R : aR} {L : aA} {Tm : aT} {sd : Int64} {K : Nat → Option aR}
variable {R2 : aR}
theorem s_178 {y i p g : Int} (hC : MI x M T P R L Tm sd K) (hA : AOK T P R L Tm K) (hy : wR y) (hi : wR i) (hp0 : wR p) (hg : wR g) (hQ : ∀ M', MI x M' T P R L (aTime P Tm y i p g).2 sd K → (∀ b, b < 106 → M' b = M b) → Q (some (.int (iI (aTime P Tm y i p g).1))) x M') : yG x M 178 0 [.ref 106, .int (iI y), .int (iI i), .int (iI p), .int (iI g)] [] Q := by
  obtain ⟨⟨ht56, ht256⟩, hok, hRk, ⟨hl14, hLk⟩, hTk, hKk⟩ := id hA
  obtain ⟨z1, z2, z3, z4, z5⟩ := aRok_len hok hRk
  have z6 : ∀ y ∈ R.2.2.2, y < 6 := fun y hy => by have := z3 y hy; have := hok.2.2.1; omega
  have hb1 := hok.1
  have hb2 := hok.2.1
  have hb3 := hok.2.2.1
  have hT6 := hTk.1
  unfold aTime at hQ
  refine y_al0 c_178_0 ?_
  refine y_ic c_178_1 ?_
  refine y_pi (j := 0) c_178_2 rfl rfl rfl (by decide) ?_
  have hC0 := MI_thr hC
  have hF0 : ∀ b, b < 106 → (wup M 106 0 0) b = M b := fun b hb => wup_f _ _ _ (by omega)
  generalize (wup M 106 0 0) = M0 at hC0 hF0 ⊢
  obtain ⟨hsd, hT, hM, hR, hL, hTm, hK⟩ := id hC0
  obtain ⟨m4, m6, m8, v1, v2, v3⟩ := id hM
  obtain ⟨a0, a1, a2, a3, a4⟩ := id hR
  refine y_al0 c_178_5 ?_
  refine y_il1 c_178_6 ?_
  refine k_123 c_178_7 rfl rfl (Nat.le_of_ble_eq_true rfl) ?_
  refine s_123 hM hok hy ?_
  refine y_pz_eq c_178_10 (fun h1 => ?_) (fun h1 => ?_)
  · rw [if_neg h1] at hQ
    refine y_il2 c_178_15 ?_
    refine y_i2l c_178_16 (by omega) ?_
    refine y_lc (z := 0) c_178_17 rfl ?_
    refine y_ldc2 c_178_18 ?_
    refine k_117 c_178_21 rfl (Nat.le_of_ble_eq_true rfl) ?_
    refine s_117 hi (by decide) (by decide) ?_
    refine y_pz_eq c_178_24 (fun h2 => ?_) (fun h2 => ?_)
    · refine y_bi c_178_52 (by decide) ?_
      refine y_ret c_178_54 rfl ?_
      rw [if_pos (by omega)] at hQ; exact hQ _ hC0 hF0
    · refine y_il3 c_178_27 ?_
      refine y_i2l c_178_28 (by omega) ?_
      refine y_lc (z := 1) c_178_29 rfl ?_
      refine y_ldc2 c_178_30 ?_
      refine k_117 c_178_33 rfl (Nat.le_of_ble_eq_true rfl) ?_
      refine s_117 hp0 (by decide) (by decide) ?_
      refine y_pz_eq c_178_36 (fun h3 => ?_) (fun h3 => ?_)
      · refine y_bi c_178_52 (by decide) ?_
        refine y_ret c_178_54 rfl ?_
        rw [if_pos (by omega)] at hQ; exact hQ _ hC0 hF0
      · refine y_il4 c_178_39 ?_
        refine y_i2l c_178_41 (by omega) ?_
        refine y_lc (z := 0) c_178_42 rfl ?_
        refine y_ldc2 c_178_43 ?_
        refine k_117 c_178_46 rfl (Nat.le_of_ble_eq_true rfl) ?_
        refine s_117 hg (by decide) (by decide) ?_
        refine y_pz_ne c_178_49 (fun h4 => ?_) (fun h4 => ?_)
        · rw [if_neg (fun h => h ⟨h2, h3, h4⟩)] at hQ
          refine y_al0 c_178_55 ?_
          refine y_gi (j := 22) (z := (Tm.1 : Int)) c_178_56 rfl rfl hTm.1 (fun r_56 => ?_)
          refine y_bi c_178_59 (by decide) ?_
          refine y_ic_ne c_178_61 (by omega) (by omega) (fun h5 => ?_) (fun h5 => ?_)
          · rw [if_neg (by omega)] at hQ
            obtain ⟨y, rfl⟩ : ∃ n : Nat, y = n := ⟨y.toNat, by omega⟩
            obtain ⟨i, rfl⟩ : ∃ n : Nat, i = n := ⟨i.toNat, by omega⟩
            obtain ⟨p, rfl⟩ : ∃ n : Nat, p = n := ⟨p.toNat, by omega⟩
            obtain ⟨g, rfl⟩ : ∃ n : Nat, g = n := ⟨g.toNat, by omega⟩
            simp only [Int.toNat_natCast] at hQ
            refine y_al0 c_178_67 ?_
            refine y_gr 119 c_178_68 rfl (by omega) ?_
            refine y_al0 c_178_71 ?_
            refine y_gi (j := 22) (z := (Tm.1 : Int)) c_178_72 rfl rfl hTm.1 (fun r_72 => ?_)
            refine y_il1 c_178_75 ?_
            refine y_ast (n := 6) c_178_76 rfl (by omega) (by omega) (by omega) (by omega) ?_
            refine y_al0 c_178_77 ?_
            refine y_gr 120 c_178_78 rfl (by omega) ?_
            refine y_al0 c_178_81 ?_
            refine y_gi (j := 22) (z := (Tm.1 : Int)) c_178_82 rfl rfl (by rw [wup_a _ _ _ _ (by decide)]; exact hTm.1) (fun r_82 => ?_)
            refine y_il2 c_178_85 ?_
            refine y_ast (n := 6) c_178_86 rfl (by omega) (by omega) (by omega) (by omega) ?_
            refine y_al0 c_178_87 ?_
            refine y_gr 121 c_178_88 rfl (by omega) ?_
            refine y_al0 c_178_91 ?_
            refine y_gi (j := 22) (z := (Tm.1 : Int)) c_178_92 rfl rfl (by rw [wup_a _ _ _ _ (by decide)]; rw [wup_a _ _ _ _ (by decide)]; exact hTm.1) (fun r_92 => ?_)
            refine y_il3 c_178_95 ?_
            refine y_ast (n := 6) c_178_96 rfl (by omega) (by omega) (by omega) (by omega) ?_
            refine y_al0 c_178_97 ?_
            refine y_gr 122 c_178_98 rfl (by omega) ?_
            refine y_al0 c_178_101 ?_
            refine y_gi (j := 22) (z := (Tm.1 : Int)) c_178_102 rfl rfl (by rw [wup_a _ _ _ _ (by decide)]; rw [wup_a _ _ _ _ (by decide)]; rw [wup_a _ _ _ _ (by decide)]; exact hTm.1) (fun r_102 => ?_)
            refine y_il4 c_178_105 ?_
            refine y_ast (n := 6) c_178_107 rfl (by omega) (by omega) (by omega) (by omega) ?_
            refine y_al0 c_178_108 ?_
            refine y_dup c_178_109 rfl ?_
            refine y_gi (j := 22) (z := (Tm.1 : Int)) c_178_110 rfl rfl (by rw [wup_a _ _ _ _ (by decide)]; rw [wup_a _ _ _ _ (by decide)]; rw [wup_a _ _ _ _ (by decide)]; rw [wup_a _ _ _ _ (by decide)]; exact hTm.1) (fun r_110 => ?_)
            refine y_ic c_178_113 ?_
            refine y_add c_178_114 ?_
            refine y_pi (j := 22) c_178_115 rfl rfl rfl (by omega) ?_
            refine y_al0 c_178_118 ?_
            refine y_gi (j := 22) (z := ((Tm.1 + 1 : Nat) : Int)) c_178_119 rfl rfl (by rw [wup_s]; omega) (fun r_119 => ?_)
            refine y_ret c_178_122 rfl ?_
            obtain ⟨M1, hM1⟩ : ∃ M1 : wM, M1 = wup (wup (wup (wup (wup M0 119 (Tm.1 : Int) (y : Int)) 120 (Tm.1 : Int) (i : Int)) 121 (Tm.1 : Int) (p : Int)) 122 (Tm.1 : Int) (g : Int)) 106 22 ((Tm.1 : Int) + 1) := ⟨_, rfl⟩
            rw [← hM1]
            have hf : ∀ b, b ≠ 106 → (b < 119 ∨ 122 < b) → M1 b = M0 b := fun b h1 h2 => by rw [hM1, wup_f _ _ _ h1, wup_f _ _ _ (by omega), wup_f _ _ _ (by omega), wup_f _ _ _ (by omega), wup_f _ _ _ (by omega)]
            refine hQ M1 (MI_tim hC0 (by rw [hM1, wup_s]; rfl) (fun j hj => ?_) hf (fun j hj => by rw [hM1, wup_k _ _ hj, wup_a _ _ _ _ (by decide), wup_a _ _ _ _ (by decide), wup_a _ _ _ _ (by decide), wup_a _ _ _ _ (by decide)])) (fun b hb => by rw [hf b (by omega) (by omega), hF0 b hb])
            unfold aTput at hj ⊢
            simp only at hj ⊢
            by_cases hjk : j = Tm.1
            · subst hjk; simp [hM1, wup]
            · have h9 := hTm.2 j (by omega)
              have hjk' : ¬ ((j : Int) = (Tm.1 : Int)) := by omega
              simp only [if_neg hjk]
              simp [hM1, wup, hjk', h9]
          · rw [if_pos (by omega)] at hQ
            refine y_bi c_178_64 (by decide) ?_
            refine y_ret c_178_66 rfl ?_
            exact hQ _ hC0 hF0
        · refine y_bi c_178_52 (by decide) ?_
          refine y_ret c_178_54 rfl ?_
          rw [if_pos (by omega)] at hQ; exact hQ _ hC0 hF0
  · refine y_ic c_178_13 ?_
    refine y_ret c_178_14 rfl ?_
    rw [if_pos h1] at hQ; exact hQ _ hC0 hF0
theorem s_179 (hC : MI x M T P R L Tm sd K) (hA : AOK T P R L Tm K) (hQ : ∀ M', MI x M' T P R L (0, fun _ _ => 0) sd K → (∀ b, b < 106 → M' b = M b) → Q (some (.int (iI (Tm.1 : Int)))) x M') : yG x M 179 0 [.ref 106, zU] [] Q := by
  obtain ⟨⟨ht56, ht256⟩, hok, hRk, ⟨hl14, hLk⟩, hTk, hKk⟩ := id hA
  obtain ⟨z1, z2, z3, z4, z5⟩ := aRok_len hok hRk
  have z6 : ∀ y ∈ R.2.2.2, y < 6 := fun y hy => by have := z3 y hy; have := hok.2.2.1; omega
  have hb1 := hok.1
  have hb2 := hok.2.1
  have hb3 := hok.2.2.1
  refine y_al0 c_179_0 ?_
  refine y_ic c_179_1 ?_
  refine y_pi (j := 0) c_179_2 rfl rfl rfl (by decide) ?_
  have hC0 := MI_thr hC
  have hF0 : ∀ b, b < 106 → (wup M 106 0 0) b = M b := fun b hb => wup_f _ _ _ (by omega)
  generalize (wup M 106 0 0) = M0 at hC0 hF0 ⊢
  obtain ⟨hsd, hT, hM, hR, hL, hTm, hK⟩ := id hC0
  obtain ⟨m4, m6, m8, v1, v2, v3⟩ := id hM
  obtain ⟨a0, a1, a2, a3, a4⟩ := id hR
  refine y_al0 c_179_5 ?_
  refine y_gi (j := 22) (z := (Tm.1 : Int)) c_179_6 rfl rfl hTm.1 (fun r_6 => ?_)
  refine y_is1 c_179_9 rfl ?_
  refine y_al0 c_179_10 ?_
  refine y_ic c_179_11 ?_
  refine y_pi (j := 22) c_179_12 rfl rfl rfl (by decide) ?_
  refine y_il1 c_179_15 ?_
  refine y_ret c_179_16 rfl ?_
  exact hQ _ (MI_tim hC0 (wup_s _ _ _ _) (fun j hj => absurd (show j < 0 from hj) (by omega)) (fun b h1 _ => wup_f _ _ _ h1) (fun j hj => wup_k _ _ hj)) (fun b hb => by rw [wup_f _ _ _ (by omega), hF0 b hb])
theorem s_180 (hC : MI x M T P R L Tm sd K) (hA : AOK T P R L Tm K) (hQ : ∀ r M', aKindsV P Tm r → MI x M' T P R L Tm sd K → (∀ b, b < 106 → M' b = M b) → Q (some (.int (iI r))) x M') : yG x M 180 0 [.ref 106, zU, zU, zU, zU] [] Q := by
  obtain ⟨⟨ht56, ht256⟩, hok, hRk, ⟨hl14, hLk⟩, hTk, hKk⟩ := id hA
  obtain ⟨z1, z2, z3, z4, z5⟩ := aRok_len hok hRk
  have z6 : ∀ y ∈ R.2.2.2, y < 6 := fun y hy => by have := z3 y hy; have := hok.2.2.1; omega
  have hb1 := hok.1
  have hb2 := hok.2.1
  have hb3 := hok.2.2.1
  have hT6 := hTk.1
  have key : ∀ M0 : wM, MI x M0 T P R L Tm sd K → (∀ b, b < 106 → M0 b = M b) → ∀ d kd : Nat, 4 < kd + d → kd ≤ 4 → ∀ (v : Nat) (w3 w4 : Value), aBm (fun k => aThose P Tm k Tm.1 = true) kd v → yG x M0 180 9 [.ref 106, .int (iI (v : Int)), .int (iI (kd : Int)), w3, w4] [] Q := by
    intro M0 hC0 hF0 d
    obtain ⟨hsd, hT, hM, hR, hL, hTm, hK⟩ := id hC0
    induction d with
    | zero => intro kd g1 g2; omega
    | succ d ih =>
      intro kd g1 g2 v w3 w4 hv
      have key2 : kd < 4 → ∀ d2 k : Nat, Tm.1 < k + d2 → k ≤ Tm.1 → yG x M0 180 19 [.ref 106, .int (iI (v : Int)), .int (iI (kd : Int)), .int (iI (if aThose P Tm kd k = true then 1 else 0)), .int (iI (k : Int))] [] Q := by
        intro hkd d2
        induction d2 with
        | zero => intro k g3 g4; omega
        | succ d2 ih2 =>
          intro k g3 g4
          refine y_il4 c_180_19 ?_
          refine y_al0 c_180_21 ?_
          refine y_gi (j := 22) (z := (Tm.1 : Int)) c_180_22 rfl rfl hTm.1 (fun r_22 => ?_)
          refine y_ic_ge c_180_25 (by omega) (by omega) (fun h_25 => ?_) (fun h_25 => ?_)
          · have hk : k = Tm.1 := by omega
            subst hk
            refine y_il1 c_180_94 ?_
            refine y_il3 c_180_95 ?_
            refine y_pz_eq c_180_96 (fun h4 => ?_) (fun h4 => ?_)
            · refine y_ic c_180_105 ?_
              first
                | refine y_ior (x1 := v) (x2 := 2 ^ kd) c_180_106 ?_
                | (refine y_ior (x1 := v) (x2 := 0) c_180_106 ?_
                   rw [Nat.or_zero])
              refine y_is1 c_180_107 rfl ?_
              refine y_inc2 c_180_108 rfl ?_
              refine y_goto c_180_111 ?_
              first
                | exact ih (kd + 1) (by omega) (by omega) _ _ _ (aBm_y hv h4)
                | exact ih (kd + 1) (by omega) (by omega) _ _ _ (aBm_n hv h4)
            · have hp2 := Nat.pow_le_pow_right (show 0 < 2 by omega) (show kd ≤ 3 by omega)
              refine y_ic c_180_99 ?_
              refine y_il2 c_180_100 ?_
              refine y_shl (x1 := 1) (x2 := kd) c_180_101 (by omega) (by omega) ?_
              rw [Nat.one_mul]
              refine y_goto c_180_102 ?_
              first
                | refine y_ior (x1 := v) (x2 := 2 ^ kd) c_180_106 ?_
                | (refine y_ior (x1 := v) (x2 := 0) c_180_106 ?_
                   rw [Nat.or_zero])
              refine y_is1 c_180_107 rfl ?_
              refine y_inc2 c_180_108 rfl ?_
              refine y_goto c_180_111 ?_
              first
                | exact ih (kd + 1) (by omega) (by omega) _ _ _ (aBm_y hv h4)
                | exact ih (kd + 1) (by omega) (by omega) _ _ _ (aBm_n hv h4)
          · have hk : k < Tm.1 := by omega
            obtain ⟨e1, e2, e3, e4⟩ := hTm.2 k hk
            obtain ⟨t1, t2, t3, t4, t5⟩ := hTk.2 k hk
            have hth : aThose P Tm kd (k + 1) = (aThose P Tm kd k && aFit P Tm kd k) := rfl
            unfold aFit at hth
            refine y_il3 c_180_28 ?_
            refine y_pz_eq c_180_29 (fun h1 => ?_) (fun h1 => ?_)
            · have e : ¬ aThose P Tm kd (k + 1) = true := by rw [hth]; intro h; rw [Bool.and_eq_true] at h; exact h1 h.1
              refine y_ic c_180_86 ?_
              refine y_is3 c_180_87 rfl ?_
              refine y_inc4 c_180_88 rfl ?_
              refine y_goto c_180_91 ?_
              have h9 := ih2 (k + 1) (by omega) (by omega)
              first
                | (rw [if_pos e] at h9; exact h9)
                | (rw [if_neg e] at h9; exact h9)
            · refine y_al0 c_180_32 ?_
              refine y_al0 c_180_33 ?_
              refine y_gr 119 c_180_34 rfl (by omega) ?_
              refine y_il4 c_180_37 ?_
              refine y_ald (n := 6) (u := (Tm.2 0 k : Int)) c_180_39 rfl (by omega) (by omega) (by omega) e1 (fun r_39 => ?_)
              refine k_123 c_180_40 rfl rfl (Nat.le_of_ble_eq_true rfl) ?_
              refine s_123 hM hok (by omega) ?_
              refine y_pz_ne c_180_43 (fun h2 => ?_) (fun h2 => ?_)
              · have e : aThose P Tm kd (k + 1) = true := by rw [hth, h1, decide_eq_false (show ¬ Tm.2 0 k < P.2.2.2 by omega)]; rfl
                refine y_ic c_180_82 ?_
                refine y_goto c_180_83 ?_
                refine y_is3 c_180_87 rfl ?_
                refine y_inc4 c_180_88 rfl ?_
                refine y_goto c_180_91 ?_
                have h9 := ih2 (k + 1) (by omega) (by omega)
                first
                  | (rw [if_pos e] at h9; exact h9)
                  | (rw [if_neg e] at h9; exact h9)
              · refine y_al0 c_180_46 ?_
                refine y_al0 c_180_47 ?_
                refine y_gr 119 c_180_48 rfl (by omega) ?_
                refine y_il4 c_180_51 ?_
                refine y_ald (n := 6) (u := (Tm.2 0 k : Int)) c_180_53 rfl (by omega) (by omega) (by omega) e1 (fun r_53 => ?_)
                refine y_al0 c_180_54 ?_
                refine y_gr 121 c_180_55 rfl (by omega) ?_
                refine y_il4 c_180_58 ?_
                refine y_ald (n := 6) (u := (Tm.2 2 k : Int)) c_180_60 rfl (by omega) (by omega) (by omega) e3 (fun r_60 => ?_)
                refine y_il2 c_180_61 ?_
                refine y_al0 c_180_62 ?_
                refine y_gr 120 c_180_63 rfl (by omega) ?_
                refine y_il4 c_180_66 ?_
                refine y_ald (n := 6) (u := (Tm.2 1 k : Int)) c_180_68 rfl (by omega) (by omega) (by omega) e2 (fun r_68 => ?_)
                refine k_136 c_180_69 rfl rfl (Nat.le_of_ble_eq_true rfl) ?_
                have hcl := aCostBy_le (kind := kd) (pace := Tm.2 2 k) (gk := 0) (y := Tm.2 0 k) (i := Tm.2 1 k) hok t4 (by omega) (by omega)
                refine s_136 hM hok (by omega) t4 (by omega) (by omega) ?_
                refine y_al0 c_180_72 ?_
                refine y_gr 122 c_180_73 rfl (by omega) ?_
                refine y_il4 c_180_76 ?_
                refine y_ald (n := 6) (u := (Tm.2 3 k : Int)) c_180_78 rfl (by omega) (by omega) (by omega) e4 (fun r_78 => ?_)
                refine y_ic_ne c_180_79 (by omega) (by omega) (fun h3 => ?_) (fun h3 => ?_)
                · have e : ¬ aThose P Tm kd (k + 1) = true := by rw [hth, h1, decide_eq_true (show Tm.2 0 k < P.2.2.2 by omega), decide_eq_false (show ¬ aCostBy P kd (Tm.2 2 k) 0 (Tm.2 0 k) (Tm.2 1 k) = Tm.2 3 k by omega)]; decide
                  refine y_ic c_180_86 ?_
                  refine y_is3 c_180_87 rfl ?_
                  refine y_inc4 c_180_88 rfl ?_
                  refine y_goto c_180_91 ?_
                  have h9 := ih2 (k + 1) (by omega) (by omega)
                  first
                    | (rw [if_pos e] at h9; exact h9)
                    | (rw [if_neg e] at h9; exact h9)
                · have e : aThose P Tm kd (k + 1) = true := by rw [hth, h1, decide_eq_true (show aCostBy P kd (Tm.2 2 k) 0 (Tm.2 0 k) (Tm.2 1 k) = Tm.2 3 k by omega)]; simp
                  refine y_ic c_180_82 ?_
                  refine y_goto c_180_83 ?_
                  refine y_is3 c_180_87 rfl ?_
                  refine y_inc4 c_180_88 rfl ?_
                  refine y_goto c_180_91 ?_
                  have h9 := ih2 (k + 1) (by omega) (by omega)
                  first
                    | (rw [if_pos e] at h9; exact h9)
                    | (rw [if_neg e] at h9; exact h9)
      refine y_il2 c_180_9 ?_
      refine y_ic c_180_10 ?_
      refine y_ic_ge c_180_11 (by omega) (by omega) (fun h_11 => ?_) (fun h_11 => ?_)
      · have hk : kd = 4 := by omega
        subst hk
        refine y_il1 c_180_114 ?_
        refine y_ret c_180_115 rfl ?_
        exact hQ _ _ ⟨v, rfl, hv⟩ hC0 hF0
      · refine y_ic c_180_14 ?_
        refine y_is3 c_180_15 rfl ?_
        refine y_ic c_180_16 ?_
        refine y_is4 c_180_17 rfl ?_
        exact key2 (by omega) (Tm.1 + 1) 0 (by omega) (by omega)
  refine y_al0 c_180_0 ?_
  refine y_ic c_180_1 ?_
  refine y_pi (j := 0) c_180_2 rfl rfl rfl (by decide) ?_
  have hC0 := MI_thr hC
  have hF0 : ∀ b, b < 106 → (wup M 106 0 0) b = M b := fun b hb => wup_f _ _ _ (by omega)
  generalize (wup M 106 0 0) = M0 at hC0 hF0 ⊢
  obtain ⟨hsd, hT, hM, hR, hL, hTm, hK⟩ := id hC0
  obtain ⟨m4, m6, m8, v1, v2, v3⟩ := id hM
  obtain ⟨a0, a1, a2, a3, a4⟩ := id hR
  refine y_ic c_180_5 ?_
  refine y_is1 c_180_6 rfl ?_
  refine y_ic c_180_7 ?_
  refine y_is2 c_180_8 rfl ?_
  exact key M0 hC0 hF0 5 0 (by omega) (by omega) 0 _ _ (aBm_0 _)
theorem s_184 {v : Int64} (hC : MI x M T P R L Tm sd K) (hA : AOK T P R L Tm K) (hQ : ∀ M', MI (xsd x 106 v) M' T P R L Tm v K → (∀ b, b < 106 → M' b = M b) → Q (some (.long sd)) (xsd x 106 v) M') : yG x M 184 0 [.ref 106, .long v, zU, zU, zU] [] Q := by
  obtain ⟨⟨ht56, ht256⟩, hok, hRk, ⟨hl14, hLk⟩, hTk, hKk⟩ := id hA
  obtain ⟨z1, z2, z3, z4, z5⟩ := aRok_len hok hRk
  have z6 : ∀ y ∈ R.2.2.2, y < 6 := fun y hy => by have := z3 y hy; have := hok.2.2.1; omega
  have hb1 := hok.1
  have hb2 := hok.2.1
  have hb3 := hok.2.2.1
  refine y_al0 c_184_0 ?_
  refine y_ic c_184_1 ?_
  refine y_pi (j := 0) c_184_2 rfl rfl rfl (by decide) ?_
  have hC0 := MI_thr hC
  have hF0 : ∀ b, b < 106 → (wup M 106 0 0) b = M b := fun b hb => wup_f _ _ _ (by omega)
  generalize (wup M 106 0 0) = M0 at hC0 hF0 ⊢
  obtain ⟨hsd, hT, hM, hR, hL, hTm, hK⟩ := id hC0
  obtain ⟨m4, m6, m8, v1, v2, v3⟩ := id hM
  obtain ⟨a0, a1, a2, a3, a4⟩ := id hR
  refine y_al0 c_184_5 ?_
  refine y_gl c_184_6 rfl ?_
  refine y_ls3 c_184_9 rfl ?_
  refine y_al0 c_184_10 ?_
  refine y_ll1 c_184_11 ?_
  refine y_pl c_184_12 rfl rfl wu106 ?_
  refine y_ll3 c_184_15 ?_
  refine y_lret c_184_16 rfl ?_
  rw [hsd]; exact hQ _ (MI_seed hC0 v) hF0
end S28
