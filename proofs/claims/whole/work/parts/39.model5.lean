/-! ===== the model: judge ===== -/
section S27
variable {x : wC} {M : wM} {Q : Option Value → wC → wM → Prop} {T : List Nat} {P : aP} {R : aR} {L : aA} {Tm : aT} {sd : Int64} {K : Nat → Option aR}
variable {R2 : aR}
theorem s_171 {a b : Int} (hM : mport M P) (hok : aPok P) (hR : wpage M 115 R2) (hRk : aRok P R2) (ha : wR a) (hb : 0 ≤ b) (hb9 : b ≤ 9)
    (hQ0 : aDo P R2 a b = none → ∀ M', wpage M' 115 R2 → (∀ b, b ≠ 115 → M' b = M b) → Q (some (.int (iI 0))) x M') (hQ1 : ∀ R', aDo P R2 a b = some R' → ∀ M', wpage M' 115 R' → (∀ b, b ≠ 115 → M' b = M b) → Q (some (.int (iI 1))) x M') : yG x M 171 0 [.ref 106, .int (iI a), .int (iI b), zU] [] Q := by
  obtain ⟨a0, a1, a2, a3, a4⟩ := id hR
  obtain ⟨z1, z2, z3, z4, z5⟩ := aRok_len hok hRk
  have z6 : ∀ y ∈ R2.2.2.2, y < 6 := fun y hy => by have := z3 y hy; have := hok.2.2.1; omega
  have hpz : aPz P R2 ≤ 1 := by unfold aPz; split <;> omega
  have fr : ∀ b, b ≠ 115 → M b = M b := fun b _ => rfl
  refine y_il1 c_171_0 ?_
  refine y_iz_ne c_171_1 (by omega) (fun h0 => ?_) (fun h0 => ?_)
  · refine y_il1 c_171_45 ?_
    refine y_ic c_171_46 ?_
    refine y_ic_ne c_171_47 (by omega) (by omega) (fun h1 => ?_) (fun h1 => ?_)
    · refine y_il1 c_171_100 ?_
      refine y_ic c_171_101 ?_
      refine y_ic_ne c_171_102 (by omega) (by omega) (fun h2 => ?_) (fun h2 => ?_)
      · refine y_il1 c_171_139 ?_
        refine y_ic c_171_140 ?_
        refine y_ic_ne c_171_141 (by omega) (by omega) (fun h3 => ?_) (fun h3 => ?_)
        · refine y_il1 c_171_168 ?_
          refine y_ic c_171_169 ?_
          refine y_ic_ne c_171_170 (by omega) (by omega) (fun h4 => ?_) (fun h4 => ?_)
          · have e : aDo P R2 a b = none := by unfold aDo; rw [if_neg (by omega), if_neg (by omega), if_neg (by omega), if_neg (by omega), if_neg (by omega)]
            refine y_ic c_171_189 ?_
            refine y_zret c_171_190 rfl (by decide) ?_
            first
              | exact hQ0 e M hR fr
              | exact hQ1 _ e M hR fr
          · obtain rfl : a = 4 := by omega
            have e : aDo P R2 4 b = if b ≤ aWarm P R2.2.2.2 then some R2 else none := by unfold aDo; rw [if_neg (by decide), if_neg (by decide), if_neg (by decide), if_neg (by decide), if_pos rfl]
            refine y_al0 c_171_173 ?_
            refine y_al0 c_171_174 ?_
            refine y_gr 115 c_171_175 rfl (by omega) ?_
            refine k_139 c_171_178 rfl rfl (Nat.le_of_ble_eq_true rfl) ?_
            refine s_139 rfl hR z2 hM hok z3 ?_
            have hwl : aWarm P R2.2.2.2 < 2147483648 := aWarm_lt hok z3 z2
            refine y_il2 c_171_181 ?_
            refine y_ic_lt c_171_182 (by omega) (by omega) (fun h5 => ?_) (fun h5 => ?_)
            · rw [if_neg (by omega)] at e
              refine y_ic c_171_189 ?_
              refine y_zret c_171_190 rfl (by decide) ?_
              first
                | exact hQ0 e M hR fr
                | exact hQ1 _ e M hR fr
            · rw [if_pos (by omega)] at e
              refine y_ic c_171_185 ?_
              refine y_goto c_171_186 ?_
              refine y_zret c_171_190 rfl (by decide) ?_
              first
                | exact hQ0 e M hR fr
                | exact hQ1 _ e M hR fr
        · obtain rfl : a = 3 := by omega
          have e : aDo P R2 3 b = if b = 0 ∧ aStage P R2.2.2.2 = 3 then some R2 else none := by unfold aDo; rw [if_neg (by decide), if_neg (by decide), if_neg (by decide), if_pos rfl]
          refine y_il2 c_171_144 ?_
          refine y_iz_ne c_171_145 (by omega) (fun h4 => ?_) (fun h4 => ?_)
          · rw [if_neg (fun h => h4 h.1)] at e
            refine y_ic c_171_164 ?_
            refine y_goto c_171_165 ?_
            refine y_zret c_171_190 rfl (by decide) ?_
            first
              | exact hQ0 e M hR fr
              | exact hQ1 _ e M hR fr
          · refine y_al0 c_171_148 ?_
            refine y_al0 c_171_149 ?_
            refine y_gr 115 c_171_150 rfl (by omega) ?_
            refine y_ic c_171_153 ?_
            refine k_140 c_171_154 rfl rfl (Nat.le_of_ble_eq_true rfl) ?_
            refine s_140 (lost := 0) rfl hR z2 hM hok z3 (by decide) ?_
            rw [aStL_0 P _ _ (Nat.le_refl _), List.take_length]
            refine y_pz_eq c_171_157 (fun h5 => ?_) (fun h5 => ?_)
            · rw [if_neg (fun h => h5 h.2)] at e
              refine y_ic c_171_164 ?_
              refine y_goto c_171_165 ?_
              refine y_zret c_171_190 rfl (by decide) ?_
              first
                | exact hQ0 e M hR fr
                | exact hQ1 _ e M hR fr
            · rw [if_pos ⟨h4, h5⟩] at e
              refine y_ic c_171_160 ?_
              refine y_goto c_171_161 ?_
              refine y_zret c_171_190 rfl (by decide) ?_
              first
                | exact hQ0 e M hR fr
                | exact hQ1 _ e M hR fr
      · obtain rfl : a = 2 := by omega
        refine y_il2 c_171_105 ?_
        refine y_iz_le c_171_106 (by omega) (fun h3 => ?_) (fun h3 => ?_)
        · have e : aDo P R2 2 b = none := by unfold aDo; rw [if_neg (by decide), if_neg (by decide), if_pos rfl, if_neg (by omega)]
          refine y_ic c_171_123 ?_
          refine y_is3 c_171_124 rfl ?_
          refine y_il3 c_171_125 ?_
          refine y_iz_eq c_171_126 (by omega) (fun h_126 => ?_) (fun h_126 => absurd h_126 (by decide))
          refine y_il3 c_171_137 ?_
          refine y_zret c_171_138 rfl (by decide) ?_
          exact hQ0 e M hR fr
        · obtain ⟨n, rfl⟩ : ∃ n : Nat, b = n := ⟨b.toNat, by omega⟩
          have e : aDo P R2 2 (n : Int) = aLos R2 n := by unfold aDo; rw [if_neg (by decide), if_neg (by decide), if_pos rfl, if_pos h3, Int.toNat_natCast]
          rw [e] at hQ0 hQ1
          refine y_al0 c_171_109 ?_
          refine y_gr 115 c_171_110 rfl (by omega) ?_
          refine k_156 c_171_113 rfl (Nat.le_of_ble_eq_true rfl) ?_
          refine s_156 rfl hR (fun hno => ?_) (fun hyes => ?_)
          · have e2 : aLos R2 n = none := if_neg hno
            refine y_iz_eq c_171_116 (by decide) (fun _ => ?_) (fun h => absurd rfl h)
            refine y_ic c_171_123 ?_
            refine y_is3 c_171_124 rfl ?_
            refine y_il3 c_171_125 ?_
            refine y_iz_eq c_171_126 (by omega) (fun h_126 => ?_) (fun h_126 => absurd h_126 (by decide))
            refine y_il3 c_171_137 ?_
            refine y_zret c_171_138 rfl (by decide) ?_
            exact hQ0 e2 M hR fr
          · have e2 : aLos R2 n = some (R2.1, R2.2.1, R2.2.2.1 - n, R2.2.2.2) := if_pos hyes
            refine y_iz_eq c_171_116 (by decide) (fun h => absurd h (by decide)) (fun _ => ?_)
            refine y_ic c_171_119 ?_
            refine y_goto c_171_120 ?_
            refine y_is3 c_171_124 rfl ?_
            refine y_il3 c_171_125 ?_
            refine y_iz_eq c_171_126 (by omega) (fun h_126 => absurd h_126 (by decide)) (fun h_126 => ?_)
            refine y_al0 c_171_129 ?_
            refine y_gr 115 c_171_130 rfl (by omega) ?_
            refine y_il2 c_171_133 ?_
            refine k_157 c_171_134 rfl (Nat.le_of_ble_eq_true rfl) ?_
            refine s_157 rfl hR z4 (by omega) (fun M2 hR3 hf2 => ?_)
            refine y_il3 c_171_137 ?_
            refine y_zret c_171_138 rfl (by decide) ?_
            exact hQ1 _ e2 M2 hR3 hf2
    · obtain rfl : a = 1 := by omega
      refine y_il2 c_171_50 ?_
      refine y_iz_le c_171_51 (by omega) (fun h2 => ?_) (fun h2 => ?_)
      · obtain rfl : b = 0 := by omega
        have e : aDo P R2 1 0 = aRst P R2 := by unfold aDo; rw [if_neg (by decide), if_pos rfl, if_pos rfl]
        rw [e] at hQ0 hQ1
        refine y_al0 c_171_59 ?_
        refine y_al0 c_171_60 ?_
        refine y_gr 115 c_171_61 rfl (by omega) ?_
        refine k_154 c_171_64 rfl rfl (Nat.le_of_ble_eq_true rfl) ?_
        refine s_154 rfl (by decide) hM hok hR hRk ?_
        by_cases hno : R2.1 ≠ -9 ∧ aPz P R2 ≤ R2.2.2.1
        · have e2 : aRst P R2 = some (R2.1, R2.2.1, R2.2.2.1 - aPz P R2, R2.2.2.2) := by unfold aRst; exact if_pos hno
          rw [show aPof P R2 = (aPz P R2 : Int) by unfold aPof; rw [if_neg hno.1, if_pos hno.2]]
          refine y_is3 c_171_67 rfl ?_
          refine y_al0 c_171_68 ?_
          refine y_gr 115 c_171_69 rfl (by omega) ?_
          refine y_ic c_171_72 ?_
          refine y_dup2 c_171_73 rfl rfl ?_
          refine y_ald (n := 10) (u := (R2.2.2.1 : Int)) c_171_74 rfl (by omega) (by omega) (by omega) a2 (fun r_74 => ?_)
          refine y_il3 c_171_75 ?_
          refine y_bi c_171_76 (by decide) ?_
          refine y_ic_ne c_171_78 (by omega) (by omega) (fun h_78 => ?_) (fun h_78 => absurd h_78 (by omega))
          refine y_il3 c_171_85 ?_
          refine y_sub c_171_86 ?_
          refine y_ast (n := 10) c_171_87 rfl (by omega) (by omega) (by omega) (by omega) ?_
          refine y_il3 c_171_88 ?_
          refine y_bi c_171_89 (by decide) ?_
          refine y_ic_eq c_171_91 (by omega) (by omega) (fun h_91 => absurd h_91 (by omega)) (fun h_91 => ?_)
          refine y_ic c_171_94 ?_
          refine y_goto c_171_95 ?_
          refine y_zret c_171_99 rfl (by decide) ?_
          refine hQ1 _ e2 _ ⟨by rw [wup_k _ _ (by decide)]; exact a0, by rw [wup_k _ _ (by decide)]; exact a1, ?_, by rw [wup_k _ _ (by decide)]; exact a3, fun i hi => by rw [wup_k _ _ (by omega)]; exact a4 i hi⟩ (fun b hb => wup_f _ _ _ hb)
          rw [wup_s]; show _ = ((R2.2.2.1 - aPz P R2 : Nat) : Int); omega
        · have e2 : aRst P R2 = none := by unfold aRst; exact if_neg hno
          rw [show aPof P R2 = -9 by unfold aPof; split <;> (try split) <;> omega]
          refine y_is3 c_171_67 rfl ?_
          refine y_al0 c_171_68 ?_
          refine y_gr 115 c_171_69 rfl (by omega) ?_
          refine y_ic c_171_72 ?_
          refine y_dup2 c_171_73 rfl rfl ?_
          refine y_ald (n := 10) (u := (R2.2.2.1 : Int)) c_171_74 rfl (by omega) (by omega) (by omega) a2 (fun r_74 => ?_)
          refine y_il3 c_171_75 ?_
          refine y_bi c_171_76 (by decide) ?_
          refine y_ic_ne c_171_78 (by omega) (by omega) (fun h_78 => absurd h_78 (by decide)) (fun h_78 => ?_)
          refine y_ic c_171_81 ?_
          refine y_goto c_171_82 ?_
          refine y_sub c_171_86 ?_
          refine y_ast (n := 10) c_171_87 rfl (by omega) (by omega) (by omega) (by omega) ?_
          refine y_il3 c_171_88 ?_
          refine y_bi c_171_89 (by decide) ?_
          refine y_ic_eq c_171_91 (by omega) (by omega) (fun h_91 => ?_) (fun h_91 => absurd h_91 (by decide))
          refine y_ic c_171_98 ?_
          refine y_zret c_171_99 rfl (by decide) ?_
          refine hQ0 e2 _ ⟨by rw [wup_k _ _ (by decide)]; exact a0, by rw [wup_k _ _ (by decide)]; exact a1, ?_, by rw [wup_k _ _ (by decide)]; exact a3, fun i hi => by rw [wup_k _ _ (by omega)]; exact a4 i hi⟩ (fun b hb => wup_f _ _ _ hb)
          rw [wup_s]; omega
      · have e : aDo P R2 1 b = none := by unfold aDo; rw [if_neg (by decide), if_pos rfl, if_neg (by omega)]
        refine y_bi c_171_54 (by decide) ?_
        refine y_goto c_171_56 ?_
        refine y_is3 c_171_67 rfl ?_
        refine y_al0 c_171_68 ?_
        refine y_gr 115 c_171_69 rfl (by omega) ?_
        refine y_ic c_171_72 ?_
        refine y_dup2 c_171_73 rfl rfl ?_
        refine y_ald (n := 10) (u := (R2.2.2.1 : Int)) c_171_74 rfl (by omega) (by omega) (by omega) a2 (fun r_74 => ?_)
        refine y_il3 c_171_75 ?_
        refine y_bi c_171_76 (by decide) ?_
        refine y_ic_ne c_171_78 (by omega) (by omega) (fun h_78 => absurd h_78 (by decide)) (fun h_78 => ?_)
        refine y_ic c_171_81 ?_
        refine y_goto c_171_82 ?_
        refine y_sub c_171_86 ?_
        refine y_ast (n := 10) c_171_87 rfl (by omega) (by omega) (by omega) (by omega) ?_
        refine y_il3 c_171_88 ?_
        refine y_bi c_171_89 (by decide) ?_
        refine y_ic_eq c_171_91 (by omega) (by omega) (fun h_91 => ?_) (fun h_91 => absurd h_91 (by decide))
        refine y_ic c_171_98 ?_
        refine y_zret c_171_99 rfl (by decide) ?_
        refine hQ0 e _ ⟨by rw [wup_k _ _ (by decide)]; exact a0, by rw [wup_k _ _ (by decide)]; exact a1, ?_, by rw [wup_k _ _ (by decide)]; exact a3, fun i hi => by rw [wup_k _ _ (by omega)]; exact a4 i hi⟩ (fun b hb => wup_f _ _ _ hb)
        rw [wup_s]; omega
  · obtain rfl : a = 0 := by omega
    have e : aDo P R2 0 b = aSpk P R2 b := if_pos rfl
    rw [e] at hQ0 hQ1
    refine y_al0 c_171_4 ?_
    refine y_il2 c_171_5 ?_
    refine k_123 c_171_6 rfl rfl (Nat.le_of_ble_eq_true rfl) ?_
    refine s_123 hM hok (by omega) ?_
    refine y_pz_ne c_171_9 (fun h1 => ?_) (fun h1 => ?_)
    · have e2 : aSpk P R2 b = none := if_neg (fun h => h1 h.1)
      refine y_ic c_171_28 ?_
      refine y_is3 c_171_29 rfl ?_
      refine y_il3 c_171_30 ?_
      refine y_iz_eq c_171_31 (by omega) (fun h_31 => ?_) (fun h_31 => absurd h_31 (by decide))
      refine y_il3 c_171_43 ?_
      refine y_zret c_171_44 rfl (by decide) ?_
      exact hQ0 e2 M hR fr
    · have h1 : 0 ≤ b ∧ b < P.2.2.2 := by omega
      obtain ⟨y, rfl⟩ : ∃ n : Nat, b = n := ⟨b.toNat, by omega⟩
      have hy : y < P.2.2.2 := by omega
      refine y_al0 c_171_12 ?_
      refine y_al0 c_171_13 ?_
      refine y_gr 115 c_171_14 rfl (by omega) ?_
      refine y_il2 c_171_17 ?_
      refine k_151 c_171_18 rfl rfl (Nat.le_of_ble_eq_true rfl) ?_
      refine s_151 rfl (by decide) hM hok hR hRk hy (fun hno => ?_) (fun hcan => ?_)
      · have e2 : aSpk P R2 (y : Int) = none := if_neg (fun h => hno h.2)
        refine y_iz_eq c_171_21 (by decide) (fun _ => ?_) (fun h => absurd rfl h)
        refine y_ic c_171_28 ?_
        refine y_is3 c_171_29 rfl ?_
        refine y_il3 c_171_30 ?_
        refine y_iz_eq c_171_31 (by omega) (fun h_31 => ?_) (fun h_31 => absurd h_31 (by decide))
        refine y_il3 c_171_43 ?_
        refine y_zret c_171_44 rfl (by decide) ?_
        exact hQ0 e2 M hR fr
      · have e2 : aSpk P R2 (y : Int) = some (aSay P R2 y) := if_pos ⟨h1, hcan⟩
        refine y_iz_eq c_171_21 (by decide) (fun h => absurd h (by decide)) (fun _ => ?_)
        refine y_ic c_171_24 ?_
        refine y_goto c_171_25 ?_
        refine y_is3 c_171_29 rfl ?_
        refine y_il3 c_171_30 ?_
        refine y_iz_eq c_171_31 (by omega) (fun h_31 => absurd h_31 (by decide)) (fun h_31 => ?_)
        refine y_al0 c_171_34 ?_
        refine y_al0 c_171_35 ?_
        refine y_gr 115 c_171_36 rfl (by omega) ?_
        refine y_il2 c_171_39 ?_
        refine k_152 c_171_40 rfl rfl (Nat.le_of_ble_eq_true rfl) ?_
        refine s_152 rfl (by decide) hM hok hR hRk hy hcan (fun M2 hR3 hf2 => ?_)
        refine y_il3 c_171_43 ?_
        refine y_zret c_171_44 rfl (by decide) ?_
        exact hQ1 _ e2 M2 hR3 hf2
theorem s_172 {z w : Int} (hC : MI x M T P R L Tm sd K) (hA : AOK T P R L Tm K) (hz : wR z) (hw : wR w) (hQ : ∀ M', MI x M' T P R L Tm sd K → (∀ b, b < 106 → M' b = M b) → Q (some (.int (iI (aJudge P R z w)))) x M') : yG x M 172 0 [.ref 106, .int (iI z), .int (iI w), zU, zU] [] Q := by
  obtain ⟨⟨ht56, ht256⟩, hok, hRk, ⟨hl14, hLk⟩, hTk, hKk⟩ := id hA
  obtain ⟨z1, z2, z3, z4, z5⟩ := aRok_len hok hRk
  have z6 : ∀ y ∈ R.2.2.2, y < 6 := fun y hy => by have := z3 y hy; have := hok.2.2.1; omega
  have hb1 := hok.1
  have hb2 := hok.2.1
  have hb3 := hok.2.2.1
  unfold aJudge at hQ
  have key : ∀ M0 : wM, MI x M0 T P R L Tm sd K → (∀ b, b < 106 → M0 b = M b) → ∀ n row : Nat, z = n → w = row → n ≤ 4 → row < 100 ^ n → ∀ d k : Nat, n = k + d → ∀ (M1 : wM) (R2 : aR) (w4 : Value), (∀ b, b ≠ 115 → M1 b = M0 b) → wpage M1 115 R2 → aRok P R2 → (∀ M', MI x M' T P R L Tm sd K → (∀ b, b < 106 → M' b = M b) → Q (some (.int (iI (aJg P row n R2 d)))) x M') → yG x M1 172 44 [.ref 106, .int (iI (n : Int)), .int (iI (row : Int)), .int (iI (k : Int)), w4] [] Q := by
    intro M0 hC0 hF0 n row hzn hwn hn4 hrow d
    have hp4 : 100 ^ n ≤ 100 ^ 4 := Nat.pow_le_pow_right (by omega) hn4
    have hfin : ∀ M1 : wM, (∀ b, b ≠ 115 → M1 b = M0 b) → MI x M1 T P R L Tm sd K ∧ ∀ b, b < 106 → M1 b = M b := fun M1 hf1 => ⟨MI_of hC0 ⟨fun j _ => by rw [hf1 106 (by omega)], fun b hb => hf1 b (by omega)⟩, fun b hb => by rw [hf1 b (by omega), hF0 b hb]⟩
    induction d with
    | zero =>
      intro k hk M1 R2 w4 hf1 hR2 hRk2 hQ
      obtain ⟨hC1, hF1⟩ := hfin M1 hf1
      refine y_il3 c_172_44 ?_
      refine y_il1 c_172_45 ?_
      refine y_ic_ge c_172_46 (by omega) (by omega) (fun h_46 => ?_) (fun h_46 => absurd h_46 (by omega))
      refine y_bi c_172_91 (by decide) ?_
      refine y_ret c_172_93 rfl ?_
      exact hQ _ hC1 hF1
    | succ d ih =>
      intro k hk M1 R2 w4 hf1 hR2 hRk2 hQ
      have hp5 : 100 ^ d ≤ 100 ^ 4 := Nat.pow_le_pow_right (by omega) (by omega)
      have hp6 : 0 < 100 ^ d := Nat.pow_pos (by omega)
      have hml : row / 100 ^ d % 100 < 100 := Nat.mod_lt _ (by omega)
      have hle : row / 100 ^ d ≤ row := Nat.div_le_self _ _
      have hdv : (row : Int) / ((100 ^ d : Nat) : Int) = ((row / 100 ^ d : Nat) : Int) := (Int.natCast_ediv _ _).symm
      have hed : n - (d + 1) = k := by omega
      simp only [aJg] at hQ
      rw [hed] at hQ
      refine y_il3 c_172_44 ?_
      refine y_il1 c_172_45 ?_
      refine y_ic_ge c_172_46 (by omega) (by omega) (fun h_46 => absurd h_46 (by omega)) (fun h_46 => ?_)
      refine y_il2 c_172_49 ?_
      refine y_bi c_172_50 (by decide) ?_
      refine y_il1 c_172_52 ?_
      refine y_ic c_172_53 ?_
      refine y_sub c_172_54 ?_
      refine y_il3 c_172_55 ?_
      refine y_sub c_172_56 ?_
      rw [show ((n : Int) - 1 - (k : Int)) = (d : Int) by omega]
      refine k_120 c_172_57 rfl (Nat.le_of_ble_eq_true rfl) ?_
      refine s_120 (b := 100) (by omega) ?_
      refine y_div c_172_60 (by omega) (by omega) (by omega) (by omega) ?_
      rw [hdv]
      have hmv : (((row / 100 ^ d : Nat) : Int) % 100) = ((row / 100 ^ d % 100 : Nat) : Int) := by omega
      generalize row / 100 ^ d = v at hle hmv hml hQ ⊢
      refine y_bi c_172_61 (by decide) ?_
      refine y_rem c_172_63 (by omega) (by omega) (by omega) (by omega) ?_
      rw [hmv]
      generalize v % 100 = t at hml hQ ⊢
      refine y_is4 c_172_64 rfl ?_
      refine y_al0 c_172_66 ?_
      refine y_il4 c_172_67 ?_
      refine y_bi c_172_69 (by decide) ?_
      refine y_div c_172_71 (by omega) (by omega) (by omega) (by omega) ?_
      rw [show ((t : Int) / 10) = ((t / 10 : Nat) : Int) by omega]
      refine y_il4 c_172_72 ?_
      refine y_bi c_172_74 (by decide) ?_
      refine y_rem c_172_76 (by omega) (by omega) (by omega) (by omega) ?_
      rw [show ((t : Int) % 10) = ((t % 10 : Nat) : Int) by omega]
      refine k_171 c_172_77 rfl rfl (Nat.le_of_ble_eq_true rfl) ?_
      refine s_171 (mport_pg (a := 115) (by decide) hC0.2.2.1 hf1) hok hR2 hRk2 (by omega) (by omega) (by omega) (fun hno M2 hR3 hf2 => ?_) (fun R3 hyes M2 hR3 hf2 => ?_)
      · refine y_iz_ne c_172_80 (by decide) (fun h => absurd rfl h) (fun _ => ?_)
        rw [hno] at hQ
        obtain ⟨hC1, hF1⟩ := hfin M2 (fun b hb => by rw [hf2 b hb, hf1 b hb])
        refine y_il3 c_172_83 ?_
        refine y_ret c_172_84 rfl ?_
        exact hQ _ hC1 hF1
      · refine y_iz_ne c_172_80 (by decide) (fun _ => ?_) (fun h => absurd h (by decide))
        rw [hyes] at hQ
        refine y_inc3 c_172_85 rfl ?_
        refine y_goto c_172_88 ?_
        exact ih (k + 1) (by omega) M2 R3 _ (fun b hb => by rw [hf2 b hb, hf1 b hb]) hR3 (aDo_ok hRk2 hyes) hQ
  refine y_al0 c_172_0 ?_
  refine y_ic c_172_1 ?_
  refine y_pi (j := 0) c_172_2 rfl rfl rfl (by decide) ?_
  have hC0 := MI_thr hC
  have hF0 : ∀ b, b < 106 → (wup M 106 0 0) b = M b := fun b hb => wup_f _ _ _ (by omega)
  generalize (wup M 106 0 0) = M0 at hC0 hF0 ⊢
  obtain ⟨hsd, hT, hM, hR, hL, hTm, hK⟩ := id hC0
  obtain ⟨m4, m6, m8, v1, v2, v3⟩ := id hM
  obtain ⟨a0, a1, a2, a3, a4⟩ := id hR
  refine y_il1 c_172_5 ?_
  refine y_i2l c_172_6 (by omega) ?_
  refine y_lc (z := 1) c_172_7 rfl ?_
  refine y_ldc2 c_172_8 ?_
  refine k_117 c_172_11 rfl (Nat.le_of_ble_eq_true rfl) ?_
  refine s_117 hz (by decide) (by decide) ?_
  refine y_pz_eq c_172_14 (fun h1 => ?_) (fun h1 => ?_)
  · refine y_bi c_172_35 (by decide) ?_
    refine y_ret c_172_37 rfl ?_
    rw [if_neg (by omega)] at hQ; exact hQ _ hC0 hF0
  · obtain ⟨n, rfl⟩ : ∃ n : Nat, z = n := ⟨z.toNat, by omega⟩
    have hp4 : 100 ^ n ≤ 100 ^ 4 := Nat.pow_le_pow_right (by omega) (show n ≤ 4 by omega)
    have hp3 : 0 < 100 ^ n := Nat.pow_pos (by omega)
    rw [Int.toNat_natCast] at hQ
    refine y_il2 c_172_17 ?_
    refine y_i2l c_172_18 (by omega) ?_
    refine y_lc (z := 0) c_172_19 rfl ?_
    refine y_bi c_172_20 (by decide) ?_
    refine y_il1 c_172_22 ?_
    refine k_120 c_172_23 rfl (Nat.le_of_ble_eq_true rfl) ?_
    refine s_120 (b := 100) (by omega) ?_
    refine y_ic c_172_26 ?_
    refine y_sub c_172_27 ?_
    refine y_i2l c_172_28 (by omega) ?_
    refine k_117 c_172_29 rfl (Nat.le_of_ble_eq_true rfl) ?_
    refine s_117 hw (by decide) (by omega) ?_
    refine y_pz_ne c_172_32 (fun h2 => ?_) (fun h2 => ?_)
    · refine y_al0 c_172_38 ?_
      refine k_160 c_172_39 rfl rfl (Nat.le_of_ble_eq_true rfl) ?_
      rw [if_pos (by omega)] at hQ
      obtain ⟨row, rfl⟩ : ∃ n : Nat, w = n := ⟨w.toNat, by omega⟩
      rw [Int.toNat_natCast] at hQ
      refine s_160 hC0 hA (fun M1 hR1 hf1 => ?_)
      refine y_ic c_172_42 ?_
      refine y_is3 c_172_43 rfl ?_
      exact key M0 hC0 hF0 n row rfl rfl (by omega) (by omega) n 0 (by omega) M1 R _ hf1 hR1 hRk hQ
    · refine y_bi c_172_35 (by decide) ?_
      refine y_ret c_172_37 rfl ?_
      rw [if_neg (by omega)] at hQ; exact hQ _ hC0 hF0
end S27
