/-! ===== the model: weeks, slots ===== -/
theorem aDo_0 (P : aP) (R : aR) (b : Int) : aDo P R 0 b = aSpk P R b := if_pos rfl
theorem aDo_2 (P : aP) (R : aR) {b : Int} (h : 0 < b) : aDo P R 2 b = aLos R b.toNat := by unfold aDo; rw [if_neg (by decide), if_neg (by decide), if_pos rfl, if_pos h]
theorem aWd_lo {P : aP} {R : aR} {d : Nat} (h : d < 16) : aWd P R d = if d / 4 < P.2.1 ∧ d % 4 < P.2.2.1 then ((((d / 4 : Nat) : Int), ((d % 4 : Nat) : Int), aGr P (d / 4), []), false) else (R, false) := by
  unfold aWd
  rw [if_neg (by omega), if_neg (by omega)]
theorem aWd_mi {P : aP} {R : aR} {d : Nat} (h : 16 ≤ d) (h2 : d < 22) : aWd P R d = ((aSpk P R ((d - 16 : Nat) : Int)).getD R, (aSpk P R ((d - 16 : Nat) : Int)).isSome) := by
  unfold aWd
  rw [if_neg (by omega), if_pos (by omega)]
theorem aWd_hi {P : aP} {R : aR} {d : Nat} (h : 22 ≤ d) : aWd P R d = ((aLos R (d - 21)).getD R, false) := by
  unfold aWd
  rw [if_pos (by omega)]
section S29
variable {x : wC} {M : wM} {Q : Option Value → wC → wM → Prop} {T : List Nat} {P : aP} {R : aR} {L : aA} {Tm : aT} {sd : Int64} {K : Nat → Option aR}
variable {R2 : aR}
theorem s_185 {z : Int} (f : Int64 → Int64) (dz : Int64 → Nat) (hf : ∀ s : Int64, s * lI ((6364136223846793005 : Nat) : Int) + lI ((1442695040888963407 : Nat) : Int) = f s) (hdz : ∀ s : Int64, ((s.toUInt64 >>> ((iI 33).toInt64.toUInt64 &&& Int64.toUInt64 63)).toInt64 - (s.toUInt64 >>> ((iI 33).toInt64.toUInt64 &&& Int64.toUInt64 63)).toInt64 / lI ((28 : Nat) : Int) * lI ((28 : Nat) : Int)).toInt32 = iI (dz s : Int)) (hlt : ∀ s, dz s < 28) (hC : MI x M T P R L Tm sd K) (hA : AOK T P R L Tm K) (hz : wR z) (hQ : ∀ x' M', x'.2 = x.2 → (∀ b, b ≠ 106 → x'.1 b = x.1 b) → MI x' M' T P R L Tm (aWeeks f dz P R sd z).2 K → (∀ b, b < 106 → M' b = M b) → Q (some (.int (iI (aWeeks f dz P R sd z).1))) x' M') : yG x M 185 0 [.ref 106, .int (iI z), zU, zU, zU] [] Q := by
  obtain ⟨⟨ht56, ht256⟩, hok, hRk, ⟨hl14, hLk⟩, hTk, hKk⟩ := id hA
  obtain ⟨z1, z2, z3, z4, z5⟩ := aRok_len hok hRk
  have z6 : ∀ y ∈ R.2.2.2, y < 6 := fun y hy => by have := z3 y hy; have := hok.2.2.1; omega
  have hb1 := hok.1
  have hb2 := hok.2.1
  have hb3 := hok.2.2.1
  unfold aWeeks at hQ
  have key : ∀ M0 : wM, (∀ b, b < 106 → M0 b = M b) → ∀ m : Nat, z = m → 1 ≤ m → m ≤ 30 → ∀ d k : Nat, m < k + d → k ≤ m → ∀ (x1 : wC) (M1 : wM) (t : Int64 × aR × Nat) (w4 : Value), x1.2 = x.2 → (∀ b, b ≠ 106 → x1.1 b = x.1 b) → t = aWks f dz P (sd, R, 0) k → MI x1 M1 T P R L Tm t.1 K → wpage M1 115 t.2.1 → aRok P t.2.1 → t.2.2 ≤ k → (∀ b, b ≠ 115 → M1 b = M0 b) → yG x1 M1 185 28 [.ref 106, .int (iI (m : Int)), .int (iI (t.2.2 : Int)), .int (iI (k : Int)), w4] [] Q := by
    intro M0 hF0 m hzm hm1 hm30 d
    induction d with
    | zero => intro k g1 g2; omega
    | succ d ih =>
      intro k g1 g2 x1 M1 t w4 hx2 hx1 ht hC1 hR2 hRk2 htk hF1
      have hsd1 : x1.1 106 = t.1 := hC1.1
      refine y_il3 c_185_28 ?_
      refine y_il1 c_185_29 ?_
      refine y_ic_ge c_185_30 (by omega) (by omega) (fun h_30 => ?_) (fun h_30 => ?_)
      · have hk : k = m := by omega
        subst hk
        refine y_il2 c_185_171 ?_
        refine y_ret c_185_172 rfl ?_
        rw [if_pos (by omega), hzm, Int.toNat_natCast, ← ht] at hQ; exact hQ x1 M1 hx2 hx1 hC1 (fun b hb => by rw [hF1 b (by omega), hF0 b hb])
      · refine y_al0 c_185_33 ?_
        refine y_al0 c_185_34 ?_
        refine y_gl c_185_35 rfl ?_
        refine y_ldc2 c_185_38 ?_
        refine y_lmul c_185_41 ?_
        refine y_ldc2 c_185_42 ?_
        refine y_ladd c_185_45 ?_
        rw [hf, hsd1]
        refine y_pl c_185_46 rfl rfl wu106 ?_
        have hCx : MI (xsd x1 106 (f t.1)) M1 T P R L Tm (f t.1) K := MI_seed hC1 _
        have hxs : (xsd x1 106 (f t.1)).1 106 = f t.1 := rfl
        have hxr : (xsd x1 106 (f t.1)).2 = x.2 := hx2
        have hxo : ∀ b, b ≠ 106 → (xsd x1 106 (f t.1)).1 b = x.1 b := fun b hb => by unfold xsd; simp only [hb, if_false]; exact hx1 b hb
        generalize xsd x1 106 (f t.1) = x3 at hCx hxs hxr hxo ⊢
        refine y_al0 c_185_49 ?_
        refine y_gl c_185_50 rfl ?_
        rw [hxs]
        refine y_bi c_185_53 (by decide) ?_
        refine y_lushr c_185_55 ?_
        refine y_ldc2 c_185_56 ?_
        refine y_lrem c_185_59 (by decide) ?_
        refine y_l2i c_185_60 ?_
        rw [hdz]
        have hd28 := hlt (f t.1)
        have hr3 := aWk1_r f dz P t
        have hs3 := aWk1_s f dz P t
        have hn3 := aWk1_n f dz P t
        have ht3 := aWks_s f dz P (sd, R, 0) k
        rw [← ht] at ht3
        have hok3 := aWd_ok (d := dz (f t.1)) hok hRk2
        generalize dz (f t.1) = dd at hd28 hr3 hn3 hok3 ⊢
        have hlo := @aWd_lo P t.2.1 dd
        have hmi := @aWd_mi P t.2.1 dd
        have hhi := @aWd_hi P t.2.1 dd
        generalize aWd P t.2.1 dd = wd at hr3 hn3 hok3 hlo hmi hhi
        generalize aWk1 f dz P t = t3 at hr3 hs3 hn3 ht3
        have nx : ∀ (M2 : wM) (R3 : aR) (n : Nat), wpage M2 115 R3 → (∀ b, b ≠ 115 → M2 b = M1 b) → R3 = wd.1 → n = t.2.2 + (if wd.2 = true ∧ aStage P wd.1.2.2.2 = 3 then 1 else 0) → ∀ w4 : Value, yG x3 M2 185 165 [.ref 106, .int (iI (m : Int)), .int (iI (n : Int)), .int (iI (k : Int)), w4] [] Q := by
          intro M2 R3 n hR3 hf2 e1 e2 w4
          subst e1
          rw [← hn3] at e2
          subst e2
          rw [← hr3] at hR3 hok3
          refine y_inc3 c_185_165 rfl ?_
          refine y_goto c_185_168 ?_
          exact ih (k + 1) (by omega) (by omega) x3 M2 t3 _ hxr hxo ht3.symm (by rw [hs3]; exact MI_of hCx ⟨fun j _ => by rw [hf2 106 (by omega)], fun b hb => hf2 b (by omega)⟩) hR3 hok3 (by rw [hn3]; split <;> omega) (fun b hb => by rw [hf2 b hb, hF1 b hb])
        have hM := hCx.2.2.1
        obtain ⟨y1, y2, y3, y4, y5⟩ := aRok_len hok hRk2
        refine y_is4 c_185_61 rfl ?_
        refine y_il4 c_185_63 ?_
        refine y_bi c_185_65 (by decide) ?_
        refine y_ic_ge c_185_67 (by omega) (by omega) (fun h1 => ?_) (fun h1 => ?_)
        · refine y_il4 c_185_111 ?_
          refine y_bi c_185_113 (by decide) ?_
          refine y_ic_ge c_185_115 (by omega) (by omega) (fun h2 => ?_) (fun h2 => ?_)
          · replace hhi := hhi (by omega)
            refine y_al0 c_185_154 ?_
            refine y_ic c_185_155 ?_
            refine y_il4 c_185_156 ?_
            refine y_bi c_185_158 (by decide) ?_
            refine y_sub c_185_160 ?_
            rw [show ((dd : Int) - 21) = ((dd - 21 : Nat) : Int) by omega]
            refine k_171 c_185_161 rfl rfl (Nat.le_of_ble_eq_true rfl) ?_
            refine s_171 hM hok hR2 hRk2 (by decide) (by omega) (by omega) (fun hno M2 hR3 hf2 => ?_) (fun R3 hyes M2 hR3 hf2 => ?_)
            · rw [aDo_2 _ _ (by omega), Int.toNat_natCast] at hno
              rw [hno] at hhi
              refine y_pop c_185_164 rfl ?_
              exact nx M2 _ t.2.2 hR3 hf2 (by rw [hhi]; rfl) (by rw [hhi]; simp) _
            · rw [aDo_2 _ _ (by omega), Int.toNat_natCast] at hyes
              rw [hyes] at hhi
              refine y_pop c_185_164 rfl ?_
              exact nx M2 _ t.2.2 hR3 hf2 (by rw [hhi]; rfl) (by rw [hhi]; simp) _
          · replace hmi := hmi (by omega) (by omega)
            refine y_il2 c_185_118 ?_
            refine y_al0 c_185_119 ?_
            refine y_ic c_185_120 ?_
            refine y_il4 c_185_121 ?_
            refine y_bi c_185_123 (by decide) ?_
            refine y_sub c_185_125 ?_
            rw [show ((dd : Int) - 16) = ((dd - 16 : Nat) : Int) by omega]
            refine k_171 c_185_126 rfl rfl (Nat.le_of_ble_eq_true rfl) ?_
            refine s_171 hM hok hR2 hRk2 (by decide) (by omega) (by omega) (fun hno M2 hR3 hf2 => ?_) (fun R3 hyes M2 hR3 hf2 => ?_)
            · rw [aDo_0] at hno
              rw [hno] at hmi
              refine y_iz_eq c_185_129 (by decide) (fun _ => ?_) (fun h => absurd rfl h)
              refine y_ic c_185_148 ?_
              refine y_add c_185_149 ?_
              rw [Int.add_zero]
              refine y_is2 c_185_150 rfl ?_
              refine y_goto c_185_151 ?_
              exact nx M2 _ t.2.2 hR3 hf2 (by rw [hmi]; rfl) (by rw [hmi]; simp) _
            · rw [aDo_0] at hyes
              rw [hyes] at hmi
              have hok9 : aRok P R3 := aSpk_ok hRk2 hyes
              obtain ⟨u1, u2, u3, u4, u5⟩ := aRok_len hok hok9
              have hM2 := mport_pg (a := 115) (by decide) hM hf2
              refine y_iz_eq c_185_129 (by decide) (fun h => absurd h (by decide)) (fun _ => ?_)
              refine y_al0 c_185_132 ?_
              refine y_al0 c_185_133 ?_
              refine y_gr 115 c_185_134 rfl (by omega) ?_
              refine y_ic c_185_137 ?_
              refine k_140 c_185_138 rfl rfl (Nat.le_of_ble_eq_true rfl) ?_
              refine s_140 (lost := 0) rfl hR3 u2 hM2 hok u3 (by decide) ?_
              rw [aStL_0 P _ _ (Nat.le_refl _), List.take_length]
              refine y_pz_eq c_185_141 (fun h4 => ?_) (fun h4 => ?_)
              · refine y_ic c_185_148 ?_
                refine y_add c_185_149 ?_
                first
                  | rw [Int.add_zero]
                  | rw [show ((t.2.2 : Int) + 1) = ((t.2.2 + 1 : Nat) : Int) by omega]
                refine y_is2 c_185_150 rfl ?_
                refine y_goto c_185_151 ?_
                first
                  | exact nx M2 _ (t.2.2 + 1) hR3 hf2 (by rw [hmi]; rfl) (by rw [hmi]; simp [h4]) _
                  | exact nx M2 _ t.2.2 hR3 hf2 (by rw [hmi]; rfl) (by rw [hmi]; simp [h4]) _
              · refine y_ic c_185_144 ?_
                refine y_goto c_185_145 ?_
                refine y_add c_185_149 ?_
                first
                  | rw [Int.add_zero]
                  | rw [show ((t.2.2 : Int) + 1) = ((t.2.2 + 1 : Nat) : Int) by omega]
                refine y_is2 c_185_150 rfl ?_
                refine y_goto c_185_151 ?_
                first
                  | exact nx M2 _ (t.2.2 + 1) hR3 hf2 (by rw [hmi]; rfl) (by rw [hmi]; simp [h4]) _
                  | exact nx M2 _ t.2.2 hR3 hf2 (by rw [hmi]; rfl) (by rw [hmi]; simp [h4]) _
        · replace hlo := hlo (by omega)
          have hd4 : ((dd : Int) / 4) = ((dd / 4 : Nat) : Int) := by omega
          have hm4 : ((dd : Int) % 4) = ((dd % 4 : Nat) : Int) := by omega
          refine y_al0 c_185_70 ?_
          refine y_il4 c_185_71 ?_
          refine y_ic c_185_73 ?_
          refine y_div c_185_74 (by omega) (by omega) (by omega) (by omega) ?_
          rw [hd4]
          refine k_121 c_185_75 rfl rfl (Nat.le_of_ble_eq_true rfl) ?_
          refine s_121 hM hok (by omega) ?_
          refine y_pz_ne c_185_78 (fun h2 => ?_) (fun h2 => ?_)
          · first
              | exact nx M2 _ t.2.2 hR3 hf2 (by rw [hlo]) (by rw [hlo]; simp) _
              | (rw [if_neg (by omega)] at hlo
                 exact nx M1 _ t.2.2 hR2 (fun b _ => rfl) (by rw [hlo]) (by rw [hlo]; simp) _)
          · refine y_al0 c_185_81 ?_
            refine y_il4 c_185_82 ?_
            refine y_ic c_185_84 ?_
            refine y_rem c_185_85 (by omega) (by omega) (by omega) (by omega) ?_
            rw [hm4]
            refine k_122 c_185_86 rfl rfl (Nat.le_of_ble_eq_true rfl) ?_
            refine s_122 hM hok (by omega) ?_
            refine y_pz_ne c_185_89 (fun h3 => ?_) (fun h3 => ?_)
            · first
                | exact nx M2 _ t.2.2 hR3 hf2 (by rw [hlo]) (by rw [hlo]; simp) _
                | (rw [if_neg (by omega)] at hlo
                   exact nx M1 _ t.2.2 hR2 (fun b _ => rfl) (by rw [hlo]) (by rw [hlo]; simp) _)
            · refine y_al0 c_185_92 ?_
              refine y_al0 c_185_93 ?_
              refine y_gr 115 c_185_94 rfl (by omega) ?_
              refine y_il4 c_185_97 ?_
              refine y_ic c_185_99 ?_
              refine y_div c_185_100 (by omega) (by omega) (by omega) (by omega) ?_
              rw [hd4]
              refine y_il4 c_185_101 ?_
              refine y_ic c_185_103 ?_
              refine y_rem c_185_104 (by omega) (by omega) (by omega) (by omega) ?_
              rw [hm4]
              refine k_149 c_185_105 rfl rfl (Nat.le_of_ble_eq_true rfl) ?_
              rw [if_pos (by omega)] at hlo
              refine s_149 rfl (by decide) hM hok (by omega) (by omega) (fun M2 hR3 hf2 => ?_)
              refine y_goto c_185_108 ?_
              first
                | exact nx M2 _ t.2.2 hR3 hf2 (by rw [hlo]) (by rw [hlo]; simp) _
                | (rw [if_neg (by omega)] at hlo
                   exact nx M1 _ t.2.2 hR2 (fun b _ => rfl) (by rw [hlo]) (by rw [hlo]; simp) _)
  refine y_al0 c_185_0 ?_
  refine y_ic c_185_1 ?_
  refine y_pi (j := 0) c_185_2 rfl rfl rfl (by decide) ?_
  have hC0 := MI_thr hC
  have hF0 : ∀ b, b < 106 → (wup M 106 0 0) b = M b := fun b hb => wup_f _ _ _ (by omega)
  generalize (wup M 106 0 0) = M0 at hC0 hF0 ⊢
  obtain ⟨hsd, hT, hM, hR, hL, hTm, hK⟩ := id hC0
  obtain ⟨m4, m6, m8, v1, v2, v3⟩ := id hM
  obtain ⟨a0, a1, a2, a3, a4⟩ := id hR
  refine y_il1 c_185_5 ?_
  refine y_i2l c_185_6 (by omega) ?_
  refine y_lc (z := 1) c_185_7 rfl ?_
  refine y_ldc2 c_185_8 ?_
  refine k_117 c_185_11 rfl (Nat.le_of_ble_eq_true rfl) ?_
  refine s_117 hz (by decide) (by decide) ?_
  refine y_pz_ne c_185_14 (fun h1 => ?_) (fun h1 => ?_)
  · obtain ⟨m, rfl⟩ : ∃ n : Nat, z = n := ⟨z.toNat, by omega⟩
    refine y_al0 c_185_20 ?_
    refine k_160 c_185_21 rfl rfl (Nat.le_of_ble_eq_true rfl) ?_
    refine s_160 hC0 hA (fun M1 hR1 hf1 => ?_)
    refine y_ic c_185_24 ?_
    refine y_is2 c_185_25 rfl ?_
    refine y_ic c_185_26 ?_
    refine y_is3 c_185_27 rfl ?_
    exact key M0 hF0 m rfl (by omega) (by omega) (m + 1) 0 (by omega) (by omega) x M1 (sd, R, 0) _ rfl (fun b hb => rfl) rfl (MI_of hC0 ⟨fun j _ => by rw [hf1 106 (by omega)], fun b hb => hf1 b (by omega)⟩) hR1 hRk (Nat.le_refl 0) hf1
  · refine y_bi c_185_17 (by decide) ?_
    refine y_ret c_185_19 rfl ?_
    rw [if_neg (by omega)] at hQ; exact hQ x _ rfl (fun b hb => rfl) hC0 hF0
end S29
