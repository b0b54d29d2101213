/-! ===== LoveGlass: weeks, slots ===== -/
theorem wu0 : ∀ s, wsh[0]? = some (3, 7, s) → ∀ i, i ≠ 10 → s[i]? ≠ some 1 := by
  intro s hs i hi h1
  cases hs
  have : i < 12 := by have h2 := (List.getElem?_eq_some_iff.mp h1).1; exact h2
  rcases (show i = 0 ∨ i = 1 ∨ i = 2 ∨ i = 3 ∨ i = 4 ∨ i = 5 ∨ i = 6 ∨ i = 7 ∨ i = 8 ∨ i = 9 ∨ i = 11 by omega) with rfl | rfl | rfl | rfl | rfl | rfl | rfl | rfl | rfl | rfl | rfl <;> cases h1
section S20
variable {x : wC} {M : wM} {Q : Option Value → wC → wM → Prop} {T : List Nat} {P : aP} {R : aR} {L : aA} {Tm : aT} {sd : Int64} {K : Nat → Option aR}
theorem s_111 {d : Nat} {R2 : aR} (hp : wportS x.2.1) (hp33 : x.2.1 + 14 < 33) (hM : wport M x.2.1 P) (hok : aPok P) (hR2 : wrun M 36 R2) (hRk2 : aRok P R2) (hd : d < 28) (hQ : ∀ M', wrun M' 36 (aWd P R2 d).1 → wfr M M' 36 38 → Q (some (.int (iI (if (aWd P R2 d).2 = true then 1 else 0)))) x M') : yG x M 111 0 [.ref 0, .int (iI (d : Int)), zU, zU] [] Q := by
  obtain ⟨z1, z2, z3, z4, z5⟩ := aRok_len hok hRk2
  obtain ⟨q0, q1, q2, q3, q4, q5, q6, qc, j0, j1, j2, j3, j4, j5, j6, qlt⟩ := id hp
  obtain ⟨⟨n0, n1, n2, n3, n4, n5, n6⟩, v0, v1, v2, v3, v4, v5, v6⟩ := id hM
  have hgl := hok.1
  have hsl := hok.2.1
  have refl : wfr M M 36 38 := fun b _ => rfl
  unfold aWd at hQ
  refine y_il1 c_111_0 ?_
  refine y_bi c_111_1 (by decide) ?_
  refine y_ic_lt c_111_3 (by omega) (by omega) (fun h_3 => ?_) (fun h_3 => ?_)
  · rw [if_neg (by omega)] at hQ
    refine y_il1 c_111_22 ?_
    refine y_bi c_111_23 (by decide) ?_
    refine y_ic_lt c_111_25 (by omega) (by omega) (fun h_25 => ?_) (fun h_25 => ?_)
    · rw [if_neg (by omega)] at hQ
      refine y_il1 c_111_44 ?_
      refine y_ic c_111_45 ?_
      refine y_div c_111_46 (by omega) (by omega) (by omega) (by omega) ?_
      rw [show ((d : Int) / 4) = ((d / 4 : Nat) : Int) by omega]
      refine y_is2 c_111_47 rfl ?_
      refine y_il1 c_111_48 ?_
      refine y_ic c_111_49 ?_
      refine y_rem c_111_50 (by omega) (by omega) (by omega) (by omega) ?_
      rw [show ((d : Int) % 4) = ((d % 4 : Nat) : Int) by omega]
      refine y_is3 c_111_51 rfl ?_
      refine y_al0 c_111_52 ?_
      refine y_gp c_111_53 rfl ?_
      refine y_il2 c_111_56 ?_
      refine k_24 c_111_57 rfl qc (Nat.le_of_ble_eq_true rfl) ?_
      refine s_24 hp (by omega) ?_
      rw [n0]
      refine y_pz_eq c_111_60 (fun h1 => ?_) (fun h1 => ?_)
      · refine y_ic c_111_87 ?_
        refine y_zret c_111_88 rfl (by omega) ?_
        first
          | exact hQ M2 hR3 hf2
          | (rw [if_neg (by omega)] at hQ; exact hQ M hR2 refl)
      · refine y_al0 c_111_63 ?_
        refine y_gp c_111_64 rfl ?_
        refine y_il3 c_111_67 ?_
        refine k_25 c_111_68 rfl qc (Nat.le_of_ble_eq_true rfl) ?_
        refine s_25 hp (by omega) ?_
        rw [n2]
        refine y_pz_eq c_111_71 (fun h2 => ?_) (fun h2 => ?_)
        · refine y_ic c_111_87 ?_
          refine y_zret c_111_88 rfl (by omega) ?_
          first
            | exact hQ M2 hR3 hf2
            | (rw [if_neg (by omega)] at hQ; exact hQ M hR2 refl)
        · rw [if_pos (by omega)] at hQ
          refine y_al0 c_111_74 ?_
          refine y_gr 36 c_111_75 rfl (by omega) ?_
          refine y_al0 c_111_78 ?_
          refine y_gp c_111_79 rfl ?_
          refine y_il2 c_111_82 ?_
          refine y_il3 c_111_83 ?_
          refine k_42 c_111_84 rfl rfl (Nat.le_of_ble_eq_true rfl) ?_
          refine s_42 wrunS_36 hp hM hok (by omega) (by omega) (fun b h1 h2 => by omega) (fun M2 hR3 hf2 => ?_)
          refine y_ic c_111_87 ?_
          refine y_zret c_111_88 rfl (by omega) ?_
          first
            | exact hQ M2 hR3 hf2
            | (rw [if_neg (by omega)] at hQ; exact hQ M hR2 refl)
    · rw [if_pos (by omega)] at hQ
      refine y_al0 c_111_28 ?_
      refine y_gr 36 c_111_29 rfl (by omega) ?_
      refine y_al0 c_111_32 ?_
      refine y_gp c_111_33 rfl ?_
      refine y_il1 c_111_36 ?_
      refine y_bi c_111_37 (by decide) ?_
      refine y_sub c_111_39 ?_
      rw [show ((d : Int) - 16) = ((d - 16 : Nat) : Int) by omega]
      refine k_51 c_111_40 rfl rfl (Nat.le_of_ble_eq_true rfl) ?_
      refine s_51 wrunS_36 hR2 hp hM hok hRk2 (by omega) (fun b h1 h2 => by omega) (fun hno => ?_) (fun y e2 hlt hcan M2 hR3 hf2 => ?_)
      · have e : aSpk P R2 ((d - 16 : Nat) : Int) = none := if_neg (fun h => hno (d - 16) rfl (by omega) (by have h9 := h.2; rw [Int.toNat_natCast] at h9; exact h9))
        rw [e] at hQ
        refine y_zret c_111_43 rfl (by decide) ?_
        exact hQ M hR2 refl
      · obtain rfl : d - 16 = y := by omega
        have e : aSpk P R2 ((d - 16 : Nat) : Int) = some (aSay P R2 (d - 16)) := if_pos ⟨by omega, by rw [Int.toNat_natCast]; exact hcan⟩
        rw [e] at hQ
        refine y_zret c_111_43 rfl (by decide) ?_
        exact hQ M2 hR3 hf2
  · rw [if_pos (by omega)] at hQ
    refine y_al0 c_111_6 ?_
    refine y_gr 36 c_111_7 rfl (by omega) ?_
    refine y_il1 c_111_10 ?_
    refine y_bi c_111_11 (by decide) ?_
    refine y_sub c_111_13 ?_
    refine y_ic c_111_14 ?_
    refine y_add c_111_15 ?_
    rw [show ((d : Int) - 22 + 1) = ((d - 21 : Nat) : Int) by omega]
    refine k_53 c_111_16 rfl rfl (Nat.le_of_ble_eq_true rfl) ?_
    refine s_53 wrunS_36 hR2 z4 (by omega) (fun hno => ?_) (fun hne hle M2 hR3 hf2 => ?_)
    · have e : aLos R2 (d - 21) = none := if_neg hno
      rw [e] at hQ
      refine y_pop c_111_19 rfl ?_
      refine y_ic c_111_20 ?_
      refine y_zret c_111_21 rfl (by omega) ?_
      exact hQ M hR2 refl
    · have e : aLos R2 (d - 21) = some (R2.1, R2.2.1, R2.2.2.1 - (d - 21), R2.2.2.2) := if_pos ⟨hne, hle⟩
      rw [e] at hQ
      refine y_pop c_111_19 rfl ?_
      refine y_ic c_111_20 ?_
      refine y_zret c_111_21 rfl (by omega) ?_
      exact hQ M2 hR3 hf2
theorem s_110 {z : Int} (f : Int64 → Int64) (dz : Int64 → Nat) (hf : ∀ s : Int64, s * lI ((6364136223846793005 : Nat) : Int) + lI ((1442695040888963407 : Nat) : Int) = f s) (hdz : ∀ s : Int64, ((s.toUInt64 >>> ((iI 33).toInt64.toUInt64 &&& Int64.toUInt64 63)).toInt64 - (s.toUInt64 >>> ((iI 33).toInt64.toUInt64 &&& Int64.toUInt64 63)).toInt64 / lI ((28 : Nat) : Int) * lI ((28 : Nat) : Int)).toInt32 = iI (dz s : Int)) (hlt : ∀ s, dz s < 28) (hC : CI x M T P R L Tm sd K) (hA : AOK T P R L Tm K) (hz : wR z) (hQ : ∀ x' M', x'.2 = x.2 → (∀ b, b ≠ 0 → x'.1 b = x.1 b) → CI x' M' T P R L Tm (aWeeks f dz P R sd z).2 K → (∀ b, 106 ≤ b → M' b = M b) → Q (some (.int (iI (aWeeks f dz P R sd z).1))) x' M') : yG x M 110 0 [.ref 0, .int (iI z), zU, zU] [] Q := by
  obtain ⟨hx, hsd, hT, hM, hR, hL, hTm, hK0, hK⟩ := id hC
  obtain ⟨⟨ht56, ht256⟩, hok, hRk, ⟨hl14, hLk⟩, hTk, hKk⟩ := id hA
  obtain ⟨hp, hp33⟩ := CI_port hx
  obtain ⟨z1, z2, z3, z4, z5⟩ := aRok_len hok hRk
  have z6 : ∀ y ∈ R.2.2.2, y < 6 := fun y hy => by have := z3 y hy; have := hok.2.2.1; omega
  have hb1 := hok.1
  have hb2 := hok.2.1
  have hb3 := hok.2.2.1
  obtain ⟨q0, q1, q2, q3, q4, q5, q6, qc, j0, j1, j2, j3, j4, j5, j6, qlt⟩ := id hp
  obtain ⟨⟨n0, n1, n2, n3, n4, n5, n6⟩, v0, v1, v2, v3, v4, v5, v6⟩ := id hM
  unfold aWeeks at hQ
  have key : ∀ m : Nat, z = m → 1 ≤ m → m ≤ 30 → ∀ d k : Nat, m < k + d → k ≤ m → ∀ (x1 : wC) (M1 : wM) (t : Int64 × aR × Nat), x1.2 = x.2 → (∀ b, b ≠ 0 → x1.1 b = x.1 b) → t = aWks f dz P (sd, R, 0) k → CI x1 M1 T P R L Tm t.1 K → wrun M1 36 t.2.1 → aRok P t.2.1 → t.2.2 ≤ k → (∀ b, 106 ≤ b → M1 b = M b) → yG x1 M1 110 29 [.ref 0, .int (iI (m : Int)), .int (iI (t.2.2 : Int)), .int (iI (k : Int))] [] Q := by
    intro m hzm hm1 hm30 d
    induction d with
    | zero => intro k g1 g2; omega
    | succ d ih =>
      intro k g1 g2 x1 M1 t hx2 hx1 ht hC1 hR2 hRk2 htk hF1
      have hsd1 : x1.1 0 = t.1 := hC1.2.1
      refine y_il3 c_110_29 ?_
      refine y_il1 c_110_30 ?_
      refine y_ic_ge c_110_31 (by omega) (by omega) (fun h_31 => ?_) (fun h_31 => ?_)
      · have hk : k = m := by omega
        subst hk
        refine y_il2 c_110_92 ?_
        refine y_ret c_110_93 rfl ?_
        rw [if_pos (by omega), hzm, Int.toNat_natCast, ← ht] at hQ; exact hQ x1 M1 hx2 hx1 hC1 hF1
      · refine y_al0 c_110_34 ?_
        refine y_al0 c_110_35 ?_
        refine y_gl c_110_36 rfl ?_
        refine y_ldc2 c_110_39 ?_
        refine y_lmul c_110_42 ?_
        refine y_ldc2 c_110_43 ?_
        refine y_ladd c_110_46 ?_
        rw [hf, hsd1]
        refine y_pl c_110_47 rfl rfl wu0 ?_
        have hCx : CI (xsd x1 0 (f t.1)) M1 T P R L Tm (f t.1) K := CI_seed hC1 _
        have hxs : (xsd x1 0 (f t.1)).1 0 = f t.1 := rfl
        have hxr : (xsd x1 0 (f t.1)).2 = x.2 := hx2
        have hxo : ∀ b, b ≠ 0 → (xsd x1 0 (f t.1)).1 b = x.1 b := fun b hb => by unfold xsd; simp only [hb, if_false]; exact hx1 b hb
        generalize xsd x1 0 (f t.1) = x3 at hCx hxs hxr hxo ⊢
        refine y_al0 c_110_50 ?_
        refine y_al0 c_110_51 ?_
        refine y_gl c_110_52 rfl ?_
        rw [hxs]
        refine y_bi c_110_55 (by decide) ?_
        refine y_lushr c_110_57 ?_
        refine y_ldc2 c_110_58 ?_
        refine y_lrem c_110_61 (by decide) ?_
        refine y_l2i c_110_62 ?_
        rw [hdz]
        refine k_111 c_110_63 rfl rfl (Nat.le_of_ble_eq_true rfl) ?_
        have hr3 := aWk1_r f dz P t
        have hs3 := aWk1_s f dz P t
        have hn3 := aWk1_n f dz P t
        have ht3 := aWks_s f dz P (sd, R, 0) k
        rw [← ht] at ht3
        have hok3 := aWd_ok (d := dz (f t.1)) hok hRk2
        refine s_111 (d := dz (f t.1)) (by rw [hxr]; exact hp) (by rw [hxr]; exact hp33) hCx.2.2.2.1 hok hR2 hRk2 (hlt _) (fun M2 hR3 hf2 => ?_)
        generalize aWd P t.2.1 (dz (f t.1)) = wd at hr3 hn3 hok3 hR3 ⊢
        generalize aWk1 f dz P t = t3 at hr3 hs3 hn3 ht3
        obtain ⟨-, hp3⟩ := CI_port hCx.1
        have hC2 : CI x3 M2 T P R L Tm t3.1 K := by rw [hs3]; exact CI_of hCx (fun b hb => hf2 b (by unfold wown at hb; omega))
        have hF2 : ∀ b, 106 ≤ b → M2 b = M b := fun b hb => by rw [hf2 b (by omega), hF1 b hb]
        rw [← hr3] at hR3 hok3
        obtain ⟨y1, y2, y3, y4, y5⟩ := aRok_len hok hok3
        have go : ∀ n : Nat, n = t3.2.2 → yG x3 M2 110 86 [.ref 0, .int (iI (m : Int)), .int (iI (n : Int)), .int (iI (k : Int))] [] Q := by
          intro n hn
          subst hn
          refine y_inc3 c_110_86 rfl ?_
          refine y_goto c_110_89 ?_
          exact ih (k + 1) (by omega) (by omega) x3 M2 t3 hxr hxo ht3.symm hC2 hR3 hok3 (by rw [hn3]; split <;> omega) hF2
        refine y_pz_eq c_110_66 (fun h1 => ?_) (fun h1 => ?_)
        · first
            | exact go t.2.2 (by rw [hn3, if_neg (fun h => h1 h.1)]; rfl)
            | exact go t.2.2 (by rw [hn3, if_neg (fun h => h2 (by rw [hr3]; exact h.2))]; rfl)
            | exact go (t.2.2 + 1) (by rw [hn3, if_pos ⟨h1, by rw [← hr3]; exact h2⟩])
        · refine y_al0 c_110_69 ?_
          refine y_gr 36 c_110_70 rfl (by omega) ?_
          refine y_al0 c_110_73 ?_
          refine y_gp c_110_74 rfl ?_
          refine k_49 c_110_77 rfl rfl (Nat.le_of_ble_eq_true rfl) ?_
          refine s_49 wrunS_36 hR3 (by rw [hxr]; exact hp) hC2.2.2.2.1 hok y2 y3 ?_
          refine y_pz_eq c_110_80 (fun h2 => ?_) (fun h2 => ?_)
          · first
              | exact go t.2.2 (by rw [hn3, if_neg (fun h => h1 h.1)]; rfl)
              | exact go t.2.2 (by rw [hn3, if_neg (fun h => h2 (by rw [hr3]; exact h.2))]; rfl)
              | exact go (t.2.2 + 1) (by rw [hn3, if_pos ⟨h1, by rw [← hr3]; exact h2⟩])
          · refine y_inc2 c_110_83 rfl ?_
            first
              | exact go t.2.2 (by rw [hn3, if_neg (fun h => h1 h.1)]; rfl)
              | exact go t.2.2 (by rw [hn3, if_neg (fun h => h2 (by rw [hr3]; exact h.2))]; rfl)
              | exact go (t.2.2 + 1) (by rw [hn3, if_pos ⟨h1, by rw [← hr3]; exact h2⟩])
  refine y_il1 c_110_0 ?_
  refine y_ic c_110_1 ?_
  refine y_ic_lt c_110_2 (by omega) (by omega) (fun h_2 => ?_) (fun h_2 => ?_)
  · refine y_bi c_110_11 (by decide) ?_
    refine y_ret c_110_13 rfl ?_
    rw [if_neg (by omega)] at hQ; exact hQ x M rfl (fun b hb => rfl) hC (fun b hb => rfl)
  · refine y_il1 c_110_5 ?_
    refine y_bi c_110_6 (by decide) ?_
    refine y_ic_le c_110_8 (by omega) (by omega) (fun h_8 => ?_) (fun h_8 => ?_)
    · obtain ⟨m, rfl⟩ : ∃ n : Nat, z = n := ⟨z.toNat, by omega⟩
      refine y_al0 c_110_14 ?_
      refine y_gr 36 c_110_15 rfl (by omega) ?_
      refine y_al0 c_110_18 ?_
      refine y_gr 33 c_110_19 rfl (by omega) ?_
      refine k_43 c_110_22 rfl rfl (Nat.le_of_ble_eq_true rfl) ?_
      refine s_43 wrunS_36 wrunS_33 hR z2 (by omega) (fun M1 hR1 hf1 => ?_)
      have hM1 := wport_of hM (fun b h1 h2 => hf1 b (by omega))
      have hC1 : CI x M1 T P R L Tm sd K := CI_of hC (fun b hb => hf1 b (by unfold wown at hb; omega))
      refine y_ic c_110_25 ?_
      refine y_is2 c_110_26 rfl ?_
      refine y_ic c_110_27 ?_
      refine y_is3 c_110_28 rfl ?_
      exact key m rfl (by omega) (by omega) (m + 1) 0 (by omega) (by omega) x M1 (sd, R, 0) rfl (fun b hb => rfl) rfl hC1 hR1 hRk (Nat.le_refl 0) (fun b hb => hf1 b (by omega))
    · refine y_bi c_110_11 (by decide) ?_
      refine y_ret c_110_13 rfl ?_
      rw [if_neg (by omega)] at hQ; exact hQ x M rfl (fun b hb => rfl) hC (fun b hb => rfl)
theorem s_112 {z : Int} (hC : CI x M T P R L Tm sd K) (hA : AOK T P R L Tm K) (hz : wR z) (hQ : ∀ M', CI x M' T P R L Tm sd (aKeep R K z).2 → (∀ b, 106 ≤ b → M' b = M b) → Q (some (.int (iI (aKeep R K z).1))) x M') : yG x M 112 0 [.ref 0, .int (iI z)] [] Q := by
  obtain ⟨hx, hsd, hT, hM, hR, hL, hTm, hK0, hK⟩ := id hC
  obtain ⟨⟨ht56, ht256⟩, hok, hRk, ⟨hl14, hLk⟩, hTk, hKk⟩ := id hA
  obtain ⟨hp, hp33⟩ := CI_port hx
  obtain ⟨z1, z2, z3, z4, z5⟩ := aRok_len hok hRk
  have z6 : ∀ y ∈ R.2.2.2, y < 6 := fun y hy => by have := z3 y hy; have := hok.2.2.1; omega
  have hb1 := hok.1
  have hb2 := hok.2.1
  have hb3 := hok.2.2.1
  obtain ⟨q0, q1, q2, q3, q4, q5, q6, qc, j0, j1, j2, j3, j4, j5, j6, qlt⟩ := id hp
  obtain ⟨⟨n0, n1, n2, n3, n4, n5, n6⟩, v0, v1, v2, v3, v4, v5, v6⟩ := id hM
  unfold aKeep at hQ
  have hkb : aKb K ≤ 3 := by unfold aKb; split <;> split <;> omega
  refine y_il1 c_112_0 ?_
  refine y_iz_lt c_112_1 (by omega) (fun h_1 => ?_) (fun h_1 => ?_)
  · refine y_ic c_112_9 ?_
    refine y_ret c_112_10 rfl ?_
    rw [if_neg (by omega)] at hQ; exact hQ _ hC (fun b hb => rfl)
  · refine y_il1 c_112_4 ?_
    refine y_ic c_112_5 ?_
    refine y_ic_lt c_112_6 (by omega) (by omega) (fun h_6 => ?_) (fun h_6 => ?_)
    · obtain ⟨k, rfl⟩ : ∃ n : Nat, z = n := ⟨z.toNat, by omega⟩
      rw [if_pos (by omega), Int.toNat_natCast] at hQ
      refine y_al0 c_112_11 ?_
      refine y_gr 97 c_112_12 rfl (by omega) ?_
      refine y_il1 c_112_15 ?_
      refine y_al0 c_112_16 ?_
      refine y_gr 33 c_112_17 rfl (by omega) ?_
      refine k_56 c_112_20 rfl rfl (Nat.le_of_ble_eq_true rfl) ?_
      refine s_56 wshelf_97 (by omega) wrunS_33 hR z2 (by omega) (fun M1 hR1 hf1 => ?_)
      refine y_al0 c_112_23 ?_
      refine y_dup c_112_24 rfl ?_
      refine y_gi (j := 9) (z := ((aKb K : Nat) : Int)) c_112_25 rfl rfl (by rw [hf1 0 (by omega)]; exact hK0) (fun r_25 => ?_)
      refine y_ic c_112_28 ?_
      refine y_il1 c_112_29 ?_
      refine y_shl (x1 := 1) (x2 := k) c_112_30 (by omega) (by rcases (show k = 0 ∨ k = 1 by omega) with rfl | rfl <;> decide) ?_
      rw [Nat.one_mul]
      refine y_ior (x1 := aKb K) (x2 := 2 ^ k) c_112_31 ?_
      have hkp := aKb_put K R k (by omega)
      rw [← hkp]
      have hkb2 : aKb (fun j => if j = k then some R else K j) ≤ 3 := by unfold aKb; split <;> split <;> omega
      refine y_pi (j := 9) c_112_32 rfl rfl rfl (by omega) ?_
      refine y_al0 c_112_35 ?_
      refine y_gr 33 c_112_36 rfl (by omega) ?_
      refine y_gi (j := 2) (z := (R.2.2.1 : Int)) c_112_39 rfl rfl (by rw [wup_a _ _ _ _ (by omega), hf1 33 (by omega)]; exact hR.2.2.1) (fun r_39 => ?_)
      refine y_ret c_112_42 rfl ?_
      refine hQ _ ⟨hx, hsd, ?_, ?_, ?_, ?_, ?_, wup_s _ _ _ _, fun j R3 hj hR3 => ?_⟩ (fun b hb => by rw [wup_f _ _ _ (by omega), hf1 b (by omega)])
      · rw [wup_f _ _ _ (show (1 : Nat) ≠ 0 by omega), wup_f _ _ _ (show (2 : Nat) ≠ 0 by omega), hf1 1 (by omega), hf1 2 (by omega)]; exact hT
      · exact wport_of hM (fun b h1 h2 => by rw [wup_f _ _ _ (by rcases hx with hx | hx <;> omega), hf1 b (by omega)])
      · exact wrun_of hR (by rw [wup_f _ _ _ (by omega), hf1 _ (by omega)]) (by rw [wup_f _ _ _ (by omega), hf1 _ (by omega)]) (by rw [wup_f _ _ _ (by omega), hf1 _ (by omega)])
      · exact wacts_of hL (fun b h1 h2 => by rw [wup_f _ _ _ (by omega), hf1 b (by omega)])
      · exact wtim_of hTm (fun b h1 h2 => by rw [wup_f _ _ _ (by omega), hf1 b (by omega)])
      · replace hR3 : (if j = k then some R else K j) = some R3 := hR3
        by_cases hjk : j = k
        · subst hjk
          rw [if_pos rfl] at hR3
          cases hR3
          exact wrun_of hR1 (by rw [wup_f _ _ _ (by omega), show 99 + 3 * j = 97 + 2 + 3 * j by omega]) (by rw [wup_f _ _ _ (by omega), show 99 + 3 * j + 1 = 97 + 2 + 3 * j + 1 by omega]) (by rw [wup_f _ _ _ (by omega), show 99 + 3 * j + 2 = 97 + 2 + 3 * j + 2 by omega])
        · rw [if_neg hjk] at hR3
          exact wrun_of (hK j R3 hj hR3) (by rw [wup_f _ _ _ (by omega), hf1 _ (by omega)]) (by rw [wup_f _ _ _ (by omega), hf1 _ (by omega)]) (by rw [wup_f _ _ _ (by omega), hf1 _ (by omega)])
    · refine y_ic c_112_9 ?_
      refine y_ret c_112_10 rfl ?_
      rw [if_neg (by omega)] at hQ; exact hQ _ hC (fun b hb => rfl)
theorem s_113 {z : Int} (hC : CI x M T P R L Tm sd K) (hA : AOK T P R L Tm K) (hz : wR z) (hQ : ∀ M', CI x M' T P (aAgain R L K z).2.1 (aAgain R L K z).2.2 Tm sd K → (∀ b, 106 ≤ b → M' b = M b) → Q (some (.int (iI (aAgain R L K z).1))) x M') : yG x M 113 0 [.ref 0, .int (iI z)] [] Q := by
  obtain ⟨hx, hsd, hT, hM, hR, hL, hTm, hK0, hK⟩ := id hC
  obtain ⟨⟨ht56, ht256⟩, hok, hRk, ⟨hl14, hLk⟩, hTk, hKk⟩ := id hA
  obtain ⟨hp, hp33⟩ := CI_port hx
  obtain ⟨z1, z2, z3, z4, z5⟩ := aRok_len hok hRk
  have z6 : ∀ y ∈ R.2.2.2, y < 6 := fun y hy => by have := z3 y hy; have := hok.2.2.1; omega
  have hb1 := hok.1
  have hb2 := hok.2.1
  have hb3 := hok.2.2.1
  obtain ⟨q0, q1, q2, q3, q4, q5, q6, qc, j0, j1, j2, j3, j4, j5, j6, qlt⟩ := id hp
  obtain ⟨⟨n0, n1, n2, n3, n4, n5, n6⟩, v0, v1, v2, v3, v4, v5, v6⟩ := id hM
  unfold aAgain at hQ
  have hkb : aKb K ≤ 3 := by unfold aKb; split <;> split <;> omega
  refine y_il1 c_113_0 ?_
  refine y_iz_lt c_113_1 (by omega) (fun h_1 => ?_) (fun h_1 => ?_)
  · refine y_ic c_113_9 ?_
    refine y_ret c_113_10 rfl ?_
    rw [if_neg (by omega)] at hQ; exact hQ _ hC (fun b hb => rfl)
  · refine y_il1 c_113_4 ?_
    refine y_ic c_113_5 ?_
    refine y_ic_lt c_113_6 (by omega) (by omega) (fun h_6 => ?_) (fun h_6 => ?_)
    · obtain ⟨k, rfl⟩ : ∃ n : Nat, z = n := ⟨z.toNat, by omega⟩
      rw [if_pos (by omega), Int.toNat_natCast] at hQ
      have hbit := aKb_bit K k (by omega)
      refine y_al0 c_113_11 ?_
      refine y_gi (j := 9) (z := ((aKb K : Nat) : Int)) c_113_12 rfl rfl hK0 (fun r_12 => ?_)
      refine y_il1 c_113_15 ?_
      refine k_114 c_113_16 rfl (Nat.le_of_ble_eq_true rfl) ?_
      refine s_114 (by omega) (by omega) ?_
      refine y_pz_ne c_113_19 (fun h1 => ?_) (fun h1 => ?_)
      · rw [hbit] at h1
        obtain ⟨R3, hKe⟩ := Option.isSome_iff_exists.mp h1
        rw [hKe] at hQ
        have hR3 := hK k R3 (by omega) hKe
        have hok3 := hKk k R3 (by omega) hKe
        refine y_al0 c_113_25 ?_
        refine y_gr 97 c_113_26 rfl (by omega) ?_
        refine y_il1 c_113_29 ?_
        refine y_al0 c_113_30 ?_
        refine y_gr 33 c_113_31 rfl (by omega) ?_
        refine k_57 c_113_34 rfl rfl (Nat.le_of_ble_eq_true rfl) ?_
        refine s_57 wshelf_97 (by omega) wrunS_33 (by rw [show 97 + 2 + 3 * k = 99 + 3 * k by omega]; exact hR3) (aRok_len hok hok3).2.1 (by omega) (fun M1 hR1 hf1 => ?_)
        refine y_al0 c_113_37 ?_
        refine y_gr 39 c_113_38 rfl (by omega) ?_
        refine k_2 c_113_41 rfl rfl (Nat.le_of_ble_eq_true rfl) ?_
        refine s_2 ?_
        refine y_al0 c_113_44 ?_
        refine y_gr 33 c_113_45 rfl (by omega) ?_
        refine y_gi (j := 2) (z := (R3.2.2.1 : Int)) c_113_48 rfl rfl (by rw [wup_a _ _ _ _ (by omega)]; exact hR1.2.2.1) (fun r_48 => ?_)
        refine y_ret c_113_51 rfl ?_
        refine hQ _ (CI_upd hC (wrun_of hR1 (wup_f _ _ _ (by omega)) (wup_f _ _ _ (by omega)) (wup_f _ _ _ (by omega))) ?_ (wtim_of hTm (fun b h1 h2 => by rw [wup_f _ _ _ (by omega), hf1 b (by omega)])) (fun b hb => by rw [wup_f _ _ _ (by omega), hf1 b (by omega)])) (fun b hb => by rw [wup_f _ _ _ (by omega), hf1 b (by omega)])
        obtain ⟨nx, g1, g2, -, -, -⟩ := hL
        exact ⟨nx, g1, by rw [wup_k _ _ (by decide), hf1 39 (by omega)]; exact g2, wup_s _ _ _ _, by show 0 ≤ 14; omega, fun j hj => absurd (show j < 0 from hj) (by omega)⟩
      · rw [hbit] at h1
        have hKk : K k = none := by
          cases h : K k with
          | none => rfl
          | some _ => rw [h] at h1; exact absurd rfl h1
        rw [hKk] at hQ
        refine y_bi c_113_22 (by decide) ?_
        refine y_ret c_113_24 rfl ?_
        exact hQ _ hC (fun b hb => rfl)
    · refine y_ic c_113_9 ?_
      refine y_ret c_113_10 rfl ?_
      rw [if_neg (by omega)] at hQ; exact hQ _ hC (fun b hb => rfl)
end S20
