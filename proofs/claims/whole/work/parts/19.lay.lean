/-! ===== the table, laid ===== -/
theorem m63 : ∀ y, y < 6 → 63 / 2 ^ y % 2 = 1 := by decide
section S7
variable {x : wC} {M : wM} {Q : Option Value → wC → wM → Prop} {p u : Nat} {P : aP} {R : aR}
theorem aIx_same {q qz : List Nat} (hok : aPok P) (hRk : aRok P R) (h : aCnd P R 63 q) (h0 : aCnd P R 63 qz) (he : aIx P R q = aIx P R qz) : q.length = qz.length ∧ (∀ z, z ∈ q ↔ z ∈ qz) ∧ aStage P (R.2.2.2 ++ q) = aStage P (R.2.2.2 ++ qz) ∧ aBits q = aBits qz := by
  obtain ⟨a1, a2⟩ := aIx_bits (P := P) (R := R) (q := q)
  obtain ⟨b1, b2⟩ := aIx_bits (P := P) (R := R) (q := qz)
  rw [he] at a1 a2
  have hb : aBits q = aBits qz := by omega
  obtain ⟨c1, c2, -⟩ := aCnd_lt hok hRk h
  obtain ⟨d1, d2, -⟩ := aCnd_lt hok hRk h0
  refine ⟨?_, bits_mem_eq hb, by omega, hb⟩
  rw [← aPop_len c2 c1, ← aPop_len d2 d1, hb]
theorem aIx_snoc {q qz : List Nat} {y : Nat} (hb : aBits q = aBits qz) (hs : aStage P (R.2.2.2 ++ q) = aStage P (R.2.2.2 ++ qz)) : aIx P R (q ++ [y]) = aIx P R (qz ++ [y]) := by
  unfold aIx
  rw [aBits_snoc, aBits_snoc, hb, ← List.append_assoc, ← List.append_assoc, aStage_app, aStage_app, hs]
theorem s_8 {qz : List Nat} (hu : wrunS u) (hR : wrun M u R) (hp : wportS p) (hM : wport M p P) (hok : aPok P) (hRk : aRok P R) (hq : aCnd P R 63 qz) (hs : wTs M P R) (he : M 94 (aIx P R qz : Nat) = (aS P R qz : Nat)) (hf : M 95 (aIx P R qz : Nat) = (aFig qz : Nat)) (hp93 : p + 14 < 93) (hu93 : u + 2 < 93)
    (hQ : ∀ M' : wM, wTs M' P R → (∀ e' c' f', wLe M e' c' f' → wLe M' e' c' f') → (∀ q y, aCnd P R 63 (q ++ [y]) → aIx P R q = aIx P R qz → wLe M (aIx P R qz) (aS P R q) (aFig q) → wLe M' (aIx P R (q ++ [y])) (aS P R (q ++ [y])) (aFig (q ++ [y]))) → wfx M M' → Q none x M') :
    yG x M 8 0 [.ref 93, .ref p, .ref u, .int (iI (aIx P R qz : Nat)), .int (iI (aBits R.2.2.2 : Nat)), zU, zU, zU, zU, zU, zU] [] Q := by
  obtain ⟨e1, e2, e3, e4, e5, e6, e7⟩ := aCnd_lt hok hRk hq
  obtain ⟨b1, b2⟩ := aIx_bits (P := P) (R := R) (q := qz)
  obtain ⟨z1, z2, z3, z4, z5⟩ := aRok_len hok hRk
  obtain ⟨gg, ss, hg, hss, hgl, hsl⟩ := aRok_run hRk hq.1
  have hcnd := hq
  obtain ⟨hr1, hnd, hby, hcost⟩ := hq
  have h6 := hok.2.2.1
  have hall6 : ∀ y ∈ R.2.2.2 ++ qz, y < 6 := fun y hy => by
    rcases List.mem_append.mp hy with hy | hy
    · have := z3 y hy; omega
    · exact e1 y hy
  have hused := aBits_lt hall6
  have hpop := aPop_len hnd hall6
  rw [List.length_append] at hpop
  have hst3 := aStage_le P (R.2.2.2 ++ qz)
  have hsp : aBits R.2.2.2 < 2 ^ 6 := aBits_lt (fun y hy => hall6 y (List.mem_append_left _ hy))
  obtain ⟨f0, f1, f2, f3, fc, g3, flt⟩ := hu
  obtain ⟨a0, a1, a2, a3, a4⟩ := hR
  obtain ⟨q0, q1, q2, q3, q4, q5, q6, qc, j0, j1, j2, j3, j4, j5, j6, qlt⟩ := id hp
  obtain ⟨⟨n0, n1, n2, n3, n4, n5, n6⟩, v0, v1, v2, v3, v4, v5, v6⟩ := id hM
  obtain ⟨k1, k2, k3, k4, k5, k6⟩ := id hok
  rw [hg] at a0
  rw [hss] at a1
  have key : ∀ d k : Nat, P.2.2.2 < k + d → k ≤ P.2.2.2 → ∀ (M1 : wM) (t9 t10 : Value), wTs M1 P R → (∀ e' c' f', wLe M e' c' f' → wLe M1 e' c' f') → M1 94 (aIx P R qz : Nat) = (aS P R qz : Nat) → M1 95 (aIx P R qz : Nat) = (aFig qz : Nat) → wfx M M1 →
      (∀ q y, y < k → aCnd P R 63 (q ++ [y]) → aIx P R q = aIx P R qz → wLe M (aIx P R qz) (aS P R q) (aFig q) → wLe M1 (aIx P R (q ++ [y])) (aS P R (q ++ [y])) (aFig (q ++ [y]))) →
      yG x M1 8 45 [.ref 93, .ref p, .ref u, .int (iI (aIx P R qz : Nat)), .int (iI (aBits R.2.2.2 : Nat)), .int (iI (aBits qz : Nat)), .int (iI (aBits (R.2.2.2 ++ qz) : Nat)), .int (iI ((R.2.2.2.length + qz.length : Nat) : Int)), .int (iI (k : Int)), t9, t10] [] Q := by
    intro d
    induction d with
    | zero => intro k g1 g2; omega
    | succ d ih =>
      intro k g1 g2 M1 t9 t10 c1 c2 c3 c4 c5 c6
      have hfp : ∀ b, p ≤ b → b ≤ p + 14 → M1 b = M b := fun b h1 h2 => c5 b (by omega) (by omega)
      have hM1 : wport M1 p P := wport_of hM hfp
      have m0 : M1 u 0 = gg := by rw [c5 u (by omega) (by omega)]; exact a0
      have m1 : M1 u 1 = ss := by rw [c5 u (by omega) (by omega)]; exact a1
      have m2 : M1 u 2 = R.2.2.1 := by rw [c5 u (by omega) (by omega)]; exact a2
      have n4b : M1 (p + 9) 3 = P.2.2.2 := by rw [c5 (p + 9) (by omega) (by omega)]; exact n4
      have n6b : M1 (p + 13) 3 = P.2.2.2 := by rw [c5 (p + 13) (by omega) (by omega)]; exact n6
      have v6b : ∀ i : Nat, i < P.2.2.2 → M1 (p + 14) i = P.1 6 i := fun i hi => by rw [c5 (p + 14) (by omega) (by omega)]; exact v6 i hi
      refine y_il8 c_8_45 ?_
      refine y_al1 c_8_47 ?_
      refine k_23 c_8_48 rfl qc (Nat.le_of_ble_eq_true rfl) ?_
      refine s_23 hp ?_
      rw [n4b]
      refine y_ic_ge c_8_51 (by omega) (by omega) (fun h_51 => ?_) (fun h_51 => ?_)
      · have hk : k = P.2.2.2 := by omega
        subst hk
        refine y_vret c_8_156 rfl ?_
        exact hQ M1 c1 c2 (fun q y hc hix hle => c6 q y (aCnd_last hc).1 hc hix hle) c5
      · have hk : k < P.2.2.2 := by omega
        refine y_il6 c_8_54 ?_
        refine y_il8 c_8_56 ?_
        refine k_114 c_8_58 rfl (Nat.le_of_ble_eq_true rfl) ?_
        refine s_114 (k := k) (by omega) (by omega) ?_
        simp only [aBits_mem]
        refine y_pz_eq c_8_61 (fun h_61 => ?_) (fun h_61 => ?_)
        rotate_left
        · refine y_goto c_8_64 ?_
          refine y_inc8 c_8_150 rfl ?_
          refine y_goto c_8_153 ?_
          refine ih (k + 1) (by omega) (by omega) M1 _ _ c1 c2 c3 c4 c5 (fun q y hy hc hix hle => ?_)
          by_cases hyk : y = k
          · subst hyk
            obtain ⟨d1, d2, d3, d4⟩ := aIx_same hok hRk (aCnd_pre hc) hcnd hix
            obtain ⟨l1, l2, l3, l4⟩ := aCnd_last hc
            refine absurd ?_ l3
            rcases List.mem_append.mp h_61 with h | h
            · exact List.mem_append_left _ h
            · exact List.mem_append_right _ ((d2 y).mpr h)
          · exact c6 q y (by omega) hc hix hle
        have hcl : aCost P k ss gg (R.2.2.2.length + qz.length) ≤ 74 := aCostBy_le hok (hok.2.2.2.2.1 ss hsl).2.1 hk e7
        refine y_al0 c_8_67 ?_
        refine y_gr 94 c_8_68 rfl (by omega) ?_
        refine y_il3 c_8_71 ?_
        refine y_ald (n := 256) (u := ((aS P R qz : Nat) : Int)) c_8_72 rfl (by omega) (by omega) (by omega) c3 (fun r_72 => ?_)
        refine y_al1 c_8_73 ?_
        refine y_il8 c_8_74 ?_
        refine y_al2 c_8_76 ?_
        refine y_gi (j := 1) (z := (ss : Int)) c_8_77 f1 rfl m1 (fun r_77 => ?_)
        refine y_al2 c_8_80 ?_
        refine y_gi (j := 0) (z := (gg : Int)) c_8_81 f0 rfl m0 (fun r_81 => ?_)
        refine y_il7 c_8_84 ?_
        refine k_28 c_8_86 rfl qc (Nat.le_of_ble_eq_true rfl) ?_
        refine s_28 hp hM1 hok hsl hgl hk e7 ?_
        refine y_add c_8_89 ?_
        rw [show ((aS P R qz : Nat) : Int) + ((aCost P k ss gg (R.2.2.2.length + qz.length) : Nat) : Int) = ((aS P R qz + aCost P k ss gg (R.2.2.2.length + qz.length) : Nat) : Int) by omega]
        refine y_is9 c_8_90 rfl ?_
        refine y_il9 c_8_92 ?_
        refine y_al2 c_8_94 ?_
        refine y_gi (j := 2) (z := ((R.2.2.1 : Nat) : Int)) c_8_95 f2 rfl m2 (fun r_95 => ?_)
        refine y_ic_gt c_8_98 (by omega) (by omega) (fun h_98 => ?_) (fun h_98 => ?_)
        · refine y_inc8 c_8_150 rfl ?_
          refine y_goto c_8_153 ?_
          refine ih (k + 1) (by omega) (by omega) M1 _ _ c1 c2 c3 c4 c5 (fun q y hy hc hix hle => ?_)
          by_cases hyk : y = k
          · subst hyk
            obtain ⟨d1, d2, d3, d4⟩ := aIx_same hok hRk (aCnd_pre hc) hcnd hix
            obtain ⟨l1, l2, l3, l4⟩ := aCnd_last hc
            rw [hg, hss, Int.toNat_natCast, Int.toNat_natCast, d1] at l4
            unfold wLe at hle
            rw [he, hf] at hle
            omega
          · exact c6 q y (by omega) hc hix hle
        have hext : aCnd P R 63 (qz ++ [k]) := aCnd_ext hcnd hk (m63 k (by omega)) h_61 (by rw [hg, hss, Int.toNat_natCast, Int.toNat_natCast]; omega)
        have hlt2 := aCnd_lt hok hRk hext
        have hsx : aS P R (qz ++ [k]) = aS P R qz + aCost P k ss gg (R.2.2.2.length + qz.length) := by
          show aSp P R.2.1.toNat R.1.toNat R.2.2.2.length (qz ++ [k]) = aSp P R.2.1.toNat R.1.toNat R.2.2.2.length qz + _
          rw [aSp_app, hg, hss, Int.toNat_natCast, Int.toNat_natCast]
        have hixne : aIx P R qz < aIx P R (qz ++ [k]) := aIx_pre (fun h => h_61 (List.mem_append_right _ h))
        have b6 := k6 k hk
        refine y_il3 c_8_101 ?_
        refine y_ic c_8_102 ?_
        refine y_rem c_8_103 (by omega) (by omega) (by omega) (by omega) ?_
        rw [show ((aIx P R qz : Nat) : Int) % 4 = ((aStage P (R.2.2.2 ++ qz) : Nat) : Int) by omega]
        refine y_al1 c_8_104 ?_
        refine y_gr (p + 13) c_8_105 q6 (by omega) ?_
        refine y_il8 c_8_108 ?_
        refine k_36 c_8_110 rfl (wrow_cl j6) (Nat.le_of_ble_eq_true rfl) ?_
        refine s_36i j6 (by omega) (by omega) (by omega) (v6b k hk) ?_
        refine k_115 c_8_113 rfl (Nat.le_of_ble_eq_true rfl) ?_
        refine s_115 (by omega) (by omega) ?_
        rw [aSt_nat, ← aStage_app, List.append_assoc]
        refine y_is10 c_8_116 rfl ?_
        refine y_al0 c_8_118 ?_
        refine y_il5 c_8_119 ?_
        refine y_ic c_8_121 ?_
        refine y_il8 c_8_122 ?_
        refine y_shl (x1 := 1) (x2 := k) c_8_124 (by omega) (by have := Nat.pow_le_pow_right (show 0 < 2 by omega) (show k ≤ 5 by omega); omega) ?_
        rw [Nat.one_mul]
        refine y_ior (x1 := aBits qz) (x2 := 2 ^ k) c_8_125 ?_
        rw [← aBits_snoc]
        refine y_il10 c_8_126 ?_
        refine k_6 c_8_128 rfl (Nat.le_of_ble_eq_true rfl) ?_
        refine s_6 (a := aBits (qz ++ [k])) (b := aStage P (R.2.2.2 ++ (qz ++ [k]))) ?_
        refine y_il9 c_8_131 ?_
        refine y_bi c_8_133 (by decide) ?_
        refine y_al0 c_8_135 ?_
        refine y_gr 95 c_8_136 rfl (by omega) ?_
        refine y_il3 c_8_139 ?_
        refine y_ald (n := 256) (u := ((aFig qz : Nat) : Int)) c_8_140 rfl (by omega) (by omega) (by omega) c4 (fun r_140 => ?_)
        refine y_mul c_8_141 ?_
        refine y_il8 c_8_142 ?_
        refine y_add c_8_144 ?_
        refine y_ic c_8_145 ?_
        refine y_add c_8_146 ?_
        rw [show (10 : Int) * ((aFig qz : Nat) : Int) + (k : Int) + 1 = ((aFig (qz ++ [k]) : Nat) : Int) by rw [aFig_app]; omega, ← hsx]
        refine k_9 c_8_147 rfl rfl (Nat.le_of_ble_eq_true rfl) ?_
        refine s_9 (P := P) (R := R) hlt2.2.2.2.1 (by omega) (by omega) (qz ++ [k]) hext rfl rfl rfl c1 (fun M2 o1 o2 o3 o4 o5 => ?_)
        have hix2 : aIx P R (qz ++ [k]) = 4 * aBits (qz ++ [k]) + aStage P (R.2.2.2 ++ (qz ++ [k])) := rfl
        have inv2 : ∀ q y, y < k + 1 → aCnd P R 63 (q ++ [y]) → aIx P R q = aIx P R qz → wLe M (aIx P R qz) (aS P R q) (aFig q) → wLe M2 (aIx P R (q ++ [y])) (aS P R (q ++ [y])) (aFig (q ++ [y])) := by
          intro q y hy hc hix hle
          by_cases hyk : y = k
          · subst hyk
            obtain ⟨d1, d2, d3, d4⟩ := aIx_same hok hRk (aCnd_pre hc) hcnd hix
            rw [aIx_snoc d4 d3]
            refine o3 _ _ ?_
            have hsq : aS P R (q ++ [y]) = aS P R q + aCost P y ss gg (R.2.2.2.length + qz.length) := by
              show aSp P R.2.1.toNat R.1.toNat R.2.2.2.length (q ++ [y]) = aSp P R.2.1.toNat R.1.toNat R.2.2.2.length q + _
              rw [aSp_app, hg, hss, Int.toNat_natCast, Int.toNat_natCast, d1]
            rw [hsx, hsq, aFig_app, aFig_app]
            unfold wLe at hle
            rw [he, hf] at hle
            omega
          · exact o2 _ _ _ (c6 q y (by omega) hc hix hle)
        refine y_inc8 c_8_150 rfl ?_
        refine y_goto c_8_153 ?_
        exact ih (k + 1) (by omega) (by omega) M2 _ _ o1 (fun _ _ _ h => o2 _ _ _ (c2 _ _ _ h)) (by rw [(o5 _ (by omega)).1]; exact c3) (by rw [(o5 _ (by omega)).2]; exact c4) (fun b h1 h2 => by rw [o4 b h1 h2]; exact c5 b h1 h2) inv2
  refine y_il3 c_8_0 ?_
  refine y_iz_lt c_8_1 (by omega) (fun h_1 => absurd h_1 (by omega)) (fun h_1 => ?_)
  refine y_il3 c_8_4 ?_
  refine y_al0 c_8_5 ?_
  refine y_gr 94 c_8_6 rfl (by omega) ?_
  refine y_len (t := 0) (n := 256) c_8_9 rfl (by omega) ?_
  refine y_ic_ge c_8_10 (by omega) (by omega) (fun h_10 => absurd h_10 (by omega)) (fun h_10 => ?_)
  refine y_il3 c_8_13 ?_
  refine y_al0 c_8_14 ?_
  refine y_gr 95 c_8_15 rfl (by omega) ?_
  refine y_len (t := 0) (n := 256) c_8_18 rfl (by omega) ?_
  refine y_ic_lt c_8_19 (by omega) (by omega) (fun h_19 => ?_) (fun h_19 => absurd h_19 (by omega))
  refine y_il3 c_8_23 ?_
  refine y_ic c_8_24 ?_
  refine y_div c_8_25 (by omega) (by omega) (by omega) (by omega) ?_
  rw [show ((aIx P R qz : Nat) : Int) / 4 = ((aBits qz : Nat) : Int) by omega]
  refine y_is5 c_8_26 rfl ?_
  refine y_il4 c_8_28 ?_
  refine y_il5 c_8_30 ?_
  refine y_ior (x1 := aBits R.2.2.2) (x2 := aBits qz) c_8_32 ?_
  rw [← aBits_app]
  refine y_is6 c_8_33 rfl ?_
  refine y_il6 c_8_35 ?_
  refine k_188 c_8_37 rfl (Nat.le_of_ble_eq_true rfl) ?_
  refine s_188 _ (by omega) ?_
  rw [hpop]
  refine y_is7 c_8_40 rfl ?_
  refine y_ic c_8_42 ?_
  refine y_is8 c_8_43 rfl ?_
  exact key (P.2.2.2 + 1) 0 (by omega) (by omega) M _ _ hs (fun _ _ _ h => h) he hf (fun _ _ _ => rfl) (fun q y hy => by omega)
theorem s_7 (hu : wrunS u) (hR : wrun M u R) (hp : wportS p) (hM : wport M p P) (hok : aPok P) (hRk : aRok P R) (hp93 : p + 14 < 93) (hu93 : u + 2 < 93) (hQ : ∀ M' : wM, wTa M' P R → wfx M M' → Q none x M') : yG x M 7 0 [.ref 93, .ref p, .ref u, zU, zU] [] Q := by
  obtain ⟨z1, z2, z3, z4, z5⟩ := aRok_len hok hRk
  have h6 := hok.2.2.1
  have hst3 := aStage_le P R.2.2.2
  obtain ⟨f0, f1, f2, f3, fc, g3, flt⟩ := id hu
  have key : ∀ d k : Nat, 256 < k + d → k ≤ 256 → ∀ (M1 : wM), wTs M1 P R → (∀ q, aCnd P R 63 q → (∀ q1 y, q = q1 ++ [y] → aIx P R q1 < k) → wLe M1 (aIx P R q) (aS P R q) (aFig q)) → wfx M M1 →
      yG x M1 7 40 [.ref 93, .ref p, .ref u, .int (iI (aBits R.2.2.2 : Nat)), .int (iI (k : Int))] [] Q := by
    intro d
    induction d with
    | zero => intro k g1 g2; omega
    | succ d ih =>
      intro k g1 g2 M1 c1 c2 c3
      have hM1 : wport M1 p P := wport_of hM (fun b h1 h2 => c3 b (by omega) (by omega))
      have hR1 : wrun M1 u R := wrun_of hR (c3 _ (by omega) (by omega)) (c3 _ (by omega) (by omega)) (c3 _ (by omega) (by omega))
      have hcomp : ∀ q1, aCnd P R 63 q1 → aIx P R q1 = k → wLe M1 k (aS P R q1) (aFig q1) := fun q1 hq1 hix => by
        have := c2 q1 hq1 (fun q2 y e => by
          subst e
          rw [← hix]
          exact aIx_pre (fun h => (aCnd_last hq1).2.2.1 (List.mem_append_right _ h)))
        rw [hix] at this
        exact this
      refine y_il4 c_7_40 ?_
      refine y_al0 c_7_42 ?_
      refine y_gr 94 c_7_43 rfl (by omega) ?_
      refine y_len (t := 0) (n := 256) c_7_46 rfl (by omega) ?_
      refine y_ic_ge c_7_47 (by omega) (by omega) (fun h_47 => ?_) (fun h_47 => ?_)
      · have hk : k = 256 := by omega
        subst hk
        refine y_vret c_7_75 rfl ?_
        refine hQ M1 ⟨c1, fun q hq => c2 q hq (fun q1 y e => ?_)⟩ c3
        subst e
        exact (aCnd_lt hok hRk (aCnd_pre hq)).2.2.2.1
      · refine y_al0 c_7_50 ?_
        refine y_gr 94 c_7_51 rfl (by omega) ?_
        refine y_il4 c_7_54 ?_
        refine y_ald (n := 256) c_7_56 rfl (by omega) (by omega) (by omega) rfl (fun r_56 => ?_)
        refine y_iz_lt c_7_57 (by omega) (fun h_57 => ?_) (fun h_57 => ?_)
        rotate_left
        · rcases c1 k (by omega) with h | ⟨qz, hq0, hix0, hc0, hf0⟩
          · omega
          subst hix0
          refine y_al0 c_7_60 ?_
          refine y_al1 c_7_61 ?_
          refine y_al2 c_7_62 ?_
          refine y_il4 c_7_63 ?_
          refine y_il3 c_7_65 ?_
          refine k_8 c_7_66 rfl rfl (Nat.le_of_ble_eq_true rfl) ?_
          refine s_8 hu hR1 hp hM1 hok hRk hq0 c1 hc0 hf0 hp93 hu93 (fun M2 o1 o2 o3 o4 => ?_)
          refine y_inc4 c_7_69 rfl ?_
          refine y_goto c_7_72 ?_
          refine ih (aIx P R qz + 1) (by omega) (by omega) M2 o1 (fun q hq hl => ?_) (fun b h1 h2 => by rw [o4 b h1 h2]; exact c3 b h1 h2)
          by_cases hne : q = []
          · subst hne
            exact o2 _ _ _ (c2 [] hq (fun q1 y e => by simp at e))
          · obtain ⟨q1, y, rfl⟩ := snoc_of hne
            have h1 := hl q1 y rfl
            by_cases h2 : aIx P R q1 = aIx P R qz
            · exact o3 q1 y hq h2 (hcomp q1 (aCnd_pre hq) h2)
            · refine o2 _ _ _ (c2 _ hq (fun q2 y2 e => ?_))
              have e2 := List.append_inj' e rfl
              rw [← e2.1]; omega
        refine y_inc4 c_7_69 rfl ?_
        refine y_goto c_7_72 ?_
        refine ih (k + 1) (by omega) (by omega) M1 c1 (fun q hq hl => ?_) c3
        by_cases hne : q = []
        · subst hne
          exact c2 [] hq (fun q1 y e => by simp at e)
        · obtain ⟨q1, y, rfl⟩ := snoc_of hne
          have h1 := hl q1 y rfl
          by_cases h2 : aIx P R q1 = k
          · have h3 := hcomp q1 (aCnd_pre hq) h2
            unfold wLe at h3; omega
          · refine c2 _ hq (fun q2 y2 e => ?_)
            have e2 := List.append_inj' e rfl
            rw [← e2.1]; omega
  refine y_al0 c_7_0 ?_
  refine y_gr 94 c_7_1 rfl (by omega) ?_
  refine y_bi c_7_4 (by decide) ?_
  refine k_189 c_7_6 rfl (Nat.le_of_ble_eq_true rfl) ?_
  refine s_189 (n := 256) rfl (by omega) (by omega) (fun M1 hfill hfr => ?_)
  have hM1 : wport M1 p P := wport_of hM (fun b h1 h2 => hfr b (by omega))
  have hR1 : wrun M1 u R := wrun_of hR (hfr _ (by omega)) (hfr _ (by omega)) (hfr _ (by omega))
  have hs1 : wTs M1 P R := fun e he => Or.inl (hfill e he)
  refine y_al2 c_7_9 ?_
  refine k_44 c_7_10 rfl fc (Nat.le_of_ble_eq_true rfl) ?_
  refine s_44 hu ?_
  rw [hR1.1]
  by_cases hrun : R.1 = -9
  · rw [if_pos hrun]
    refine y_iz_ne c_7_13 (by omega) (fun h => absurd rfl h) (fun _ => ?_)
    refine y_vret c_7_16 rfl ?_
    exact hQ _ ⟨hs1, fun q hq => absurd hrun hq.1⟩ (fun b h1 h2 => hfr b h1)
  rw [if_neg hrun]
  refine y_iz_ne c_7_13 (by omega) (fun _ => ?_) (fun h => absurd h (by omega))
  have hc0 : aCnd P R 63 [] := ⟨hrun, by rw [List.append_nil]; exact z5, fun y hy => (by cases hy), Nat.zero_le _⟩
  have hix0 : aIx P R [] = 4 * 0 + aStage P R.2.2.2 := by unfold aIx; rw [List.append_nil]; rfl
  refine y_al0 c_7_17 ?_
  refine y_ic c_7_18 ?_
  refine y_al2 c_7_19 ?_
  refine y_al1 c_7_20 ?_
  refine k_48 c_7_21 rfl fc (Nat.le_of_ble_eq_true rfl) ?_
  refine s_48 hu hR1 hp hM1 hok z2 z3 ?_
  refine k_6 c_7_24 rfl (Nat.le_of_ble_eq_true rfl) ?_
  refine s_6 (a := 0) (b := aStage P R.2.2.2) ?_
  refine y_ic c_7_27 ?_
  refine y_ic c_7_28 ?_
  refine k_9 c_7_29 rfl rfl (Nat.le_of_ble_eq_true rfl) ?_
  refine s_9 (P := P) (R := R) (c := 0) (f := 0) (by omega) (by omega) (by omega) [] hc0 hix0 rfl rfl hs1 (fun M2 o1 o2 o3 o4 o5 => ?_)
  have hR2 : wrun M2 u R := wrun_of hR1 (o4 _ (by omega) (by omega)) (o4 _ (by omega) (by omega)) (o4 _ (by omega) (by omega))
  refine y_al2 c_7_32 ?_
  refine k_46 c_7_33 rfl fc (Nat.le_of_ble_eq_true rfl) ?_
  refine s_46 hu hR2 z2 (fun y hy => by have := z3 y hy; omega) ?_
  refine y_is3 c_7_36 rfl ?_
  refine y_ic c_7_37 ?_
  refine y_is4 c_7_38 rfl ?_
  refine key 257 0 (by omega) (by omega) M2 o1 (fun q hq hl => ?_) (fun b h1 h2 => by rw [o4 b h1 h2]; exact hfr b h1)
  by_cases hne : q = []
  · subst hne
    rw [hix0]
    exact o3 _ _ (by omega)
  · obtain ⟨q1, y, rfl⟩ := snoc_of hne
    exact absurd (hl q1 y rfl) (by omega)
end S7
