/-! ===== LoveGlass: share ===== -/
theorem aFac_le6 : ∀ a, a < 7 → ∀ b, b < 6 → aFac a * aFac b ≤ 86400 := by decide +kernel
theorem aPop_le6 : ∀ k, k < 64 → aPop k < 7 := by decide +kernel
theorem aFac_pos : ∀ a, a < 7 → 0 < aFac a ∧ aFac a < 1073741824 := by decide +kernel
section S16
variable {x : wC} {M : wM} {Q : Option Value → wC → wM → Prop} {T : List Nat} {P : aP} {R : aR} {L : aA} {Tm : aT} {sd : Int64} {K : Nat → Option aR}
theorem s_97 : ∀ n : Nat, n ≤ 6 → Q (some (.int (iI (aFac n : Nat)))) x M → yG x M 97 0 [.int (iI (n : Int)), zU, zU] [] Q := by
  intro n hn hQ
  have key : ∀ d k : Nat, n < k + d → 2 ≤ k → k ≤ n + 1 ∨ n = 0 ∧ k = 2 → yG x M 97 4 [.int (iI (n : Int)), .int (iI (aFac (k - 1) : Nat)), .int (iI (k : Int))] [] Q := by
    intro d
    induction d with
    | zero =>
      intro k g1 g2 g3
      refine y_il2 c_97_4 ?_
      refine y_il0 c_97_5 ?_
      refine y_ic_gt c_97_6 (by omega) (by omega) (fun h_6 => ?_) (fun h_6 => absurd h_6 (by omega))
      refine y_il1 c_97_19 ?_
      refine y_ret c_97_20 rfl ?_
      rw [show aFac (k - 1) = aFac n by
        rcases g3 with g3 | ⟨rfl, rfl⟩
        · rw [show k - 1 = n by omega]
        · rfl]
      exact hQ
    | succ d ih =>
      intro k g1 g2 g3
      have hf : aFac k = k * aFac (k - 1) := by
        obtain ⟨j, rfl⟩ : ∃ j, k = j + 1 := ⟨k - 1, by omega⟩
        rfl
      refine y_il2 c_97_4 ?_
      refine y_il0 c_97_5 ?_
      refine y_ic_gt c_97_6 (by omega) (by omega) (fun h_6 => ?_) (fun h_6 => ?_)
      · refine y_il1 c_97_19 ?_
        refine y_ret c_97_20 rfl ?_
        rw [show aFac (k - 1) = aFac n by
          rcases g3 with g3 | ⟨rfl, rfl⟩
          · rw [show k - 1 = n by omega]
          · rfl]
        exact hQ
      · refine y_il1 c_97_9 ?_
        refine y_il2 c_97_10 ?_
        refine y_mul c_97_11 ?_
        rw [show ((aFac (k - 1) : Nat) : Int) * (k : Int) = (aFac (k + 1 - 1) : Nat) by rw [Nat.add_sub_cancel, hf, Int.natCast_mul, Int.mul_comm]]
        refine y_is1 c_97_12 rfl ?_
        refine y_inc2 c_97_13 rfl ?_
        refine y_goto c_97_16 ?_
        exact ih (k + 1) (by omega) (by omega) (by omega)
  refine y_ic c_97_0 ?_
  refine y_is1 c_97_1 rfl ?_
  refine y_ic c_97_2 ?_
  refine y_is2 c_97_3 rfl ?_
  exact key (n + 1) 2 (by omega) (by omega) (by omega)
theorem s_99 {a b : Nat} (ha : a < 1073741824) (hb : b < 1073741824) (hQ : Q (some (.int (iI (Nat.gcd a b : Nat)))) x M) : yG x M 99 0 [.int (iI (a : Int)), .int (iI (b : Int)), zU, zU, zU, zU] [] Q := by
  have key : ∀ j a1 b1 k : Nat, b1 < 2 ^ j → k + 2 * j ≤ 99 → a1 < 1073741824 → b1 < 1073741824 → Nat.gcd a1 b1 = Nat.gcd a b → ∀ w5 : Value, yG x M 99 7 [.int (iI (a : Int)), .int (iI (b : Int)), .int (iI (a1 : Int)), .int (iI (b1 : Int)), .int (iI (k : Int)), w5] [] Q := by
    intro j
    induction j with
    | zero =>
      intro a1 b1 k g1 g2 g3 g4 hg w5
      have hb0 : b1 = 0 := by omega
      subst hb0
      rw [Nat.gcd_zero_right] at hg
      refine y_il4 c_99_7 ?_
      refine y_bi c_99_9 (by decide) ?_
      refine y_ic_ge c_99_11 (by omega) (by omega) (fun h_11 => absurd h_11 (by omega)) (fun h_11 => ?_)
      refine y_il3 c_99_14 ?_
      refine y_iz_le c_99_15 (by omega) (fun h_15 => ?_) (fun h_15 => absurd h_15 (by omega))
      refine y_il2 c_99_34 ?_
      refine y_ret c_99_35 rfl ?_
      rw [hg]; exact hQ
    | succ j ih =>
      intro a1 b1 k g1 g2 g3 g4 hg w5
      have hp : 2 ^ (j + 1) = 2 * 2 ^ j := by rw [Nat.pow_succ, Nat.mul_comm]
      have gg : ∀ u v : Nat, Nat.gcd u v = Nat.gcd v (u % v) := fun u v => by rw [Nat.gcd_comm u v, Nat.gcd_rec v u, Nat.gcd_comm]
      refine y_il4 c_99_7 ?_
      refine y_bi c_99_9 (by decide) ?_
      refine y_ic_ge c_99_11 (by omega) (by omega) (fun h_11 => absurd h_11 (by omega)) (fun h_11 => ?_)
      refine y_il3 c_99_14 ?_
      refine y_iz_le c_99_15 (by omega) (fun h_15 => ?_) (fun h_15 => ?_)
      · have hb0 : b1 = 0 := by omega
        subst hb0
        rw [Nat.gcd_zero_right] at hg
        refine y_il2 c_99_34 ?_
        refine y_ret c_99_35 rfl ?_
        rw [hg]; exact hQ
      · have hb1 : 0 < b1 := by omega
        have hm1 := Nat.mod_lt a1 hb1
        have hg1 := gg a1 b1
        refine y_il2 c_99_18 ?_
        refine y_il3 c_99_19 ?_
        refine y_rem c_99_20 (by omega) (by omega) (by omega) (by omega) ?_
        rw [show ((a1 : Int) % (b1 : Int)) = ((a1 % b1 : Nat) : Int) by omega]
        refine y_is5 c_99_21 rfl ?_
        refine y_il3 c_99_23 ?_
        refine y_is2 c_99_24 rfl ?_
        refine y_il5 c_99_25 ?_
        refine y_is3 c_99_27 rfl ?_
        refine y_inc4 c_99_28 rfl ?_
        refine y_goto c_99_31 ?_
        refine y_il4 c_99_7 ?_
        refine y_bi c_99_9 (by decide) ?_
        refine y_ic_ge c_99_11 (by omega) (by omega) (fun h_11 => absurd h_11 (by omega)) (fun h_11 => ?_)
        refine y_il3 c_99_14 ?_
        refine y_iz_le c_99_15 (by omega) (fun h_15 => ?_) (fun h_15 => ?_)
        · have hr0 : a1 % b1 = 0 := by omega
          rw [hr0, Nat.gcd_zero_right] at hg1
          refine y_il2 c_99_34 ?_
          refine y_ret c_99_35 rfl ?_
          rw [← hg, hg1] at hQ; exact hQ
        · have hr1 : 0 < a1 % b1 := by omega
          have hm2 := Nat.mod_lt b1 hr1
          have hh := gcd_half (a := a1) (b := b1) (Or.inr trivial) (by omega) hb1
          have hg2 := gg b1 (a1 % b1)
          generalize a1 % b1 = r1 at *
          refine y_il2 c_99_18 ?_
          refine y_il3 c_99_19 ?_
          refine y_rem c_99_20 (by omega) (by omega) (by omega) (by omega) ?_
          rw [show ((b1 : Int) % (r1 : Int)) = ((b1 % r1 : Nat) : Int) by omega]
          refine y_is5 c_99_21 rfl ?_
          refine y_il3 c_99_23 ?_
          refine y_is2 c_99_24 rfl ?_
          refine y_il5 c_99_25 ?_
          refine y_is3 c_99_27 rfl ?_
          refine y_inc4 c_99_28 rfl ?_
          refine y_goto c_99_31 ?_
          exact ih r1 (b1 % r1) (k + 1 + 1) (by omega) (by omega) (by omega) (by omega) (by rw [← hg2, ← hg1, hg]) _
  refine y_il0 c_99_0 ?_
  refine y_is2 c_99_1 rfl ?_
  refine y_il1 c_99_2 ?_
  refine y_is3 c_99_3 rfl ?_
  refine y_ic c_99_4 ?_
  refine y_is4 c_99_5 rfl ?_
  exact key 30 a b 0 hb (by omega) ha hb rfl _
theorem s_98 {a b : Nat} {z : Int} (ha : a < 1073741824) (hb : b < 1073741824) (hb0 : 0 < b) (hz : z = 0 ∨ z = 1) (hQ : Q (some (.int (iI (aFrac a b z : Nat)))) x M) : yG x M 98 0 [.int (iI (a : Int)), .int (iI (b : Int)), .int (iI z), zU] [] Q := by
  have hg0 : 0 < Nat.gcd a b := Nat.gcd_pos_of_pos_right a hb0
  have hg1 : Nat.gcd a b ≤ b := Nat.le_of_dvd hb0 (Nat.gcd_dvd_right a b)
  unfold aFrac at hQ
  refine y_il0 c_98_0 ?_
  refine y_il1 c_98_1 ?_
  refine k_99 c_98_2 rfl (Nat.le_of_ble_eq_true rfl) ?_
  refine s_99 ha hb ?_
  refine y_is3 c_98_5 rfl ?_
  refine y_il3 c_98_6 ?_
  refine y_ic c_98_7 ?_
  refine y_ic_ge c_98_8 (by omega) (by omega) (fun h_8 => ?_) (fun h_8 => absurd h_8 (by omega))
  refine y_il2 c_98_13 ?_
  refine y_iz_eq c_98_14 (by omega) (fun h_14 => ?_) (fun h_14 => ?_)
  · rw [if_pos h_14] at hQ
    refine y_il1 c_98_23 ?_
    refine y_il3 c_98_24 ?_
    refine y_div c_98_25 (by omega) (by omega) (by omega) (by omega) ?_
    refine y_ret c_98_26 rfl ?_
    exact yQi hQ (by omega)
  · rw [if_neg h_14] at hQ
    refine y_il0 c_98_17 ?_
    refine y_il3 c_98_18 ?_
    refine y_div c_98_19 (by omega) (by omega) (by omega) (by omega) ?_
    refine y_goto c_98_20 ?_
    refine y_ret c_98_26 rfl ?_
    exact yQi hQ (by omega)
theorem s_96 {z b : Int} (hC : CI x M T P R L Tm sd K) (hA : AOK T P R L Tm K) (hz : wR z) (hb : b = 0 ∨ b = 1) (hQ : ∀ r M', aShareV P R z b r → CI x M' T P R L Tm sd K → (∀ b, 106 ≤ b → M' b = M b) → Q (some (.int (iI r))) x M') : yG x M 96 0 [.ref 0, .int (iI z), .int (iI b), zU, zU, zU, zU] [] Q := by
  obtain ⟨hx, hsd, hT, hM, hR, hL, hTm, hK0, hK⟩ := id hC
  obtain ⟨⟨ht56, ht256⟩, hok, hRk, ⟨hl14, hLk⟩, hTk, hKk⟩ := id hA
  obtain ⟨hp, hp33⟩ := CI_port hx
  obtain ⟨z1, z2, z3, z4, z5⟩ := aRok_len hok hRk
  have z6 : ∀ y ∈ R.2.2.2, y < 6 := fun y hy => by have := z3 y hy; have := hok.2.2.1; omega
  have hb1 := hok.1
  have hb2 := hok.2.1
  have hb3 := hok.2.2.1
  obtain ⟨q0, q1, q2, q3, q4, q5, q6, qc, j0, j1, j2, j3, j4, j5, j6, qlt⟩ := id hp
  obtain ⟨⟨n0, n1, n2, n3, n4, n5, n6⟩, v0, v1, v2, v3, v4, v5, v6⟩ := id hM
  have key : ∀ z0 : Nat, z0 < P.2.2.2 → ∀ (M1 : wM) (f : Nat → Nat), CI x M1 T P R L Tm sd K → (∀ b, 106 ≤ b → M1 b = M b) → R.1 ≠ -9 → z = z0 → (∀ s : Nat, s < 64 → M1 96 s = f s ∧ aMax P (aFresh P R) s (f s) ∧ f s ≤ 54) → ∀ d k : Nat, 2 ^ P.2.2.2 < k + d → k ≤ 2 ^ P.2.2.2 → ∀ w6 : Value, yG x M1 96 91 [.ref 0, .int (iI (z0 : Int)), .int (iI b), .int (iI (P.2.2.2 : Int)), .int (iI (aShU f P.2.2.2 z0 k : Nat)), .int (iI (k : Int)), w6] [] Q := by
    intro z0 hz0 M1 f hC1 hF1 hrun hzz hf d
    have hp2 : 2 ^ P.2.2.2 ≤ 2 ^ 6 := Nat.pow_le_pow_right (by omega) (by omega)
    have hmono : ∀ s, s < 64 → f s ≤ f (s ||| 2 ^ z0) := fun s hs => aMax_mono hok (hf s hs).2.1 (hf _ (or_lt64 hs (by omega))).2.1 (fun y hy => or_bit.mpr (Or.inl hy))
    have hbd : ∀ k, k ≤ 64 → aShU f P.2.2.2 z0 k ≤ 4665600 * k ∧ True := by
      intro k
      induction k with
      | zero => intro _; exact ⟨Nat.le_refl 0, trivial⟩
      | succ k ih =>
        intro hk
        refine ⟨?_, trivial⟩
        have h1 := (ih (by omega)).1
        have h2 : aShU f P.2.2.2 z0 (k + 1) = aShU f P.2.2.2 z0 k + (if k / 2 ^ z0 % 2 = 1 then 0 else aFac (aPop k) * aFac (P.2.2.2 - 1 - aPop k) * (f (k ||| 2 ^ z0) - f k)) := rfl
        rw [h2]
        split
        · omega
        · have h5 := aPop_le6 k (by omega)
          have h3 := aFac_le6 (aPop k) h5 (P.2.2.2 - 1 - aPop k) (by omega)
          have h4 := (hf _ (or_lt64 (show k < 64 by omega) (show z0 < 6 by omega))).2.2
          have h6 : aFac (aPop k) * aFac (P.2.2.2 - 1 - aPop k) * (f (k ||| 2 ^ z0) - f k) ≤ 86400 * 54 := Nat.mul_le_mul h3 (by omega)
          omega
    induction d with
    | zero => intro k g1 g2; omega
    | succ d ih =>
      intro k g1 g2 w6
      have hbk := (hbd k (by omega)).1
      refine y_il5 c_96_91 ?_
      refine y_ic c_96_93 ?_
      refine y_il3 c_96_94 ?_
      refine y_shl (x1 := 1) (x2 := P.2.2.2) c_96_95 (by omega) (by omega) ?_
      rw [Nat.one_mul]
      refine y_ic_ge c_96_96 (by omega) (by omega) (fun h_96 => ?_) (fun h_96 => ?_)
      · have hk : k = 2 ^ P.2.2.2 := by omega
        subst hk
        refine y_il4 c_96_152 ?_
        refine y_il3 c_96_154 ?_
        refine k_97 c_96_155 rfl (Nat.le_of_ble_eq_true rfl) ?_
        refine s_97 P.2.2.2 (by omega) ?_
        refine y_il2 c_96_158 ?_
        refine k_98 c_96_159 rfl (Nat.le_of_ble_eq_true rfl) ?_
        have hf6 := aFac_pos P.2.2.2 (by omega)
        refine s_98 (by omega) (by omega) hf6.1 hb ?_
        refine y_ret c_96_162 rfl ?_
        exact hQ _ _ (Or.inr (Or.inr ⟨by omega, hrun, f, fun s hs => (hf s hs).2.1, by rw [hzz, Int.toNat_natCast]⟩)) hC1 hF1
      · have h2 : aShU f P.2.2.2 z0 (k + 1) = aShU f P.2.2.2 z0 k + (if k / 2 ^ z0 % 2 = 1 then 0 else aFac (aPop k) * aFac (P.2.2.2 - 1 - aPop k) * (f (k ||| 2 ^ z0) - f k)) := rfl
        refine y_il5 c_96_99 ?_
        refine y_il1 c_96_101 ?_
        refine k_114 c_96_102 rfl (Nat.le_of_ble_eq_true rfl) ?_
        refine s_114 (by omega) (by omega) ?_
        refine y_pz_ne c_96_105 (fun h1 => ?_) (fun h1 => ?_)
        · rw [if_pos h1] at h2
          refine y_inc5 c_96_146 rfl ?_
          refine y_goto c_96_149 ?_
          first
            | (rw [show aShU f P.2.2.2 z0 k = aShU f P.2.2.2 z0 (k + 1) by omega]; exact ih (k + 1) (by omega) (by omega) _)
            | exact ih (k + 1) (by omega) (by omega) _
        · rw [if_neg h1] at h2
          have hpl := aPop_lt P.2.2.2 (by omega) k (by omega) z0 hz0 h1
          obtain ⟨e1, e2, e3⟩ := hf k (by omega)
          obtain ⟨e4, e5, e6⟩ := hf _ (or_lt64 (show k < 64 by omega) (show z0 < 6 by omega))
          have hm := hmono k (by omega)
          have h3 := aFac_le (aPop k) (by omega) (P.2.2.2 - 1 - aPop k) (by omega)
          refine y_il5 c_96_108 ?_
          refine k_188 c_96_110 rfl (Nat.le_of_ble_eq_true rfl) ?_
          refine s_188 k (by omega) ?_
          refine y_is6 c_96_113 rfl ?_
          refine y_il4 c_96_115 ?_
          refine y_il6 c_96_117 ?_
          refine k_97 c_96_119 rfl (Nat.le_of_ble_eq_true rfl) ?_
          refine s_97 (aPop k) (by omega) ?_
          refine y_il3 c_96_122 ?_
          refine y_ic c_96_123 ?_
          refine y_sub c_96_124 ?_
          refine y_il6 c_96_125 ?_
          refine y_sub c_96_127 ?_
          rw [show ((P.2.2.2 : Int) - 1 - (aPop k : Int)) = ((P.2.2.2 - 1 - aPop k : Nat) : Int) by omega]
          refine k_97 c_96_128 rfl (Nat.le_of_ble_eq_true rfl) ?_
          refine s_97 (P.2.2.2 - 1 - aPop k) (by omega) ?_
          refine y_mul c_96_131 ?_
          refine y_al0 c_96_132 ?_
          refine y_gr 93 c_96_133 rfl (by omega) ?_
          refine y_il5 c_96_136 ?_
          refine y_il1 c_96_138 ?_
          refine k_16 c_96_139 rfl rfl (Nat.le_of_ble_eq_true rfl) ?_
          refine s_16 (by omega) (by omega) e4 e1 ?_
          refine y_mul c_96_142 ?_
          refine y_add c_96_143 ?_
          rw [show ((aShU f P.2.2.2 z0 k : Nat) : Int) + (((aFac (aPop k) : Nat) : Int) * ((aFac (P.2.2.2 - 1 - aPop k) : Nat) : Int)) * (((f (k ||| 2 ^ z0) : Nat) : Int) - ((f k : Nat) : Int)) = ((aShU f P.2.2.2 z0 (k + 1) : Nat) : Int) by rw [h2, ← Int.natCast_sub hm, ← Int.natCast_mul, ← Int.natCast_mul, ← Int.natCast_add]]
          refine y_is4 c_96_144 rfl ?_
          refine y_inc5 c_96_146 rfl ?_
          refine y_goto c_96_149 ?_
          first
            | (rw [show aShU f P.2.2.2 z0 k = aShU f P.2.2.2 z0 (k + 1) by omega]; exact ih (k + 1) (by omega) (by omega) _)
            | exact ih (k + 1) (by omega) (by omega) _
  refine y_al0 c_96_0 ?_
  refine y_gp c_96_1 rfl ?_
  refine y_il1 c_96_4 ?_
  refine k_26 c_96_5 rfl qc (Nat.le_of_ble_eq_true rfl) ?_
  refine s_26 hp hz ?_
  rw [n4]
  refine y_pz_ne c_96_8 (fun h1 => ?_) (fun h1 => ?_)
  · refine y_al0 c_96_13 ?_
    refine y_gr 33 c_96_14 rfl (by omega) ?_
    refine k_44 c_96_17 rfl rfl (Nat.le_of_ble_eq_true rfl) ?_
    refine s_44 wrunS_33 ?_
    rw [hR.1]
    by_cases hrun : R.1 = -9
    · rw [if_pos hrun]
      refine y_iz_ne c_96_20 (by decide) (fun h => absurd rfl h) (fun _ => ?_)
      refine y_bi c_96_23 (by decide) ?_
      refine y_ret c_96_25 rfl ?_
      exact hQ _ _ (Or.inr (Or.inl ⟨h1, hrun, rfl⟩)) hC (fun b hb => rfl)
    rw [if_neg hrun]
    refine y_iz_ne c_96_20 (by decide) (fun _ => ?_) (fun h => absurd h (by decide))
    obtain ⟨g, s, eg, es, hgl, hsl⟩ := aRok_run hRk hrun
    obtain ⟨z0, rfl⟩ : ∃ z0 : Nat, z = z0 := ⟨z.toNat, by omega⟩
    have hfr : aFresh P R = ((g : Int), (s : Int), aGr P g, []) := by unfold aFresh; rw [eg, es, Int.toNat_natCast]
    have hRn : aRok P (aFresh P R) := by rw [hfr]; exact aNew_ok hok hgl hsl (aGr_le hok hgl)
    refine y_al0 c_96_26 ?_
    refine y_gr 36 c_96_27 rfl (by omega) ?_
    refine y_al0 c_96_30 ?_
    refine y_gp c_96_31 rfl ?_
    refine y_al0 c_96_34 ?_
    refine y_gr 33 c_96_35 rfl (by omega) ?_
    refine y_gi (j := 0) (z := (g : Int)) c_96_38 rfl rfl (hR.1.trans eg) (fun r_38 => ?_)
    refine y_al0 c_96_41 ?_
    refine y_gr 33 c_96_42 rfl (by omega) ?_
    refine y_gi (j := 1) (z := (s : Int)) c_96_45 rfl rfl (hR.2.1.trans es) (fun r_45 => ?_)
    refine k_42 c_96_48 rfl rfl (Nat.le_of_ble_eq_true rfl) ?_
    refine s_42 wrunS_36 hp hM hok hgl hsl (fun b h1 h2 => by omega) (fun M1 hR1 hf1 => ?_)
    rw [← hfr] at hR1
    have hM1 := wport_of hM (fun b h1 h2 => hf1 b (by omega))
    refine y_al0 c_96_51 ?_
    refine y_gr 93 c_96_52 rfl (by omega) ?_
    refine y_al0 c_96_55 ?_
    refine y_gp c_96_56 rfl ?_
    refine y_al0 c_96_59 ?_
    refine y_gr 36 c_96_60 rfl (by omega) ?_
    refine k_7 c_96_63 rfl rfl (Nat.le_of_ble_eq_true rfl) ?_
    refine s_7 wrunS_36 hR1 hp hM1 hok hRn (by omega) (by omega) (fun M2 hT2 hf2 => ?_)
    have hM2 := wport_of hM1 (fun b h1 h2 => hf2 b (by omega) (by omega))
    refine y_al0 c_96_66 ?_
    refine y_gr 93 c_96_67 rfl (by omega) ?_
    refine y_al0 c_96_70 ?_
    refine y_gp c_96_71 rfl ?_
    refine k_15 c_96_74 rfl rfl (Nat.le_of_ble_eq_true rfl) ?_
    refine s_15 hp hM2 hok hRn hT2 (by omega) (fun M3 hff hf3 => ?_)
    obtain ⟨f, hff⟩ := hff
    have hf : ∀ b, b ≠ 96 → b ≠ 94 → b ≠ 95 → (b < 36 ∨ 38 < b) → M3 b = M b := fun b h3 h4 h5 h6 => by rw [hf3 b h3, hf2 b h4 h5, hf1 b h6]
    have hC3 : CI x M3 T P R L Tm sd K := CI_of hC (fun b hb => hf b (by unfold wown at hb; omega) (by unfold wown at hb; omega) (by unfold wown at hb; omega) (by unfold wown at hb; omega))
    have hF3 : ∀ b, 106 ≤ b → M3 b = M b := fun b hb => hf b (by omega) (by omega) (by omega) (by omega)
    obtain ⟨⟨m0, m1, m2, m3, m4, m5, m6⟩, -⟩ := id hC3.2.2.2.1
    refine y_al0 c_96_77 ?_
    refine y_gp c_96_78 rfl ?_
    refine k_23 c_96_81 rfl qc (Nat.le_of_ble_eq_true rfl) ?_
    refine s_23 hp ?_
    rw [m4]
    refine y_is3 c_96_84 rfl ?_
    refine y_ic c_96_85 ?_
    refine y_is4 c_96_86 rfl ?_
    refine y_ic c_96_88 ?_
    refine y_is5 c_96_89 rfl ?_
    exact key z0 (by omega) M3 f hC3 hF3 hrun rfl hff (2 ^ P.2.2.2 + 1) 0 (by omega) (Nat.zero_le _) _
  · refine y_ic c_96_11 ?_
    refine y_ret c_96_12 rfl ?_
    exact hQ _ _ (Or.inl ⟨h1, rfl⟩) hC (fun b hb => rfl)
end S16
