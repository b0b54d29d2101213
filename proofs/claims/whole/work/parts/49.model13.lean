/-! ===== the model: misheard ===== -/
theorem sumTo_mul (c : Nat) (f : Nat → Nat) : ∀ n, sumTo (fun k => c * f k) n = c * sumTo f n
  | 0 => rfl
  | n + 1 => by
    have h := sumTo_mul c f n
    simp only [sumTo]
    rw [h, Nat.mul_add]
theorem sumTo_app (f : Nat → Nat) (a : Nat) : ∀ b, sumTo f (a + b) = sumTo f a + sumTo (fun k => f (a + k)) b
  | 0 => rfl
  | b + 1 => by
    have h := sumTo_app f a b
    rw [← Nat.add_assoc]
    simp only [sumTo]
    rw [h, Nat.add_assoc]
theorem lo_bit : ∀ n, n < 6 → ∀ i, i < 2 ^ n → ∀ k, k < n → (2 ^ n + i) / 2 ^ k % 2 = i / 2 ^ k % 2 := by decide +kernel
theorem hi_bit : ∀ n, n < 6 → ∀ i, i < 2 ^ n → (2 ^ n + i) / 2 ^ n % 2 = 1 ∧ i / 2 ^ n % 2 = 0 := by decide +kernel
theorem hi_pop : ∀ n, n < 6 → ∀ i, i < 2 ^ n → aPop (2 ^ n + i) = aPop i + 1 := by decide +kernel
theorem aPop_n : ∀ n, n < 7 → ∀ i, i < 2 ^ n → aPop i ≤ n := by decide +kernel
theorem aStL_hi (P : aP) (l : List Nat) {n i : Nat} (hn : n < 6) (hi : i < 2 ^ n) : ∀ k, k ≤ n → aStL P l (2 ^ n + i) k = aStL P l i k
  | 0, _ => rfl
  | k + 1, hk => by
    have h := aStL_hi P l hn hi k (by omega)
    simp only [aStL]
    rw [h, lo_bit n hn i hi k (by omega)]
def aMsW (P : aP) (x0 : Nat) (l : List Nat) (n s lost : Nat) : Nat := if aStL P l lost n = s then x0 ^ aPop lost * (10 - x0) ^ (n - aPop lost) else 0
theorem aNx_iff {t k s : Nat} : aNx t k = s ↔ (t = s ∧ aNx s k = s) ∨ ((1 ≤ s ∧ aNx (s - 1) k = s) ∧ t = s - 1) := by
  constructor
  · intro h
    by_cases e : t = s
    · subst e; exact Or.inl ⟨rfl, h⟩
    · have h1 : t + 1 = s := by unfold aNx at h; split at h <;> omega
      have h2 : s - 1 = t := by omega
      exact Or.inr ⟨⟨by omega, by rw [h2]; exact h⟩, h2.symm⟩
  · rintro (⟨rfl, h⟩ | ⟨⟨_, h⟩, rfl⟩)
    · exact h
    · exact h
theorem aMs_lo (P : aP) {x0 : Nat} {l : List Nat} {n s i : Nat} (hn : n < 6) (hi : i < 2 ^ n) : aMsW P x0 l (n + 1) s i = (10 - x0) * ((if aNx s (P.1 6 (l.getD n 0)) = s then aMsW P x0 l n s i else 0) + (if 1 ≤ s ∧ aNx (s - 1) (P.1 6 (l.getD n 0)) = s then aMsW P x0 l n (s - 1) i else 0)) := by
  have hp := aPop_n n (by omega) i hi
  have hs : aStL P l i (n + 1) = aNx (aStL P l i n) (P.1 6 (l.getD n 0)) := by
    simp only [aStL]
    rw [if_neg (by have := (hi_bit n hn i hi).2; omega)]
  have hpw : (10 - x0) ^ (n + 1 - aPop i) = (10 - x0) * (10 - x0) ^ (n - aPop i) := by rw [show n + 1 - aPop i = (n - aPop i) + 1 by omega, Nat.pow_succ, Nat.mul_comm]
  unfold aMsW
  rw [hs, hpw]
  generalize aStL P l i n = t
  generalize P.1 6 (l.getD n 0) = k
  have hiff := @aNx_iff t k s
  rw [Nat.mul_left_comm]
  generalize x0 ^ aPop i * (10 - x0) ^ (n - aPop i) = v
  by_cases h1 : aNx t k = s
  · rw [if_pos h1]
    rcases hiff.mp h1 with ⟨h2, h3⟩ | ⟨h2, h3⟩
    · rw [if_pos h3, if_pos h2]
      by_cases h4 : 1 ≤ s ∧ aNx (s - 1) k = s
      · rw [if_pos h4, if_neg (by omega), Nat.add_zero]
      · rw [if_neg h4, Nat.add_zero]
    · rw [if_pos h2, if_pos h3]
      by_cases h4 : aNx s k = s
      · rw [if_pos h4, if_neg (by omega), Nat.zero_add]
      · rw [if_neg h4, Nat.zero_add]
  · rw [if_neg h1]
    have h5 : (if aNx s k = s then (if t = s then v else 0) else 0) = 0 := by
      by_cases h6 : aNx s k = s
      · rw [if_pos h6, if_neg (fun h7 => h1 (hiff.mpr (Or.inl ⟨h7, h6⟩)))]
      · rw [if_neg h6]
    have h8 : (if 1 ≤ s ∧ aNx (s - 1) k = s then (if t = s - 1 then v else 0) else 0) = 0 := by
      by_cases h6 : 1 ≤ s ∧ aNx (s - 1) k = s
      · rw [if_pos h6, if_neg (fun h7 => h1 (hiff.mpr (Or.inr ⟨h6, h7⟩)))]
      · rw [if_neg h6]
    rw [h5, h8]
    simp
theorem aMs_hi (P : aP) {x0 : Nat} {l : List Nat} {n s i : Nat} (hn : n < 6) (hi : i < 2 ^ n) : aMsW P x0 l (n + 1) s (2 ^ n + i) = x0 * aMsW P x0 l n s i := by
  have hs : aStL P l (2 ^ n + i) (n + 1) = aStL P l i n := by
    simp only [aStL]
    rw [if_pos (hi_bit n hn i hi).1, aStL_hi P l hn hi n (Nat.le_refl _)]
  unfold aMsW
  rw [hs, hi_pop n hn i hi, show n + 1 - (aPop i + 1) = n - aPop i by omega, Nat.pow_succ]
  split
  · rw [Nat.mul_comm (x0 ^ aPop i) x0, Nat.mul_assoc]
  · rfl
theorem aMs_sum (P : aP) {x0 : Nat} {l : List Nat} (hl : l.length ≤ 6) : ∀ n, n ≤ l.length → ∀ s, sumTo (aMsW P x0 l n s) (2 ^ n) = aCh P x0 (l.take n) s
  | 0, _, s => by
    show 0 + (if (0 : Nat) = s then x0 ^ aPop 0 * (10 - x0) ^ (0 - aPop 0) else 0) = if s = 0 then 1 else 0
    by_cases e : s = 0
    · rw [if_pos e.symm, if_pos e, show aPop 0 = 0 from rfl]; rfl
    · rw [if_neg (fun h => e h.symm), if_neg e]
  | n + 1, h, s => by
    have hn : n < 6 := by omega
    have ih := aMs_sum P (x0 := x0) hl n (by omega)
    rw [take_s (by omega), aCh_app]
    rw [Nat.pow_succ, Nat.mul_two, sumTo_app, sumTo_congr _ (fun i hi => aMs_lo P hn hi), sumTo_congr _ (fun i hi => aMs_hi P hn hi), sumTo_mul, sumTo_mul, sumTo_add, ih s]
    generalize P.1 6 (l.getD n 0) = k
    unfold aHr
    have h1 : sumTo (fun i => if aNx s k = s then aMsW P x0 l n s i else 0) (2 ^ n) = if aNx s k = s then aCh P x0 (l.take n) s else 0 := by
      by_cases e : aNx s k = s
      · simp only [if_pos e]; exact ih s
      · simp only [if_neg e]; exact sumTo_zero _
    have h2 : sumTo (fun i => if 1 ≤ s ∧ aNx (s - 1) k = s then aMsW P x0 l n (s - 1) i else 0) (2 ^ n) = if 1 ≤ s ∧ aNx (s - 1) k = s then aCh P x0 (l.take n) (s - 1) else 0 := by
      by_cases e : 1 ≤ s ∧ aNx (s - 1) k = s
      · simp only [if_pos e]; exact ih (s - 1)
      · simp only [if_neg e]; exact sumTo_zero _
    rw [h1, h2, Nat.mul_add, Nat.mul_comm x0]
    have m1 : (10 - x0) * (if aNx s k = s then aCh P x0 (l.take n) s else 0) = if aNx s k = s then aCh P x0 (l.take n) s * (10 - x0) else 0 := by
      split
      · exact Nat.mul_comm _ _
      · rfl
    have m2 : (10 - x0) * (if 1 ≤ s ∧ aNx (s - 1) k = s then aCh P x0 (l.take n) (s - 1) else 0) = if 1 ≤ s ∧ aNx (s - 1) k = s then aCh P x0 (l.take n) (s - 1) * (10 - x0) else 0 := by
      split
      · exact Nat.mul_comm _ _
      · rfl
    rw [m1, m2]
    omega
section S37
variable {x : wC} {M : wM} {Q : Option Value → wC → wM → Prop} {T : List Nat} {P : aP} {R : aR} {L : aA} {Tm : aT} {sd : Int64} {K : Nat → Option aR}
theorem s_183 {z b : Int} (hC : MI x M T P R L Tm sd K) (hA : AOK T P R L Tm K) (hz : wR z) (hb : b = 0 ∨ b = 1) (hQ : ∀ M', MI x M' T P R L Tm sd K → (∀ b, b < 106 → M' b = M b) → Q (some (.int (iI (aMis P R z b)))) x M') : yG x M 183 0 [.ref 106, .int (iI z), .int (iI b), zU, zU, zU, zU] [] Q := by
  obtain ⟨⟨ht56, ht256⟩, hok, hRk, ⟨hl14, hLk⟩, hTk, hKk⟩ := id hA
  obtain ⟨z1, z2, z3, z4, z5⟩ := aRok_len hok hRk
  have z6 : ∀ y ∈ R.2.2.2, y < 6 := fun y hy => by have := z3 y hy; have := hok.2.2.1; omega
  have hb1 := hok.1
  have hb2 := hok.2.1
  have hb3 := hok.2.2.1
  have hp2 : 2 ^ R.2.2.2.length ≤ 2 ^ 6 := Nat.pow_le_pow_right (by omega) (by omega)
  have hpt : 10 ^ R.2.2.2.length ≤ 10 ^ 6 := Nat.pow_le_pow_right (by omega) (by omega)
  have hpt0 : 0 < 10 ^ R.2.2.2.length := Nat.pow_pos (by omega)
  unfold aMis at hQ
  have key : ∀ z0 : Nat, z = z0 → z0 ≤ 10 → ∀ M1 : wM, MI x M1 T P R L Tm sd K → (∀ b, b < 106 → M1 b = M b) → ∀ d k : Nat, 2 ^ R.2.2.2.length < k + d → k ≤ 2 ^ R.2.2.2.length → ∀ w6 : Value, yG x M1 183 33 [.ref 106, .int (iI (z0 : Int)), .int (iI b), .int (iI (R.2.2.2.length : Int)), .int (iI (sumTo (aMsW P z0 R.2.2.2 R.2.2.2.length 3) k : Nat)), .int (iI (k : Int)), w6] [] Q := by
    intro z0 hzz hz10 M1 hC1 hF1 d
    induction d with
    | zero => intro k g1 g2; omega
    | succ d ih =>
      intro k g1 g2 w6
      refine y_il5 c_183_33 ?_
      refine y_ic c_183_35 ?_
      refine y_il3 c_183_36 ?_
      refine y_shl (x1 := 1) (x2 := R.2.2.2.length) c_183_37 (by omega) (by omega) ?_
      rw [Nat.one_mul]
      refine y_ic_ge c_183_38 (by omega) (by omega) (fun h_38 => ?_) (fun h_38 => ?_)
      · have hk : k = 2 ^ R.2.2.2.length := by omega
        subst hk
        rw [if_pos (by omega), hzz, Int.toNat_natCast] at hQ
        have hsm := aMs_sum P (x0 := z0) z2 R.2.2.2.length (Nat.le_refl _) 3
        rw [List.take_length] at hsm
        rw [hsm]
        have hsc := aCh_sum P hz10 R.2.2.2 R.2.2.2.length (Nat.le_refl _)
        rw [List.take_length] at hsc
        refine y_il4 c_183_94 ?_
        refine y_bi c_183_96 (by decide) ?_
        refine y_il3 c_183_98 ?_
        refine k_120 c_183_99 rfl (Nat.le_of_ble_eq_true rfl) ?_
        refine s_120 (b := 10) (by omega) ?_
        refine y_il2 c_183_102 ?_
        refine k_175 c_183_103 rfl (Nat.le_of_ble_eq_true rfl) ?_
        refine s_175 (by omega) (by omega) hpt0 hb ?_
        refine y_ret c_183_106 rfl ?_
        exact hQ _ hC1 hF1
      · have hpop := aPop_n R.2.2.2.length (by omega) k (by omega)
        have hs2 : sumTo (aMsW P z0 R.2.2.2 R.2.2.2.length 3) (k + 1) = sumTo (aMsW P z0 R.2.2.2 R.2.2.2.length 3) k + (if aStL P R.2.2.2 k R.2.2.2.length = 3 then z0 ^ aPop k * (10 - z0) ^ (R.2.2.2.length - aPop k) else 0) := rfl
        refine y_il5 c_183_41 ?_
        refine k_119 c_183_43 rfl (Nat.le_of_ble_eq_true rfl) ?_
        refine s_119 (by omega) ?_
        refine y_is6 c_183_46 rfl ?_
        refine y_il4 c_183_48 ?_
        refine y_al0 c_183_50 ?_
        refine y_al0 c_183_51 ?_
        refine y_gr 114 c_183_52 rfl (by omega) ?_
        refine y_il5 c_183_55 ?_
        refine k_140 c_183_57 rfl rfl (Nat.le_of_ble_eq_true rfl) ?_
        refine s_140 rfl hC1.2.2.2.1 z2 hC1.2.2.1 hok z3 (by omega) ?_
        refine y_pz_eq c_183_60 (fun h1 => ?_) (fun h1 => ?_)
        · rw [if_neg h1] at hs2
          refine y_ic c_183_84 ?_
          refine y_add c_183_85 ?_
          rw [show ((sumTo (aMsW P z0 R.2.2.2 R.2.2.2.length 3) k : Nat) : Int) + 0 = ((sumTo (aMsW P z0 R.2.2.2 R.2.2.2.length 3) (k + 1) : Nat) : Int) by rw [hs2]; omega]
          refine y_is4 c_183_86 rfl ?_
          refine y_inc5 c_183_88 rfl ?_
          refine y_goto c_183_91 ?_
          exact ih (k + 1) (by omega) (by omega) _
        · rw [if_pos h1] at hs2
          refine y_il1 c_183_63 ?_
          refine y_il6 c_183_64 ?_
          refine k_120 c_183_66 rfl (Nat.le_of_ble_eq_true rfl) ?_
          refine s_120 (b := z0) (n := aPop k) (by omega) ?_
          refine y_bi c_183_69 (by decide) ?_
          refine y_il1 c_183_71 ?_
          refine y_sub c_183_72 ?_
          rw [show ((10 : Int) - (z0 : Int)) = ((10 - z0 : Nat) : Int) by omega]
          refine y_il3 c_183_73 ?_
          refine y_il6 c_183_74 ?_
          refine y_sub c_183_76 ?_
          rw [show ((R.2.2.2.length : Int) - (aPop k : Int)) = ((R.2.2.2.length - aPop k : Nat) : Int) by omega]
          refine k_120 c_183_77 rfl (Nat.le_of_ble_eq_true rfl) ?_
          refine s_120 (by omega) ?_
          refine y_mul c_183_80 ?_
          refine y_goto c_183_81 ?_
          refine y_add c_183_85 ?_
          rw [show ((sumTo (aMsW P z0 R.2.2.2 R.2.2.2.length 3) k : Nat) : Int) + ((z0 ^ aPop k : Nat) : Int) * (((10 - z0) ^ (R.2.2.2.length - aPop k) : Nat) : Int) = ((sumTo (aMsW P z0 R.2.2.2 R.2.2.2.length 3) (k + 1) : Nat) : Int) by rw [hs2, ← Int.natCast_mul, ← Int.natCast_add]]
          refine y_is4 c_183_86 rfl ?_
          refine y_inc5 c_183_88 rfl ?_
          refine y_goto c_183_91 ?_
          exact ih (k + 1) (by omega) (by omega) _
  refine y_al0 c_183_0 ?_
  refine y_ic c_183_1 ?_
  refine y_pi (j := 0) c_183_2 rfl rfl rfl (by decide) ?_
  have hC0 := MI_thr hC
  have hF0 : ∀ b, b < 106 → (wup M 106 0 0) b = M b := fun b hb => wup_f _ _ _ (by omega)
  generalize (wup M 106 0 0) = M0 at hC0 hF0 ⊢
  obtain ⟨hsd, hT, hM, hR, hL, hTm, hK⟩ := id hC0
  obtain ⟨m4, m6, m8, v1, v2, v3⟩ := id hM
  obtain ⟨a0, a1, a2, a3, a4⟩ := id hR
  refine y_il1 c_183_5 ?_
  refine y_i2l c_183_6 (by omega) ?_
  refine y_lc (z := 0) c_183_7 rfl ?_
  refine y_ldc2 c_183_8 ?_
  refine k_117 c_183_11 rfl (Nat.le_of_ble_eq_true rfl) ?_
  refine s_117 hz (by decide) (by decide) ?_
  refine y_pz_ne c_183_14 (fun h1 => ?_) (fun h1 => ?_)
  · obtain ⟨z0, rfl⟩ : ∃ i : Nat, z = i := ⟨z.toNat, by omega⟩
    refine y_al0 c_183_20 ?_
    refine y_gr 114 c_183_21 rfl (by omega) ?_
    refine y_ic c_183_24 ?_
    refine y_ald (n := 10) (u := (R.2.2.2.length : Int)) c_183_25 rfl (by omega) (by omega) (by omega) a3 (fun r_25 => ?_)
    refine y_is3 c_183_26 rfl ?_
    refine y_ic c_183_27 ?_
    refine y_is4 c_183_28 rfl ?_
    refine y_ic c_183_30 ?_
    refine y_is5 c_183_31 rfl ?_
    exact key z0 rfl (by omega) M0 hC0 hF0 (2 ^ R.2.2.2.length + 1) 0 (by omega) (Nat.zero_le _) _
  · refine y_bi c_183_17 (by decide) ?_
    refine y_ret c_183_19 rfl ?_
    rw [if_neg (by omega)] at hQ; exact hQ _ hC0 hF0
end S37
