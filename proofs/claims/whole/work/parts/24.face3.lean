/-! ===== LoveGlass: declarations ===== -/
def aCanD (P : aP) (s g : Nat) : Prop := ∃ q, aDec P ((g : Int), (s : Int), aGr P g, []) 63 q
def aWarmV (P : aP) (R : aR) (b r : Int) : Prop := (∃ w c f, aBestW P R 63 w c f ∧ r = if b = 0 then (w : Int) + aWarm P R.2.2.2 else f) ∨ ((∀ q, ¬ aDec P R 63 q) ∧ r = -9)
def aShortV (P : aP) (R : aR) (b r : Int) : Prop := (∃ c f, aBestS P R 63 c f ∧ r = if b = 0 then (c : Int) else f) ∨ ((∀ q, ¬ aDec P R 63 q) ∧ r = -9)
theorem aWarmV_one {P : aP} {R : aR} {b r r' : Int} (h1 : aWarmV P R b r) (h2 : aWarmV P R b r') : r = r' := by
  rcases h1 with ⟨w, c, f, a1, rfl⟩ | ⟨a1, rfl⟩ <;> rcases h2 with ⟨w', c', f', a2, rfl⟩ | ⟨a2, rfl⟩
  · obtain ⟨rfl, rfl, rfl⟩ := aBestW_one a1 a2; rfl
  · exact absurd a1.1.choose_spec.1 (a2 _)
  · exact absurd a2.1.choose_spec.1 (a1 _)
  · rfl
theorem aShortV_one {P : aP} {R : aR} {b r r' : Int} (h1 : aShortV P R b r) (h2 : aShortV P R b r') : r = r' := by
  rcases h1 with ⟨c, f, a1, rfl⟩ | ⟨a1, rfl⟩ <;> rcases h2 with ⟨c', f', a2, rfl⟩ | ⟨a2, rfl⟩
  · obtain ⟨rfl, rfl⟩ := aBestS_one a1 a2; rfl
  · exact absurd a1.1.choose_spec.1 (a2 _)
  · exact absurd a2.1.choose_spec.1 (a1 _)
  · rfl
theorem or_bit {v k j : Nat} : (v ||| 2 ^ k) / 2 ^ j % 2 = 1 ↔ (v / 2 ^ j % 2 = 1 ∨ j = k) := by
  have h1 := Nat.testBit_eq_decide_div_mod_eq (x := v ||| 2 ^ k) (i := j)
  have h2 := Nat.testBit_eq_decide_div_mod_eq (x := v) (i := j)
  rw [Nat.testBit_or, Nat.testBit_two_pow, h2] at h1
  rw [Bool.eq_iff_iff, Bool.or_eq_true, decide_eq_true_iff, decide_eq_true_iff, decide_eq_true_iff] at h1
  rw [← h1]
  exact or_congr Iff.rfl eq_comm
theorem or_bit_lt {v k n : Nat} (hv : v < 2 ^ n) (hk : k < n) : v ||| 2 ^ k < 2 ^ n := Nat.or_lt_two_pow hv (Nat.pow_lt_pow_right (by omega) hk)
/-- a set of numbers below n, as bits -/
def aBm (C : Nat → Prop) (n v : Nat) : Prop := v < 2 ^ n ∧ ∀ k, k < n → (v / 2 ^ k % 2 = 1 ↔ C k)
theorem aBm_0 (C : Nat → Prop) : aBm C 0 0 := ⟨by decide, fun k hk => by omega⟩
theorem aBm_y {C : Nat → Prop} {n v : Nat} (h : aBm C n v) (hc : C n) : aBm C (n + 1) (v ||| 2 ^ n) := by
  refine ⟨or_bit_lt (Nat.lt_of_lt_of_le h.1 (Nat.pow_le_pow_right (by omega) (by omega))) (by omega), fun k hk => ?_⟩
  rw [or_bit]
  by_cases hkn : k = n
  · subst hkn; exact ⟨fun _ => hc, fun _ => Or.inr rfl⟩
  · rw [← h.2 k (by omega)]
    exact ⟨fun g => g.elim id (fun g => absurd g hkn), Or.inl⟩
theorem aBm_n {C : Nat → Prop} {n v : Nat} (h : aBm C n v) (hc : ¬ C n) : aBm C (n + 1) v := by
  refine ⟨Nat.lt_of_lt_of_le h.1 (Nat.pow_le_pow_right (by omega) (by omega)), fun k hk => ?_⟩
  by_cases hkn : k = n
  · subst hkn
    rw [Nat.div_eq_of_lt h.1]
    exact ⟨fun g => by simp at g, fun g => absurd g hc⟩
  · exact h.2 k (by omega)
theorem aBm_one {C : Nat → Prop} {n v v' : Nat} (h : aBm C n v) (h' : aBm C n v') : v = v' := by
  refine Nat.eq_of_testBit_eq fun i => ?_
  rw [Nat.testBit_eq_decide_div_mod_eq, Nat.testBit_eq_decide_div_mod_eq]
  by_cases hi : i < n
  · rw [Bool.eq_iff_iff, decide_eq_true_iff, decide_eq_true_iff, h.2 i hi, h'.2 i hi]
  · rw [Nat.div_eq_of_lt (Nat.lt_of_lt_of_le h.1 (Nat.pow_le_pow_right (by omega) (by omega))), Nat.div_eq_of_lt (Nat.lt_of_lt_of_le h'.1 (Nat.pow_le_pow_right (by omega) (by omega)))]
def aCanV (P : aP) (z r : Int) : Prop := (¬ (0 ≤ z ∧ z < P.2.1) ∧ r = -1) ∨ ((0 ≤ z ∧ z < P.2.1) ∧ ∃ v : Nat, r = v ∧ aBm (fun s => aCanD P s z.toNat) P.2.2.1 v)
theorem aCanV_one {P : aP} {z r r' : Int} (h1 : aCanV P z r) (h2 : aCanV P z r') : r = r' := by
  rcases h1 with ⟨a, b⟩ | ⟨a, v, rfl, b⟩ <;> rcases h2 with ⟨a', b'⟩ | ⟨a', v', rfl, b'⟩
  · omega
  · exact absurd a' a
  · exact absurd a a'
  · rw [aBm_one b b']
def aDs (P : aP) (s n : Nat) (r : Int) : Prop := (r = -9 ∧ ∀ g, g < n → ¬ aCanD P s g) ∨ ∃ g : Nat, r = g ∧ g < n ∧ aCanD P s g ∧ ∀ g', g' < n → aCanD P s g' → aGr P g < aGr P g' ∨ (aGr P g = aGr P g' ∧ g ≤ g')
theorem aDs_one {P : aP} {s n : Nat} {r r' : Int} (h1 : aDs P s n r) (h2 : aDs P s n r') : r = r' := by
  rcases h1 with ⟨rfl, a⟩ | ⟨g, rfl, a, b, c⟩ <;> rcases h2 with ⟨rfl, a'⟩ | ⟨g', rfl, a', b', c'⟩
  · rfl
  · exact absurd b' (a _ a')
  · exact absurd b (a' _ a)
  · have := c g' a' b'
    have := c' g a b
    omega
theorem aDs_s {P : aP} {s n : Nat} {r : Int} (h : aDs P s n r) : (aCanD P s n → (r = -9 ∨ aGr P n < aGr P r.toNat) → aDs P s (n + 1) (n : Int)) ∧ (¬ aCanD P s n → aDs P s (n + 1) r) ∧ (r ≠ -9 → aGr P r.toNat ≤ aGr P n → aDs P s (n + 1) r) := by
  rcases h with ⟨rfl, a⟩ | ⟨g, rfl, a, b, c⟩
  · refine ⟨fun h _ => Or.inr ⟨n, rfl, by omega, h, fun g' h1 h2 => ?_⟩, fun h => Or.inl ⟨rfl, fun g h1 h2 => ?_⟩, fun h => absurd rfl h⟩
    · by_cases e : g' = n
      · subst e; omega
      · exact absurd h2 (a g' (by omega))
    · by_cases e : g = n
      · subst e; exact h h2
      · exact a g (by omega) h2
  · rw [Int.toNat_natCast]
    refine ⟨fun h h0 => Or.inr ⟨n, rfl, by omega, h, fun g' h1 h2 => ?_⟩, fun h => Or.inr ⟨g, rfl, by omega, b, fun g' h1 h2 => ?_⟩, fun _ h => Or.inr ⟨g, rfl, by omega, b, fun g' h1 h2 => ?_⟩⟩
    · by_cases e : g' = n
      · subst e; omega
      · have := c g' (by omega) h2
        omega
    · by_cases e : g' = n
      · subst e; exact absurd h2 h
      · exact c g' (by omega) h2
    · by_cases e : g' = n
      · subst e; omega
      · exact c g' (by omega) h2
def aDoesV (P : aP) (z r : Int) : Prop := (¬ (0 ≤ z ∧ z < P.2.2.1) ∧ r = -1) ∨ ((0 ≤ z ∧ z < P.2.2.1) ∧ aDs P z.toNat P.2.1 r)
theorem aDoesV_one {P : aP} {z r r' : Int} (h1 : aDoesV P z r) (h2 : aDoesV P z r') : r = r' := by
  rcases h1 with ⟨a, b⟩ | ⟨a, b⟩ <;> rcases h2 with ⟨a', b'⟩ | ⟨a', b'⟩
  · omega
  · exact absurd a' a
  · exact absurd a a'
  · exact aDs_one b b'
section S12
variable {x : wC} {M : wM} {Q : Option Value → wC → wM → Prop} {T : List Nat} {P : aP} {R : aR} {L : aA} {Tm : aT} {sd : Int64} {K : Nat → Option aR}
theorem s_83 {z : Int} (hC : CI x M T P R L Tm sd K) (hA : AOK T P R L Tm K) (hz : z = 0 ∨ z = 1) (hQ : ∀ r M', aWarmV P R z r → CI x M' T P R L Tm sd K → (∀ b, 106 ≤ b → M' b = M b) → Q (some (.int (iI r))) x M') : yG x M 83 0 [.ref 0, .int (iI z)] [] Q := by
  obtain ⟨hx, hsd, hT, hM, hR, hL, hTm, hK0, hK⟩ := id hC
  obtain ⟨⟨ht56, ht256⟩, hok, hRk, ⟨hl14, hLk⟩, hTk, hKk⟩ := id hA
  obtain ⟨hp, hp33⟩ := CI_port hx
  obtain ⟨z1, z2, z3, z4, z5⟩ := aRok_len hok hRk
  have z6 : ∀ y ∈ R.2.2.2, y < 6 := fun y hy => by have := z3 y hy; have := hok.2.2.1; omega
  have hb1 := hok.1
  have hb2 := hok.2.1
  have hb3 := hok.2.2.1
  obtain ⟨q0, q1, q2, q3, q4, q5, q6, qc, j0, j1, j2, j3, j4, j5, j6, qlt⟩ := id hp
  obtain ⟨⟨n0, n1, n2, n3, n4, n5, n6⟩, v0, v1, v2, v3, v4, v5, v6⟩ := id hM
  refine y_al0 c_83_0 ?_
  refine y_gr 93 c_83_1 rfl (by omega) ?_
  refine y_al0 c_83_4 ?_
  refine y_gp c_83_5 rfl ?_
  refine y_al0 c_83_8 ?_
  refine y_gr 33 c_83_9 rfl (by omega) ?_
  refine k_7 c_83_12 rfl rfl (Nat.le_of_ble_eq_true rfl) ?_
  refine s_7 wrunS_33 hR hp hM hok hRk (by omega) (by omega) (fun M1 hT1 hf1 => ?_)
  have hM1 := wport_of hM (fun b h1 h2 => hf1 b (by omega) (by omega))
  refine y_al0 c_83_15 ?_
  refine y_gr 93 c_83_16 rfl (by omega) ?_
  refine y_al0 c_83_19 ?_
  refine y_gp c_83_20 rfl ?_
  refine k_10 c_83_23 rfl rfl (Nat.le_of_ble_eq_true rfl) ?_
  refine s_10 hp hM1 hok hRk hT1 (by omega) (fun M2 hno hf2 => ?_) (fun M2 w c f hb h3 h5 hf2 => ?_)
  · refine y_iz_ne c_83_26 (by decide) (fun h => absurd rfl h) (fun _ => ?_)
    have hf : ∀ b, b ≠ 93 → b ≠ 94 → b ≠ 95 → M2 b = M b := fun b h3 h4 h5 => by rw [hf2 b h3, hf1 b h4 h5]
    have hC2 : CI x M2 T P R L Tm sd K := CI_of hC (fun b hb => hf b (by unfold wown at hb; omega) (by unfold wown at hb; omega) (by unfold wown at hb; omega))
    have hF2 : ∀ b, 106 ≤ b → M2 b = M b := fun b hb => hf b (by omega) (by omega) (by omega)
    refine y_bi c_83_29 (by decide) ?_
    refine y_ret c_83_31 rfl ?_
    exact hQ _ _ (Or.inr ⟨hno, rfl⟩) hC2 hF2
  · refine y_iz_ne c_83_26 (by decide) (fun _ => ?_) (fun h => absurd h (by decide))
    have hf : ∀ b, b ≠ 93 → b ≠ 94 → b ≠ 95 → M2 b = M b := fun b h3 h4 h5 => by rw [hf2 b h3, hf1 b h4 h5]
    have hC2 : CI x M2 T P R L Tm sd K := CI_of hC (fun b hb => hf b (by unfold wown at hb; omega) (by unfold wown at hb; omega) (by unfold wown at hb; omega))
    have hF2 : ∀ b, 106 ≤ b → M2 b = M b := fun b hb => hf b (by omega) (by omega) (by omega)
    have hR2 := hC2.2.2.2.2.1
    have hM2 := hC2.2.2.2.1
    refine y_il1 c_83_32 ?_
    refine y_iz_eq c_83_33 (by omega) (fun h_33 => ?_) (fun h_33 => ?_)
    · subst h_33
      refine y_al0 c_83_46 ?_
      refine y_gr 93 c_83_47 rfl (by omega) ?_
      refine y_gi (j := 3) (z := (w : Int)) c_83_50 rfl rfl h3 (fun r_50 => ?_)
      refine y_al0 c_83_53 ?_
      refine y_gp c_83_54 rfl ?_
      refine y_al0 c_83_57 ?_
      refine y_gr 33 c_83_58 rfl (by omega) ?_
      refine k_46 c_83_61 rfl rfl (Nat.le_of_ble_eq_true rfl) ?_
      refine s_46 wrunS_33 hR2 z2 z6 ?_
      refine k_30 c_83_64 rfl qc (Nat.le_of_ble_eq_true rfl) ?_
      refine s_30 hp hM2 hok (by have := aBits_lt z6; omega) ?_
      rw [aWs_warm z5 z3]
      refine y_add c_83_67 ?_
      refine y_ret c_83_68 rfl ?_
      first
        | exact hQ _ _ (Or.inl ⟨w, c, f, hb, by rw [if_pos rfl]⟩) hC2 hF2
        | exact hQ _ _ (Or.inl ⟨w, c, f, hb, by rw [if_neg (by decide)]⟩) hC2 hF2
    · rw [show z = 1 by omega] at hQ
      refine y_al0 c_83_36 ?_
      refine y_gr 93 c_83_37 rfl (by omega) ?_
      refine y_gi (j := 5) (z := (f : Int)) c_83_40 rfl rfl h5 (fun r_40 => ?_)
      refine y_goto c_83_43 ?_
      refine y_ret c_83_68 rfl ?_
      first
        | exact hQ _ _ (Or.inl ⟨w, c, f, hb, by rw [if_pos rfl]⟩) hC2 hF2
        | exact hQ _ _ (Or.inl ⟨w, c, f, hb, by rw [if_neg (by decide)]⟩) hC2 hF2
theorem s_84 {z : Int} (hC : CI x M T P R L Tm sd K) (hA : AOK T P R L Tm K) (hz : z = 0 ∨ z = 1) (hQ : ∀ r M', aShortV P R z r → CI x M' T P R L Tm sd K → (∀ b, 106 ≤ b → M' b = M b) → Q (some (.int (iI r))) x M') : yG x M 84 0 [.ref 0, .int (iI z)] [] Q := by
  obtain ⟨hx, hsd, hT, hM, hR, hL, hTm, hK0, hK⟩ := id hC
  obtain ⟨⟨ht56, ht256⟩, hok, hRk, ⟨hl14, hLk⟩, hTk, hKk⟩ := id hA
  obtain ⟨hp, hp33⟩ := CI_port hx
  obtain ⟨z1, z2, z3, z4, z5⟩ := aRok_len hok hRk
  have z6 : ∀ y ∈ R.2.2.2, y < 6 := fun y hy => by have := z3 y hy; have := hok.2.2.1; omega
  have hb1 := hok.1
  have hb2 := hok.2.1
  have hb3 := hok.2.2.1
  obtain ⟨q0, q1, q2, q3, q4, q5, q6, qc, j0, j1, j2, j3, j4, j5, j6, qlt⟩ := id hp
  obtain ⟨⟨n0, n1, n2, n3, n4, n5, n6⟩, v0, v1, v2, v3, v4, v5, v6⟩ := id hM
  refine y_al0 c_84_0 ?_
  refine y_gr 93 c_84_1 rfl (by omega) ?_
  refine y_al0 c_84_4 ?_
  refine y_gp c_84_5 rfl ?_
  refine y_al0 c_84_8 ?_
  refine y_gr 33 c_84_9 rfl (by omega) ?_
  refine k_7 c_84_12 rfl rfl (Nat.le_of_ble_eq_true rfl) ?_
  refine s_7 wrunS_33 hR hp hM hok hRk (by omega) (by omega) (fun M1 hT1 hf1 => ?_)
  have hM1 := wport_of hM (fun b h1 h2 => hf1 b (by omega) (by omega))
  refine y_al0 c_84_15 ?_
  refine y_gr 93 c_84_16 rfl (by omega) ?_
  refine k_11 c_84_19 rfl rfl (Nat.le_of_ble_eq_true rfl) ?_
  refine s_11 hok hRk hT1 (fun M2 hno hf2 => ?_) (fun M2 c f hb h4 h5 hf2 => ?_)
  · refine y_iz_ne c_84_22 (by decide) (fun h => absurd rfl h) (fun _ => ?_)
    have hf : ∀ b, b ≠ 93 → b ≠ 94 → b ≠ 95 → M2 b = M b := fun b h3 h4 h5 => by rw [hf2 b h3, hf1 b h4 h5]
    have hC2 : CI x M2 T P R L Tm sd K := CI_of hC (fun b hb => hf b (by unfold wown at hb; omega) (by unfold wown at hb; omega) (by unfold wown at hb; omega))
    have hF2 : ∀ b, 106 ≤ b → M2 b = M b := fun b hb => hf b (by omega) (by omega) (by omega)
    refine y_bi c_84_25 (by decide) ?_
    refine y_ret c_84_27 rfl ?_
    exact hQ _ _ (Or.inr ⟨hno, rfl⟩) hC2 hF2
  · refine y_iz_ne c_84_22 (by decide) (fun _ => ?_) (fun h => absurd h (by decide))
    have hf : ∀ b, b ≠ 93 → b ≠ 94 → b ≠ 95 → M2 b = M b := fun b h3 h4 h5 => by rw [hf2 b h3, hf1 b h4 h5]
    have hC2 : CI x M2 T P R L Tm sd K := CI_of hC (fun b hb => hf b (by unfold wown at hb; omega) (by unfold wown at hb; omega) (by unfold wown at hb; omega))
    have hF2 : ∀ b, 106 ≤ b → M2 b = M b := fun b hb => hf b (by omega) (by omega) (by omega)
    refine y_il1 c_84_28 ?_
    refine y_iz_eq c_84_29 (by omega) (fun h_29 => ?_) (fun h_29 => ?_)
    · subst h_29
      refine y_al0 c_84_42 ?_
      refine y_gr 93 c_84_43 rfl (by omega) ?_
      refine y_gi (j := 4) (z := (c : Int)) c_84_46 rfl rfl h4 (fun r_46 => ?_)
      refine y_ret c_84_49 rfl ?_
      first
        | exact hQ _ _ (Or.inl ⟨c, f, hb, by rw [if_pos rfl]⟩) hC2 hF2
        | exact hQ _ _ (Or.inl ⟨c, f, hb, by rw [if_neg (by decide)]⟩) hC2 hF2
    · rw [show z = 1 by omega] at hQ
      refine y_al0 c_84_32 ?_
      refine y_gr 93 c_84_33 rfl (by omega) ?_
      refine y_gi (j := 5) (z := (f : Int)) c_84_36 rfl rfl h5 (fun r_36 => ?_)
      refine y_goto c_84_39 ?_
      refine y_ret c_84_49 rfl ?_
      first
        | exact hQ _ _ (Or.inl ⟨c, f, hb, by rw [if_pos rfl]⟩) hC2 hF2
        | exact hQ _ _ (Or.inl ⟨c, f, hb, by rw [if_neg (by decide)]⟩) hC2 hF2
theorem s_86 {s g : Nat} (hC : CI x M T P R L Tm sd K) (hA : AOK T P R L Tm K) (hs : s < P.2.2.1) (hg : g < P.2.1) (hQ0 : ∀ M', ¬ aCanD P s g → CI x M' T P R L Tm sd K → (∀ b, 106 ≤ b → M' b = M b) → Q (some (.int (iI 0))) x M') (hQ1 : ∀ M', aCanD P s g → CI x M' T P R L Tm sd K → (∀ b, 106 ≤ b → M' b = M b) → Q (some (.int (iI 1))) x M') : yG x M 86 0 [.ref 0, .int (iI (s : Int)), .int (iI (g : Int))] [] Q := by
  obtain ⟨hx, hsd, hT, hM, hR, hL, hTm, hK0, hK⟩ := id hC
  obtain ⟨⟨ht56, ht256⟩, hok, hRk, ⟨hl14, hLk⟩, hTk, hKk⟩ := id hA
  obtain ⟨hp, hp33⟩ := CI_port hx
  obtain ⟨z1, z2, z3, z4, z5⟩ := aRok_len hok hRk
  have z6 : ∀ y ∈ R.2.2.2, y < 6 := fun y hy => by have := z3 y hy; have := hok.2.2.1; omega
  have hb1 := hok.1
  have hb2 := hok.2.1
  have hb3 := hok.2.2.1
  obtain ⟨q0, q1, q2, q3, q4, q5, q6, qc, j0, j1, j2, j3, j4, j5, j6, qlt⟩ := id hp
  obtain ⟨⟨n0, n1, n2, n3, n4, n5, n6⟩, v0, v1, v2, v3, v4, v5, v6⟩ := id hM
  have hRn : aRok P ((g : Int), (s : Int), aGr P g, []) := aNew_ok hok hg hs (aGr_le hok hg)
  refine y_al0 c_86_0 ?_
  refine y_gr 36 c_86_1 rfl (by omega) ?_
  refine y_al0 c_86_4 ?_
  refine y_gp c_86_5 rfl ?_
  refine y_il2 c_86_8 ?_
  refine y_il1 c_86_9 ?_
  refine k_42 c_86_10 rfl rfl (Nat.le_of_ble_eq_true rfl) ?_
  refine s_42 wrunS_36 hp hM hok hg hs (fun b h1 h2 => by omega) (fun M1 hR1 hf1 => ?_)
  have hM1 := wport_of hM (fun b h1 h2 => hf1 b (by omega))
  refine y_al0 c_86_13 ?_
  refine y_gr 93 c_86_14 rfl (by omega) ?_
  refine y_al0 c_86_17 ?_
  refine y_gp c_86_18 rfl ?_
  refine y_al0 c_86_21 ?_
  refine y_gr 36 c_86_22 rfl (by omega) ?_
  refine k_7 c_86_25 rfl rfl (Nat.le_of_ble_eq_true rfl) ?_
  refine s_7 wrunS_36 hR1 hp hM1 hok hRn (by omega) (by omega) (fun M2 hT2 hf2 => ?_)
  refine y_al0 c_86_28 ?_
  refine y_gr 93 c_86_29 rfl (by omega) ?_
  refine k_11 c_86_32 rfl rfl (Nat.le_of_ble_eq_true rfl) ?_
  refine s_11 hok hRn hT2 (fun M3 hno hf3 => ?_) (fun M3 c f hb h4 h5 hf3 => ?_)
  · refine y_zret c_86_35 rfl (by decide) ?_
    have hf : ∀ b, b ≠ 93 → b ≠ 94 → b ≠ 95 → (b < 36 ∨ 38 < b) → M3 b = M b := fun b h3 h4 h5 h6 => by rw [hf3 b h3, hf2 b h4 h5, hf1 b h6]
    have hC3 : CI x M3 T P R L Tm sd K := CI_of hC (fun b hb => hf b (by unfold wown at hb; omega) (by unfold wown at hb; omega) (by unfold wown at hb; omega) (by unfold wown at hb; omega))
    have hF3 : ∀ b, 106 ≤ b → M3 b = M b := fun b hb => hf b (by omega) (by omega) (by omega) (by omega)
    exact hQ0 _ (fun ⟨q, hq⟩ => hno q hq) hC3 hF3
  · refine y_zret c_86_35 rfl (by decide) ?_
    have hf : ∀ b, b ≠ 93 → b ≠ 94 → b ≠ 95 → (b < 36 ∨ 38 < b) → M3 b = M b := fun b h3 h4 h5 h6 => by rw [hf3 b h3, hf2 b h4 h5, hf1 b h6]
    have hC3 : CI x M3 T P R L Tm sd K := CI_of hC (fun b hb => hf b (by unfold wown at hb; omega) (by unfold wown at hb; omega) (by unfold wown at hb; omega) (by unfold wown at hb; omega))
    have hF3 : ∀ b, 106 ≤ b → M3 b = M b := fun b hb => hf b (by omega) (by omega) (by omega) (by omega)
    exact hQ1 _ (hb.1.imp fun q hq => hq.1) hC3 hF3
theorem s_85 {z : Int} (hC : CI x M T P R L Tm sd K) (hA : AOK T P R L Tm K) (hz : wR z) (hQ : ∀ r M', aCanV P z r → CI x M' T P R L Tm sd K → (∀ b, 106 ≤ b → M' b = M b) → Q (some (.int (iI r))) x M') : yG x M 85 0 [.ref 0, .int (iI z), zU, zU] [] Q := by
  obtain ⟨hx, hsd, hT, hM, hR, hL, hTm, hK0, hK⟩ := id hC
  obtain ⟨⟨ht56, ht256⟩, hok, hRk, ⟨hl14, hLk⟩, hTk, hKk⟩ := id hA
  obtain ⟨hp, hp33⟩ := CI_port hx
  obtain ⟨z1, z2, z3, z4, z5⟩ := aRok_len hok hRk
  have z6 : ∀ y ∈ R.2.2.2, y < 6 := fun y hy => by have := z3 y hy; have := hok.2.2.1; omega
  have hb1 := hok.1
  have hb2 := hok.2.1
  have hb3 := hok.2.2.1
  obtain ⟨q0, q1, q2, q3, q4, q5, q6, qc, j0, j1, j2, j3, j4, j5, j6, qlt⟩ := id hp
  obtain ⟨⟨n0, n1, n2, n3, n4, n5, n6⟩, v0, v1, v2, v3, v4, v5, v6⟩ := id hM
  have key : ∀ g : Nat, z = g → g < P.2.1 → ∀ d k : Nat, P.2.2.1 < k + d → k ≤ P.2.2.1 → ∀ (M1 : wM) (v : Nat), CI x M1 T P R L Tm sd K → (∀ b, 106 ≤ b → M1 b = M b) → aBm (fun s => aCanD P s g) k v → yG x M1 85 17 [.ref 0, .int (iI (g : Int)), .int (iI (v : Int)), .int (iI (k : Int))] [] Q := by
    intro g hzg hgl d
    induction d with
    | zero => intro k g1 g2; omega
    | succ d ih =>
      intro k g1 g2 M1 v hC1 hF1 hv
      obtain ⟨⟨m0, m1, m2, m3, m4, m5, m6⟩, -⟩ := id hC1.2.2.2.1
      refine y_il3 c_85_17 ?_
      refine y_al0 c_85_18 ?_
      refine y_gp c_85_19 rfl ?_
      refine k_22 c_85_22 rfl qc (Nat.le_of_ble_eq_true rfl) ?_
      refine s_22 hp ?_
      rw [m2]
      refine y_ic_ge c_85_25 (by omega) (by omega) (fun h_25 => ?_) (fun h_25 => ?_)
      · have hk : k = P.2.2.1 := by omega
        subst hk
        refine y_il2 c_85_49 ?_
        refine y_ret c_85_50 rfl ?_
        exact hQ _ _ (Or.inr ⟨by omega, v, rfl, by rw [hzg, Int.toNat_natCast]; exact hv⟩) hC1 hF1
      · refine y_al0 c_85_28 ?_
        refine y_il3 c_85_29 ?_
        refine y_il1 c_85_30 ?_
        refine k_86 c_85_31 rfl rfl (Nat.le_of_ble_eq_true rfl) ?_
        refine s_86 hC1 hA (by omega) hgl (fun M2 hno hC2 hf2 => ?_) (fun M2 hyes hC2 hf2 => ?_)
        · refine y_iz_eq c_85_34 (by decide) (fun _ => ?_) (fun h => absurd rfl h)
          refine y_inc3 c_85_43 rfl ?_
          refine y_goto c_85_46 ?_
          exact ih (k + 1) (by omega) (by omega) M2 v hC2 (fun b hb => by rw [hf2 b hb, hF1 b hb]) (aBm_n hv hno)
        · refine y_iz_eq c_85_34 (by decide) (fun h => absurd h (by decide)) (fun _ => ?_)
          have hp2 := Nat.pow_le_pow_right (show 0 < 2 by omega) (show k ≤ 5 by omega)
          refine y_il2 c_85_37 ?_
          refine y_ic c_85_38 ?_
          refine y_il3 c_85_39 ?_
          refine y_shl (x1 := 1) (x2 := k) c_85_40 (by omega) (by omega) ?_
          rw [Nat.one_mul]
          refine y_ior (x1 := v) (x2 := 2 ^ k) c_85_41 ?_
          refine y_is2 c_85_42 rfl ?_
          refine y_inc3 c_85_43 rfl ?_
          refine y_goto c_85_46 ?_
          exact ih (k + 1) (by omega) (by omega) M2 _ hC2 (fun b hb => by rw [hf2 b hb, hF1 b hb]) (aBm_y hv hyes)
  refine y_al0 c_85_0 ?_
  refine y_gp c_85_1 rfl ?_
  refine y_il1 c_85_4 ?_
  refine k_24 c_85_5 rfl qc (Nat.le_of_ble_eq_true rfl) ?_
  refine s_24 hp hz ?_
  rw [n0]
  refine y_pz_ne c_85_8 (fun h1 => ?_) (fun h1 => ?_)
  · obtain ⟨g, rfl⟩ : ∃ i : Nat, z = i := ⟨z.toNat, by omega⟩
    refine y_ic c_85_13 ?_
    refine y_is2 c_85_14 rfl ?_
    refine y_ic c_85_15 ?_
    refine y_is3 c_85_16 rfl ?_
    exact key g rfl (by omega) (P.2.2.1 + 1) 0 (by omega) (by omega) M 0 hC (fun b hb => rfl) (aBm_0 _)
  · refine y_ic c_85_11 ?_
    refine y_ret c_85_12 rfl ?_
    exact hQ _ _ (Or.inl ⟨h1, rfl⟩) hC (fun b hb => rfl)
theorem s_87 {z : Int} (hC : CI x M T P R L Tm sd K) (hA : AOK T P R L Tm K) (hz : wR z) (hQ : ∀ r M', aDoesV P z r → CI x M' T P R L Tm sd K → (∀ b, 106 ≤ b → M' b = M b) → Q (some (.int (iI r))) x M') : yG x M 87 0 [.ref 0, .int (iI z), zU, zU, zU] [] Q := by
  obtain ⟨hx, hsd, hT, hM, hR, hL, hTm, hK0, hK⟩ := id hC
  obtain ⟨⟨ht56, ht256⟩, hok, hRk, ⟨hl14, hLk⟩, hTk, hKk⟩ := id hA
  obtain ⟨hp, hp33⟩ := CI_port hx
  obtain ⟨z1, z2, z3, z4, z5⟩ := aRok_len hok hRk
  have z6 : ∀ y ∈ R.2.2.2, y < 6 := fun y hy => by have := z3 y hy; have := hok.2.2.1; omega
  have hb1 := hok.1
  have hb2 := hok.2.1
  have hb3 := hok.2.2.1
  obtain ⟨q0, q1, q2, q3, q4, q5, q6, qc, j0, j1, j2, j3, j4, j5, j6, qlt⟩ := id hp
  obtain ⟨⟨n0, n1, n2, n3, n4, n5, n6⟩, v0, v1, v2, v3, v4, v5, v6⟩ := id hM
  have key : ∀ s : Nat, z = s → s < P.2.2.1 → ∀ d k : Nat, P.2.1 < k + d → k ≤ P.2.1 → ∀ (M1 : wM) (r : Int) (w4 : Value), CI x M1 T P R L Tm sd K → (∀ b, 106 ≤ b → M1 b = M b) → aDs P s k r → yG x M1 87 18 [.ref 0, .int (iI (s : Int)), .int (iI r), .int (iI (k : Int)), w4] [] Q := by
    intro s hzs hsl d
    induction d with
    | zero => intro k g1 g2; omega
    | succ d ih =>
      intro k g1 g2 M1 r w4 hC1 hF1 hr
      obtain ⟨⟨m0, m1, m2, m3, m4, m5, m6⟩, -⟩ := id hC1.2.2.2.1
      have hrr : r = -9 ∨ ∃ g : Nat, r = g ∧ g < k := by
        rcases hr with ⟨h, -⟩ | ⟨g, h, h2, -⟩
        · exact Or.inl h
        · exact Or.inr ⟨g, h, h2⟩
      obtain ⟨e1, e2, e3⟩ := aDs_s hr
      refine y_il3 c_87_18 ?_
      refine y_al0 c_87_19 ?_
      refine y_gp c_87_20 rfl ?_
      refine k_21 c_87_23 rfl qc (Nat.le_of_ble_eq_true rfl) ?_
      refine s_21 hp ?_
      rw [m0]
      refine y_ic_ge c_87_26 (by omega) (by omega) (fun h_26 => ?_) (fun h_26 => ?_)
      · have hk : k = P.2.1 := by omega
        subst hk
        refine y_il2 c_87_83 ?_
        refine y_ret c_87_84 rfl ?_
        exact hQ _ _ (Or.inr ⟨by omega, by rw [hzs, Int.toNat_natCast]; exact hr⟩) hC1 hF1
      · have hkl : k < P.2.1 := by omega
        have go1 : (r = -9 ∨ aGr P k < aGr P r.toNat) → yG x M1 87 59 [.ref 0, .int (iI (s : Int)), .int (iI r), .int (iI (k : Int)), w4] [.int (iI 1)] Q := by
          intro hbet
          refine y_is4 c_87_59 rfl ?_
          refine y_il4 c_87_61 ?_
          refine y_iz_eq c_87_63 (by omega) (fun h_63 => absurd h_63 (by decide)) (fun h_63 => ?_)
          refine y_al0 c_87_66 ?_
          refine y_il1 c_87_67 ?_
          refine y_il3 c_87_68 ?_
          refine k_86 c_87_69 rfl rfl (Nat.le_of_ble_eq_true rfl) ?_
          refine s_86 hC1 hA hsl hkl (fun M2 hno hC2 hf2 => ?_) (fun M2 hyes hC2 hf2 => ?_)
          · refine y_iz_eq c_87_72 (by decide) (fun _ => ?_) (fun h => absurd rfl h)
            refine y_inc3 c_87_77 rfl ?_
            refine y_goto c_87_80 ?_
            exact ih (k + 1) (by omega) (by omega) M2 r _ hC2 (fun b hb => by rw [hf2 b hb, hF1 b hb]) (e2 hno)
          · refine y_iz_eq c_87_72 (by decide) (fun h => absurd h (by decide)) (fun _ => ?_)
            refine y_il3 c_87_75 ?_
            refine y_is2 c_87_76 rfl ?_
            refine y_inc3 c_87_77 rfl ?_
            refine y_goto c_87_80 ?_
            exact ih (k + 1) (by omega) (by omega) M2 (k : Int) _ hC2 (fun b hb => by rw [hf2 b hb, hF1 b hb]) (e1 hyes hbet)
        have go0 : (r ≠ -9 ∧ aGr P r.toNat ≤ aGr P k) → yG x M1 87 59 [.ref 0, .int (iI (s : Int)), .int (iI r), .int (iI (k : Int)), w4] [.int (iI 0)] Q := by
          intro hbet
          refine y_is4 c_87_59 rfl ?_
          refine y_il4 c_87_61 ?_
          refine y_iz_eq c_87_63 (by omega) (fun h_63 => ?_) (fun h_63 => absurd h_63 (by decide))
          refine y_inc3 c_87_77 rfl ?_
          refine y_goto c_87_80 ?_
          exact ih (k + 1) (by omega) (by omega) M1 r _ hC1 hF1 (e3 hbet.1 hbet.2)
        rcases hrr with rfl | ⟨g, rfl, hgk⟩
        · refine y_il2 c_87_29 ?_
          refine y_bi c_87_30 (by decide) ?_
          refine y_ic_eq c_87_32 (by decide) (by decide) (fun _ => ?_) (fun h => absurd rfl h)
          refine y_ic c_87_54 ?_
          refine y_goto c_87_55 ?_
          exact go1 (Or.inl rfl)
        rw [Int.toNat_natCast] at go1 go0
        have hgk1 := aGr_le hok (show g < P.2.1 by omega)
        have hgk2 := aGr_le hok hkl
        refine y_il2 c_87_29 ?_
        refine y_bi c_87_30 (by decide) ?_
        refine y_ic_eq c_87_32 (by omega) (by omega) (fun h_32 => absurd h_32 (by omega)) (fun h_32 => ?_)
        refine y_al0 c_87_35 ?_
        refine y_gp c_87_36 rfl ?_
        refine y_il3 c_87_39 ?_
        refine k_27 c_87_40 rfl qc (Nat.le_of_ble_eq_true rfl) ?_
        refine s_27 hp hC1.2.2.2.1 hok hkl ?_
        refine y_al0 c_87_43 ?_
        refine y_gp c_87_44 rfl ?_
        refine y_il2 c_87_47 ?_
        refine k_27 c_87_48 rfl qc (Nat.le_of_ble_eq_true rfl) ?_
        refine s_27 hp hC1.2.2.2.1 hok (by omega) ?_
        refine y_ic_ge c_87_51 (by omega) (by omega) (fun h_51 => ?_) (fun h_51 => ?_)
        · refine y_ic c_87_58 ?_
          first
            | exact go1 (Or.inr (by omega))
            | exact go0 ⟨by omega, by omega⟩
        · refine y_ic c_87_54 ?_
          refine y_goto c_87_55 ?_
          first
            | exact go1 (Or.inr (by omega))
            | exact go0 ⟨by omega, by omega⟩
  refine y_al0 c_87_0 ?_
  refine y_gp c_87_1 rfl ?_
  refine y_il1 c_87_4 ?_
  refine k_25 c_87_5 rfl qc (Nat.le_of_ble_eq_true rfl) ?_
  refine s_25 hp hz ?_
  rw [n2]
  refine y_pz_ne c_87_8 (fun h1 => ?_) (fun h1 => ?_)
  · obtain ⟨s, rfl⟩ : ∃ i : Nat, z = i := ⟨z.toNat, by omega⟩
    refine y_bi c_87_13 (by decide) ?_
    refine y_is2 c_87_15 rfl ?_
    refine y_ic c_87_16 ?_
    refine y_is3 c_87_17 rfl ?_
    exact key s rfl (by omega) (P.2.1 + 1) 0 (by omega) (by omega) M (-9) _ hC (fun b hb => rfl) (Or.inl ⟨rfl, fun g hg => by omega⟩)
  · refine y_ic c_87_11 ?_
    refine y_ret c_87_12 rfl ?_
    exact hQ _ _ (Or.inl ⟨h1, rfl⟩) hC (fun b hb => rfl)
end S12
