/-! ===== the best out of the table ===== -/
def aMax (P : aP) (R : aR) (m v : Nat) : Prop := (∃ q, aDec P R m q ∧ v = aWarm P q ∧ ∀ q', aDec P R m q' → aWarm P q' ≤ v) ∨ ((∀ q, ¬ aDec P R m q) ∧ v = 0)
theorem aMax_one {P : aP} {R : aR} {m v v' : Nat} (h1 : aMax P R m v) (h2 : aMax P R m v') : v = v' := by
  rcases h1 with ⟨q1, a1, b1, c1⟩ | ⟨a1, b1⟩ <;> rcases h2 with ⟨q2, a2, b2, c2⟩ | ⟨a2, b2⟩
  · have := c1 q2 a2
    have := c2 q1 a1
    omega
  · exact absurd a1 (a2 q1)
  · exact absurd a2 (a1 q2)
  · omega
theorem iand_not : ∀ s : Nat, s < 64 → ∀ y : Nat, y < 6 → s / 2 ^ y % 2 = 1 → iI (s : Int) &&& (iI ((2 ^ y : Nat) : Int) ^^^ iI (-1)) = iI ((s - 2 ^ y : Nat) : Int) := by decide +kernel
theorem sub_bitB : ((List.range 64).all fun s => (List.range 6).all fun y => (List.range 6).all fun z => !(s / 2 ^ y % 2 == 1) || (((s - 2 ^ y) / 2 ^ z % 2 == 1) == (s / 2 ^ z % 2 == 1 && !(z == y)))) = true := by decide +kernel
theorem sub_bit {s y z : Nat} (hs : s < 64) (hy : y < 6) (hz : z < 6) (h : s / 2 ^ y % 2 = 1) : (s - 2 ^ y) / 2 ^ z % 2 = 1 ↔ (s / 2 ^ z % 2 = 1 ∧ ¬ z = y) := by
  have h1 := List.all_eq_true.mp (List.all_eq_true.mp (List.all_eq_true.mp sub_bitB s (List.mem_range.mpr hs)) y (List.mem_range.mpr hy)) z (List.mem_range.mpr hz)
  rw [h] at h1
  simp only [beq_self_eq_true, Bool.not_true, Bool.false_or] at h1
  have h2 := eq_of_beq h1
  rw [Bool.eq_iff_iff] at h2
  simpa using h2
theorem bits_full : ∀ s : Nat, s < 64 → ∀ t : Nat, t < 64 → (∀ z : Nat, z < 6 → (s / 2 ^ z % 2 = 1 ↔ t / 2 ^ z % 2 = 1)) → s = t := by decide +kernel
section S8
variable {x : wC} {M : wM} {Q : Option Value → wC → wM → Prop} {p u : Nat} {P : aP} {R : aR}
theorem aDec_warm (hok : aPok P) (hRk : aRok P R) {q : List Nat} {m : Nat} (h : aCnd P R m q) : aWarm P q = aWs P (aBits q) P.2.2.2 := (aWs_warm (aCnd_lt hok hRk h).2.1 (fun y hy => (h.2.2.1 y hy).1)).symm
theorem aDec_ix (hok : aPok P) (hRk : aRok P R) {q : List Nat} {k : Nat} (h : aCnd P R 63 q) (hi : aIx P R q = 4 * k + 3) : aDec P R 63 q ∧ aBits q = k := by
  have := @aIx_bits P R q
  have := aStage_le P (R.2.2.2 ++ q)
  exact ⟨⟨h, by omega⟩, by omega⟩
theorem aIx_dec {q : List Nat} {m : Nat} (h : aDec P R m q) : aIx P R q = 4 * aBits q + 3 := by unfold aIx; rw [h.2]
theorem s_11 (hok : aPok P) (hRk : aRok P R) (hT : wTa M P R) (hQ0 : ∀ M' : wM, (∀ q, ¬ aDec P R 63 q) → (∀ b, b ≠ 93 → M' b = M b) → Q (some (.int (iI 0))) x M') (hQ1 : ∀ (M' : wM) (c f : Nat), aBestS P R 63 c f → M' 93 4 = c → M' 93 5 = f → (∀ b, b ≠ 93 → M' b = M b) → Q (some (.int (iI 1))) x M') : yG x M 11 0 [.ref 93, zU, zU] [] Q := by
  have key : ∀ d k : Nat, 64 < k + d → k ≤ 64 → ∀ (M1 : wM) (b : Int), b = 0 ∨ b = 1 → (∀ a, a ≠ 93 → M1 a = M a) → (b = 0 → ∀ q, aDec P R 63 q → k ≤ aBits q) → (b = 1 → ∃ c f : Nat, M1 93 4 = c ∧ M1 93 5 = f ∧ (∃ q, aDec P R 63 q ∧ c = aS P R q ∧ f = aFig q) ∧ ∀ q, aDec P R 63 q → aBits q < k → aBet 0 c f 0 (aS P R q) (aFig q)) → yG x M1 11 4 [.ref 93, .int (iI b), .int (iI (k : Int))] [] Q := by
    intro d
    induction d with
    | zero => intro k g1 g2; omega
    | succ d ih =>
      intro k g1 g2 M1 b hb c1 c2 c3
      have hbr : wR b := by rcases hb with rfl | rfl <;> decide
      have hT1 : wTa M1 P R := wTa_of hT (c1 _ (by omega)) (c1 _ (by omega))
      refine y_il2 c_11_4 ?_
      refine y_bi c_11_5 (by decide) ?_
      refine y_ic_ge c_11_7 (by omega) (by omega) (fun h_7 => ?_) (fun h_7 => ?_)
      · have hk : k = 64 := by omega
        subst hk
        refine y_il1 c_11_43 ?_
        refine y_zret c_11_44 rfl (by omega) ?_
        rcases hb with rfl | rfl
        · exact hQ0 M1 (fun q hq => by have h1 := c2 rfl q hq; have h2 := (aCnd_lt hok hRk hq.1).2.2.1; omega) c1
        · obtain ⟨c, f, a1, a2, a3, a4⟩ := c3 rfl
          exact hQ1 M1 c f ⟨a3, fun q hq => a4 q hq (aCnd_lt hok hRk hq.1).2.2.1⟩ a1 a2 c1
      · refine y_al0 c_11_10 ?_
        refine y_il2 c_11_11 ?_
        refine k_12 c_11_12 rfl rfl (Nat.le_of_ble_eq_true rfl) ?_
        refine s_12 (k := k) (by omega) ?_
        refine y_pz_eq c_11_15 (fun h_15 => ?_) (fun h_15 => ?_)
        · refine y_inc2 c_11_37 rfl ?_
          refine y_goto c_11_40 ?_
          have hno : ∀ q, aDec P R 63 q → aBits q ≠ k := fun q hq e => by
            have h1 := hT1.2 q hq.1
            rw [aIx_dec hq, e] at h1
            unfold wLe at h1; omega
          refine ih (k + 1) (by omega) (by omega) M1 b hb c1 (fun h q hq => ?_) (fun h => ?_)
          · have h1 := c2 h q hq
            have h2 := hno q hq
            omega
          · obtain ⟨c, f, a1, a2, a3, a4⟩ := c3 h
            exact ⟨c, f, a1, a2, a3, fun q hq hl => a4 q hq (by have h2 := hno q hq; omega)⟩
        rcases hT1.1 (4 * k + 3) (by omega) with h | ⟨qz, hqz, hiz, hcz, hfz⟩
        · omega
        obtain ⟨hdz, hbz⟩ := aDec_ix hok hRk hqz hiz
        have hlz := aCnd_lt hok hRk hqz
        have hall : ∀ q, aDec P R 63 q → aBits q = k → aBet 0 (aS P R qz) (aFig qz) 0 (aS P R q) (aFig q) := fun q hq e => by
          have h1 := hT1.2 q hq.1
          rw [aIx_dec hq, e] at h1
          unfold wLe at h1
          unfold aBet
          omega
        have take : yG x M1 11 30 [.ref 93, .int (iI b), .int (iI (k : Int))] [] Q ∨ True := Or.inr trivial
        have step : (∀ q, aDec P R 63 q → aBits q < k → aBet 0 (aS P R qz) (aFig qz) 0 (aS P R q) (aFig q)) → yG x M1 11 30 [.ref 93, .int (iI b), .int (iI (k : Int))] [] Q := fun hold => by
          refine y_al0 c_11_30 ?_
          refine y_il2 c_11_31 ?_
          refine k_14 c_11_32 rfl rfl (Nat.le_of_ble_eq_true rfl) ?_
          refine s_14 (k := k) (by omega) ?_
          rw [hcz, hfz]
          refine y_ic c_11_35 ?_
          refine y_is1 c_11_36 rfl ?_
          refine y_inc2 c_11_37 rfl ?_
          refine y_goto c_11_40 ?_
          refine ih (k + 1) (by omega) (by omega) _ 1 (Or.inr rfl) (fun a ha => by rw [wup_f _ _ _ ha, wup_f _ _ _ ha]; exact c1 a ha) (fun h => by omega) (fun _ => ⟨aS P R qz, aFig qz, by simp [wup], by simp [wup], ⟨qz, hdz, rfl, rfl⟩, fun q hq hl => ?_⟩)
          by_cases e : aBits q = k
          · exact hall q hq e
          · exact hold q hq (by omega)
        refine y_il1 c_11_18 ?_
        refine y_iz_eq c_11_19 hbr (fun h_19 => ?_) (fun h_19 => ?_)
        · exact step (fun q hq hl => absurd (c2 h_19 q hq) (by omega))
        obtain ⟨c, f, a1, a2, a3, a4⟩ := c3 (hb.resolve_left h_19)
        refine y_al0 c_11_22 ?_
        refine y_il2 c_11_23 ?_
        refine k_13 c_11_24 rfl rfl (Nat.le_of_ble_eq_true rfl) ?_
        refine s_13 (k := k) (by omega) ?_
        rw [hcz, hfz, a1, a2]
        refine y_pz_eq c_11_27 (fun h_27 => ?_) (fun h_27 => ?_)
        · refine y_inc2 c_11_37 rfl ?_
          refine y_goto c_11_40 ?_
          refine ih (k + 1) (by omega) (by omega) M1 b hb c1 (fun h => by omega) (fun _ => ⟨c, f, a1, a2, a3, fun q hq hl => ?_⟩)
          by_cases e : aBits q = k
          · have h1 := hall q hq e
            unfold aBet at h1 ⊢
            omega
          · exact a4 q hq (by omega)
        exact step (fun q hq hl => by
          have h1 := a4 q hq hl
          unfold aBet at h1 ⊢
          omega)
  refine y_ic c_11_0 ?_
  refine y_is1 c_11_1 rfl ?_
  refine y_ic c_11_2 ?_
  refine y_is2 c_11_3 rfl ?_
  exact key 65 0 (by omega) (by omega) M 0 (Or.inl rfl) (fun _ _ => rfl) (fun _ q _ => Nat.zero_le _) (fun h => by omega)
theorem s_10 (hp : wportS p) (hM : wport M p P) (hok : aPok P) (hRk : aRok P R) (hT : wTa M P R) (hp93 : p + 14 < 93) (hQ0 : ∀ M' : wM, (∀ q, ¬ aDec P R 63 q) → (∀ b, b ≠ 93 → M' b = M b) → Q (some (.int (iI 0))) x M') (hQ1 : ∀ (M' : wM) (w c f : Nat), aBestW P R 63 w c f → M' 93 3 = w → M' 93 5 = f → (∀ b, b ≠ 93 → M' b = M b) → Q (some (.int (iI 1))) x M') : yG x M 10 0 [.ref 93, .ref p, zU, zU, zU] [] Q := by
  obtain ⟨q0, q1, q2, q3, q4, q5, q6, qc, j0, j1, j2, j3, j4, j5, j6, qlt⟩ := id hp
  have key : ∀ d k : Nat, 64 < k + d → k ≤ 64 → ∀ (M1 : wM) (b : Int) (t4 : Value), b = 0 ∨ b = 1 → (∀ a, a ≠ 93 → M1 a = M a) → (b = 0 → ∀ q, aDec P R 63 q → k ≤ aBits q) → (b = 1 → ∃ w c f : Nat, M1 93 3 = w ∧ M1 93 4 = c ∧ M1 93 5 = f ∧ (∃ q, aDec P R 63 q ∧ w = aWarm P q ∧ c = aS P R q ∧ f = aFig q) ∧ ∀ q, aDec P R 63 q → aBits q < k → aBet w c f (aWarm P q) (aS P R q) (aFig q)) → yG x M1 10 4 [.ref 93, .ref p, .int (iI b), .int (iI (k : Int)), t4] [] Q := by
    intro d
    induction d with
    | zero => intro k g1 g2; omega
    | succ d ih =>
      intro k g1 g2 M1 b t4 hb c1 c2 c3
      have hbr : wR b := by rcases hb with rfl | rfl <;> decide
      have hT1 : wTa M1 P R := wTa_of hT (c1 _ (by omega)) (c1 _ (by omega))
      have hM1 : wport M1 p P := wport_of hM (fun a h1 h2 => c1 a (by omega))
      have hwl := aWs_le hok k P.2.2.2 (Nat.le_refl _)
      have h6 := hok.2.2.1
      refine y_il3 c_10_4 ?_
      refine y_bi c_10_5 (by decide) ?_
      refine y_ic_ge c_10_7 (by omega) (by omega) (fun h_7 => ?_) (fun h_7 => ?_)
      · have hk : k = 64 := by omega
        subst hk
        refine y_il2 c_10_74 ?_
        refine y_zret c_10_75 rfl (by omega) ?_
        rcases hb with rfl | rfl
        · exact hQ0 M1 (fun q hq => by have h1 := c2 rfl q hq; have h2 := (aCnd_lt hok hRk hq.1).2.2.1; omega) c1
        · obtain ⟨w, c, f, a0, a1, a2, a3, a4⟩ := c3 rfl
          exact hQ1 M1 w c f ⟨a3, fun q hq => a4 q hq (aCnd_lt hok hRk hq.1).2.2.1⟩ a0 a2 c1
      · refine y_al0 c_10_10 ?_
        refine y_il3 c_10_11 ?_
        refine k_12 c_10_12 rfl rfl (Nat.le_of_ble_eq_true rfl) ?_
        refine s_12 (k := k) (by omega) ?_
        refine y_pz_eq c_10_15 (fun h_15 => ?_) (fun h_15 => ?_)
        · refine y_inc3 c_10_68 rfl ?_
          refine y_goto c_10_71 ?_
          have hno : ∀ q, aDec P R 63 q → aBits q ≠ k := fun q hq e => by
            have h1 := hT1.2 q hq.1
            rw [aIx_dec hq, e] at h1
            unfold wLe at h1; omega
          refine ih (k + 1) (by omega) (by omega) M1 b _ hb c1 (fun h q hq => ?_) (fun h => ?_)
          · have h1 := c2 h q hq
            have h2 := hno q hq
            omega
          · obtain ⟨w, c, f, a0, a1, a2, a3, a4⟩ := c3 h
            exact ⟨w, c, f, a0, a1, a2, a3, fun q hq hl => a4 q hq (by have h2 := hno q hq; omega)⟩
        rcases hT1.1 (4 * k + 3) (by omega) with h | ⟨qz, hqz, hiz, hcz, hfz⟩
        · omega
        obtain ⟨hdz, hbz⟩ := aDec_ix hok hRk hqz hiz
        have hlz := aCnd_lt hok hRk hqz
        have hwz : aWs P k P.2.2.2 = aWarm P qz := by rw [aDec_warm hok hRk hqz, hbz]
        have hall : ∀ q, aDec P R 63 q → aBits q = k → aBet (aWarm P qz) (aS P R qz) (aFig qz) (aWarm P q) (aS P R q) (aFig q) := fun q hq e => by
          have h1 := hT1.2 q hq.1
          rw [aIx_dec hq, e] at h1
          have h2 : aWarm P q = aWarm P qz := by rw [aDec_warm hok hRk hq.1, e, hwz]
          unfold wLe at h1
          unfold aBet
          omega
        rw [hwz] at hwl
        have step : ∀ t4 : Value, (∀ q, aDec P R 63 q → aBits q < k → aBet (aWarm P qz) (aS P R qz) (aFig qz) (aWarm P q) (aS P R q) (aFig q)) → yG x M1 10 55 [.ref 93, .ref p, .int (iI b), .int (iI (k : Int)), .int (iI (aWarm P qz : Nat))] [] Q := fun t4 hold => by
          refine y_al0 c_10_55 ?_
          refine y_il3 c_10_56 ?_
          refine k_14 c_10_57 rfl rfl (Nat.le_of_ble_eq_true rfl) ?_
          refine s_14 (k := k) (by omega) ?_
          rw [hcz, hfz]
          refine y_al0 c_10_60 ?_
          refine y_il4 c_10_61 ?_
          refine y_pi (j := 3) c_10_63 rfl rfl rfl (by omega) ?_
          refine y_ic c_10_66 ?_
          refine y_is2 c_10_67 rfl ?_
          refine y_inc3 c_10_68 rfl ?_
          refine y_goto c_10_71 ?_
          refine ih (k + 1) (by omega) (by omega) _ 1 _ (Or.inr rfl) (fun a ha => by rw [wup_f _ _ _ ha, wup_f _ _ _ ha, wup_f _ _ _ ha]; exact c1 a ha) (fun h => by omega) (fun _ => ⟨aWarm P qz, aS P R qz, aFig qz, by simp [wup], by simp [wup], by simp [wup], ⟨qz, hdz, rfl, rfl, rfl⟩, fun q hq hl => ?_⟩)
          by_cases e : aBits q = k
          · exact hall q hq e
          · exact hold q hq (by omega)
        refine y_al1 c_10_18 ?_
        refine y_il3 c_10_19 ?_
        refine k_30 c_10_20 rfl qc (Nat.le_of_ble_eq_true rfl) ?_
        refine s_30 (set := k) hp hM1 hok (by omega) ?_
        rw [hwz]
        refine y_is4 c_10_23 rfl ?_
        refine y_il2 c_10_25 ?_
        refine y_iz_eq c_10_26 hbr (fun h_26 => ?_) (fun h_26 => ?_)
        · exact step t4 (fun q hq hl => absurd (c2 h_26 q hq) (by omega))
        obtain ⟨w, c, f, a0, a1, a2, a3, a4⟩ := c3 (hb.resolve_left h_26)
        have skip : (∀ q, aDec P R 63 q → aBits q = k → aBet w c f (aWarm P q) (aS P R q) (aFig q)) → yG x M1 10 68 [.ref 93, .ref p, .int (iI b), .int (iI (k : Int)), .int (iI (aWarm P qz : Nat))] [] Q := fun hnew => by
          refine y_inc3 c_10_68 rfl ?_
          refine y_goto c_10_71 ?_
          refine ih (k + 1) (by omega) (by omega) M1 b _ hb c1 (fun h => by omega) (fun _ => ⟨w, c, f, a0, a1, a2, a3, fun q hq hl => ?_⟩)
          by_cases e : aBits q = k
          · exact hnew q hq e
          · exact a4 q hq (by omega)
        refine y_il4 c_10_29 ?_
        refine y_al0 c_10_31 ?_
        refine y_gi (j := 3) (z := (w : Int)) c_10_32 rfl rfl a0 (fun r_32 => ?_)
        refine y_ic_gt c_10_35 (by omega) (by omega) (fun h_35 => ?_) (fun h_35 => ?_)
        · exact step t4 (fun q hq hl => by
            have h1 := a4 q hq hl
            unfold aBet at h1 ⊢
            omega)
        refine y_il4 c_10_38 ?_
        refine y_al0 c_10_40 ?_
        refine y_gi (j := 3) (z := (w : Int)) c_10_41 rfl rfl a0 (fun r_41 => ?_)
        refine y_ic_ne c_10_44 (by omega) (by omega) (fun h_44 => ?_) (fun h_44 => ?_)
        · exact skip (fun q hq e => by
            have h1 := hall q hq e
            unfold aBet at h1 ⊢
            omega)
        refine y_al0 c_10_47 ?_
        refine y_il3 c_10_48 ?_
        refine k_13 c_10_49 rfl rfl (Nat.le_of_ble_eq_true rfl) ?_
        refine s_13 (k := k) (by omega) ?_
        rw [hcz, hfz, a1, a2]
        refine y_pz_eq c_10_52 (fun h_52 => ?_) (fun h_52 => ?_)
        · exact skip (fun q hq e => by
            have h1 := hall q hq e
            unfold aBet at h1 ⊢
            omega)
        exact step t4 (fun q hq hl => by
          have h1 := a4 q hq hl
          unfold aBet at h1 ⊢
          omega)
  refine y_ic c_10_0 ?_
  refine y_is2 c_10_1 rfl ?_
  refine y_ic c_10_2 ?_
  refine y_is3 c_10_3 rfl ?_
  exact key 65 0 (by omega) (by omega) M 0 _ (Or.inl rfl) (fun _ _ => rfl) (fun _ q _ => Nat.zero_le _) (fun h => by omega)
end S8
