/-! ===== acts and what is timed ===== -/
abbrev aA : Type := Nat × (Nat → aR)
def aNote (L : aA) (R : aR) : aA := if L.1 = 14 then (14, fun k => if k = 13 then R else L.2 (k + 1)) else (L.1 + 1, fun k => if k = L.1 then R else L.2 k)
def wacts (M : wM) (L : aA) : Prop := ∃ nx : Nat, nx < 14 ∧ M 39 1 = nx ∧ M 39 2 = L.1 ∧ L.1 ≤ 14 ∧ ∀ k, k < L.1 → wrun M (42 + 3 * ((nx + 14 - L.1 + k) % 14)) (L.2 k)
theorem wacts_of {M M' : wM} {L : aA} (h : wacts M L) (hf : ∀ b, 39 ≤ b → b ≤ 83 → M' b = M b) : wacts M' L := by
  obtain ⟨nx, h1, h2, h3, h4, h5⟩ := h
  refine ⟨nx, h1, by rw [hf _ (by omega) (by omega)]; exact h2, by rw [hf _ (by omega) (by omega)]; exact h3, h4, fun k hk => wrun_of (h5 k hk) (hf _ (by omega) (by omega)) (hf _ (by omega) (by omega)) (hf _ (by omega) (by omega))⟩
section S5
variable {x : wC} {M : wM} {Q : Option Value → wC → wM → Prop} {p u : Nat} {P : aP} {R : aR} {L : aA}
theorem s_1 (hQ : Q (some (.int (iI (M 39 2)))) x M) : yG x M 1 0 [.ref 39] [] Q := by
  refine y_al0 c_1_0 ?_
  refine y_gi (j := 2) c_1_1 rfl rfl rfl (fun r_1 => ?_)
  refine y_ret c_1_4 rfl ?_
  exact hQ
theorem s_2 (hQ : Q none x (wup M 39 2 0)) : yG x M 2 0 [.ref 39] [] Q := by
  refine y_al0 c_2_0 ?_
  refine y_ic c_2_1 ?_
  refine y_pi (j := 2) c_2_2 rfl rfl rfl (by omega) ?_
  refine y_vret c_2_5 rfl ?_
  exact hQ
theorem s_3 (hL : wacts M L) (hu : wrunS u) (hR : wrun M u R) (hl : R.2.2.2.length ≤ 6) (hd : u + 2 < 39) (hQ : ∀ M', wacts M' (aNote L R) → wfr M M' 39 83 → Q none x M') : yG x M 3 0 [.ref 39, .ref u] [] Q := by
  obtain ⟨nx, h1, h2, h3, h4, h5⟩ := hL
  refine y_al0 c_3_0 ?_
  refine y_gr 40 c_3_1 rfl (by omega) ?_
  refine y_al0 c_3_4 ?_
  refine y_gi (j := 1) (z := (nx : Int)) c_3_5 rfl rfl h2 (fun r_5 => ?_)
  refine y_al1 c_3_8 ?_
  refine k_56 c_3_9 rfl rfl (Nat.le_of_ble_eq_true rfl) ?_
  refine s_56 (k := nx) wshelf_40 h1 hu hR hl (by omega) (fun M2 e1 e2 => ?_)
  refine y_al0 c_3_12 ?_
  refine y_al0 c_3_13 ?_
  refine y_gi (j := 1) (z := (nx : Int)) c_3_14 rfl rfl (by rw [e2 39 (by omega)]; exact h2) (fun r_14 => ?_)
  refine y_ic c_3_17 ?_
  refine y_add c_3_18 ?_
  refine y_bi c_3_19 (by decide) ?_
  refine y_rem c_3_21 (by omega) (by omega) (by omega) (by omega) ?_
  refine y_pi (j := 1) c_3_22 rfl rfl rfl (by omega) ?_
  refine y_al0 c_3_25 ?_
  refine y_al0 c_3_26 ?_
  refine y_gi (j := 2) (z := (L.1 : Int)) c_3_27 rfl rfl (by rw [wup_k _ _ (by omega), e2 39 (by omega)]; exact h3) (fun r_27 => ?_)
  refine y_ic c_3_30 ?_
  refine y_add c_3_31 ?_
  refine y_bi c_3_32 (by decide) ?_
  refine y_min c_3_34 (Nat.le_of_ble_eq_true rfl) (by omega) (by omega) ?_
  refine y_pi (j := 2) c_3_37 rfl rfl rfl (by split <;> omega) ?_
  refine y_vret c_3_40 rfl ?_
  have hfr : ∀ b, b ≠ 39 → wup (wup M2 39 1 (((nx : Int) + 1) % 14)) 39 2 (if (14 : Int) < (L.1 : Int) + 1 then 14 else (L.1 : Int) + 1) b = M2 b := fun b hb => by rw [wup_f _ _ _ hb, wup_f _ _ _ hb]
  refine hQ _ ⟨(nx + 1) % 14, by omega, ?_, ?_, ?_, fun k hk => ?_⟩ (fun b hb => ?_)
  · rw [wup_k _ _ (by omega), wup_s]; omega
  · rw [wup_s]; unfold aNote; split <;> split <;> simp only <;> omega
  · unfold aNote; split <;> simp only <;> omega
  · have hnew : wrun (wup (wup M2 39 1 (((nx : Int) + 1) % 14)) 39 2 (if (14 : Int) < (L.1 : Int) + 1 then 14 else (L.1 : Int) + 1)) (42 + 3 * nx) R := wrun_of e1 (hfr _ (by omega)) (hfr _ (by omega)) (hfr _ (by omega))
    have hold : ∀ j, j < 14 → j ≠ nx → ∀ R2, wrun M (42 + 3 * j) R2 → wrun (wup (wup M2 39 1 (((nx : Int) + 1) % 14)) 39 2 (if (14 : Int) < (L.1 : Int) + 1 then 14 else (L.1 : Int) + 1)) (42 + 3 * j) R2 := fun j hj hjn R2 hw => wrun_of hw (by rw [hfr _ (by omega), e2 _ (by omega)]) (by rw [hfr _ (by omega), e2 _ (by omega)]) (by rw [hfr _ (by omega), e2 _ (by omega)])
    unfold aNote at hk ⊢
    by_cases hL14 : L.1 = 14
    · rw [if_pos hL14] at hk ⊢
      simp only at hk ⊢
      by_cases hk13 : k = 13
      · rw [if_pos hk13, show ((nx + 1) % 14 + 14 - 14 + k) % 14 = nx by omega]; exact hnew
      · rw [if_neg hk13]
        have := h5 (k + 1) (by omega)
        rw [show (nx + 14 - L.1 + (k + 1)) % 14 = ((nx + 1) % 14 + 14 - 14 + k) % 14 by omega] at this
        exact hold _ (by omega) (by omega) _ this
    · rw [if_neg hL14] at hk ⊢
      simp only at hk ⊢
      by_cases hkn : k = L.1
      · rw [if_pos hkn, show ((nx + 1) % 14 + 14 - (L.1 + 1) + k) % 14 = nx by omega]; exact hnew
      · rw [if_neg hkn]
        have := h5 k (by omega)
        rw [show (nx + 14 - L.1 + k) % 14 = ((nx + 1) % 14 + 14 - (L.1 + 1) + k) % 14 by omega] at this
        exact hold _ (by omega) (by omega) _ this
  · rw [hfr _ (by omega), e2 _ (by omega)]
theorem s_4 (hL : wacts M L) (hu : wrunS u) (hl : 0 < L.1 → (L.2 (L.1 - 1)).2.2.2.length ≤ 6) (hd : u + 2 < 39) (hQ0 : L.1 = 0 → Q (some (.int (iI 0))) x M)
    (hQ1 : 0 < L.1 → ∀ M', wacts M' (L.1 - 1, L.2) → wrun M' u (L.2 (L.1 - 1)) → (∀ b, b ≠ 39 → (b < u ∨ u + 2 < b) → M' b = M b) → Q (some (.int (iI 1))) x M') : yG x M 4 0 [.ref 39, .ref u] [] Q := by
  obtain ⟨nx, h1, h2, h3, h4, h5⟩ := hL
  refine y_al0 c_4_0 ?_
  refine y_gi (j := 2) (z := (L.1 : Int)) c_4_1 rfl rfl h3 (fun r_1 => ?_)
  refine y_ic c_4_4 ?_
  refine y_ic_ge c_4_5 (by omega) (by omega) (fun h_5 => ?_) (fun h_5 => ?_)
  · refine y_al0 c_4_10 ?_
    refine y_al0 c_4_11 ?_
    refine y_gi (j := 1) (z := (nx : Int)) c_4_12 rfl rfl h2 (fun r_12 => ?_)
    refine y_bi c_4_15 (by decide) ?_
    refine y_add c_4_17 ?_
    refine y_ic c_4_18 ?_
    refine y_sub c_4_19 ?_
    refine y_bi c_4_20 (by decide) ?_
    refine y_rem c_4_22 (by omega) (by omega) (by omega) (by omega) ?_
    refine y_pi (j := 1) c_4_23 rfl rfl rfl (by omega) ?_
    refine y_al0 c_4_26 ?_
    refine y_dup c_4_27 rfl ?_
    refine y_gi (j := 2) (z := (L.1 : Int)) c_4_28 rfl rfl (by rw [wup_k _ _ (by omega)]; exact h3) (fun r_28 => ?_)
    refine y_ic c_4_31 ?_
    refine y_sub c_4_32 ?_
    refine y_pi (j := 2) c_4_33 rfl rfl rfl (by omega) ?_
    refine y_al0 c_4_36 ?_
    refine y_gr 40 c_4_37 rfl (by omega) ?_
    refine y_al0 c_4_40 ?_
    refine y_gi (j := 1) (z := (((nx + 13) % 14 : Nat) : Int)) c_4_41 rfl rfl (by rw [wup_k _ _ (by omega), wup_s]; omega) (fun r_41 => ?_)
    refine y_al1 c_4_44 ?_
    refine k_57 c_4_45 rfl rfl (Nat.le_of_ble_eq_true rfl) ?_
    have hfr : ∀ b, b ≠ 39 → wup (wup M 39 1 (((nx : Int) + 14 - 1) % 14)) 39 2 ((L.1 : Int) - 1) b = M b := fun b hb => by rw [wup_f _ _ _ hb, wup_f _ _ _ hb]
    have hw := h5 (L.1 - 1) (by omega)
    rw [show (nx + 14 - L.1 + (L.1 - 1)) % 14 = (nx + 13) % 14 by omega] at hw
    refine s_57 (a := 40) (k := (nx + 13) % 14) wshelf_40 (by omega) hu (wrun_of hw (hfr _ (by omega)) (hfr _ (by omega)) (hfr _ (by omega))) (hl (by omega)) (by omega) (fun M2 e1 e2 => ?_)
    refine y_ic c_4_48 ?_
    refine y_zret c_4_49 rfl (by omega) ?_
    have hfr2 : ∀ b, b ≠ 39 → (b < u ∨ u + 2 < b) → M2 b = M b := fun b h6 h7 => by rw [e2 b h7]; exact hfr b h6
    refine hQ1 (by omega) _ ⟨(nx + 13) % 14, by omega, ?_, ?_, by show L.1 - 1 ≤ 14; omega, fun k hk => ?_⟩ e1 hfr2
    · rw [e2 39 (by omega), wup_k _ _ (by omega), wup_s]; omega
    · rw [e2 39 (by omega), wup_s]; show _ = ((L.1 - 1 : Nat) : Int); omega
    · have hk2 : k < L.1 - 1 := hk
      have := h5 k (by omega)
      rw [show (nx + 14 - L.1 + k) % 14 = ((nx + 13) % 14 + 14 - (L.1 - 1) + k) % 14 by omega] at this
      exact wrun_of this (hfr2 _ (by omega) (by omega)) (hfr2 _ (by omega) (by omega)) (hfr2 _ (by omega) (by omega))
  · refine y_ic c_4_8 ?_
    refine y_zret c_4_9 rfl (by omega) ?_
    exact hQ0 (by omega)
end S5
/-- timed: how many; saying, place, pace, grains of each -/
abbrev aT : Type := Nat × (Nat → Nat → Nat)
def aTok (T : aT) : Prop := T.1 ≤ 6 ∧ ∀ i, i < T.1 → T.2 0 i < 6 ∧ T.2 1 i ≤ 5 ∧ 1 ≤ T.2 2 i ∧ T.2 2 i ≤ 4 ∧ T.2 3 i ≤ 99
def wtim (M : wM) (T : aT) : Prop := M 85 3 = T.1 ∧ M 87 3 = T.1 ∧ M 89 3 = T.1 ∧ M 91 3 = T.1 ∧ ∀ i : Nat, i < T.1 → M 86 i = T.2 0 i ∧ M 88 i = T.2 1 i ∧ M 90 i = T.2 2 i ∧ M 92 i = T.2 3 i
def aTput (T : aT) (y i p g : Nat) : aT := (T.1 + 1, fun f k => if k = T.1 then (if f = 0 then y else if f = 1 then i else if f = 2 then p else g) else T.2 f k)
theorem wtim_of {M M' : wM} {T : aT} (h : wtim M T) (hf : ∀ b, 84 ≤ b → b ≤ 92 → M' b = M b) : wtim M' T := by
  obtain ⟨h1, h2, h3, h4, h5⟩ := h
  refine ⟨by rw [hf _ (by omega) (by omega)]; exact h1, by rw [hf _ (by omega) (by omega)]; exact h2, by rw [hf _ (by omega) (by omega)]; exact h3, by rw [hf _ (by omega) (by omega)]; exact h4, fun i hi => ?_⟩
  rw [hf 86 (by omega) (by omega), hf 88 (by omega) (by omega), hf 90 (by omega) (by omega), hf 92 (by omega) (by omega)]
  exact h5 i hi
theorem wrow_85 : wrow 85 6 0 5 := by refine ⟨?_, ?_, ?_, ?_, ?_, ?_, ?_, ?_, ?_, ?_⟩ <;> decide +kernel
theorem wrow_87 : wrow 87 6 0 5 := by refine ⟨?_, ?_, ?_, ?_, ?_, ?_, ?_, ?_, ?_, ?_⟩ <;> decide +kernel
theorem wrow_89 : wrow 89 6 1 4 := by refine ⟨?_, ?_, ?_, ?_, ?_, ?_, ?_, ?_, ?_, ?_⟩ <;> decide +kernel
theorem wrow_91 : wrow 91 6 0 99 := by refine ⟨?_, ?_, ?_, ?_, ?_, ?_, ?_, ?_, ?_, ?_⟩ <;> decide +kernel
def aFit (P : aP) (T : aT) (kind i : Nat) : Bool := !decide (T.2 0 i < P.2.2.2) || decide (aCostBy P kind (T.2 2 i) 0 (T.2 0 i) (T.2 1 i) = T.2 3 i)
def aThose (P : aP) (T : aT) (kind : Nat) : Nat → Bool
  | 0 => true
  | n + 1 => aThose P T kind n && aFit P T kind n
theorem aThose_f {P : aP} {T : aT} {kind k : Nat} (h : aFit P T kind k = false) : ∀ n, k < n → aThose P T kind n = false
  | 0, h1 => by omega
  | n + 1, h1 => by
    unfold aThose
    by_cases hk : k = n
    · subst hk; simp [h]
    · simp [aThose_f h n (by omega)]
section S5b
variable {x : wC} {M : wM} {Q : Option Value → wC → wM → Prop} {p u : Nat} {P : aP} {T : aT}
theorem s_59 (hT : wtim M T) (hQ : Q (some (.int (iI (T.1 : Int)))) x M) : yG x M 59 0 [.ref 84] [] Q := by
  refine y_al0 c_59_0 ?_
  refine y_gr 85 c_59_1 rfl (by omega) ?_
  refine k_32 c_59_4 rfl rfl (Nat.le_of_ble_eq_true rfl) ?_
  refine s_32 wrow_85 ?_
  rw [hT.1]
  refine y_ret c_59_7 rfl ?_
  exact hQ
theorem s_60 (hT : wtim M T) (hQ : Q (some (.int (iI (if 6 ≤ T.1 then 1 else 0)))) x M) : yG x M 60 0 [.ref 84] [] Q := by
  refine y_al0 c_60_0 ?_
  refine y_gr 85 c_60_1 rfl (by omega) ?_
  refine k_33 c_60_4 rfl rfl (Nat.le_of_ble_eq_true rfl) ?_
  refine s_33 wrow_85 ?_
  rw [hT.1]
  refine y_zret c_60_7 rfl (by split <;> omega) ?_
  exact yQi hQ (by split <;> split <;> omega)
theorem s_61 (hQ : ∀ M', wtim M' (0, fun _ _ => 0) → wfr M M' 84 92 → Q none x M') : yG x M 61 0 [.ref 84] [] Q := by
  refine y_al0 c_61_0 ?_
  refine y_gr 85 c_61_1 rfl (by omega) ?_
  refine k_38 c_61_4 rfl rfl (Nat.le_of_ble_eq_true rfl) ?_
  refine s_38 wrow_85 ?_
  refine y_al0 c_61_7 ?_
  refine y_gr 87 c_61_8 rfl (by omega) ?_
  refine k_38 c_61_11 rfl rfl (Nat.le_of_ble_eq_true rfl) ?_
  refine s_38 wrow_87 ?_
  refine y_al0 c_61_14 ?_
  refine y_gr 89 c_61_15 rfl (by omega) ?_
  refine k_38 c_61_18 rfl rfl (Nat.le_of_ble_eq_true rfl) ?_
  refine s_38 wrow_89 ?_
  refine y_al0 c_61_21 ?_
  refine y_gr 91 c_61_22 rfl (by omega) ?_
  refine k_38 c_61_25 rfl rfl (Nat.le_of_ble_eq_true rfl) ?_
  refine s_38 wrow_91 ?_
  refine y_vret c_61_28 rfl ?_
  refine hQ _ ⟨by simp [wup], by simp [wup], by simp [wup], by simp [wup], fun i hi => by simp at hi⟩ (fun b hb => ?_)
  rw [wup_f _ _ _ (by omega), wup_f _ _ _ (by omega), wup_f _ _ _ (by omega), wup_f _ _ _ (by omega)]
theorem s_62 {i p g : Int} (hi : wR i) (hp : wR p) (hg : wR g) (hQ : Q (some (.int (iI (if (0 ≤ i ∧ i ≤ 5) ∧ (1 ≤ p ∧ p ≤ 4) ∧ 0 ≤ g ∧ g ≤ 99 then 1 else 0)))) x M) : yG x M 62 0 [.ref 84, .int (iI i), .int (iI p), .int (iI g)] [] Q := by
  refine y_al0 c_62_0 ?_
  refine y_gr 87 c_62_1 rfl (by omega) ?_
  refine y_il1 c_62_4 ?_
  refine k_34 c_62_5 rfl rfl (Nat.le_of_ble_eq_true rfl) ?_
  refine s_34 wrow_87 hi ?_
  refine y_pz_eq c_62_8 (fun h1 => ?_) (fun h1 => ?_)
  · refine y_ic c_62_37 ?_
    refine y_zret c_62_38 rfl (by omega) ?_
    first | (rw [if_pos (by omega)] at hQ; exact hQ) | (rw [if_neg (by omega)] at hQ; exact hQ)
  · refine y_al0 c_62_11 ?_
    refine y_gr 89 c_62_12 rfl (by omega) ?_
    refine y_il2 c_62_15 ?_
    refine k_34 c_62_16 rfl rfl (Nat.le_of_ble_eq_true rfl) ?_
    refine s_34 wrow_89 hp ?_
    refine y_pz_eq c_62_19 (fun h2 => ?_) (fun h2 => ?_)
    · refine y_ic c_62_37 ?_
      refine y_zret c_62_38 rfl (by omega) ?_
      first | (rw [if_pos (by omega)] at hQ; exact hQ) | (rw [if_neg (by omega)] at hQ; exact hQ)
    · refine y_al0 c_62_22 ?_
      refine y_gr 91 c_62_23 rfl (by omega) ?_
      refine y_il3 c_62_26 ?_
      refine k_34 c_62_27 rfl rfl (Nat.le_of_ble_eq_true rfl) ?_
      refine s_34 wrow_91 hg ?_
      refine y_pz_eq c_62_30 (fun h3 => ?_) (fun h3 => ?_)
      · refine y_ic c_62_37 ?_
        refine y_zret c_62_38 rfl (by omega) ?_
        first | (rw [if_pos (by omega)] at hQ; exact hQ) | (rw [if_neg (by omega)] at hQ; exact hQ)
      · refine y_ic c_62_33 ?_
        refine y_goto c_62_34 ?_
        refine y_zret c_62_38 rfl (by omega) ?_
        first | (rw [if_pos (by omega)] at hQ; exact hQ) | (rw [if_neg (by omega)] at hQ; exact hQ)
theorem s_63 {y i p g : Nat} (hT : wtim M T) (h6 : T.1 < 6) (hy : y < 6) (hi : i ≤ 5) (hp : p ≤ 4) (hg : g ≤ 99) (hQ : ∀ M', wtim M' (aTput T y i p g) → wfr M M' 84 92 → Q none x M') : yG x M 63 0 [.ref 84, .int (iI (y : Int)), .int (iI (i : Int)), .int (iI (p : Int)), .int (iI (g : Int))] [] Q := by
  obtain ⟨h1, h2, h3, h4, h5⟩ := hT
  refine y_al0 c_63_0 ?_
  refine y_gr 85 c_63_1 rfl (by omega) ?_
  refine y_il1 c_63_4 ?_
  refine k_37 c_63_5 rfl rfl (Nat.le_of_ble_eq_true rfl) ?_
  refine s_37 wrow_85 (by omega) (by omega) (by omega) ?_
  refine y_al0 c_63_8 ?_
  refine y_gr 87 c_63_9 rfl (by omega) ?_
  refine y_il2 c_63_12 ?_
  refine k_37 c_63_13 rfl rfl (Nat.le_of_ble_eq_true rfl) ?_
  refine s_37 wrow_87 (by omega) (by simp [wup]; omega) (by simp [wup]; omega) ?_
  refine y_al0 c_63_16 ?_
  refine y_gr 89 c_63_17 rfl (by omega) ?_
  refine y_il3 c_63_20 ?_
  refine k_37 c_63_21 rfl rfl (Nat.le_of_ble_eq_true rfl) ?_
  refine s_37 wrow_89 (by omega) (by simp [wup]; omega) (by simp [wup]; omega) ?_
  refine y_al0 c_63_24 ?_
  refine y_gr 91 c_63_25 rfl (by omega) ?_
  refine y_il4 c_63_28 ?_
  refine k_37 c_63_30 rfl rfl (Nat.le_of_ble_eq_true rfl) ?_
  refine s_37 wrow_91 (by omega) (by simp [wup]; omega) (by simp [wup]; omega) ?_
  refine y_vret c_63_33 rfl ?_
  refine hQ _ ⟨?_, ?_, ?_, ?_, fun k hk => ?_⟩ (fun b hb => ?_)
  · simp [wup, aTput]; exact h1
  · simp [wup, aTput]; exact h2
  · simp [wup, aTput]; exact h3
  · simp [wup, aTput]; exact h4
  · simp only [aTput] at hk ⊢
    by_cases hkn : k = T.1
    · subst hkn
      simp [wup, h1, h2, h3, h4]
    · obtain ⟨g1, g2, g3, g4⟩ := h5 k (by omega)
      have hkn2 : ¬ (k : Int) = (T.1 : Int) := by omega
      simp [wup, h1, h2, h3, h4, hkn, hkn2, g1, g2, g3, g4]
  · simp only [wup_f _ _ _ (show b ≠ 85 by omega), wup_f _ _ _ (show b ≠ 87 by omega), wup_f _ _ _ (show b ≠ 89 by omega), wup_f _ _ _ (show b ≠ 91 by omega), wup_f _ _ _ (show b ≠ 85 + 1 by omega), wup_f _ _ _ (show b ≠ 87 + 1 by omega), wup_f _ _ _ (show b ≠ 89 + 1 by omega), wup_f _ _ _ (show b ≠ 91 + 1 by omega)]
theorem s_64 {kind : Nat} (hT : wtim M T) (hTk : aTok T) (hp : wportS p) (hM : wport M p P) (hok : aPok P) (hk : kind ≤ 3) (hQ : Q (some (.int (iI (if aThose P T kind T.1 = true then 1 else 0)))) x M) : yG x M 64 0 [.ref 84, .ref p, .int (iI (kind : Int)), zU, zU] [] Q := by
  obtain ⟨h1, h2, h3, h4, h5⟩ := id hT
  have h60 := hTk.1
  obtain ⟨q0, q1, q2, q3, q4, q5, q6, qc, j0, j1, j2, j3, j4, j5, j6, qlt⟩ := id hp
  obtain ⟨⟨n0, n1, n2, n3, n4, n5, n6⟩, v0, v1, v2, v3, v4, v5, v6⟩ := id hM
  obtain ⟨k1, k2, k3, k4, k5, k6⟩ := id hok
  have key : ∀ d k : Nat, T.1 < k + d → k ≤ T.1 → aThose P T kind k = true → ∀ t : Value, t = zU ∨ (∃ z, t = .int z) → yG x M 64 2 [.ref 84, .ref p, .int (iI (kind : Int)), .int (iI (k : Int)), t] [] Q := by
    intro d
    induction d with
    | zero => intro k g1 g2; omega
    | succ d ih =>
      intro k g1 g2 g3 t ht
      refine y_il3 c_64_2 ?_
      refine y_al0 c_64_3 ?_
      refine k_59 c_64_4 rfl rfl (Nat.le_of_ble_eq_true rfl) ?_
      refine s_59 hT ?_
      refine y_ic_ge c_64_7 (by omega) (by omega) (fun h_7 => ?_) (fun h_7 => ?_)
      · have hkk : k = T.1 := by omega
        subst hkk
        refine y_ic c_64_72 ?_
        refine y_zret c_64_73 rfl (by omega) ?_
        rw [if_pos g3] at hQ; exact hQ
      · obtain ⟨e0, e1, e2, e3⟩ := h5 k (by omega)
        obtain ⟨b0, b1, b2, b3, b4⟩ := hTk.2 k (by omega)
        have h6 := hTk.1
        refine y_al0 c_64_10 ?_
        refine y_gr 85 c_64_11 rfl (by omega) ?_
        refine y_il3 c_64_14 ?_
        refine k_36 c_64_15 rfl rfl (Nat.le_of_ble_eq_true rfl) ?_
        refine s_36i wrow_85 (by omega) (by omega) (by omega) e0 ?_
        refine y_is4 c_64_18 rfl ?_
        refine y_al1 c_64_20 ?_
        refine y_il4 c_64_21 ?_
        refine k_26 c_64_23 rfl qc (Nat.le_of_ble_eq_true rfl) ?_
        refine s_26 hp (by omega) ?_
        refine y_pz_eq c_64_26 (fun hin => ?_) (fun hin => ?_)
        · refine y_inc3 c_64_66 rfl ?_
          refine y_goto c_64_69 ?_
          refine ih (k + 1) (by omega) (by omega) ?_ _ (Or.inr ⟨_, rfl⟩)
          unfold aThose aFit
          rw [g3]
          first
            | (have hlt2 : ¬ T.2 0 k < P.2.2.2 := by omega
               simp [hlt2])
            | (have he : aCostBy P kind (T.2 2 k) 0 (T.2 0 k) (T.2 1 k) = T.2 3 k := by omega
               simp [he])
        · have hlt : T.2 0 k < P.2.2.2 := by omega
          have hcl := aCostBy_le (P := P) (kind := kind) (pace := T.2 2 k) (gk := 0) (y := T.2 0 k) (i := T.2 1 k) hok b3 hlt (by omega)
          refine y_al1 c_64_29 ?_
          refine y_il2 c_64_30 ?_
          refine y_al0 c_64_31 ?_
          refine y_gr 89 c_64_32 rfl (by omega) ?_
          refine y_il3 c_64_35 ?_
          refine k_36 c_64_36 rfl rfl (Nat.le_of_ble_eq_true rfl) ?_
          refine s_36i wrow_89 (by omega) (by omega) (by omega) e2 ?_
          refine y_ic c_64_39 ?_
          refine y_il4 c_64_40 ?_
          refine y_al0 c_64_42 ?_
          refine y_gr 87 c_64_43 rfl (by omega) ?_
          refine y_il3 c_64_46 ?_
          refine k_36 c_64_47 rfl rfl (Nat.le_of_ble_eq_true rfl) ?_
          refine s_36i wrow_87 (by omega) (by omega) (by omega) e1 ?_
          refine k_29 c_64_50 rfl qc (Nat.le_of_ble_eq_true rfl) ?_
          refine s_29 (gk := 0) hp hM hok hk b3 (by omega) hlt (by omega) ?_
          refine y_al0 c_64_53 ?_
          refine y_gr 91 c_64_54 rfl (by omega) ?_
          refine y_il3 c_64_57 ?_
          refine k_36 c_64_58 rfl rfl (Nat.le_of_ble_eq_true rfl) ?_
          refine s_36i wrow_91 (by omega) (by omega) (by omega) e3 ?_
          refine y_ic_eq c_64_61 (by omega) (by omega) (fun h_61 => ?_) (fun h_61 => ?_)
          · refine y_inc3 c_64_66 rfl ?_
            refine y_goto c_64_69 ?_
            refine ih (k + 1) (by omega) (by omega) ?_ _ (Or.inr ⟨_, rfl⟩)
            unfold aThose aFit
            rw [g3]
            first
              | (have hlt2 : ¬ T.2 0 k < P.2.2.2 := by omega
                 simp [hlt2])
              | (have he : aCostBy P kind (T.2 2 k) 0 (T.2 0 k) (T.2 1 k) = T.2 3 k := by omega
                 simp [he])
          · refine y_ic c_64_64 ?_
            refine y_zret c_64_65 rfl (by omega) ?_
            have hf : aFit P T kind k = false := by
              unfold aFit
              have he : ¬ aCostBy P kind (T.2 2 k) 0 (T.2 0 k) (T.2 1 k) = T.2 3 k := by omega
              simp [hlt, he]
            rw [aThose_f hf T.1 (by omega)] at hQ
            exact hQ
  refine y_ic c_64_0 ?_
  refine y_is3 c_64_1 rfl ?_
  exact key (T.1 + 1) 0 (by omega) (by omega) rfl _ (Or.inl rfl)
end S5b
