/-! ===== small methods ===== -/
section Y2
variable {x : wC} {M : wM} {mi pc : Nat} {l st : List Value} {Q : Option Value → wC → wM → Prop} {ln a b w : Nat}
theorem y_pz_eq {P : Prop} [Decidable P] {off : Int} (hc : zcode mi pc = some (.ifCond .eq off, ln, a, b, w)) (kt : ¬ P → yG x M mi a l st Q) (kf : P → yG x M mi (pc + 3) l st Q) : yG x M mi pc l (.int (iI (if P then 1 else 0)) :: st) Q :=
  y_iz_eq hc (by split <;> omega) (fun h => kt (fun hp => by rw [if_pos hp] at h; omega)) (fun h => kf (by
    by_cases hp : P
    · exact hp
    · rw [if_neg hp] at h; omega))
theorem y_pz_ne {P : Prop} [Decidable P] {off : Int} (hc : zcode mi pc = some (.ifCond .ne off, ln, a, b, w)) (kt : P → yG x M mi a l st Q) (kf : ¬ P → yG x M mi (pc + 3) l st Q) : yG x M mi pc l (.int (iI (if P then 1 else 0)) :: st) Q :=
  y_iz_ne hc (by split <;> omega) (fun h => kt (by
    by_cases hp : P
    · exact hp
    · rw [if_neg hp] at h; omega)) (fun h => kf (fun hp => by rw [if_pos hp] at h; omega))
theorem y_pret {P : Prop} [Decidable P] (hc : zcode mi pc = some (.ireturn, ln, a, b, w)) (hr : zrk mi = 2) (k : Q (some (.int (iI (if P then 1 else 0)))) x M) : yG x M mi pc l [.int (iI (if P then 1 else 0))] Q :=
  y_zret hc hr (by split <;> omega) k
end Y2
/-- a row at r: n places, lo .. hi -/
def wrow (r n lo hi : Nat) : Prop := wch r 3 0 = r + 1 + 2 ∧ wch r 3 1 = 2000 + lo ∧ wch r 3 2 = 2000 + hi ∧ wch r 3 3 = 0 ∧ war (r + 1) = (0, n) ∧ wcl r = 3 ∧ r < 800 ∧ lo < 900 ∧ hi < 900 ∧ n < 1000
section S1
variable {x : wC} {M : wM} {Q : Option Value → wC → wM → Prop} {r n lo hi : Nat}
theorem s_32 (hr : wrow r n lo hi) (hQ : Q (some (.int (iI (M r 3)))) x M) : yG x M 32 0 [.ref r] [] Q := by
  obtain ⟨w0, w1, w2, w3, w4, w5, w6, w7, w8, w9⟩ := hr
  refine y_al0 c_32_0 ?_
  refine y_gi (j := 3) c_32_1 w3 rfl rfl (fun r_1 => ?_)
  refine y_ret c_32_4 rfl ?_
  exact hQ
theorem s_33 (hr : wrow r n lo hi) (hQ : Q (some (.int (iI (if (n : Int) ≤ M r 3 then 1 else 0)))) x M) : yG x M 33 0 [.ref r] [] Q := by
  obtain ⟨w0, w1, w2, w3, w4, w5, w6, w7, w8, w9⟩ := hr
  refine y_al0 c_33_0 ?_
  refine y_gi (j := 3) c_33_1 w3 rfl rfl (fun r_1 => ?_)
  refine y_al0 c_33_4 ?_
  refine y_gr (r + 1) c_33_5 w0 (by omega) ?_
  refine y_len c_33_8 w4 (by omega) ?_
  refine y_ic_lt c_33_9 (by omega) (by omega) (fun h_9 => ?_) (fun h_9 => ?_)
  · refine y_ic c_33_16 ?_
    refine y_zret c_33_17 rfl (by omega) ?_
    first | (rw [if_pos (by omega)] at hQ; exact hQ) | (rw [if_neg (by omega)] at hQ; exact hQ)
  · refine y_ic c_33_12 ?_
    refine y_goto c_33_13 ?_
    refine y_zret c_33_17 rfl (by omega) ?_
    first | (rw [if_pos (by omega)] at hQ; exact hQ) | (rw [if_neg (by omega)] at hQ; exact hQ)
theorem s_34 {z : Int} (hr : wrow r n lo hi) (hz : wR z) (hQ : Q (some (.int (iI (if (lo : Int) ≤ z ∧ z ≤ hi then 1 else 0)))) x M) : yG x M 34 0 [.ref r, .int (iI z)] [] Q := by
  obtain ⟨w0, w1, w2, w3, w4, w5, w6, w7, w8, w9⟩ := hr
  refine y_il1 c_34_0 ?_
  refine y_al0 c_34_1 ?_
  refine y_gc (c := lo) c_34_2 w1 (by omega) ?_
  refine y_ic_lt c_34_5 (by omega) (by omega) (fun h_5 => ?_) (fun h_5 => ?_)
  · refine y_ic c_34_20 ?_
    refine y_zret c_34_21 rfl (by omega) ?_
    first | (rw [if_pos (by omega)] at hQ; exact hQ) | (rw [if_neg (by omega)] at hQ; exact hQ)
  · refine y_il1 c_34_8 ?_
    refine y_al0 c_34_9 ?_
    refine y_gc (c := hi) c_34_10 w2 (by omega) ?_
    refine y_ic_gt c_34_13 (by omega) (by omega) (fun h_13 => ?_) (fun h_13 => ?_)
    · refine y_ic c_34_20 ?_
      refine y_zret c_34_21 rfl (by omega) ?_
      first | (rw [if_pos (by omega)] at hQ; exact hQ) | (rw [if_neg (by omega)] at hQ; exact hQ)
    · refine y_ic c_34_16 ?_
      refine y_goto c_34_17 ?_
      refine y_zret c_34_21 rfl (by omega) ?_
      first | (rw [if_pos (by omega)] at hQ; exact hQ) | (rw [if_neg (by omega)] at hQ; exact hQ)
theorem s_35 {z : Int} (hr : wrow r n lo hi) (hz : wR z) (hQ : Q (some (.int (iI (if 0 ≤ z ∧ z < M r 3 then 1 else 0)))) x M) : yG x M 35 0 [.ref r, .int (iI z)] [] Q := by
  obtain ⟨w0, w1, w2, w3, w4, w5, w6, w7, w8, w9⟩ := hr
  refine y_il1 c_35_0 ?_
  refine y_iz_lt c_35_1 (by omega) (fun h_1 => ?_) (fun h_1 => ?_)
  · refine y_ic c_35_16 ?_
    refine y_zret c_35_17 rfl (by omega) ?_
    first | (rw [if_pos (by omega)] at hQ; exact hQ) | (rw [if_neg (by omega)] at hQ; exact hQ)
  · refine y_il1 c_35_4 ?_
    refine y_al0 c_35_5 ?_
    refine y_gi (j := 3) c_35_6 w3 rfl rfl (fun r_6 => ?_)
    refine y_ic_ge c_35_9 (by omega) (by omega) (fun h_9 => ?_) (fun h_9 => ?_)
    · refine y_ic c_35_16 ?_
      refine y_zret c_35_17 rfl (by omega) ?_
      first | (rw [if_pos (by omega)] at hQ; exact hQ) | (rw [if_neg (by omega)] at hQ; exact hQ)
    · refine y_ic c_35_12 ?_
      refine y_goto c_35_13 ?_
      refine y_zret c_35_17 rfl (by omega) ?_
      first | (rw [if_pos (by omega)] at hQ; exact hQ) | (rw [if_neg (by omega)] at hQ; exact hQ)
theorem s_36 {z : Int} (hr : wrow r n lo hi) (hz : wR z) (hQ : Q (some (.int (iI (if 0 ≤ z ∧ z < M r 3 ∧ z < n then M (r + 1) z else -9)))) x M) : yG x M 36 0 [.ref r, .int (iI z)] [] Q := by
  obtain ⟨w0, w1, w2, w3, w4, w5, w6, w7, w8, w9⟩ := hr
  refine y_il1 c_36_0 ?_
  refine y_iz_lt c_36_1 (by omega) (fun h_1 => ?_) (fun h_1 => ?_)
  · refine y_bi c_36_30 (by decide) ?_
    refine y_ret c_36_32 rfl ?_
    first | (rw [if_pos (by omega)] at hQ; exact hQ) | (rw [if_neg (by omega)] at hQ; exact hQ)
  · refine y_il1 c_36_4 ?_
    refine y_al0 c_36_5 ?_
    refine y_gi (j := 3) c_36_6 w3 rfl rfl (fun r_6 => ?_)
    refine y_ic_ge c_36_9 (by omega) (by omega) (fun h_9 => ?_) (fun h_9 => ?_)
    · refine y_bi c_36_30 (by decide) ?_
      refine y_ret c_36_32 rfl ?_
      first | (rw [if_pos (by omega)] at hQ; exact hQ) | (rw [if_neg (by omega)] at hQ; exact hQ)
    · refine y_il1 c_36_12 ?_
      refine y_al0 c_36_13 ?_
      refine y_gr (r + 1) c_36_14 w0 (by omega) ?_
      refine y_len c_36_17 w4 (by omega) ?_
      refine y_ic_ge c_36_18 (by omega) (by omega) (fun h_18 => ?_) (fun h_18 => ?_)
      · refine y_bi c_36_30 (by decide) ?_
        refine y_ret c_36_32 rfl ?_
        first | (rw [if_pos (by omega)] at hQ; exact hQ) | (rw [if_neg (by omega)] at hQ; exact hQ)
      · refine y_al0 c_36_21 ?_
        refine y_gr (r + 1) c_36_22 w0 (by omega) ?_
        refine y_il1 c_36_25 ?_
        refine y_ald c_36_26 w4 (by omega) (by omega) (by omega) rfl (fun r_26 => ?_)
        refine y_goto c_36_27 ?_
        refine y_ret c_36_32 rfl ?_
        first | (rw [if_pos (by omega)] at hQ; exact hQ) | (rw [if_neg (by omega)] at hQ; exact hQ)
theorem s_36i {z v : Int} (hr : wrow r n lo hi) (h0 : 0 ≤ z) (h1 : z < M r 3) (h2 : z < n) (hv : M (r + 1) z = v) (hQ : Q (some (.int (iI v))) x M) : yG x M 36 0 [.ref r, .int (iI z)] [] Q := by
  have h9 : n < 1000 := hr.2.2.2.2.2.2.2.2.2
  exact s_36 hr (by omega) (by rw [if_pos ⟨h0, h1, h2⟩, hv]; exact hQ)
theorem s_37 {z : Int} (hr : wrow r n lo hi) (hz : wR z) (h0 : 0 ≤ M r 3) (h1 : M r 3 < n) (hQ : Q none x (wup (wup M (r + 1) (M r 3) z) r 3 (M r 3 + 1))) : yG x M 37 0 [.ref r, .int (iI z)] [] Q := by
  obtain ⟨w0, w1, w2, w3, w4, w5, w6, w7, w8, w9⟩ := hr
  have hne : r ≠ r + 1 := by omega
  refine y_al0 c_37_0 ?_
  refine y_gi (j := 3) c_37_1 w3 rfl rfl (fun r_1 => ?_)
  refine y_iz_lt c_37_4 (by omega) (fun h_4 => absurd h_4 (by omega)) (fun h_4 => ?_)
  refine y_al0 c_37_7 ?_
  refine y_gi (j := 3) c_37_8 w3 rfl rfl (fun r_8 => ?_)
  refine y_al0 c_37_11 ?_
  refine y_gr (r + 1) c_37_12 w0 (by omega) ?_
  refine y_len c_37_15 w4 (by omega) ?_
  refine y_ic_ge c_37_16 (by omega) (by omega) (fun h_16 => absurd h_16 (by omega)) (fun h_16 => ?_)
  refine y_al0 c_37_19 ?_
  refine y_gr (r + 1) c_37_20 w0 (by omega) ?_
  refine y_al0 c_37_23 ?_
  refine y_gi (j := 3) c_37_24 w3 rfl rfl (fun r_24 => ?_)
  refine y_il1 c_37_27 ?_
  refine y_ast c_37_28 w4 (by omega) (by omega) (by omega) (by omega) ?_
  refine y_al0 c_37_29 ?_
  refine y_dup c_37_30 rfl ?_
  refine y_gi (j := 3) (z := M r 3) c_37_31 w3 rfl (wup_a _ _ _ _ hne) (fun r_31 => ?_)
  refine y_ic c_37_34 ?_
  refine y_add c_37_35 ?_
  refine y_pi (j := 3) c_37_36 w3 rfl rfl (by omega) ?_
  refine y_vret c_37_39 rfl ?_
  exact hQ
theorem s_38 (hr : wrow r n lo hi) (hQ : Q none x (wup M r 3 0)) : yG x M 38 0 [.ref r] [] Q := by
  obtain ⟨w0, w1, w2, w3, w4, w5, w6, w7, w8, w9⟩ := hr
  refine y_al0 c_38_0 ?_
  refine y_ic c_38_1 ?_
  refine y_pi (j := 3) c_38_2 w3 rfl rfl (by omega) ?_
  refine y_vret c_38_5 rfl ?_
  exact hQ
theorem s_114 {s k : Nat} (hs : s < 2147483648) (hk : k < 31) (hQ : Q (some (.int (iI (if s / 2 ^ k % 2 = 1 then 1 else 0)))) x M) : yG x M 114 0 [.int (iI (s : Int)), .int (iI (k : Int))] [] Q := by
  have e : ((s / 2 ^ k &&& 1 : Nat) : Int) = ((s / 2 ^ k % 2 : Nat) : Int) := by rw [Nat.and_one_is_mod]
  refine y_il0 c_114_0 ?_
  refine y_il1 c_114_1 ?_
  refine y_shr (x1 := s) (x2 := k) c_114_2 hk hs ?_
  refine y_ic c_114_3 ?_
  refine y_iand (x1 := s / 2 ^ k) (x2 := 1) c_114_4 ?_
  rw [e]
  refine y_ic c_114_5 ?_
  refine y_ic_ne c_114_6 (by omega) (by omega) (fun h_6 => ?_) (fun h_6 => ?_)
  · refine y_ic c_114_13 ?_
    refine y_zret c_114_14 rfl (by omega) ?_
    first | (rw [if_pos (by omega)] at hQ; exact hQ) | (rw [if_neg (by omega)] at hQ; exact hQ)
  · refine y_ic c_114_9 ?_
    refine y_goto c_114_10 ?_
    refine y_zret c_114_14 rfl (by omega) ?_
    first | (rw [if_pos (by omega)] at hQ; exact hQ) | (rw [if_neg (by omega)] at hQ; exact hQ)
def aSt (stage sort : Int) : Int := if stage < 3 ∧ sort = stage + 1 then stage + 1 else stage
theorem s_115 {s k : Int} (hs : wR s) (hk : wR k) (hQ : Q (some (.int (iI (aSt s k)))) x M) : yG x M 115 0 [.int (iI s), .int (iI k)] [] Q := by
  unfold aSt at hQ
  refine y_il0 c_115_0 ?_
  refine y_ic c_115_1 ?_
  refine y_ic_ge c_115_2 (by omega) (by omega) (fun h_2 => ?_) (fun h_2 => ?_)
  · refine y_il0 c_115_18 ?_
    refine y_ret c_115_19 rfl ?_
    first | (rw [if_pos (by omega)] at hQ; exact hQ) | (rw [if_neg (by omega)] at hQ; exact hQ)
  · refine y_il1 c_115_5 ?_
    refine y_il0 c_115_6 ?_
    refine y_ic c_115_7 ?_
    refine y_add c_115_8 ?_
    refine y_ic_ne c_115_9 (by omega) (by omega) (fun h_9 => ?_) (fun h_9 => ?_)
    · refine y_il0 c_115_18 ?_
      refine y_ret c_115_19 rfl ?_
      first | (rw [if_pos (by omega)] at hQ; exact hQ) | (rw [if_neg (by omega)] at hQ; exact hQ)
    · refine y_il0 c_115_12 ?_
      refine y_ic c_115_13 ?_
      refine y_add c_115_14 ?_
      refine y_goto c_115_15 ?_
      refine y_ret c_115_19 rfl ?_
      first | (rw [if_pos (by omega)] at hQ; exact hQ) | (rw [if_neg (by omega)] at hQ; exact hQ)
end S1
