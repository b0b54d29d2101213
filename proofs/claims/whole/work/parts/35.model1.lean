/-! ===== the model: what it counts with ===== -/
def mport (M : wM) (P : aP) : Prop := M 106 4 = P.2.1 ∧ M 106 6 = P.2.2.1 ∧ M 106 8 = P.2.2.2 ∧ (∀ i : Nat, i < P.2.1 → M 108 (2 * (i : Int)) = P.1 0 i ∧ M 108 (2 * (i : Int) + 1) = P.1 1 i) ∧ (∀ i : Nat, i < P.2.2.1 → M 109 (2 * (i : Int)) = P.1 2 i ∧ M 109 (2 * (i : Int) + 1) = P.1 3 i) ∧ ∀ i : Nat, i < P.2.2.2 → M 110 (3 * (i : Int)) = P.1 4 i ∧ M 110 (3 * (i : Int) + 1) = P.1 5 i ∧ M 110 (3 * (i : Int) + 2) = P.1 6 i
def wpage (M : wM) (a : Nat) (R : aR) : Prop := M a 0 = R.1 ∧ M a 1 = R.2.1 ∧ M a 2 = R.2.2.1 ∧ M a 3 = R.2.2.2.length ∧ ∀ i : Nat, i < R.2.2.2.length → M a (4 + (i : Int)) = (R.2.2.2.getD i 0 : Nat)
def aStL (P : aP) (l : List Nat) (lost : Nat) : Nat → Nat
  | 0 => 0
  | k + 1 => if lost / 2 ^ k % 2 = 1 then aStL P l lost k else aNx (aStL P l lost k) (P.1 6 (l.getD k 0))
theorem aStL_le (P : aP) (l : List Nat) (lost : Nat) : ∀ k, aStL P l lost k ≤ 3
  | 0 => Nat.zero_le _
  | k + 1 => by
    have := aStL_le P l lost k
    simp only [aStL]
    split
    · exact this
    · unfold aNx; split <;> omega
theorem aStL_0 (P : aP) (l : List Nat) : ∀ k, k ≤ l.length → aStL P l 0 k = aStage P (l.take k)
  | 0, _ => rfl
  | k + 1, h => by
    simp only [aStL]
    rw [if_neg (by simp), aStL_0 P l k (by omega), aStage_s P (by omega)]
    rfl
theorem mport_of {M M' : wM} {P : aP} (h : mport M P) (h4 : M' 106 4 = M 106 4) (h6 : M' 106 6 = M 106 6) (h8 : M' 106 8 = M 106 8) (h1 : M' 108 = M 108) (h2 : M' 109 = M 109) (h3 : M' 110 = M 110) : mport M' P := by
  unfold mport at *
  rw [h4, h6, h8, h1, h2, h3]; exact h
theorem wpage_of {M M' : wM} {a : Nat} {R : aR} (h : wpage M a R) (h1 : M' a = M a) : wpage M' a R := by
  unfold wpage at *
  rw [h1]; exact h
section S23
variable {x : wC} {M : wM} {Q : Option Value → wC → wM → Prop} {P : aP} {R : aR} {a : Nat}
theorem s_117 {v u t : Int} (hv : wR v) (hu : wR u) (ht : wR t) (hQ : Q (some (.int (iI (if u ≤ v ∧ v ≤ t then 1 else 0)))) x M) : yG x M 117 0 [.long (lI v), zU, .long (lI u), zU, .long (lI t), zU] [] Q := by
  have e1 : wcmp v u < 0 ↔ v < u := by unfold wcmp; split <;> (try split) <;> omega
  have e2 : 0 < wcmp v t ↔ t < v := by unfold wcmp; split <;> (try split) <;> omega
  have r1 : wR (wcmp v u) := by unfold wcmp; split <;> (try split) <;> decide
  have r2 : wR (wcmp v t) := by unfold wcmp; split <;> (try split) <;> decide
  refine y_ll0 c_117_0 ?_
  refine y_ll2 c_117_1 ?_
  refine y_lcmp c_117_2 (by omega) (by omega) ?_
  refine y_iz_lt c_117_3 r1 (fun h1 => ?_) (fun h1 => ?_)
  · refine y_ic c_117_17 ?_
    refine y_zret c_117_18 rfl (by omega) ?_
    first
      | (rw [if_pos (by omega)] at hQ; exact hQ)
      | (rw [if_neg (by omega)] at hQ; exact hQ)
  · refine y_ll0 c_117_6 ?_
    refine y_ll4 c_117_7 ?_
    refine y_lcmp c_117_9 (by omega) (by omega) ?_
    refine y_iz_gt c_117_10 r2 (fun h2 => ?_) (fun h2 => ?_)
    · refine y_ic c_117_17 ?_
      refine y_zret c_117_18 rfl (by omega) ?_
      first
        | (rw [if_pos (by omega)] at hQ; exact hQ)
        | (rw [if_neg (by omega)] at hQ; exact hQ)
    · refine y_ic c_117_13 ?_
      refine y_goto c_117_14 ?_
      refine y_zret c_117_18 rfl (by omega) ?_
      first
        | (rw [if_pos (by omega)] at hQ; exact hQ)
        | (rw [if_neg (by omega)] at hQ; exact hQ)
theorem s_118 {s k : Nat} (hs : s < 2147483648) (hk : k < 31) (hQ : Q (some (.int (iI (if s / 2 ^ k % 2 = 1 then 1 else 0)))) x M) : yG x M 118 0 [.int (iI (s : Int)), .int (iI (k : Int))] [] Q := by
  have e : ((s / 2 ^ k &&& 1 : Nat) : Int) = ((s / 2 ^ k % 2 : Nat) : Int) := by rw [Nat.and_one_is_mod]
  have hm : s / 2 ^ k % 2 < 2 := Nat.mod_lt _ (by omega)
  refine y_il0 c_118_0 ?_
  refine y_il1 c_118_1 ?_
  refine y_shr (x1 := s) (x2 := k) c_118_2 (by omega) (by omega) ?_
  refine y_ic c_118_3 ?_
  refine y_iand (x1 := s / 2 ^ k) (x2 := 1) c_118_4 ?_
  rw [e]
  generalize s / 2 ^ k % 2 = t at *
  refine y_ic c_118_5 ?_
  refine y_ic_ne c_118_6 (by omega) (by omega) (fun h1 => ?_) (fun h1 => ?_)
  · refine y_ic c_118_13 ?_
    refine y_zret c_118_14 rfl (by omega) ?_
    first
      | (rw [if_pos (by omega)] at hQ; exact hQ)
      | (rw [if_neg (by omega)] at hQ; exact hQ)
  · refine y_ic c_118_9 ?_
    refine y_goto c_118_10 ?_
    refine y_zret c_118_14 rfl (by omega) ?_
    first
      | (rw [if_pos (by omega)] at hQ; exact hQ)
      | (rw [if_neg (by omega)] at hQ; exact hQ)
theorem s_119 {s : Nat} (hs : s < 64) (hQ : Q (some (.int (iI (aPop s : Nat)))) x M) : yG x M 119 0 [.int (iI (s : Int)), zU, zU] [] Q := by
  have key : ∀ d k : Nat, 6 < k + d → k ≤ 6 → ∀ n : Nat, n = sumTo (fun k => s / 2 ^ k % 2) k → yG x M 119 4 [.int (iI (s : Int)), .int (iI (n : Int)), .int (iI (k : Int))] [] Q := by
    intro d
    induction d with
    | zero => intro k g1 g2; omega
    | succ d ih =>
      intro k g1 g2 n hn
      have e : ((s / 2 ^ k &&& 1 : Nat) : Int) = ((s / 2 ^ k % 2 : Nat) : Int) := by rw [Nat.and_one_is_mod]
      refine y_il2 c_119_4 ?_
      refine y_bi c_119_5 (by decide) ?_
      refine y_ic_ge c_119_7 (by omega) (by omega) (fun h_7 => ?_) (fun h_7 => ?_)
      · have hk : k = 6 := by omega
        subst hk
        refine y_il1 c_119_24 ?_
        refine y_ret c_119_25 rfl ?_
        subst hn; exact hQ
      · refine y_il1 c_119_10 ?_
        refine y_il0 c_119_11 ?_
        refine y_il2 c_119_12 ?_
        refine y_shr (x1 := s) (x2 := k) c_119_13 (by omega) (by omega) ?_
        refine y_ic c_119_14 ?_
        refine y_iand (x1 := s / 2 ^ k) (x2 := 1) c_119_15 ?_
        rw [e]
        refine y_add c_119_16 ?_
        rw [← Int.natCast_add]
        refine y_is1 c_119_17 rfl ?_
        refine y_inc2 c_119_18 rfl ?_
        refine y_goto c_119_21 ?_
        exact ih (k + 1) (by omega) (by omega) _ (by rw [hn]; rfl)
  refine y_ic c_119_0 ?_
  refine y_is1 c_119_1 rfl ?_
  refine y_ic c_119_2 ?_
  refine y_is2 c_119_3 rfl ?_
  exact key 7 0 (by omega) (by omega) 0 rfl
theorem s_120 {b n : Nat} (hn : n ≤ 30) (hQ : Q (some (.int (iI ((b ^ n : Nat) : Int)))) x M) : yG x M 120 0 [.int (iI (b : Int)), .int (iI (n : Int)), zU, zU] [] Q := by
  have key : ∀ d k : Nat, n < k + d → k ≤ n → yG x M 120 4 [.int (iI (b : Int)), .int (iI (n : Int)), .int (iI ((b ^ k : Nat) : Int)), .int (iI (k : Int))] [] Q := by
    intro d
    induction d with
    | zero => intro k g1 g2; omega
    | succ d ih =>
      intro k g1 g2
      refine y_il3 c_120_4 ?_
      refine y_il1 c_120_5 ?_
      refine y_ic_ge c_120_6 (by omega) (by omega) (fun h_6 => ?_) (fun h_6 => ?_)
      · have hk : k = n := by omega
        subst hk
        refine y_il2 c_120_19 ?_
        refine y_ret c_120_20 rfl ?_
        exact hQ
      · refine y_il2 c_120_9 ?_
        refine y_il0 c_120_10 ?_
        refine y_mul c_120_11 ?_
        rw [← Int.natCast_mul, ← Nat.pow_succ]
        refine y_is2 c_120_12 rfl ?_
        refine y_inc3 c_120_13 rfl ?_
        refine y_goto c_120_16 ?_
        exact ih (k + 1) (by omega) (by omega)
  refine y_ic c_120_0 ?_
  refine y_is2 c_120_1 rfl ?_
  refine y_ic c_120_2 ?_
  refine y_is3 c_120_3 rfl ?_
  exact key (n + 1) 0 (by omega) (by omega)
theorem s_121 {z : Int} (hM : mport M P) (hok : aPok P) (hz : wR z) (hQ : Q (some (.int (iI (if ¬ (0 ≤ z ∧ z < P.2.1) then 1 else 0)))) x M) : yG x M 121 0 [.ref 106, .int (iI z)] [] Q := by
  obtain ⟨m4, m6, m8, -⟩ := hM
  obtain ⟨k1, k2, k3, -⟩ := hok
  refine y_il1 c_121_0 ?_
  refine y_i2l c_121_1 (by omega) ?_
  refine y_lc (z := 0) c_121_2 rfl ?_
  refine y_al0 c_121_3 ?_
  refine y_gi (j := 4) (z := (P.2.1 : Int)) c_121_4 rfl rfl m4 (fun r_4 => ?_)
  refine y_ic c_121_7 ?_
  refine y_sub c_121_8 ?_
  refine y_i2l c_121_9 (by omega) ?_
  refine k_117 c_121_10 rfl (Nat.le_of_ble_eq_true rfl) ?_
  refine s_117 hz (by decide) (by omega) ?_
  refine y_pz_ne c_121_13 (fun h1 => ?_) (fun h1 => ?_)
  · refine y_ic c_121_20 ?_
    refine y_zret c_121_21 rfl (by omega) ?_
    first
      | (rw [if_pos (by omega)] at hQ; exact hQ)
      | (rw [if_neg (by omega)] at hQ; exact hQ)
  · refine y_ic c_121_16 ?_
    refine y_goto c_121_17 ?_
    refine y_zret c_121_21 rfl (by omega) ?_
    first
      | (rw [if_pos (by omega)] at hQ; exact hQ)
      | (rw [if_neg (by omega)] at hQ; exact hQ)
theorem s_122 {z : Int} (hM : mport M P) (hok : aPok P) (hz : wR z) (hQ : Q (some (.int (iI (if ¬ (0 ≤ z ∧ z < P.2.2.1) then 1 else 0)))) x M) : yG x M 122 0 [.ref 106, .int (iI z)] [] Q := by
  obtain ⟨m4, m6, m8, -⟩ := hM
  obtain ⟨k1, k2, k3, -⟩ := hok
  refine y_il1 c_122_0 ?_
  refine y_i2l c_122_1 (by omega) ?_
  refine y_lc (z := 0) c_122_2 rfl ?_
  refine y_al0 c_122_3 ?_
  refine y_gi (j := 6) (z := (P.2.2.1 : Int)) c_122_4 rfl rfl m6 (fun r_4 => ?_)
  refine y_ic c_122_7 ?_
  refine y_sub c_122_8 ?_
  refine y_i2l c_122_9 (by omega) ?_
  refine k_117 c_122_10 rfl (Nat.le_of_ble_eq_true rfl) ?_
  refine s_117 hz (by decide) (by omega) ?_
  refine y_pz_ne c_122_13 (fun h1 => ?_) (fun h1 => ?_)
  · refine y_ic c_122_20 ?_
    refine y_zret c_122_21 rfl (by omega) ?_
    first
      | (rw [if_pos (by omega)] at hQ; exact hQ)
      | (rw [if_neg (by omega)] at hQ; exact hQ)
  · refine y_ic c_122_16 ?_
    refine y_goto c_122_17 ?_
    refine y_zret c_122_21 rfl (by omega) ?_
    first
      | (rw [if_pos (by omega)] at hQ; exact hQ)
      | (rw [if_neg (by omega)] at hQ; exact hQ)
theorem s_123 {z : Int} (hM : mport M P) (hok : aPok P) (hz : wR z) (hQ : Q (some (.int (iI (if ¬ (0 ≤ z ∧ z < P.2.2.2) then 1 else 0)))) x M) : yG x M 123 0 [.ref 106, .int (iI z)] [] Q := by
  obtain ⟨m4, m6, m8, -⟩ := hM
  obtain ⟨k1, k2, k3, -⟩ := hok
  refine y_il1 c_123_0 ?_
  refine y_i2l c_123_1 (by omega) ?_
  refine y_lc (z := 0) c_123_2 rfl ?_
  refine y_al0 c_123_3 ?_
  refine y_gi (j := 8) (z := (P.2.2.2 : Int)) c_123_4 rfl rfl m8 (fun r_4 => ?_)
  refine y_ic c_123_7 ?_
  refine y_sub c_123_8 ?_
  refine y_i2l c_123_9 (by omega) ?_
  refine k_117 c_123_10 rfl (Nat.le_of_ble_eq_true rfl) ?_
  refine s_117 hz (by decide) (by omega) ?_
  refine y_pz_ne c_123_13 (fun h1 => ?_) (fun h1 => ?_)
  · refine y_ic c_123_20 ?_
    refine y_zret c_123_21 rfl (by omega) ?_
    first
      | (rw [if_pos (by omega)] at hQ; exact hQ)
      | (rw [if_neg (by omega)] at hQ; exact hQ)
  · refine y_ic c_123_16 ?_
    refine y_goto c_123_17 ?_
    refine y_zret c_123_21 rfl (by omega) ?_
    first
      | (rw [if_pos (by omega)] at hQ; exact hQ)
      | (rw [if_neg (by omega)] at hQ; exact hQ)
theorem s_133 {a b na nb n : Nat} (ha : war a = (0, na)) (hb : war b = (0, nb)) (hab : a ≠ b) (h1 : n ≤ na) (h2 : n ≤ nb) (h3 : nb < 1000) (h4 : na < 1000) (hQ : ∀ M' : wM, (∀ i : Nat, i < n → M' b i = M a i) → (∀ c, c ≠ b → M' c = M c) → Q none x M') : yG x M 133 0 [.ref a, .ref b, .int (iI (n : Int)), zU] [] Q := by
  have key : ∀ d k : Nat, n < k + d → k ≤ n → ∀ M1 : wM, (∀ i : Nat, i < k → M1 b i = M a i) → (∀ c, c ≠ b → M1 c = M c) → yG x M1 133 2 [.ref a, .ref b, .int (iI (n : Int)), .int (iI (k : Int))] [] Q := by
    intro d
    induction d with
    | zero => intro k g1 g2; omega
    | succ d ih =>
      intro k g1 g2 M1 hb1 hc1
      refine y_il3 c_133_2 ?_
      refine y_il2 c_133_3 ?_
      refine y_ic_ge c_133_4 (by omega) (by omega) (fun h_4 => ?_) (fun h_4 => ?_)
      · have hk : k = n := by omega
        subst hk
        refine y_vret c_133_19 rfl ?_
        exact hQ M1 hb1 hc1
      · refine y_al1 c_133_7 ?_
        refine y_il3 c_133_8 ?_
        refine y_al0 c_133_9 ?_
        refine y_il3 c_133_10 ?_
        refine y_ald (u := (M a k)) c_133_11 ha (by omega) (by omega) (by omega) (by rw [hc1 a hab]) (fun r_11 => ?_)
        refine y_ast c_133_12 hb (by omega) (by omega) (by omega) (by omega) ?_
        refine y_inc3 c_133_13 rfl ?_
        refine y_goto c_133_16 ?_
        refine ih (k + 1) (by omega) (by omega) _ (fun i hi => ?_) (fun c hc => by rw [wup_f _ _ _ hc]; exact hc1 c hc)
        by_cases hik : i = k
        · subst hik; rw [wup_s]
        · rw [wup_k _ _ (by omega)]; exact hb1 i (by omega)
  refine y_ic c_133_0 ?_
  refine y_is3 c_133_1 rfl ?_
  exact key (n + 1) 0 (by omega) (by omega) M (fun i hi => by omega) (fun c hc => rfl)
theorem s_135 {g : Nat} (hM : mport M P) (hok : aPok P) (hg : g < P.2.1) (hQ : Q (some (.int (iI (aGr P g : Nat)))) x M) : yG x M 135 0 [.ref 106, .int (iI (g : Int)), zU] [] Q := by
  obtain ⟨m4, m6, m8, v1, v2, v3⟩ := hM
  obtain ⟨k1, k2, k3, k4, k5, k6⟩ := hok
  have b0 := k4 g hg
  have vg := v1 g hg
  refine y_al0 c_135_0 ?_
  refine y_gr 108 c_135_1 rfl (by omega) ?_
  refine y_ic c_135_4 ?_
  refine y_il1 c_135_5 ?_
  refine y_mul c_135_6 ?_
  refine y_ald (n := 8) (u := (P.1 0 g : Int)) c_135_7 rfl (by omega) (by omega) (by omega) vg.1 (fun r_7 => ?_)
  refine y_is2 c_135_8 rfl ?_
  refine y_al0 c_135_9 ?_
  refine y_gr 108 c_135_10 rfl (by omega) ?_
  refine y_ic c_135_13 ?_
  refine y_il1 c_135_14 ?_
  refine y_mul c_135_15 ?_
  refine y_ic c_135_16 ?_
  refine y_add c_135_17 ?_
  refine y_ald (n := 8) (u := (P.1 1 g : Int)) c_135_18 rfl (by omega) (by omega) (by omega) vg.2 (fun r_18 => ?_)
  refine y_ic c_135_19 ?_
  refine y_ic_ne c_135_20 (by omega) (by omega) (fun h_20 => ?_) (fun h_20 => ?_)
  · refine y_bi c_135_30 (by decide) ?_
    refine y_il2 c_135_32 ?_
    refine y_mul c_135_33 ?_
    refine y_ret c_135_34 rfl ?_
    exact yQi hQ (by unfold aGr; split <;> omega)
  · refine y_bi c_135_23 (by decide) ?_
    refine y_il2 c_135_25 ?_
    refine y_mul c_135_26 ?_
    refine y_goto c_135_27 ?_
    refine y_ret c_135_34 rfl ?_
    exact yQi hQ (by unfold aGr; split <;> omega)
theorem s_136 {kind pace y i : Nat} (hM : mport M P) (hok : aPok P) (hk : kind ≤ 3) (hpc : pace ≤ 4) (hy : y < P.2.2.2) (hi : i ≤ 6) (hQ : Q (some (.int (iI (aCostBy P kind pace 0 y i : Nat)))) x M) : yG x M 136 0 [.ref 106, .int (iI (y : Int)), .int (iI (pace : Int)), .int (iI (kind : Int)), .int (iI (i : Int)), zU] [] Q := by
  obtain ⟨m4, m6, m8, v1, v2, v3⟩ := hM
  obtain ⟨k1, k2, k3, k4, k5, k6⟩ := hok
  have b0 := k6 y hy
  have vy := v3 y hy
  have hm : P.1 4 y * pace ≤ 9 * 4 := Nat.mul_le_mul b0.2.1 hpc
  unfold aCostBy at hQ
  refine y_al0 c_136_0 ?_
  refine y_gr 110 c_136_1 rfl (by omega) ?_
  refine y_ic c_136_4 ?_
  refine y_il1 c_136_5 ?_
  refine y_mul c_136_6 ?_
  refine y_ald (n := 18) (u := (P.1 4 y : Int)) c_136_7 rfl (by omega) (by omega) (by omega) vy.1 (fun r_7 => ?_)
  refine y_il2 c_136_8 ?_
  refine y_mul c_136_9 ?_
  rw [← Int.natCast_mul]
  generalize P.1 4 y * pace = v at hm hQ ⊢
  refine y_is5 c_136_10 rfl ?_
  refine y_il3 c_136_12 ?_
  refine y_ic c_136_13 ?_
  refine y_ic_ne c_136_14 (by omega) (by omega) (fun h_14 => ?_) (fun h_14 => ?_)
  · refine y_il3 c_136_35 ?_
    refine y_ic c_136_36 ?_
    refine y_ic_ne c_136_37 (by omega) (by omega) (fun h_37 => ?_) (fun h_37 => ?_)
    · refine y_il3 c_136_50 ?_
      refine y_ic c_136_51 ?_
      refine y_ic_ne c_136_52 (by omega) (by omega) (fun h_52 => ?_) (fun h_52 => ?_)
      · refine y_il5 c_136_63 ?_
        refine y_ret c_136_65 rfl ?_
        exact yQi hQ (by (repeat' split) <;> omega)
      · refine y_il5 c_136_55 ?_
        refine y_il4 c_136_57 ?_
        refine y_add c_136_59 ?_
        refine y_goto c_136_60 ?_
        refine y_ret c_136_65 rfl ?_
        exact yQi hQ (by (repeat' split) <;> omega)
    · refine y_il4 c_136_40 ?_
      refine y_iz_ne c_136_42 (by omega) (fun h_42 => ?_) (fun h_42 => ?_)
      · refine y_il3 c_136_50 ?_
        refine y_ic c_136_51 ?_
        refine y_ic_ne c_136_52 (by omega) (by omega) (fun h_52 => ?_) (fun h_52 => ?_)
        · refine y_il5 c_136_63 ?_
          refine y_ret c_136_65 rfl ?_
          exact yQi hQ (by (repeat' split) <;> omega)
        · refine y_il5 c_136_55 ?_
          refine y_il4 c_136_57 ?_
          refine y_add c_136_59 ?_
          refine y_goto c_136_60 ?_
          refine y_ret c_136_65 rfl ?_
          exact yQi hQ (by (repeat' split) <;> omega)
      · refine y_ic c_136_45 ?_
        refine y_il5 c_136_46 ?_
        refine y_mul c_136_48 ?_
        refine y_ret c_136_49 rfl ?_
        exact yQi hQ (by (repeat' split) <;> omega)
  · refine y_al0 c_136_17 ?_
    refine y_gr 110 c_136_18 rfl (by omega) ?_
    refine y_ic c_136_21 ?_
    refine y_il1 c_136_22 ?_
    refine y_mul c_136_23 ?_
    refine y_ic c_136_24 ?_
    refine y_add c_136_25 ?_
    refine y_ald (n := 18) (u := (P.1 6 y : Int)) c_136_26 rfl (by omega) (by omega) (by omega) vy.2.2 (fun r_26 => ?_)
    refine y_iz_ne c_136_27 (by omega) (fun h_27 => ?_) (fun h_27 => ?_)
    · refine y_il3 c_136_35 ?_
      refine y_ic c_136_36 ?_
      refine y_ic_ne c_136_37 (by omega) (by omega) (fun h_37 => ?_) (fun h_37 => ?_)
      · refine y_il3 c_136_50 ?_
        refine y_ic c_136_51 ?_
        refine y_ic_ne c_136_52 (by omega) (by omega) (fun h_52 => ?_) (fun h_52 => ?_)
        · refine y_il5 c_136_63 ?_
          refine y_ret c_136_65 rfl ?_
          exact yQi hQ (by (repeat' split) <;> omega)
        · refine y_il5 c_136_55 ?_
          refine y_il4 c_136_57 ?_
          refine y_add c_136_59 ?_
          refine y_goto c_136_60 ?_
          refine y_ret c_136_65 rfl ?_
          exact yQi hQ (by (repeat' split) <;> omega)
      · refine y_il4 c_136_40 ?_
        refine y_iz_ne c_136_42 (by omega) (fun h_42 => ?_) (fun h_42 => ?_)
        · refine y_il3 c_136_50 ?_
          refine y_ic c_136_51 ?_
          refine y_ic_ne c_136_52 (by omega) (by omega) (fun h_52 => ?_) (fun h_52 => ?_)
          · refine y_il5 c_136_63 ?_
            refine y_ret c_136_65 rfl ?_
            exact yQi hQ (by (repeat' split) <;> omega)
          · refine y_il5 c_136_55 ?_
            refine y_il4 c_136_57 ?_
            refine y_add c_136_59 ?_
            refine y_goto c_136_60 ?_
            refine y_ret c_136_65 rfl ?_
            exact yQi hQ (by (repeat' split) <;> omega)
        · refine y_ic c_136_45 ?_
          refine y_il5 c_136_46 ?_
          refine y_mul c_136_48 ?_
          refine y_ret c_136_49 rfl ?_
          exact yQi hQ (by (repeat' split) <;> omega)
    · refine y_il5 c_136_30 ?_
      refine y_ic c_136_32 ?_
      refine y_div c_136_33 (by omega) (by omega) (by omega) (by omega) ?_
      refine y_ret c_136_34 rfl ?_
      exact yQi hQ (by (repeat' split) <;> omega)
theorem s_137 {y s g i : Nat} (hM : mport M P) (hok : aPok P) (hs : s < P.2.2.1) (hg : g < P.2.1) (hy : y < P.2.2.2) (hi : i ≤ 6) (hQ : Q (some (.int (iI (aCost P y s g i : Nat)))) x M) : yG x M 137 0 [.ref 106, .int (iI (y : Int)), .int (iI (s : Int)), .int (iI (g : Int)), .int (iI (i : Int))] [] Q := by
  obtain ⟨m4, m6, m8, v1, v2, v3⟩ := id hM
  obtain ⟨k1, k2, k3, k4, k5, k6⟩ := id hok
  have bs := k5 s hs
  have bg := k4 g hg
  have vs := v2 s hs
  have vg := v1 g hg
  have hle := aCostBy_le (kind := P.1 3 s) (gk := 0) (i := i) hok bs.2.1 hy hi
  have he : aCost P y s g i = aCostBy P (P.1 3 s) (P.1 2 s) 0 y i + if P.1 1 g = 1 then 2 else 0 := by unfold aCost aCostBy; rw [if_neg (show ¬ (0 = 1) by decide)]; omega
  refine y_al0 c_137_0 ?_
  refine y_il1 c_137_1 ?_
  refine y_al0 c_137_2 ?_
  refine y_gr 109 c_137_3 rfl (by omega) ?_
  refine y_ic c_137_6 ?_
  refine y_il2 c_137_7 ?_
  refine y_mul c_137_8 ?_
  refine y_ald (n := 8) (u := (P.1 2 s : Int)) c_137_9 rfl (by omega) (by omega) (by omega) vs.1 (fun r_9 => ?_)
  refine y_al0 c_137_10 ?_
  refine y_gr 109 c_137_11 rfl (by omega) ?_
  refine y_ic c_137_14 ?_
  refine y_il2 c_137_15 ?_
  refine y_mul c_137_16 ?_
  refine y_ic c_137_17 ?_
  refine y_add c_137_18 ?_
  refine y_ald (n := 8) (u := (P.1 3 s : Int)) c_137_19 rfl (by omega) (by omega) (by omega) vs.2 (fun r_19 => ?_)
  refine y_il4 c_137_20 ?_
  refine k_136 c_137_22 rfl rfl (Nat.le_of_ble_eq_true rfl) ?_
  refine s_136 hM hok bs.2.2 bs.2.1 hy hi ?_
  refine y_al0 c_137_25 ?_
  refine y_gr 108 c_137_26 rfl (by omega) ?_
  refine y_ic c_137_29 ?_
  refine y_il3 c_137_30 ?_
  refine y_mul c_137_31 ?_
  refine y_ic c_137_32 ?_
  refine y_add c_137_33 ?_
  refine y_ald (n := 8) (u := (P.1 1 g : Int)) c_137_34 rfl (by omega) (by omega) (by omega) vg.2 (fun r_34 => ?_)
  refine y_ic c_137_35 ?_
  refine y_ic_ne c_137_36 (by omega) (by omega) (fun h1 => ?_) (fun h1 => ?_)
  · refine y_ic c_137_43 ?_
    refine y_add c_137_44 ?_
    refine y_ret c_137_45 rfl ?_
    exact yQi hQ (by rw [he]; split <;> omega)
  · refine y_ic c_137_39 ?_
    refine y_goto c_137_40 ?_
    refine y_add c_137_44 ?_
    refine y_ret c_137_45 rfl ?_
    exact yQi hQ (by rw [he]; split <;> omega)
theorem s_138 (hw : war a = (0, 10)) (hR : wpage M a R) (hl : R.2.2.2.length ≤ 6) (hy : ∀ y ∈ R.2.2.2, y < 6) (hQ : Q (some (.int (iI (aBits R.2.2.2 : Nat)))) x M) : yG x M 138 0 [.ref a, zU, zU] [] Q := by
  obtain ⟨a0, a1, a2, a3, a4⟩ := hR
  generalize hll : R.2.2.2 = l at *
  have key : ∀ d k : Nat, l.length < k + d → k ≤ l.length → yG x M 138 4 [.ref a, .int (iI (aBits (l.take k) : Nat)), .int (iI (k : Int))] [] Q := by
    intro d
    induction d with
    | zero => intro k g1 g2; omega
    | succ d ih =>
      intro k g1 g2
      refine y_il2 c_138_4 ?_
      refine y_al0 c_138_5 ?_
      refine y_ic c_138_6 ?_
      refine y_ald (u := (l.length : Int)) c_138_7 hw (by omega) (by omega) (by omega) a3 (fun r_7 => ?_)
      refine y_ic_ge c_138_8 (by omega) (by omega) (fun h_8 => ?_) (fun h_8 => ?_)
      · have hk : k = l.length := by omega
        subst hk
        refine y_il1 c_138_27 ?_
        refine y_ret c_138_28 rfl ?_
        rw [List.take_length]; exact hQ
      · have hk : k < l.length := by omega
        have hyk := hy _ (mem_getD hk)
        have e := aBits_s hk
        have hp2 := Nat.pow_le_pow_right (show 0 < 2 by omega) (show l.getD k 0 ≤ 5 by omega)
        refine y_il1 c_138_11 ?_
        refine y_ic c_138_12 ?_
        refine y_al0 c_138_13 ?_
        refine y_ic c_138_14 ?_
        refine y_il2 c_138_15 ?_
        refine y_add c_138_16 ?_
        refine y_ald (u := (l.getD k 0 : Int)) c_138_17 hw (by omega) (by omega) (by omega) (a4 k hk) (fun r_17 => ?_)
        refine y_shl (x1 := 1) (x2 := l.getD k 0) c_138_18 (by omega) (by omega) ?_
        rw [Nat.one_mul]
        refine y_ior (x1 := aBits (l.take k)) (x2 := 2 ^ l.getD k 0) c_138_19 ?_
        rw [← e]
        refine y_is1 c_138_20 rfl ?_
        refine y_inc2 c_138_21 rfl ?_
        refine y_goto c_138_24 ?_
        exact ih (k + 1) (by omega) (by omega)
  refine y_ic c_138_0 ?_
  refine y_is1 c_138_1 rfl ?_
  refine y_ic c_138_2 ?_
  refine y_is2 c_138_3 rfl ?_
  exact key (l.length + 1) 0 (by omega) (by omega)
theorem s_139 (hw : war a = (0, 10)) (hR : wpage M a R) (hl : R.2.2.2.length ≤ 6) (hM : mport M P) (hok : aPok P) (hy : ∀ y ∈ R.2.2.2, y < P.2.2.2) (hQ : Q (some (.int (iI (aWarm P R.2.2.2 : Nat)))) x M) : yG x M 139 0 [.ref 106, .ref a, zU, zU] [] Q := by
  obtain ⟨a0, a1, a2, a3, a4⟩ := hR
  obtain ⟨m4, m6, m8, v1, v2, v3⟩ := id hM
  obtain ⟨k1, k2, k3, k4, k5, k6⟩ := id hok
  generalize hll : R.2.2.2 = l at *
  have key : ∀ d k : Nat, l.length < k + d → k ≤ l.length → yG x M 139 4 [.ref 106, .ref a, .int (iI (aWarm P (l.take k) : Nat)), .int (iI (k : Int))] [] Q := by
    intro d
    induction d with
    | zero => intro k g1 g2; omega
    | succ d ih =>
      intro k g1 g2
      refine y_il3 c_139_4 ?_
      refine y_al1 c_139_5 ?_
      refine y_ic c_139_6 ?_
      refine y_ald (u := (l.length : Int)) c_139_7 hw (by omega) (by omega) (by omega) a3 (fun r_7 => ?_)
      refine y_ic_ge c_139_8 (by omega) (by omega) (fun h_8 => ?_) (fun h_8 => ?_)
      · have hk : k = l.length := by omega
        subst hk
        refine y_il2 c_139_34 ?_
        refine y_ret c_139_35 rfl ?_
        rw [List.take_length]; exact hQ
      · have hk : k < l.length := by omega
        have hyk := hy _ (mem_getD hk)
        have e : aWarm P (l.take (k + 1)) = aWarm P (l.take k) + P.1 5 (l.getD k 0) := by rw [take_s hk]; simp [aWarm]
        refine y_il2 c_139_11 ?_
        refine y_al0 c_139_12 ?_
        refine y_gr 110 c_139_13 rfl (by omega) ?_
        refine y_ic c_139_16 ?_
        refine y_al1 c_139_17 ?_
        refine y_ic c_139_18 ?_
        refine y_il3 c_139_19 ?_
        refine y_add c_139_20 ?_
        refine y_ald (u := (l.getD k 0 : Int)) c_139_21 hw (by omega) (by omega) (by omega) (a4 k hk) (fun r_21 => ?_)
        refine y_mul c_139_22 ?_
        refine y_ic c_139_23 ?_
        refine y_add c_139_24 ?_
        refine y_ald (n := 18) (u := (P.1 5 (l.getD k 0) : Int)) c_139_25 rfl (by omega) (by omega) (by omega) (v3 _ hyk).2.1 (fun r_25 => ?_)
        refine y_add c_139_26 ?_
        rw [← Int.natCast_add, ← e]
        refine y_is2 c_139_27 rfl ?_
        refine y_inc3 c_139_28 rfl ?_
        refine y_goto c_139_31 ?_
        exact ih (k + 1) (by omega) (by omega)
  refine y_ic c_139_0 ?_
  refine y_is2 c_139_1 rfl ?_
  refine y_ic c_139_2 ?_
  refine y_is3 c_139_3 rfl ?_
  exact key (l.length + 1) 0 (by omega) (by omega)
theorem s_140 {lost : Nat} (hw : war a = (0, 10)) (hR : wpage M a R) (hl : R.2.2.2.length ≤ 6) (hM : mport M P) (hok : aPok P) (hy : ∀ y ∈ R.2.2.2, y < P.2.2.2) (hlo : lost < 64) (hQ : Q (some (.int (iI (if aStL P R.2.2.2 lost R.2.2.2.length = 3 then 1 else 0)))) x M) : yG x M 140 0 [.ref 106, .ref a, .int (iI (lost : Int)), zU, zU] [] Q := by
  obtain ⟨a0, a1, a2, a3, a4⟩ := hR
  obtain ⟨m4, m6, m8, v1, v2, v3⟩ := id hM
  obtain ⟨k1, k2, k3, k4, k5, k6⟩ := id hok
  generalize hll : R.2.2.2 = l at *
  have key : ∀ d k : Nat, l.length < k + d → k ≤ l.length → ∀ nx : Nat, nx = aStL P l lost k + 1 → yG x M 140 5 [.ref 106, .ref a, .int (iI (lost : Int)), .int (iI (nx : Int)), .int (iI (k : Int))] [] Q := by
    intro d
    induction d with
    | zero => intro k g1 g2; omega
    | succ d ih =>
      intro k g1 g2 nx hnx
      have hst := aStL_le P l lost k
      refine y_il4 c_140_5 ?_
      refine y_al1 c_140_7 ?_
      refine y_ic c_140_8 ?_
      refine y_ald (u := (l.length : Int)) c_140_9 hw (by omega) (by omega) (by omega) a3 (fun r_9 => ?_)
      refine y_ic_ge c_140_10 (by omega) (by omega) (fun h_10 => ?_) (fun h_10 => ?_)
      · have hk : k = l.length := by omega
        subst hk
        refine y_il3 c_140_60 ?_
        refine y_ic c_140_61 ?_
        refine y_ic_ne c_140_62 (by omega) (by omega) (fun h4 => ?_) (fun h4 => ?_)
        · refine y_ic c_140_69 ?_
          refine y_zret c_140_70 rfl (by omega) ?_
          exact yQi hQ (by split <;> omega)
        · refine y_ic c_140_65 ?_
          refine y_goto c_140_66 ?_
          refine y_zret c_140_70 rfl (by omega) ?_
          exact yQi hQ (by split <;> omega)
      · have hk : k < l.length := by omega
        have hyk := hy _ (mem_getD hk)
        have e : aStL P l lost (k + 1) = if lost / 2 ^ k % 2 = 1 then aStL P l lost k else aNx (aStL P l lost k) (P.1 6 (l.getD k 0)) := rfl
        unfold aNx at e
        refine y_il3 c_140_13 ?_
        refine y_il3 c_140_14 ?_
        refine y_ic c_140_15 ?_
        refine y_ic_ge c_140_16 (by omega) (by omega) (fun h1 => ?_) (fun h1 => ?_)
        · refine y_ic c_140_51 ?_
          refine y_add c_140_52 ?_
          first
            | rw [show ((nx : Int) + 0) = (nx : Int) by omega]
            | rw [show ((nx : Int) + 1) = ((nx + 1 : Nat) : Int) by omega]
          refine y_is3 c_140_53 rfl ?_
          refine y_inc4 c_140_54 rfl ?_
          refine y_goto c_140_57 ?_
          first
            | exact ih (k + 1) (by omega) (by omega) nx (by rw [e]; split <;> (try split) <;> omega)
            | exact ih (k + 1) (by omega) (by omega) (nx + 1) (by rw [e, if_neg h2, if_pos (by omega)]; omega)
        · refine y_il2 c_140_19 ?_
          refine y_il4 c_140_20 ?_
          refine k_118 c_140_22 rfl (Nat.le_of_ble_eq_true rfl) ?_
          refine s_118 (by omega) (by omega) ?_
          refine y_pz_ne c_140_25 (fun h2 => ?_) (fun h2 => ?_)
          · refine y_ic c_140_51 ?_
            refine y_add c_140_52 ?_
            first
              | rw [show ((nx : Int) + 0) = (nx : Int) by omega]
              | rw [show ((nx : Int) + 1) = ((nx + 1 : Nat) : Int) by omega]
            refine y_is3 c_140_53 rfl ?_
            refine y_inc4 c_140_54 rfl ?_
            refine y_goto c_140_57 ?_
            first
              | exact ih (k + 1) (by omega) (by omega) nx (by rw [e]; split <;> (try split) <;> omega)
              | exact ih (k + 1) (by omega) (by omega) (nx + 1) (by rw [e, if_neg h2, if_pos (by omega)]; omega)
          · refine y_al0 c_140_28 ?_
            refine y_gr 110 c_140_29 rfl (by omega) ?_
            refine y_ic c_140_32 ?_
            refine y_al1 c_140_33 ?_
            refine y_ic c_140_34 ?_
            refine y_il4 c_140_35 ?_
            refine y_add c_140_37 ?_
            refine y_ald (u := (l.getD k 0 : Int)) c_140_38 hw (by omega) (by omega) (by omega) (a4 k hk) (fun r_38 => ?_)
            refine y_mul c_140_39 ?_
            refine y_ic c_140_40 ?_
            refine y_add c_140_41 ?_
            refine y_ald (n := 18) (u := (P.1 6 (l.getD k 0) : Int)) c_140_42 rfl (by omega) (by omega) (by omega) (v3 _ hyk).2.2 (fun r_42 => ?_)
            refine y_il3 c_140_43 ?_
            refine y_ic_ne c_140_44 (by omega) (by omega) (fun h3 => ?_) (fun h3 => ?_)
            · refine y_ic c_140_51 ?_
              refine y_add c_140_52 ?_
              first
                | rw [show ((nx : Int) + 0) = (nx : Int) by omega]
                | rw [show ((nx : Int) + 1) = ((nx + 1 : Nat) : Int) by omega]
              refine y_is3 c_140_53 rfl ?_
              refine y_inc4 c_140_54 rfl ?_
              refine y_goto c_140_57 ?_
              first
                | exact ih (k + 1) (by omega) (by omega) nx (by rw [e]; split <;> (try split) <;> omega)
                | exact ih (k + 1) (by omega) (by omega) (nx + 1) (by rw [e, if_neg h2, if_pos (by omega)]; omega)
            · refine y_ic c_140_47 ?_
              refine y_goto c_140_48 ?_
              refine y_add c_140_52 ?_
              first
                | rw [show ((nx : Int) + 0) = (nx : Int) by omega]
                | rw [show ((nx : Int) + 1) = ((nx + 1 : Nat) : Int) by omega]
              refine y_is3 c_140_53 rfl ?_
              refine y_inc4 c_140_54 rfl ?_
              refine y_goto c_140_57 ?_
              first
                | exact ih (k + 1) (by omega) (by omega) nx (by rw [e]; split <;> (try split) <;> omega)
                | exact ih (k + 1) (by omega) (by omega) (nx + 1) (by rw [e, if_neg h2, if_pos (by omega)]; omega)
  refine y_ic c_140_0 ?_
  refine y_is3 c_140_1 rfl ?_
  refine y_ic c_140_2 ?_
  refine y_is4 c_140_3 rfl ?_
  exact key (l.length + 1) 0 (by omega) (by omega) 1 rfl
end S23
