/-! ===== the model: fractions, a look ===== -/
section S31
variable {x : wC} {M : wM} {Q : Option Value → wC → wM → Prop} {T : List Nat} {P : aP} {R : aR} {L : aA} {Tm : aT} {sd : Int64} {K : Nat → Option aR}
theorem s_173 : ∀ n : Nat, n ≤ 6 → Q (some (.int (iI (aFac n : Nat)))) x M → yG x M 173 0 [.int (iI (n : Int)), zU, zU] [] Q := by
  intro n hn hQ
  have key : ∀ d k : Nat, n < k + d → 2 ≤ k → k ≤ n + 1 ∨ n = 0 ∧ k = 2 → yG x M 173 4 [.int (iI (n : Int)), .int (iI (aFac (k - 1) : Nat)), .int (iI (k : Int))] [] Q := by
    intro d
    induction d with
    | zero =>
      intro k g1 g2 g3
      refine y_il2 c_173_4 ?_
      refine y_il0 c_173_5 ?_
      refine y_ic_gt c_173_6 (by omega) (by omega) (fun h_6 => ?_) (fun h_6 => absurd h_6 (by omega))
      refine y_il1 c_173_19 ?_
      refine y_ret c_173_20 rfl ?_
      rw [show aFac (k - 1) = aFac n by
        rcases g3 with g3 | ⟨rfl, rfl⟩
        · rw [show k - 1 = n by omega]
        · rfl]
      exact hQ
    | succ d ih =>
      intro k g1 g2 g3
      have hf : aFac k = k * aFac (k - 1) := by
        obtain ⟨j, rfl⟩ : ∃ j, k = j + 1 := ⟨k - 1, by omega⟩
        rfl
      refine y_il2 c_173_4 ?_
      refine y_il0 c_173_5 ?_
      refine y_ic_gt c_173_6 (by omega) (by omega) (fun h_6 => ?_) (fun h_6 => ?_)
      · refine y_il1 c_173_19 ?_
        refine y_ret c_173_20 rfl ?_
        rw [show aFac (k - 1) = aFac n by
          rcases g3 with g3 | ⟨rfl, rfl⟩
          · rw [show k - 1 = n by omega]
          · rfl]
        exact hQ
      · refine y_il1 c_173_9 ?_
        refine y_il2 c_173_10 ?_
        refine y_mul c_173_11 ?_
        rw [show ((aFac (k - 1) : Nat) : Int) * (k : Int) = (aFac (k + 1 - 1) : Nat) by rw [Nat.add_sub_cancel, hf, Int.natCast_mul, Int.mul_comm]]
        refine y_is1 c_173_12 rfl ?_
        refine y_inc2 c_173_13 rfl ?_
        refine y_goto c_173_16 ?_
        exact ih (k + 1) (by omega) (by omega) (by omega)
  refine y_ic c_173_0 ?_
  refine y_is1 c_173_1 rfl ?_
  refine y_ic c_173_2 ?_
  refine y_is2 c_173_3 rfl ?_
  exact key (n + 1) 2 (by omega) (by omega) (by omega)
theorem s_174 {a b : Nat} (ha : a < 1073741824) (hb : b < 1073741824) (hQ : Q (some (.int (iI (Nat.gcd a b : Nat)))) x M) : yG x M 174 0 [.int (iI (a : Int)), .int (iI (b : Int)), zU, zU, zU] [] Q := by
  have key : ∀ n a1 b1 : Nat, b1 < n → a1 < 1073741824 → b1 < 1073741824 → Nat.gcd a1 b1 = Nat.gcd a b → ∀ w4 : Value, yG x M 174 13 [.int (iI (a : Int)), .int (iI (b : Int)), .int (iI (a1 : Int)), .int (iI (b1 : Int)), w4] [] Q := by
    intro n
    induction n with
    | zero => intro a1 b1 g1; omega
    | succ n ih =>
      intro a1 b1 g1 g2 g3 hg w4
      have gg : Nat.gcd a1 b1 = Nat.gcd b1 (a1 % b1) := by rw [Nat.gcd_comm a1 b1, Nat.gcd_rec b1 a1, Nat.gcd_comm]
      refine y_il3 c_174_13 ?_
      refine y_iz_eq c_174_14 (by omega) (fun h1 => ?_) (fun h1 => ?_)
      · have hb0 : b1 = 0 := by omega
        subst hb0
        rw [Nat.gcd_zero_right] at hg
        refine y_il2 c_174_30 ?_
        refine y_ret c_174_31 rfl ?_
        rw [hg]; exact hQ
      · have hb1 : 0 < b1 := by omega
        have hm1 := Nat.mod_lt a1 hb1
        refine y_il2 c_174_17 ?_
        refine y_il3 c_174_18 ?_
        refine y_rem c_174_19 (by omega) (by omega) (by omega) (by omega) ?_
        rw [show ((a1 : Int) % (b1 : Int)) = ((a1 % b1 : Nat) : Int) by omega]
        refine y_is4 c_174_20 rfl ?_
        refine y_il3 c_174_22 ?_
        refine y_is2 c_174_23 rfl ?_
        refine y_il4 c_174_24 ?_
        refine y_is3 c_174_26 rfl ?_
        refine y_goto c_174_27 ?_
        exact ih b1 (a1 % b1) (by omega) (by omega) (by omega) (by rw [← gg, hg]) _
  refine y_il0 c_174_0 ?_
  refine y_iz_ge c_174_1 (by omega) (fun h_1 => ?_) (fun h_1 => absurd h_1 (by omega))
  refine y_il0 c_174_9 ?_
  refine y_is2 c_174_10 rfl ?_
  refine y_il1 c_174_11 ?_
  refine y_is3 c_174_12 rfl ?_
  exact key (b + 1) a b (by omega) ha hb rfl _
theorem s_175 {a b : Nat} {z : Int} (ha : a < 1073741824) (hb : b < 1073741824) (hb0 : 0 < b) (hz : z = 0 ∨ z = 1) (hQ : Q (some (.int (iI (aFrac a b z : Nat)))) x M) : yG x M 175 0 [.int (iI (a : Int)), .int (iI (b : Int)), .int (iI z), zU] [] Q := by
  have hg0 : 0 < Nat.gcd a b := Nat.gcd_pos_of_pos_right a hb0
  have hg1 : Nat.gcd a b ≤ b := Nat.le_of_dvd hb0 (Nat.gcd_dvd_right a b)
  unfold aFrac at hQ
  refine y_il0 c_175_0 ?_
  refine y_il1 c_175_1 ?_
  refine k_174 c_175_2 rfl (Nat.le_of_ble_eq_true rfl) ?_
  refine s_174 ha hb ?_
  refine y_is3 c_175_5 rfl ?_
  refine y_il2 c_175_6 ?_
  refine y_iz_eq c_175_7 (by omega) (fun h1 => ?_) (fun h1 => ?_)
  · rw [if_pos h1] at hQ
    refine y_il1 c_175_16 ?_
    refine y_il3 c_175_17 ?_
    refine y_div c_175_18 (by omega) (by omega) (by omega) (by omega) ?_
    refine y_ret c_175_19 rfl ?_
    exact yQi hQ (by omega)
  · rw [if_neg h1] at hQ
    refine y_il0 c_175_10 ?_
    refine y_il3 c_175_11 ?_
    refine y_div c_175_12 (by omega) (by omega) (by omega) (by omega) ?_
    refine y_goto c_175_13 ?_
    refine y_ret c_175_19 rfl ?_
    exact yQi hQ (by omega)
/-- what the search has found so far: the warmest, the shortest; none: -9 -/
abbrev aF5 := Int × Int × Int × Int × Int
def mfnd (M : wM) (F : aF5) : Prop := M 106 30 = F.1 ∧ M 106 31 = F.2.1 ∧ M 106 32 = F.2.2.1 ∧ M 106 33 = F.2.2.2.1 ∧ M 106 34 = F.2.2.2.2
def aLk (F : aF5) (w c f : Int) : aF5 :=
  let b1 : Bool := decide (F.1 < w) || (decide (w = F.1) && (decide (c < F.2.1) || (decide (c = F.2.1) && decide (f < F.2.2.1))))
  let b2 : Bool := decide (F.2.2.2.1 = -9) || (decide (c < F.2.2.2.1) || (decide (c = F.2.2.2.1) && decide (f < F.2.2.2.2)))
  (if b1 = true then w else F.1, if b1 = true then c else F.2.1, if b1 = true then f else F.2.2.1, if b2 = true then c else F.2.2.2.1, if b2 = true then f else F.2.2.2.2)
def mffr (M M' : wM) : Prop := (∀ b, b ≠ 106 → M' b = M b) ∧ ∀ j : Int, (j < 30 ∨ 34 < j) → M' 106 j = M 106 j

theorem s_161 {R2 : aR} {F : aF5} {c f : Int} (hM : mport M P) (hok : aPok P) (hR : wpage M 115 R2) (hRk : aRok P R2) (hF : mfnd M F) (hc : wR c) (hf : wR f)
    (hQ : ∀ M', mfnd M' (if aStage P R2.2.2.2 = 3 then aLk F (aWarm P R2.2.2.2 : Nat) c f else F) → mffr M M' → Q none x M') : yG x M 161 0 [.ref 106, .int (iI c), .int (iI f), zU, zU] [] Q := by
  obtain ⟨z1, z2, z3, z4, z5⟩ := aRok_len hok hRk
  have hwl : aWarm P R2.2.2.2 < 2147483648 := aWarm_lt hok z3 z2
  obtain ⟨f0, f1, f2, f3, f4⟩ := id hF
  have tail : ∀ (M1 : wM) (F1 : aF5) (w3 w4 : Value), mfnd M1 F1 → mffr M M1 → F1.2.2.2.1 = F.2.2.2.1 → F1.2.2.2.2 = F.2.2.2.2 → (∀ M', mfnd M' (F1.1, F1.2.1, F1.2.2.1, (if (decide (F.2.2.2.1 = -9) || (decide (c < F.2.2.2.1) || (decide (c = F.2.2.2.1) && decide (f < F.2.2.2.2)))) = true then c else F.2.2.2.1), (if (decide (F.2.2.2.1 = -9) || (decide (c < F.2.2.2.1) || (decide (c = F.2.2.2.1) && decide (f < F.2.2.2.2)))) = true then f else F.2.2.2.2)) → mffr M M' → Q none x M') → yG x M1 161 89 [.ref 106, .int (iI c), .int (iI f), w3, w4] [] Q := by
    intro M1 F1 w3 w4 hF1 hfr e3 e4 hQ
    obtain ⟨g0, g1, g2, g3, g4⟩ := hF1
    rw [e3] at g3
    rw [e4] at g4
    obtain ⟨p1, p2⟩ := hfr
    refine y_al0 c_161_89 ?_
    refine y_gi (j := 33) (z := F.2.2.2.1) c_161_90 rfl rfl g3 (fun r_90 => ?_)
    refine y_bi c_161_93 (by decide) ?_
    refine y_ic_eq c_161_95 (by omega) (by omega) (fun h1 => ?_) (fun h1 => ?_)
    · have hb : (decide (F.2.2.2.1 = -9) || (decide (c < F.2.2.2.1) || (decide (c = F.2.2.2.1) && decide (f < F.2.2.2.2)))) = true := by simp [h1]
      refine y_al0 c_161_122 ?_
      refine y_il1 c_161_123 ?_
      refine y_pi (j := 33) c_161_124 rfl rfl rfl (by omega) ?_
      refine y_al0 c_161_127 ?_
      refine y_il2 c_161_128 ?_
      refine y_pi (j := 34) c_161_129 rfl rfl rfl (by omega) ?_
      refine y_vret c_161_132 rfl ?_
      first
        | (rw [if_pos hb, if_pos hb] at hQ
           exact hQ _ ⟨by rw [wup_k _ _ (by decide), wup_k _ _ (by decide)]; exact g0, by rw [wup_k _ _ (by decide), wup_k _ _ (by decide)]; exact g1, by rw [wup_k _ _ (by decide), wup_k _ _ (by decide)]; exact g2, by rw [wup_k _ _ (by decide), wup_s], wup_s _ _ _ _⟩ ⟨fun b hb => by rw [wup_f _ _ _ hb, wup_f _ _ _ hb]; exact p1 b hb, fun j hj => by rw [wup_k _ _ (by omega), wup_k _ _ (by omega)]; exact p2 j hj⟩)
        | (rw [if_neg hb, if_neg hb] at hQ
           exact hQ M1 ⟨g0, g1, g2, g3, g4⟩ ⟨p1, p2⟩)
    · refine y_il1 c_161_98 ?_
      refine y_al0 c_161_99 ?_
      refine y_gi (j := 33) (z := F.2.2.2.1) c_161_100 rfl rfl g3 (fun r_100 => ?_)
      refine y_ic_lt c_161_103 (by omega) (by omega) (fun h2 => ?_) (fun h2 => ?_)
      · have hb : (decide (F.2.2.2.1 = -9) || (decide (c < F.2.2.2.1) || (decide (c = F.2.2.2.1) && decide (f < F.2.2.2.2)))) = true := by simp [h2]
        refine y_al0 c_161_122 ?_
        refine y_il1 c_161_123 ?_
        refine y_pi (j := 33) c_161_124 rfl rfl rfl (by omega) ?_
        refine y_al0 c_161_127 ?_
        refine y_il2 c_161_128 ?_
        refine y_pi (j := 34) c_161_129 rfl rfl rfl (by omega) ?_
        refine y_vret c_161_132 rfl ?_
        first
          | (rw [if_pos hb, if_pos hb] at hQ
             exact hQ _ ⟨by rw [wup_k _ _ (by decide), wup_k _ _ (by decide)]; exact g0, by rw [wup_k _ _ (by decide), wup_k _ _ (by decide)]; exact g1, by rw [wup_k _ _ (by decide), wup_k _ _ (by decide)]; exact g2, by rw [wup_k _ _ (by decide), wup_s], wup_s _ _ _ _⟩ ⟨fun b hb => by rw [wup_f _ _ _ hb, wup_f _ _ _ hb]; exact p1 b hb, fun j hj => by rw [wup_k _ _ (by omega), wup_k _ _ (by omega)]; exact p2 j hj⟩)
          | (rw [if_neg hb, if_neg hb] at hQ
             exact hQ M1 ⟨g0, g1, g2, g3, g4⟩ ⟨p1, p2⟩)
      · refine y_il1 c_161_106 ?_
        refine y_al0 c_161_107 ?_
        refine y_gi (j := 33) (z := F.2.2.2.1) c_161_108 rfl rfl g3 (fun r_108 => ?_)
        refine y_ic_ne c_161_111 (by omega) (by omega) (fun h3 => ?_) (fun h3 => ?_)
        · have hb : ¬ (decide (F.2.2.2.1 = -9) || (decide (c < F.2.2.2.1) || (decide (c = F.2.2.2.1) && decide (f < F.2.2.2.2)))) = true := by
            simp only [Bool.or_eq_true, Bool.and_eq_true, decide_eq_true_iff]; omega
          refine y_vret c_161_132 rfl ?_
          first
            | (rw [if_pos hb, if_pos hb] at hQ
               exact hQ _ ⟨by rw [wup_k _ _ (by decide), wup_k _ _ (by decide)]; exact g0, by rw [wup_k _ _ (by decide), wup_k _ _ (by decide)]; exact g1, by rw [wup_k _ _ (by decide), wup_k _ _ (by decide)]; exact g2, by rw [wup_k _ _ (by decide), wup_s], wup_s _ _ _ _⟩ ⟨fun b hb => by rw [wup_f _ _ _ hb, wup_f _ _ _ hb]; exact p1 b hb, fun j hj => by rw [wup_k _ _ (by omega), wup_k _ _ (by omega)]; exact p2 j hj⟩)
            | (rw [if_neg hb, if_neg hb] at hQ
               exact hQ M1 ⟨g0, g1, g2, g3, g4⟩ ⟨p1, p2⟩)
        · refine y_il2 c_161_114 ?_
          refine y_al0 c_161_115 ?_
          refine y_gi (j := 34) (z := F.2.2.2.2) c_161_116 rfl rfl g4 (fun r_116 => ?_)
          refine y_ic_ge c_161_119 (by omega) (by omega) (fun h4 => ?_) (fun h4 => ?_)
          · have hb : ¬ (decide (F.2.2.2.1 = -9) || (decide (c < F.2.2.2.1) || (decide (c = F.2.2.2.1) && decide (f < F.2.2.2.2)))) = true := by
              simp only [Bool.or_eq_true, Bool.and_eq_true, decide_eq_true_iff]; omega
            refine y_vret c_161_132 rfl ?_
            first
              | (rw [if_pos hb, if_pos hb] at hQ
                 exact hQ _ ⟨by rw [wup_k _ _ (by decide), wup_k _ _ (by decide)]; exact g0, by rw [wup_k _ _ (by decide), wup_k _ _ (by decide)]; exact g1, by rw [wup_k _ _ (by decide), wup_k _ _ (by decide)]; exact g2, by rw [wup_k _ _ (by decide), wup_s], wup_s _ _ _ _⟩ ⟨fun b hb => by rw [wup_f _ _ _ hb, wup_f _ _ _ hb]; exact p1 b hb, fun j hj => by rw [wup_k _ _ (by omega), wup_k _ _ (by omega)]; exact p2 j hj⟩)
              | (rw [if_neg hb, if_neg hb] at hQ
                 exact hQ M1 ⟨g0, g1, g2, g3, g4⟩ ⟨p1, p2⟩)
          · have hb : (decide (F.2.2.2.1 = -9) || (decide (c < F.2.2.2.1) || (decide (c = F.2.2.2.1) && decide (f < F.2.2.2.2)))) = true := by
              simp only [Bool.or_eq_true, Bool.and_eq_true, decide_eq_true_iff]; omega
            refine y_al0 c_161_122 ?_
            refine y_il1 c_161_123 ?_
            refine y_pi (j := 33) c_161_124 rfl rfl rfl (by omega) ?_
            refine y_al0 c_161_127 ?_
            refine y_il2 c_161_128 ?_
            refine y_pi (j := 34) c_161_129 rfl rfl rfl (by omega) ?_
            refine y_vret c_161_132 rfl ?_
            first
              | (rw [if_pos hb, if_pos hb] at hQ
                 exact hQ _ ⟨by rw [wup_k _ _ (by decide), wup_k _ _ (by decide)]; exact g0, by rw [wup_k _ _ (by decide), wup_k _ _ (by decide)]; exact g1, by rw [wup_k _ _ (by decide), wup_k _ _ (by decide)]; exact g2, by rw [wup_k _ _ (by decide), wup_s], wup_s _ _ _ _⟩ ⟨fun b hb => by rw [wup_f _ _ _ hb, wup_f _ _ _ hb]; exact p1 b hb, fun j hj => by rw [wup_k _ _ (by omega), wup_k _ _ (by omega)]; exact p2 j hj⟩)
              | (rw [if_neg hb, if_neg hb] at hQ
                 exact hQ M1 ⟨g0, g1, g2, g3, g4⟩ ⟨p1, p2⟩)
  refine y_al0 c_161_0 ?_
  refine y_al0 c_161_1 ?_
  refine y_gr 115 c_161_2 rfl (by omega) ?_
  refine y_ic c_161_5 ?_
  refine k_140 c_161_6 rfl rfl (Nat.le_of_ble_eq_true rfl) ?_
  refine s_140 (lost := 0) rfl hR z2 hM hok z3 (by decide) ?_
  rw [aStL_0 P _ _ (Nat.le_refl _), List.take_length]
  refine y_pz_ne c_161_9 (fun h0 => ?_) (fun h0 => ?_)
  · rw [if_pos h0] at hQ
    refine y_al0 c_161_13 ?_
    refine y_al0 c_161_14 ?_
    refine y_gr 115 c_161_15 rfl (by omega) ?_
    refine k_139 c_161_18 rfl rfl (Nat.le_of_ble_eq_true rfl) ?_
    refine s_139 rfl hR z2 hM hok z3 ?_
    generalize hwe : ((aWarm P R2.2.2.2 : Nat) : Int) = w at hwl hQ ⊢
    have hwr : wR w := by omega
    refine y_is3 c_161_21 rfl ?_
    refine y_il3 c_161_22 ?_
    refine y_al0 c_161_23 ?_
    refine y_gi (j := 30) (z := F.1) c_161_24 rfl rfl f0 (fun r_24 => ?_)
    refine y_ic_gt c_161_27 (by omega) (by omega) (fun h1 => ?_) (fun h1 => ?_)
    · have hb : (decide (F.1 < w) || (decide (w = F.1) && (decide (c < F.2.1) || (decide (c = F.2.1) && decide (f < F.2.2.1))))) = true := by
        simp only [Bool.or_eq_true, Bool.and_eq_true, decide_eq_true_iff]; omega
      unfold aLk at hQ
      simp only [hb, if_true] at hQ
      refine y_ic c_161_62 ?_
      refine y_goto c_161_63 ?_
      refine y_is4 c_161_67 rfl ?_
      refine y_il4 c_161_69 ?_
      refine y_iz_eq c_161_71 (by decide) (fun h => absurd h (by decide)) (fun _ => ?_)
      refine y_al0 c_161_74 ?_
      refine y_il3 c_161_75 ?_
      refine y_pi (j := 30) c_161_76 rfl rfl rfl (by omega) ?_
      refine y_al0 c_161_79 ?_
      refine y_il1 c_161_80 ?_
      refine y_pi (j := 31) c_161_81 rfl rfl rfl (by omega) ?_
      refine y_al0 c_161_84 ?_
      refine y_il2 c_161_85 ?_
      refine y_pi (j := 32) c_161_86 rfl rfl rfl (by omega) ?_
      first
        | exact tail _ (w, c, f, F.2.2.2.1, F.2.2.2.2) _ _ ⟨by rw [wup_k _ _ (by decide), wup_k _ _ (by decide), wup_s], by rw [wup_k _ _ (by decide), wup_s], wup_s _ _ _ _, by rw [wup_k _ _ (by decide), wup_k _ _ (by decide), wup_k _ _ (by decide)]; exact f3, by rw [wup_k _ _ (by decide), wup_k _ _ (by decide), wup_k _ _ (by decide)]; exact f4⟩ ⟨fun b hb => by rw [wup_f _ _ _ hb, wup_f _ _ _ hb, wup_f _ _ _ hb], fun j hj => by rw [wup_k _ _ (by omega), wup_k _ _ (by omega), wup_k _ _ (by omega)]⟩ rfl rfl hQ
        | exact tail M F _ _ hF ⟨fun b _ => rfl, fun j _ => rfl⟩ rfl rfl hQ
    · refine y_il3 c_161_30 ?_
      refine y_al0 c_161_31 ?_
      refine y_gi (j := 30) (z := F.1) c_161_32 rfl rfl f0 (fun r_32 => ?_)
      refine y_ic_ne c_161_35 (by omega) (by omega) (fun h2 => ?_) (fun h2 => ?_)
      · have hb : ¬ (decide (F.1 < w) || (decide (w = F.1) && (decide (c < F.2.1) || (decide (c = F.2.1) && decide (f < F.2.2.1))))) = true := by
          simp only [Bool.or_eq_true, Bool.and_eq_true, decide_eq_true_iff]; omega
        unfold aLk at hQ
        simp only [Bool.eq_false_iff.mpr hb, Bool.false_eq_true, if_false] at hQ
        refine y_ic c_161_66 ?_
        refine y_is4 c_161_67 rfl ?_
        refine y_il4 c_161_69 ?_
        refine y_iz_eq c_161_71 (by decide) (fun _ => ?_) (fun h => absurd rfl h)
        first
          | exact tail _ (w, c, f, F.2.2.2.1, F.2.2.2.2) _ _ ⟨by rw [wup_k _ _ (by decide), wup_k _ _ (by decide), wup_s], by rw [wup_k _ _ (by decide), wup_s], wup_s _ _ _ _, by rw [wup_k _ _ (by decide), wup_k _ _ (by decide), wup_k _ _ (by decide)]; exact f3, by rw [wup_k _ _ (by decide), wup_k _ _ (by decide), wup_k _ _ (by decide)]; exact f4⟩ ⟨fun b hb => by rw [wup_f _ _ _ hb, wup_f _ _ _ hb, wup_f _ _ _ hb], fun j hj => by rw [wup_k _ _ (by omega), wup_k _ _ (by omega), wup_k _ _ (by omega)]⟩ rfl rfl hQ
          | exact tail M F _ _ hF ⟨fun b _ => rfl, fun j _ => rfl⟩ rfl rfl hQ
      · refine y_il1 c_161_38 ?_
        refine y_al0 c_161_39 ?_
        refine y_gi (j := 31) (z := F.2.1) c_161_40 rfl rfl f1 (fun r_40 => ?_)
        refine y_ic_lt c_161_43 (by omega) (by omega) (fun h3 => ?_) (fun h3 => ?_)
        · have hb : (decide (F.1 < w) || (decide (w = F.1) && (decide (c < F.2.1) || (decide (c = F.2.1) && decide (f < F.2.2.1))))) = true := by
            simp only [Bool.or_eq_true, Bool.and_eq_true, decide_eq_true_iff]; omega
          unfold aLk at hQ
          simp only [hb, if_true] at hQ
          refine y_ic c_161_62 ?_
          refine y_goto c_161_63 ?_
          refine y_is4 c_161_67 rfl ?_
          refine y_il4 c_161_69 ?_
          refine y_iz_eq c_161_71 (by decide) (fun h => absurd h (by decide)) (fun _ => ?_)
          refine y_al0 c_161_74 ?_
          refine y_il3 c_161_75 ?_
          refine y_pi (j := 30) c_161_76 rfl rfl rfl (by omega) ?_
          refine y_al0 c_161_79 ?_
          refine y_il1 c_161_80 ?_
          refine y_pi (j := 31) c_161_81 rfl rfl rfl (by omega) ?_
          refine y_al0 c_161_84 ?_
          refine y_il2 c_161_85 ?_
          refine y_pi (j := 32) c_161_86 rfl rfl rfl (by omega) ?_
          first
            | exact tail _ (w, c, f, F.2.2.2.1, F.2.2.2.2) _ _ ⟨by rw [wup_k _ _ (by decide), wup_k _ _ (by decide), wup_s], by rw [wup_k _ _ (by decide), wup_s], wup_s _ _ _ _, by rw [wup_k _ _ (by decide), wup_k _ _ (by decide), wup_k _ _ (by decide)]; exact f3, by rw [wup_k _ _ (by decide), wup_k _ _ (by decide), wup_k _ _ (by decide)]; exact f4⟩ ⟨fun b hb => by rw [wup_f _ _ _ hb, wup_f _ _ _ hb, wup_f _ _ _ hb], fun j hj => by rw [wup_k _ _ (by omega), wup_k _ _ (by omega), wup_k _ _ (by omega)]⟩ rfl rfl hQ
            | exact tail M F _ _ hF ⟨fun b _ => rfl, fun j _ => rfl⟩ rfl rfl hQ
        · refine y_il1 c_161_46 ?_
          refine y_al0 c_161_47 ?_
          refine y_gi (j := 31) (z := F.2.1) c_161_48 rfl rfl f1 (fun r_48 => ?_)
          refine y_ic_ne c_161_51 (by omega) (by omega) (fun h4 => ?_) (fun h4 => ?_)
          · have hb : ¬ (decide (F.1 < w) || (decide (w = F.1) && (decide (c < F.2.1) || (decide (c = F.2.1) && decide (f < F.2.2.1))))) = true := by
              simp only [Bool.or_eq_true, Bool.and_eq_true, decide_eq_true_iff]; omega
            unfold aLk at hQ
            simp only [Bool.eq_false_iff.mpr hb, Bool.false_eq_true, if_false] at hQ
            refine y_ic c_161_66 ?_
            refine y_is4 c_161_67 rfl ?_
            refine y_il4 c_161_69 ?_
            refine y_iz_eq c_161_71 (by decide) (fun _ => ?_) (fun h => absurd rfl h)
            first
              | exact tail _ (w, c, f, F.2.2.2.1, F.2.2.2.2) _ _ ⟨by rw [wup_k _ _ (by decide), wup_k _ _ (by decide), wup_s], by rw [wup_k _ _ (by decide), wup_s], wup_s _ _ _ _, by rw [wup_k _ _ (by decide), wup_k _ _ (by decide), wup_k _ _ (by decide)]; exact f3, by rw [wup_k _ _ (by decide), wup_k _ _ (by decide), wup_k _ _ (by decide)]; exact f4⟩ ⟨fun b hb => by rw [wup_f _ _ _ hb, wup_f _ _ _ hb, wup_f _ _ _ hb], fun j hj => by rw [wup_k _ _ (by omega), wup_k _ _ (by omega), wup_k _ _ (by omega)]⟩ rfl rfl hQ
              | exact tail M F _ _ hF ⟨fun b _ => rfl, fun j _ => rfl⟩ rfl rfl hQ
          · refine y_il2 c_161_54 ?_
            refine y_al0 c_161_55 ?_
            refine y_gi (j := 32) (z := F.2.2.1) c_161_56 rfl rfl f2 (fun r_56 => ?_)
            refine y_ic_ge c_161_59 (by omega) (by omega) (fun h5 => ?_) (fun h5 => ?_)
            · have hb : ¬ (decide (F.1 < w) || (decide (w = F.1) && (decide (c < F.2.1) || (decide (c = F.2.1) && decide (f < F.2.2.1))))) = true := by
                simp only [Bool.or_eq_true, Bool.and_eq_true, decide_eq_true_iff]; omega
              unfold aLk at hQ
              simp only [Bool.eq_false_iff.mpr hb, Bool.false_eq_true, if_false] at hQ
              refine y_ic c_161_66 ?_
              refine y_is4 c_161_67 rfl ?_
              refine y_il4 c_161_69 ?_
              refine y_iz_eq c_161_71 (by decide) (fun _ => ?_) (fun h => absurd rfl h)
              first
                | exact tail _ (w, c, f, F.2.2.2.1, F.2.2.2.2) _ _ ⟨by rw [wup_k _ _ (by decide), wup_k _ _ (by decide), wup_s], by rw [wup_k _ _ (by decide), wup_s], wup_s _ _ _ _, by rw [wup_k _ _ (by decide), wup_k _ _ (by decide), wup_k _ _ (by decide)]; exact f3, by rw [wup_k _ _ (by decide), wup_k _ _ (by decide), wup_k _ _ (by decide)]; exact f4⟩ ⟨fun b hb => by rw [wup_f _ _ _ hb, wup_f _ _ _ hb, wup_f _ _ _ hb], fun j hj => by rw [wup_k _ _ (by omega), wup_k _ _ (by omega), wup_k _ _ (by omega)]⟩ rfl rfl hQ
                | exact tail M F _ _ hF ⟨fun b _ => rfl, fun j _ => rfl⟩ rfl rfl hQ
            · have hb : (decide (F.1 < w) || (decide (w = F.1) && (decide (c < F.2.1) || (decide (c = F.2.1) && decide (f < F.2.2.1))))) = true := by
                simp only [Bool.or_eq_true, Bool.and_eq_true, decide_eq_true_iff]; omega
              unfold aLk at hQ
              simp only [hb, if_true] at hQ
              refine y_ic c_161_62 ?_
              refine y_goto c_161_63 ?_
              refine y_is4 c_161_67 rfl ?_
              refine y_il4 c_161_69 ?_
              refine y_iz_eq c_161_71 (by decide) (fun h => absurd h (by decide)) (fun _ => ?_)
              refine y_al0 c_161_74 ?_
              refine y_il3 c_161_75 ?_
              refine y_pi (j := 30) c_161_76 rfl rfl rfl (by omega) ?_
              refine y_al0 c_161_79 ?_
              refine y_il1 c_161_80 ?_
              refine y_pi (j := 31) c_161_81 rfl rfl rfl (by omega) ?_
              refine y_al0 c_161_84 ?_
              refine y_il2 c_161_85 ?_
              refine y_pi (j := 32) c_161_86 rfl rfl rfl (by omega) ?_
              first
                | exact tail _ (w, c, f, F.2.2.2.1, F.2.2.2.2) _ _ ⟨by rw [wup_k _ _ (by decide), wup_k _ _ (by decide), wup_s], by rw [wup_k _ _ (by decide), wup_s], wup_s _ _ _ _, by rw [wup_k _ _ (by decide), wup_k _ _ (by decide), wup_k _ _ (by decide)]; exact f3, by rw [wup_k _ _ (by decide), wup_k _ _ (by decide), wup_k _ _ (by decide)]; exact f4⟩ ⟨fun b hb => by rw [wup_f _ _ _ hb, wup_f _ _ _ hb, wup_f _ _ _ hb], fun j hj => by rw [wup_k _ _ (by omega), wup_k _ _ (by omega), wup_k _ _ (by omega)]⟩ rfl rfl hQ
                | exact tail M F _ _ hF ⟨fun b _ => rfl, fun j _ => rfl⟩ rfl rfl hQ
  · rw [if_neg h0] at hQ
    refine y_vret c_161_12 rfl ?_
    exact hQ M hF ⟨fun b _ => rfl, fun j _ => rfl⟩
end S31
