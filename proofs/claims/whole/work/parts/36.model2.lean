/-! ===== the model: what it holds ===== -/
def wbk (M : wM) (a o : Nat) (R : aR) : Prop := wpage (fun _ j => M a ((o : Int) + j)) 0 R
def MI (x : wC) (M : wM) (T : List Nat) (P : aP) (R : aR) (L : aA) (Tm : aT) (sd : Int64) (K : Nat → Option aR) : Prop :=
  x.1 106 = sd ∧ (M 106 2 = T.length ∧ ∀ i : Nat, i < T.length → M 107 i = (T.getD i 0 : Nat)) ∧ mport M P ∧ wpage M 114 R ∧ (M 106 19 = L.1 ∧ ∀ k, k < L.1 → wbk M 116 (10 * k) (L.2 k)) ∧
  (M 106 22 = Tm.1 ∧ ∀ i : Nat, i < Tm.1 → M 119 i = Tm.2 0 i ∧ M 120 i = Tm.2 1 i ∧ M 121 i = Tm.2 2 i ∧ M 122 i = Tm.2 3 i) ∧ ∀ k : Nat, k < 2 → M 118 k = (if (K k).isSome = true then 1 else 0) ∧ ∀ R', K k = some R' → wbk M 117 (10 * k) R'
theorem wbk_of {M M' : wM} {a o : Nat} {R : aR} (h : wbk M a o R) (h1 : M' a = M a) : wbk M' a o R := by
  unfold wbk at *
  rw [h1]; exact h
def mfix (M M' : wM) : Prop := (∀ j : Int, j = 2 ∨ j = 4 ∨ j = 6 ∨ j = 8 ∨ j = 19 ∨ j = 22 → M' 106 j = M 106 j) ∧ ∀ b, (107 ≤ b ∧ b ≤ 110) ∨ b = 114 ∨ (116 ≤ b ∧ b ≤ 122) → M' b = M b
theorem MI_of {x : wC} {M M' : wM} {T : List Nat} {P : aP} {R : aR} {L : aA} {Tm : aT} {sd : Int64} {K : Nat → Option aR} (h : MI x M T P R L Tm sd K) (hf : mfix M M') : MI x M' T P R L Tm sd K := by
  obtain ⟨hsd, hT, hM, hR, hL, hTm, hK⟩ := h
  obtain ⟨f1, f2⟩ := hf
  refine ⟨hsd, ?_, mport_of hM (f1 4 (by omega)) (f1 6 (by omega)) (f1 8 (by omega)) (f2 108 (by omega)) (f2 109 (by omega)) (f2 110 (by omega)), wpage_of hR (f2 114 (by omega)), ?_, ?_, ?_⟩
  · rw [f1 2 (by omega), f2 107 (by omega)]; exact hT
  · rw [f1 19 (by omega)]; exact ⟨hL.1, fun k hk => wbk_of (hL.2 k hk) (f2 116 (by omega))⟩
  · rw [f1 22 (by omega), f2 119 (by omega), f2 120 (by omega), f2 121 (by omega), f2 122 (by omega)]; exact hTm
  · intro k hk
    rw [f2 118 (by omega)]
    exact ⟨(hK k hk).1, fun R' h => wbk_of ((hK k hk).2 R' h) (f2 117 (by omega))⟩
theorem MI_thr {x : wC} {M : wM} {T : List Nat} {P : aP} {R : aR} {L : aA} {Tm : aT} {sd : Int64} {K : Nat → Option aR} (h : MI x M T P R L Tm sd K) : MI x (wup M 106 0 0) T P R L Tm sd K :=
  MI_of h ⟨fun j hj => wup_k _ _ (by omega), fun b hb => wup_f _ _ _ (by omega)⟩
section S24
variable {x : wC} {M : wM} {Q : Option Value → wC → wM → Prop} {T : List Nat} {P : aP} {R : aR} {L : aA} {Tm : aT} {sd : Int64} {K : Nat → Option aR}
theorem s_124 {z : Int} (hC : MI x M T P R L Tm sd K) (hA : AOK T P R L Tm K) (hz : wR z) (hQ0 : ¬ (0 ≤ z ∧ z ≤ 255) → ∀ M', MI x M' T P R L Tm sd K → (∀ b, b < 106 → M' b = M b) → Q (some (.int (iI (-2)))) x M') (hQ1 : 0 ≤ z ∧ z ≤ 255 → T.length = 56 → ∀ M', MI x M' T P R L Tm sd K → (∀ b, b < 106 → M' b = M b) → Q (some (.int (iI (-4)))) x M')
    (hQ2 : 0 ≤ z ∧ z ≤ 255 → T.length < 56 → ∀ M', MI x M' (T ++ [z.toNat]) P R L Tm sd K → (∀ b, b < 106 → M' b = M b) → Q (some (.int (iI ((T.length + 1 : Nat) : Int)))) x M') : yG x M 124 0 [.ref 106, .int (iI z)] [] Q := by
  obtain ⟨⟨ht56, ht256⟩, hok, hRk, ⟨hl14, hLk⟩, hTk, hKk⟩ := id hA
  obtain ⟨z1, z2, z3, z4, z5⟩ := aRok_len hok hRk
  have z6 : ∀ y ∈ R.2.2.2, y < 6 := fun y hy => by have := z3 y hy; have := hok.2.2.1; omega
  have hb1 := hok.1
  have hb2 := hok.2.1
  have hb3 := hok.2.2.1
  refine y_al0 c_124_0 ?_
  refine y_ic c_124_1 ?_
  refine y_pi (j := 0) c_124_2 rfl rfl rfl (by decide) ?_
  have hC0 := MI_thr hC
  have hF0 : ∀ b, b < 106 → (wup M 106 0 0) b = M b := fun b hb => wup_f _ _ _ (by omega)
  generalize (wup M 106 0 0) = M0 at hC0 hF0 ⊢
  obtain ⟨hsd, hT, hM, hR, hL, hTm, hK⟩ := id hC0
  obtain ⟨m4, m6, m8, v1, v2, v3⟩ := id hM
  obtain ⟨a0, a1, a2, a3, a4⟩ := id hR
  refine y_il1 c_124_5 ?_
  refine y_i2l c_124_6 (by omega) ?_
  refine y_lc (z := 0) c_124_7 rfl ?_
  refine y_ldc2 c_124_8 ?_
  refine k_117 c_124_11 rfl (Nat.le_of_ble_eq_true rfl) ?_
  refine s_117 hz (by decide) (by decide) ?_
  refine y_pz_ne c_124_14 (fun h1 => ?_) (fun h1 => ?_)
  · refine y_al0 c_124_20 ?_
    refine y_gi (j := 2) (z := (T.length : Int)) c_124_21 rfl rfl hT.1 (fun r_21 => ?_)
    refine y_bi c_124_24 (by decide) ?_
    refine y_ic_ne c_124_26 (by omega) (by omega) (fun h2 => ?_) (fun h2 => ?_)
    · refine y_al0 c_124_32 ?_
      refine y_gr 107 c_124_33 rfl (by omega) ?_
      refine y_al0 c_124_36 ?_
      refine y_gi (j := 2) (z := (T.length : Int)) c_124_37 rfl rfl hT.1 (fun r_37 => ?_)
      refine y_il1 c_124_40 ?_
      refine y_ast (n := 56) c_124_41 rfl (by omega) (by omega) (by omega) (by omega) ?_
      refine y_al0 c_124_42 ?_
      refine y_dup c_124_43 rfl ?_
      refine y_gi (j := 2) (z := (T.length : Int)) c_124_44 rfl rfl (by rw [wup_a _ _ _ _ (by omega)]; exact hT.1) (fun r_44 => ?_)
      refine y_ic c_124_47 ?_
      refine y_add c_124_48 ?_
      rw [show ((T.length : Int) + 1) = ((T.length + 1 : Nat) : Int) by omega]
      refine y_pi (j := 2) c_124_49 rfl rfl rfl (by omega) ?_
      refine y_al0 c_124_52 ?_
      refine y_gi (j := 2) (z := ((T.length + 1 : Nat) : Int)) c_124_53 rfl rfl (wup_s _ _ _ _) (fun r_53 => ?_)
      refine y_ret c_124_56 rfl ?_
      refine hQ2 h1 (by omega) _ ⟨hsd, ⟨by rw [wup_s]; simp, fun i hi => ?_⟩, mport_of hM (by rw [wup_k _ _ (by decide), wup_a _ _ _ _ (by decide)]) (by rw [wup_k _ _ (by decide), wup_a _ _ _ _ (by decide)]) (by rw [wup_k _ _ (by decide), wup_a _ _ _ _ (by decide)]) (by rw [wup_f _ _ _ (by decide), wup_f _ _ _ (by decide)]) (by rw [wup_f _ _ _ (by decide), wup_f _ _ _ (by decide)]) (by rw [wup_f _ _ _ (by decide), wup_f _ _ _ (by decide)]), wpage_of hR (by rw [wup_f _ _ _ (by decide), wup_f _ _ _ (by decide)]), ⟨by rw [wup_k _ _ (by decide), wup_a _ _ _ _ (by decide)]; exact hL.1, fun k hk => wbk_of (hL.2 k hk) (by rw [wup_f _ _ _ (by decide), wup_f _ _ _ (by decide)])⟩, ?_, fun k hk => ⟨by rw [wup_a _ _ _ _ (by decide), wup_a _ _ _ _ (by decide)]; exact (hK k hk).1, fun R' h => wbk_of ((hK k hk).2 R' h) (by rw [wup_f _ _ _ (by decide), wup_f _ _ _ (by decide)])⟩⟩ (fun b hb => by rw [wup_f _ _ _ (by omega), wup_f _ _ _ (by omega)]; exact hF0 b hb)
      · rw [wup_a _ _ _ _ (by decide), getD_app]
        rw [List.length_append] at hi
        simp only [List.length_singleton] at hi
        by_cases hik : i = T.length
        · subst hik; rw [wup_s, if_neg (by omega), if_pos rfl]; omega
        · rw [wup_k _ _ (by omega), if_pos (by omega)]; exact hT.2 i (by omega)
      · refine ⟨by rw [wup_k _ _ (by decide), wup_a _ _ _ _ (by decide)]; exact hTm.1, fun i hi => ?_⟩
        rw [wup_a _ _ _ _ (by decide), wup_a _ _ _ _ (by decide), wup_a _ _ _ _ (by decide), wup_a _ _ _ _ (by decide), wup_a _ _ _ _ (by decide), wup_a _ _ _ _ (by decide), wup_a _ _ _ _ (by decide), wup_a _ _ _ _ (by decide)]
        exact hTm.2 i hi
    · refine y_bi c_124_29 (by decide) ?_
      refine y_ret c_124_31 rfl ?_
      exact hQ1 h1 (by omega) _ hC0 hF0
  · refine y_bi c_124_17 (by decide) ?_
    refine y_ret c_124_19 rfl ?_
    exact hQ0 h1 _ hC0 hF0
theorem s_125 (hC : MI x M T P R L Tm sd K) (hA : AOK T P R L Tm K) (hQ : ∀ M', MI x M' [] P R L Tm sd K → (∀ b, b < 106 → M' b = M b) → Q (some (.int (iI (T.length : Int)))) x M') : yG x M 125 0 [.ref 106, zU] [] Q := by
  obtain ⟨⟨ht56, ht256⟩, hok, hRk, ⟨hl14, hLk⟩, hTk, hKk⟩ := id hA
  obtain ⟨z1, z2, z3, z4, z5⟩ := aRok_len hok hRk
  have z6 : ∀ y ∈ R.2.2.2, y < 6 := fun y hy => by have := z3 y hy; have := hok.2.2.1; omega
  have hb1 := hok.1
  have hb2 := hok.2.1
  have hb3 := hok.2.2.1
  refine y_al0 c_125_0 ?_
  refine y_ic c_125_1 ?_
  refine y_pi (j := 0) c_125_2 rfl rfl rfl (by decide) ?_
  have hC0 := MI_thr hC
  have hF0 : ∀ b, b < 106 → (wup M 106 0 0) b = M b := fun b hb => wup_f _ _ _ (by omega)
  generalize (wup M 106 0 0) = M0 at hC0 hF0 ⊢
  obtain ⟨hsd, hT, hM, hR, hL, hTm, hK⟩ := id hC0
  obtain ⟨m4, m6, m8, v1, v2, v3⟩ := id hM
  obtain ⟨a0, a1, a2, a3, a4⟩ := id hR
  refine y_al0 c_125_5 ?_
  refine y_gi (j := 2) (z := (T.length : Int)) c_125_6 rfl rfl hT.1 (fun r_6 => ?_)
  refine y_is1 c_125_9 rfl ?_
  refine y_al0 c_125_10 ?_
  refine y_ic c_125_11 ?_
  refine y_pi (j := 2) c_125_12 rfl rfl rfl (by decide) ?_
  refine y_il1 c_125_15 ?_
  refine y_ret c_125_16 rfl ?_
  refine hQ _ ⟨hsd, ⟨wup_s _ _ _ _, fun i hi => by simp at hi⟩, mport_of hM (wup_k _ _ (by decide)) (wup_k _ _ (by decide)) (wup_k _ _ (by decide)) (wup_f _ _ _ (by decide)) (wup_f _ _ _ (by decide)) (wup_f _ _ _ (by decide)), wpage_of hR (wup_f _ _ _ (by decide)), ⟨by rw [wup_k _ _ (by decide)]; exact hL.1, fun k hk => wbk_of (hL.2 k hk) (wup_f _ _ _ (by decide))⟩, ⟨by rw [wup_k _ _ (by decide)]; exact hTm.1, fun i hi => ?_⟩, fun k hk => ⟨by rw [wup_a _ _ _ _ (by decide)]; exact (hK k hk).1, fun R' h => wbk_of ((hK k hk).2 R' h) (wup_f _ _ _ (by decide))⟩⟩ (fun b hb => by rw [wup_f _ _ _ (by omega)]; exact hF0 b hb)
  rw [wup_a _ _ _ _ (by decide), wup_a _ _ _ _ (by decide), wup_a _ _ _ _ (by decide), wup_a _ _ _ _ (by decide)]
  exact hTm.2 i hi
theorem s_141 {z : Int} (hC : MI x M T P R L Tm sd K) (hA : AOK T P R L Tm K) (hz : wR z) (hQ : ∀ M', MI x M' T P R L Tm sd K → (∀ b, b < 106 → M' b = M b) → Q (some (.int (iI (aAbout T P R L Tm z)))) x M') : yG x M 141 0 [.ref 106, .int (iI z)] [] Q := by
  obtain ⟨⟨ht56, ht256⟩, hok, hRk, ⟨hl14, hLk⟩, hTk, hKk⟩ := id hA
  obtain ⟨z1, z2, z3, z4, z5⟩ := aRok_len hok hRk
  have z6 : ∀ y ∈ R.2.2.2, y < 6 := fun y hy => by have := z3 y hy; have := hok.2.2.1; omega
  have hb1 := hok.1
  have hb2 := hok.2.1
  have hb3 := hok.2.2.1
  refine y_al0 c_141_0 ?_
  refine y_ic c_141_1 ?_
  refine y_pi (j := 0) c_141_2 rfl rfl rfl (by decide) ?_
  have hC0 := MI_thr hC
  have hF0 : ∀ b, b < 106 → (wup M 106 0 0) b = M b := fun b hb => wup_f _ _ _ (by omega)
  generalize (wup M 106 0 0) = M0 at hC0 hF0 ⊢
  obtain ⟨hsd, hT, hM, hR, hL, hTm, hK⟩ := id hC0
  obtain ⟨m4, m6, m8, v1, v2, v3⟩ := id hM
  obtain ⟨a0, a1, a2, a3, a4⟩ := id hR
  refine y_il1 c_141_5 ?_
  by_cases hd_6 : z = 0 ∨ z = 1 ∨ z = 2 ∨ z = 3 ∨ z = 4 ∨ z = 5 ∨ z = 6 ∨ z = 7 ∨ z = 8 ∨ z = 9 ∨ z = 10 ∨ z = 11 ∨ z = 12
  rotate_left
  · refine y_td 165 c_141_6 (by omega) (by omega) rfl ?_
    refine y_bi c_141_165 (by decide) ?_
    refine y_ret c_141_167 rfl ?_
    exact yQi (hQ _ hC0 hF0) (by unfold aAbout; rw [if_neg (by omega), if_neg (by omega), if_neg (by omega), if_neg (by omega), if_neg (by omega), if_neg (by omega), if_neg (by omega), if_neg (by omega), if_neg (by omega), if_neg (by omega), if_neg (by omega), if_neg (by omega), if_neg (by omega)])
  rcases hd_6 with rfl | rfl | rfl | rfl | rfl | rfl | rfl | rfl | rfl | rfl | rfl | rfl | rfl
  · refine y_ts 72 c_141_6 (by omega) (by omega) (by omega) rfl rfl ?_
    refine y_al0 c_141_72 ?_
    refine y_gi (j := 4) (z := (P.2.1 : Int)) c_141_73 rfl rfl m4 (fun r_73 => ?_)
    refine y_ret c_141_76 rfl ?_
    exact yQi (hQ _ hC0 hF0) (by simp [aAbout])
  · refine y_ts 77 c_141_6 (by omega) (by omega) (by omega) rfl rfl ?_
    refine y_al0 c_141_77 ?_
    refine y_gi (j := 6) (z := (P.2.2.1 : Int)) c_141_78 rfl rfl m6 (fun r_78 => ?_)
    refine y_ret c_141_81 rfl ?_
    exact yQi (hQ _ hC0 hF0) (by simp [aAbout])
  · refine y_ts 82 c_141_6 (by omega) (by omega) (by omega) rfl rfl ?_
    refine y_al0 c_141_82 ?_
    refine y_gi (j := 8) (z := (P.2.2.2 : Int)) c_141_83 rfl rfl m8 (fun r_83 => ?_)
    refine y_ret c_141_86 rfl ?_
    exact yQi (hQ _ hC0 hF0) (by simp [aAbout])
  · refine y_ts 87 c_141_6 (by omega) (by omega) (by omega) rfl rfl ?_
    refine y_al0 c_141_87 ?_
    refine y_gr 114 c_141_88 rfl (by omega) ?_
    refine y_ic c_141_91 ?_
    refine y_ald (n := 10) (u := R.1) c_141_92 rfl (by omega) (by omega) (by omega) a0 (fun r_92 => ?_)
    refine y_ret c_141_93 rfl ?_
    exact yQi (hQ _ hC0 hF0) (by simp [aAbout])
  · refine y_ts 94 c_141_6 (by omega) (by omega) (by omega) rfl rfl ?_
    refine y_al0 c_141_94 ?_
    refine y_gr 114 c_141_95 rfl (by omega) ?_
    refine y_ic c_141_98 ?_
    refine y_ald (n := 10) (u := R.2.1) c_141_99 rfl (by omega) (by omega) (by omega) a1 (fun r_99 => ?_)
    refine y_ret c_141_100 rfl ?_
    exact yQi (hQ _ hC0 hF0) (by simp [aAbout])
  · refine y_ts 101 c_141_6 (by omega) (by omega) (by omega) rfl rfl ?_
    refine y_al0 c_141_101 ?_
    refine y_gr 114 c_141_102 rfl (by omega) ?_
    refine y_ic c_141_105 ?_
    refine y_ald (n := 10) (u := (R.2.2.1 : Int)) c_141_106 rfl (by omega) (by omega) (by omega) a2 (fun r_106 => ?_)
    refine y_ret c_141_107 rfl ?_
    exact yQi (hQ _ hC0 hF0) (by simp [aAbout])
  · refine y_ts 108 c_141_6 (by omega) (by omega) (by omega) rfl rfl ?_
    refine y_al0 c_141_108 ?_
    refine y_gr 114 c_141_109 rfl (by omega) ?_
    refine y_ic c_141_112 ?_
    refine y_ald (n := 10) (u := (R.2.2.2.length : Int)) c_141_113 rfl (by omega) (by omega) (by omega) a3 (fun r_113 => ?_)
    refine y_ret c_141_114 rfl ?_
    exact yQi (hQ _ hC0 hF0) (by simp [aAbout])
  · refine y_ts 115 c_141_6 (by omega) (by omega) (by omega) rfl rfl ?_
    refine y_al0 c_141_115 ?_
    refine y_gr 114 c_141_116 rfl (by omega) ?_
    refine k_138 c_141_119 rfl (Nat.le_of_ble_eq_true rfl) ?_
    refine s_138 rfl hR z2 z6 ?_
    refine y_ret c_141_122 rfl ?_
    exact yQi (hQ _ hC0 hF0) (by simp [aAbout])
  · refine y_ts 123 c_141_6 (by omega) (by omega) (by omega) rfl rfl ?_
    refine y_al0 c_141_123 ?_
    refine y_al0 c_141_124 ?_
    refine y_gr 114 c_141_125 rfl (by omega) ?_
    refine k_139 c_141_128 rfl rfl (Nat.le_of_ble_eq_true rfl) ?_
    refine s_139 rfl hR z2 hM hok z3 ?_
    refine y_ret c_141_131 rfl ?_
    exact yQi (hQ _ hC0 hF0) (by simp [aAbout])
  · refine y_ts 132 c_141_6 (by omega) (by omega) (by omega) rfl rfl ?_
    refine y_al0 c_141_132 ?_
    refine y_al0 c_141_133 ?_
    refine y_gr 114 c_141_134 rfl (by omega) ?_
    refine y_ic c_141_137 ?_
    refine k_140 c_141_138 rfl rfl (Nat.le_of_ble_eq_true rfl) ?_
    refine s_140 (lost := 0) rfl hR z2 hM hok z3 (by decide) ?_
    rw [aStL_0 P _ _ (Nat.le_refl _), List.take_length]
    refine y_pz_eq c_141_141 (fun h1 => ?_) (fun h1 => ?_)
    · refine y_ic c_141_148 ?_
      refine y_ret c_141_149 rfl ?_
      first
        | exact yQi (hQ _ hC0 hF0) (by simp [aAbout, h1])
    · refine y_ic c_141_144 ?_
      refine y_goto c_141_145 ?_
      refine y_ret c_141_149 rfl ?_
      first
        | exact yQi (hQ _ hC0 hF0) (by simp [aAbout, h1])
  · refine y_ts 150 c_141_6 (by omega) (by omega) (by omega) rfl rfl ?_
    refine y_al0 c_141_150 ?_
    refine y_gi (j := 19) (z := (L.1 : Int)) c_141_151 rfl rfl hL.1 (fun r_151 => ?_)
    refine y_ret c_141_154 rfl ?_
    exact yQi (hQ _ hC0 hF0) (by simp [aAbout])
  · refine y_ts 155 c_141_6 (by omega) (by omega) (by omega) rfl rfl ?_
    refine y_al0 c_141_155 ?_
    refine y_gi (j := 22) (z := (Tm.1 : Int)) c_141_156 rfl rfl hTm.1 (fun r_156 => ?_)
    refine y_ret c_141_159 rfl ?_
    exact yQi (hQ _ hC0 hF0) (by simp [aAbout])
  · refine y_ts 160 c_141_6 (by omega) (by omega) (by omega) rfl rfl ?_
    refine y_al0 c_141_160 ?_
    refine y_gi (j := 2) (z := (T.length : Int)) c_141_161 rfl rfl hT.1 (fun r_161 => ?_)
    refine y_ret c_141_164 rfl ?_
    exact yQi (hQ _ hC0 hF0) (by simp [aAbout])
theorem s_142 {z w : Int} (hC : MI x M T P R L Tm sd K) (hA : AOK T P R L Tm K) (hz : wR z) (hw : wR w) (hQ : ∀ M', MI x M' T P R L Tm sd K → (∀ b, b < 106 → M' b = M b) → Q (some (.int (iI (aGlass P z w)))) x M') : yG x M 142 0 [.ref 106, .int (iI z), .int (iI w)] [] Q := by
  obtain ⟨⟨ht56, ht256⟩, hok, hRk, ⟨hl14, hLk⟩, hTk, hKk⟩ := id hA
  obtain ⟨z1, z2, z3, z4, z5⟩ := aRok_len hok hRk
  have z6 : ∀ y ∈ R.2.2.2, y < 6 := fun y hy => by have := z3 y hy; have := hok.2.2.1; omega
  have hb1 := hok.1
  have hb2 := hok.2.1
  have hb3 := hok.2.2.1
  unfold aGlass at hQ
  refine y_al0 c_142_0 ?_
  refine y_ic c_142_1 ?_
  refine y_pi (j := 0) c_142_2 rfl rfl rfl (by decide) ?_
  have hC0 := MI_thr hC
  have hF0 : ∀ b, b < 106 → (wup M 106 0 0) b = M b := fun b hb => wup_f _ _ _ (by omega)
  generalize (wup M 106 0 0) = M0 at hC0 hF0 ⊢
  obtain ⟨hsd, hT, hM, hR, hL, hTm, hK⟩ := id hC0
  obtain ⟨m4, m6, m8, v1, v2, v3⟩ := id hM
  obtain ⟨a0, a1, a2, a3, a4⟩ := id hR
  refine y_al0 c_142_5 ?_
  refine y_il1 c_142_6 ?_
  refine k_121 c_142_7 rfl rfl (Nat.le_of_ble_eq_true rfl) ?_
  refine s_121 hM hok hz ?_
  refine y_pz_eq c_142_10 (fun h1 => ?_) (fun h1 => ?_)
  · have h1 : 0 ≤ z ∧ z < P.2.1 := by omega
    rw [if_pos h1] at hQ
    obtain ⟨i, rfl⟩ : ∃ i : Nat, z = i := ⟨z.toNat, by omega⟩
    rw [Int.toNat_natCast] at hQ
    have hi : i < P.2.1 := by omega
    have vi := v1 i hi
    refine y_il2 c_142_15 ?_
    refine y_i2l c_142_16 (by omega) ?_
    refine y_lc (z := 0) c_142_17 rfl ?_
    refine y_lc (z := 1) c_142_18 rfl ?_
    refine k_117 c_142_19 rfl (Nat.le_of_ble_eq_true rfl) ?_
    refine s_117 hw (by decide) (by decide) ?_
    refine y_pz_eq c_142_22 (fun h2 => ?_) (fun h2 => ?_)
    · refine y_il2 c_142_38 ?_
      refine y_ic c_142_39 ?_
      refine y_ic_ne c_142_40 (by omega) (by omega) (fun h3 => ?_) (fun h3 => ?_)
      · refine y_bi c_142_51 (by decide) ?_
        refine y_ret c_142_53 rfl ?_
        refine yQi (hQ _ hC0 hF0) ?_
        first
          | (rcases (show w = 0 ∨ w = 1 by omega) with rfl | rfl <;> simp; done)
          | (subst h3; simp; done)
          | (rw [if_neg (by omega), if_neg (by omega), if_neg (by omega)])
      · refine y_al0 c_142_43 ?_
        refine y_il1 c_142_44 ?_
        refine k_135 c_142_45 rfl rfl (Nat.le_of_ble_eq_true rfl) ?_
        refine s_135 hM hok hi ?_
        refine y_goto c_142_48 ?_
        refine y_ret c_142_53 rfl ?_
        refine yQi (hQ _ hC0 hF0) ?_
        first
          | (rcases (show w = 0 ∨ w = 1 by omega) with rfl | rfl <;> simp; done)
          | (subst h3; simp; done)
          | (rw [if_neg (by omega), if_neg (by omega), if_neg (by omega)])
    · have ha : M0 108 (2 * (i : Int) + w) = if w = 0 then (P.1 0 i : Int) else P.1 1 i := by
        rcases (show w = 0 ∨ w = 1 by omega) with rfl | rfl
        · rw [Int.add_zero]; exact vi.1
        · exact vi.2
      refine y_al0 c_142_25 ?_
      refine y_gr 108 c_142_26 rfl (by omega) ?_
      refine y_ic c_142_29 ?_
      refine y_il1 c_142_30 ?_
      refine y_mul c_142_31 ?_
      refine y_il2 c_142_32 ?_
      refine y_add c_142_33 ?_
      refine y_ald (n := 8) c_142_34 rfl (by omega) (by omega) (by omega) ha (fun r_34 => ?_)
      refine y_goto c_142_35 ?_
      refine y_ret c_142_53 rfl ?_
      refine yQi (hQ _ hC0 hF0) ?_
      first
        | (rcases (show w = 0 ∨ w = 1 by omega) with rfl | rfl <;> simp; done)
        | (subst h3; simp; done)
        | (rw [if_neg (by omega), if_neg (by omega), if_neg (by omega)])
  · refine y_ic c_142_13 ?_
    refine y_ret c_142_14 rfl ?_
    rw [if_neg h1] at hQ; exact hQ _ hC0 hF0
theorem s_143 {z w : Int} (hC : MI x M T P R L Tm sd K) (hA : AOK T P R L Tm K) (hz : wR z) (hw : wR w) (hQ : ∀ M', MI x M' T P R L Tm sd K → (∀ b, b < 106 → M' b = M b) → Q (some (.int (iI (aSuitor P z w)))) x M') : yG x M 143 0 [.ref 106, .int (iI z), .int (iI w)] [] Q := by
  obtain ⟨⟨ht56, ht256⟩, hok, hRk, ⟨hl14, hLk⟩, hTk, hKk⟩ := id hA
  obtain ⟨z1, z2, z3, z4, z5⟩ := aRok_len hok hRk
  have z6 : ∀ y ∈ R.2.2.2, y < 6 := fun y hy => by have := z3 y hy; have := hok.2.2.1; omega
  have hb1 := hok.1
  have hb2 := hok.2.1
  have hb3 := hok.2.2.1
  unfold aSuitor at hQ
  refine y_al0 c_143_0 ?_
  refine y_ic c_143_1 ?_
  refine y_pi (j := 0) c_143_2 rfl rfl rfl (by decide) ?_
  have hC0 := MI_thr hC
  have hF0 : ∀ b, b < 106 → (wup M 106 0 0) b = M b := fun b hb => wup_f _ _ _ (by omega)
  generalize (wup M 106 0 0) = M0 at hC0 hF0 ⊢
  obtain ⟨hsd, hT, hM, hR, hL, hTm, hK⟩ := id hC0
  obtain ⟨m4, m6, m8, v1, v2, v3⟩ := id hM
  obtain ⟨a0, a1, a2, a3, a4⟩ := id hR
  refine y_al0 c_143_5 ?_
  refine y_il1 c_143_6 ?_
  refine k_122 c_143_7 rfl rfl (Nat.le_of_ble_eq_true rfl) ?_
  refine s_122 hM hok hz ?_
  refine y_pz_eq c_143_10 (fun h1 => ?_) (fun h1 => ?_)
  · have h1 : 0 ≤ z ∧ z < P.2.2.1 := by omega
    rw [if_pos h1] at hQ
    obtain ⟨i, rfl⟩ : ∃ i : Nat, z = i := ⟨z.toNat, by omega⟩
    rw [Int.toNat_natCast] at hQ
    have hi : i < P.2.2.1 := by omega
    have vi := v2 i hi
    refine y_il2 c_143_15 ?_
    refine y_i2l c_143_16 (by omega) ?_
    refine y_lc (z := 0) c_143_17 rfl ?_
    refine y_lc (z := 1) c_143_18 rfl ?_
    refine k_117 c_143_19 rfl (Nat.le_of_ble_eq_true rfl) ?_
    refine s_117 hw (by decide) (by decide) ?_
    refine y_pz_eq c_143_22 (fun h2 => ?_) (fun h2 => ?_)
    · refine y_bi c_143_38 (by decide) ?_
      refine y_ret c_143_40 rfl ?_
      refine yQi (hQ _ hC0 hF0) ?_
      first
        | (rcases (show w = 0 ∨ w = 1 by omega) with rfl | rfl <;> simp; done)
        | (rw [if_neg (by omega), if_neg (by omega)])
    · have ha : M0 109 (2 * (i : Int) + w) = if w = 0 then (P.1 2 i : Int) else P.1 3 i := by
        rcases (show w = 0 ∨ w = 1 by omega) with rfl | rfl
        · rw [Int.add_zero]; exact vi.1
        · exact vi.2
      refine y_al0 c_143_25 ?_
      refine y_gr 109 c_143_26 rfl (by omega) ?_
      refine y_ic c_143_29 ?_
      refine y_il1 c_143_30 ?_
      refine y_mul c_143_31 ?_
      refine y_il2 c_143_32 ?_
      refine y_add c_143_33 ?_
      refine y_ald (n := 8) c_143_34 rfl (by omega) (by omega) (by omega) ha (fun r_34 => ?_)
      refine y_goto c_143_35 ?_
      refine y_ret c_143_40 rfl ?_
      refine yQi (hQ _ hC0 hF0) ?_
      first
        | (rcases (show w = 0 ∨ w = 1 by omega) with rfl | rfl <;> simp; done)
        | (rw [if_neg (by omega), if_neg (by omega)])
  · refine y_ic c_143_13 ?_
    refine y_ret c_143_14 rfl ?_
    rw [if_neg h1] at hQ; exact hQ _ hC0 hF0
theorem s_144 {y a : Nat} {R2 : aR} (hw : war a = (0, 10)) (hM : mport M P) (hok : aPok P) (hR : wpage M a R2) (hRk : aRok P R2) (hrun : R2.1 ≠ -9) (hy : y < P.2.2.2) (hQ : Q (some (.int (iI (aTake P R2 y : Nat)))) x M) : yG x M 144 0 [.ref 106, .ref a, .int (iI (y : Int))] [] Q := by
  obtain ⟨a0, a1, a2, a3, a4⟩ := hR
  obtain ⟨z1, z2, z3, z4, z5⟩ := aRok_len hok hRk
  obtain ⟨g, s, eg, es, hg, hs⟩ := aRok_run hRk hrun
  unfold aTake at hQ
  rw [eg, es, Int.toNat_natCast, Int.toNat_natCast] at hQ
  refine y_al0 c_144_0 ?_
  refine y_il2 c_144_1 ?_
  refine y_al1 c_144_2 ?_
  refine y_ic c_144_3 ?_
  refine y_ald (u := (s : Int)) c_144_4 hw (by omega) (by omega) (by omega) (a1.trans es) (fun r_4 => ?_)
  refine y_al1 c_144_5 ?_
  refine y_ic c_144_6 ?_
  refine y_ald (u := (g : Int)) c_144_7 hw (by omega) (by omega) (by omega) (a0.trans eg) (fun r_7 => ?_)
  refine y_al1 c_144_8 ?_
  refine y_ic c_144_9 ?_
  refine y_ald (u := (R2.2.2.2.length : Int)) c_144_10 hw (by omega) (by omega) (by omega) a3 (fun r_10 => ?_)
  refine k_137 c_144_11 rfl rfl (Nat.le_of_ble_eq_true rfl) ?_
  refine s_137 hM hok hs hg hy z2 ?_
  refine y_ret c_144_14 rfl ?_
  exact hQ
theorem s_145 {z w : Int} (hC : MI x M T P R L Tm sd K) (hA : AOK T P R L Tm K) (hz : wR z) (hw : wR w) (hQ : ∀ M', MI x M' T P R L Tm sd K → (∀ b, b < 106 → M' b = M b) → Q (some (.int (iI (aSaying P R z w)))) x M') : yG x M 145 0 [.ref 106, .int (iI z), .int (iI w)] [] Q := by
  obtain ⟨⟨ht56, ht256⟩, hok, hRk, ⟨hl14, hLk⟩, hTk, hKk⟩ := id hA
  obtain ⟨z1, z2, z3, z4, z5⟩ := aRok_len hok hRk
  have z6 : ∀ y ∈ R.2.2.2, y < 6 := fun y hy => by have := z3 y hy; have := hok.2.2.1; omega
  have hb1 := hok.1
  have hb2 := hok.2.1
  have hb3 := hok.2.2.1
  unfold aSaying at hQ
  refine y_al0 c_145_0 ?_
  refine y_ic c_145_1 ?_
  refine y_pi (j := 0) c_145_2 rfl rfl rfl (by decide) ?_
  have hC0 := MI_thr hC
  have hF0 : ∀ b, b < 106 → (wup M 106 0 0) b = M b := fun b hb => wup_f _ _ _ (by omega)
  generalize (wup M 106 0 0) = M0 at hC0 hF0 ⊢
  obtain ⟨hsd, hT, hM, hR, hL, hTm, hK⟩ := id hC0
  obtain ⟨m4, m6, m8, v1, v2, v3⟩ := id hM
  obtain ⟨a0, a1, a2, a3, a4⟩ := id hR
  refine y_al0 c_145_5 ?_
  refine y_il1 c_145_6 ?_
  refine k_123 c_145_7 rfl rfl (Nat.le_of_ble_eq_true rfl) ?_
  refine s_123 hM hok hz ?_
  refine y_pz_eq c_145_10 (fun h1 => ?_) (fun h1 => ?_)
  · have h1 : 0 ≤ z ∧ z < P.2.2.2 := by omega
    rw [if_pos h1] at hQ
    obtain ⟨i, rfl⟩ : ∃ i : Nat, z = i := ⟨z.toNat, by omega⟩
    rw [Int.toNat_natCast] at hQ
    have hi : i < P.2.2.2 := by omega
    have vi := v3 i hi
    refine y_il2 c_145_15 ?_
    refine y_i2l c_145_16 (by omega) ?_
    refine y_lc (z := 0) c_145_17 rfl ?_
    refine y_ldc2 c_145_18 ?_
    refine k_117 c_145_21 rfl (Nat.le_of_ble_eq_true rfl) ?_
    refine s_117 hw (by decide) (by decide) ?_
    refine y_pz_eq c_145_24 (fun h2 => ?_) (fun h2 => ?_)
    · refine y_il2 c_145_38 ?_
      refine y_ic c_145_39 ?_
      refine y_ic_eq c_145_40 (by omega) (by omega) (fun h3 => ?_) (fun h3 => ?_)
      · subst h3
        rw [if_neg (by decide), if_neg (by decide), if_neg (by decide), if_pos rfl] at hQ
        refine y_al0 c_145_46 ?_
        refine y_gr 114 c_145_47 rfl (by omega) ?_
        refine y_ic c_145_50 ?_
        refine y_ald (n := 10) (u := R.1) c_145_51 rfl (by omega) (by omega) (by omega) a0 (fun r_51 => ?_)
        refine y_bi c_145_52 (by decide) ?_
        refine y_ic_eq c_145_54 (by omega) (by omega) (fun h4 => ?_) (fun h4 => ?_)
        · have hcc : ¬ (R.1 ≠ -9 ∧ ¬ i ∈ R.2.2.2) := fun h => h.1 h4
          refine y_bi c_145_71 (by decide) ?_
          refine y_goto c_145_73 ?_
          refine y_ret c_145_85 rfl ?_
          refine yQi (hQ _ hC0 hF0) ?_
          first
            | exact if_neg hcc
            | exact if_pos hcc
        · refine y_al0 c_145_57 ?_
          refine y_gr 114 c_145_58 rfl (by omega) ?_
          refine k_138 c_145_61 rfl (Nat.le_of_ble_eq_true rfl) ?_
          refine s_138 rfl hR z2 z6 ?_
          refine y_il1 c_145_64 ?_
          refine k_118 c_145_65 rfl (Nat.le_of_ble_eq_true rfl) ?_
          have := aBits_lt z6
          refine s_118 (by omega) (by omega) ?_
          refine y_pz_eq c_145_68 (fun h5 => ?_) (fun h5 => ?_)
          · have hcc : R.1 ≠ -9 ∧ ¬ i ∈ R.2.2.2 := ⟨h4, fun h => h5 ((aBits_mem _ _).mpr h)⟩
            refine y_al0 c_145_76 ?_
            refine y_al0 c_145_77 ?_
            refine y_gr 114 c_145_78 rfl (by omega) ?_
            refine y_il1 c_145_81 ?_
            refine k_144 c_145_82 rfl rfl (Nat.le_of_ble_eq_true rfl) ?_
            refine s_144 rfl hM hok hR hRk h4 hi ?_
            refine y_ret c_145_85 rfl ?_
            refine yQi (hQ _ hC0 hF0) ?_
            first
              | exact if_neg hcc
              | exact if_pos hcc
          · have hcc : ¬ (R.1 ≠ -9 ∧ ¬ i ∈ R.2.2.2) := fun h => h.2 ((aBits_mem _ _).mp h5)
            refine y_bi c_145_71 (by decide) ?_
            refine y_goto c_145_73 ?_
            refine y_ret c_145_85 rfl ?_
            refine yQi (hQ _ hC0 hF0) ?_
            first
              | exact if_neg hcc
              | exact if_pos hcc
      · refine y_bi c_145_43 (by decide) ?_
        refine y_ret c_145_45 rfl ?_
        refine yQi (hQ _ hC0 hF0) ?_
        rw [if_neg (by omega), if_neg (by omega), if_neg (by omega), if_neg (by omega)]
    · have ha : M0 110 (3 * (i : Int) + w) = if w = 0 then (P.1 4 i : Int) else if w = 1 then P.1 5 i else P.1 6 i := by
        rcases (show w = 0 ∨ w = 1 ∨ w = 2 by omega) with rfl | rfl | rfl
        · rw [Int.add_zero]; exact vi.1
        · exact vi.2.1
        · exact vi.2.2
      refine y_al0 c_145_27 ?_
      refine y_gr 110 c_145_28 rfl (by omega) ?_
      refine y_ic c_145_31 ?_
      refine y_il1 c_145_32 ?_
      refine y_mul c_145_33 ?_
      refine y_il2 c_145_34 ?_
      refine y_add c_145_35 ?_
      refine y_ald (n := 18) c_145_36 rfl (by omega) (by omega) (by omega) ha (fun r_36 => ?_)
      refine y_ret c_145_37 rfl ?_
      refine yQi (hQ _ hC0 hF0) ?_
      rcases (show w = 0 ∨ w = 1 ∨ w = 2 by omega) with rfl | rfl | rfl <;> simp
  · refine y_ic c_145_13 ?_
    refine y_ret c_145_14 rfl ?_
    rw [if_neg h1] at hQ; exact hQ _ hC0 hF0
theorem s_146 {z : Int} (hC : MI x M T P R L Tm sd K) (hA : AOK T P R L Tm K) (hz : wR z) (hQ : ∀ M', MI x M' T P R L Tm sd K → (∀ b, b < 106 → M' b = M b) → Q (some (.int (iI (aSaidAt R z)))) x M') : yG x M 146 0 [.ref 106, .int (iI z)] [] Q := by
  obtain ⟨⟨ht56, ht256⟩, hok, hRk, ⟨hl14, hLk⟩, hTk, hKk⟩ := id hA
  obtain ⟨z1, z2, z3, z4, z5⟩ := aRok_len hok hRk
  have z6 : ∀ y ∈ R.2.2.2, y < 6 := fun y hy => by have := z3 y hy; have := hok.2.2.1; omega
  have hb1 := hok.1
  have hb2 := hok.2.1
  have hb3 := hok.2.2.1
  unfold aSaidAt at hQ
  refine y_al0 c_146_0 ?_
  refine y_ic c_146_1 ?_
  refine y_pi (j := 0) c_146_2 rfl rfl rfl (by decide) ?_
  have hC0 := MI_thr hC
  have hF0 : ∀ b, b < 106 → (wup M 106 0 0) b = M b := fun b hb => wup_f _ _ _ (by omega)
  generalize (wup M 106 0 0) = M0 at hC0 hF0 ⊢
  obtain ⟨hsd, hT, hM, hR, hL, hTm, hK⟩ := id hC0
  obtain ⟨m4, m6, m8, v1, v2, v3⟩ := id hM
  obtain ⟨a0, a1, a2, a3, a4⟩ := id hR
  refine y_il1 c_146_5 ?_
  refine y_i2l c_146_6 (by omega) ?_
  refine y_lc (z := 0) c_146_7 rfl ?_
  refine y_al0 c_146_8 ?_
  refine y_gr 114 c_146_9 rfl (by omega) ?_
  refine y_ic c_146_12 ?_
  refine y_ald (n := 10) (u := (R.2.2.2.length : Int)) c_146_13 rfl (by omega) (by omega) (by omega) a3 (fun r_13 => ?_)
  refine y_ic c_146_14 ?_
  refine y_sub c_146_15 ?_
  refine y_i2l c_146_16 (by omega) ?_
  refine k_117 c_146_17 rfl (Nat.le_of_ble_eq_true rfl) ?_
  refine s_117 hz (by decide) (by omega) ?_
  refine y_pz_eq c_146_20 (fun h1 => ?_) (fun h1 => ?_)
  · rw [if_neg (by omega)] at hQ
    refine y_ic c_146_34 ?_
    refine y_ret c_146_35 rfl ?_
    exact hQ _ hC0 hF0
  · rw [if_pos (by omega)] at hQ
    obtain ⟨i, rfl⟩ : ∃ i : Nat, z = i := ⟨z.toNat, by omega⟩
    rw [Int.toNat_natCast] at hQ
    refine y_al0 c_146_23 ?_
    refine y_gr 114 c_146_24 rfl (by omega) ?_
    refine y_ic c_146_27 ?_
    refine y_il1 c_146_28 ?_
    refine y_add c_146_29 ?_
    refine y_ald (n := 10) (u := (R.2.2.2.getD i 0 : Int)) c_146_30 rfl (by omega) (by omega) (by omega) (a4 i (by omega)) (fun r_30 => ?_)
    refine y_goto c_146_31 ?_
    refine y_ret c_146_35 rfl ?_
    exact hQ _ hC0 hF0
theorem s_147 {y s g i : Int} (hC : MI x M T P R L Tm sd K) (hA : AOK T P R L Tm K) (hy : wR y) (hs : wR s) (hg : wR g) (hi : wR i) (hQ : ∀ M', MI x M' T P R L Tm sd K → (∀ b, b < 106 → M' b = M b) → Q (some (.int (iI (aTakes P y s g i)))) x M') : yG x M 147 0 [.ref 106, .int (iI y), .int (iI s), .int (iI g), .int (iI i)] [] Q := by
  obtain ⟨⟨ht56, ht256⟩, hok, hRk, ⟨hl14, hLk⟩, hTk, hKk⟩ := id hA
  obtain ⟨z1, z2, z3, z4, z5⟩ := aRok_len hok hRk
  have z6 : ∀ y ∈ R.2.2.2, y < 6 := fun y hy => by have := z3 y hy; have := hok.2.2.1; omega
  have hb1 := hok.1
  have hb2 := hok.2.1
  have hb3 := hok.2.2.1
  unfold aTakes at hQ
  refine y_al0 c_147_0 ?_
  refine y_ic c_147_1 ?_
  refine y_pi (j := 0) c_147_2 rfl rfl rfl (by decide) ?_
  have hC0 := MI_thr hC
  have hF0 : ∀ b, b < 106 → (wup M 106 0 0) b = M b := fun b hb => wup_f _ _ _ (by omega)
  generalize (wup M 106 0 0) = M0 at hC0 hF0 ⊢
  obtain ⟨hsd, hT, hM, hR, hL, hTm, hK⟩ := id hC0
  obtain ⟨m4, m6, m8, v1, v2, v3⟩ := id hM
  obtain ⟨a0, a1, a2, a3, a4⟩ := id hR
  refine y_al0 c_147_5 ?_
  refine y_il1 c_147_6 ?_
  refine k_123 c_147_7 rfl rfl (Nat.le_of_ble_eq_true rfl) ?_
  refine s_123 hM hok hy ?_
  refine y_pz_ne c_147_10 (fun h1 => ?_) (fun h1 => ?_)
  · refine y_ic c_147_29 ?_
    refine y_ret c_147_30 rfl ?_
    rw [if_neg (by omega)] at hQ; exact hQ _ hC0 hF0
  · refine y_al0 c_147_13 ?_
    refine y_il2 c_147_14 ?_
    refine k_122 c_147_15 rfl rfl (Nat.le_of_ble_eq_true rfl) ?_
    refine s_122 hM hok hs ?_
    refine y_pz_ne c_147_18 (fun h2 => ?_) (fun h2 => ?_)
    · refine y_ic c_147_29 ?_
      refine y_ret c_147_30 rfl ?_
      rw [if_neg (by omega)] at hQ; exact hQ _ hC0 hF0
    · refine y_al0 c_147_21 ?_
      refine y_il3 c_147_22 ?_
      refine k_121 c_147_23 rfl rfl (Nat.le_of_ble_eq_true rfl) ?_
      refine s_121 hM hok hg ?_
      refine y_pz_eq c_147_26 (fun h3 => ?_) (fun h3 => ?_)
      · rw [if_pos ⟨by omega, by omega, by omega⟩] at hQ
        refine y_il4 c_147_31 ?_
        refine y_i2l c_147_33 (by omega) ?_
        refine y_lc (z := 0) c_147_34 rfl ?_
        refine y_ldc2 c_147_35 ?_
        refine k_117 c_147_38 rfl (Nat.le_of_ble_eq_true rfl) ?_
        refine s_117 hi (by decide) (by decide) ?_
        refine y_pz_eq c_147_41 (fun h4 => ?_) (fun h4 => ?_)
        · rw [if_neg (by omega)] at hQ
          refine y_bi c_147_56 (by decide) ?_
          refine y_ret c_147_58 rfl ?_
          exact hQ _ hC0 hF0
        · rw [if_pos (by omega)] at hQ
          obtain ⟨y, rfl⟩ : ∃ i : Nat, y = i := ⟨y.toNat, by omega⟩
          obtain ⟨s, rfl⟩ : ∃ i : Nat, s = i := ⟨s.toNat, by omega⟩
          obtain ⟨g, rfl⟩ : ∃ i : Nat, g = i := ⟨g.toNat, by omega⟩
          obtain ⟨i, rfl⟩ : ∃ j : Nat, i = j := ⟨i.toNat, by omega⟩
          simp only [Int.toNat_natCast] at hQ
          refine y_al0 c_147_44 ?_
          refine y_il1 c_147_45 ?_
          refine y_il2 c_147_46 ?_
          refine y_il3 c_147_47 ?_
          refine y_il4 c_147_48 ?_
          refine k_137 c_147_50 rfl rfl (Nat.le_of_ble_eq_true rfl) ?_
          refine s_137 hM hok (by omega) (by omega) (by omega) (by omega) ?_
          refine y_goto c_147_53 ?_
          refine y_ret c_147_58 rfl ?_
          exact hQ _ hC0 hF0
      · refine y_ic c_147_29 ?_
        refine y_ret c_147_30 rfl ?_
        rw [if_neg (by omega)] at hQ; exact hQ _ hC0 hF0
end S24
