/-! ===== LoveGlass: fault, port ===== -/
theorem aRun_b : ∀ (cs : List Nat) (s : aS3) (i n : Nat), i + cs.length ≤ n → -9 ≤ (aRun cs s i).1 ∧ (aRun cs s i).1 ≤ n
  | [], s, i, n, h => by
    simp only [aRun]
    simp at h
    split <;> omega
  | c :: cs, s, i, n, h => by
    simp only [List.length_cons] at h
    simp only [aRun]
    cases aStp c s with
    | none => simp only; omega
    | some s' => exact aRun_b cs s' (i + 1) n (by omega)
theorem aFault_b {T : List Nat} (h : T.length ≤ 56) : -9 ≤ (aFault T).1 ∧ (aFault T).1 ≤ 56 := by
  unfold aFault
  split
  · simp only; omega
  · simp only [List.length_cons] at h
    split
    · exact aRun_b _ _ 1 56 (by omega)
    · simp only; omega
section S22
variable {x : wC} {M : wM} {Q : Option Value → wC → wM → Prop} {T : List Nat} {P : aP} {R : aR} {L : aA} {Tm : aT} {sd : Int64} {K : Nat → Option aR}
theorem s_68 (hC : CI x M T P R L Tm sd K) (hA : AOK T P R L Tm K) (hQ : ∀ M', CI x M' T P R L Tm sd K → (∀ b, 106 ≤ b → M' b = M b) → Q (some (.int (iI (aFault T).1))) x M') : yG x M 68 0 [.ref 0] [] Q := by
  obtain ⟨hx, hsd, hT, hM, hR, hL, hTm, hK0, hK⟩ := id hC
  obtain ⟨⟨ht56, ht256⟩, hok, hRk, ⟨hl14, hLk⟩, hTk, hKk⟩ := id hA
  obtain ⟨hp, hp33⟩ := CI_port hx
  obtain ⟨z1, z2, z3, z4, z5⟩ := aRok_len hok hRk
  have z6 : ∀ y ∈ R.2.2.2, y < 6 := fun y hy => by have := z3 y hy; have := hok.2.2.1; omega
  have hb1 := hok.1
  have hb2 := hok.2.1
  have hb3 := hok.2.2.1
  obtain ⟨q0, q1, q2, q3, q4, q5, q6, qc, j0, j1, j2, j3, j4, j5, j6, qlt⟩ := id hp
  obtain ⟨⟨n0, n1, n2, n3, n4, n5, n6⟩, v0, v1, v2, v3, v4, v5, v6⟩ := id hM
  have hd : wportS x.2.2 ∧ 3 ≤ x.2.2 ∧ x.2.2 + 14 < 33 ∧ (x.2.2 + 14 < x.2.1 ∨ x.2.1 + 14 < x.2.2) := by
    rcases hx with ⟨h1, h2⟩ | ⟨h1, h2⟩ <;> rw [h1, h2]
    · exact ⟨wportS_18, by omega, by omega, by omega⟩
    · exact ⟨wportS_3, by omega, by omega, by omega⟩
  obtain ⟨hd, hd3, hd33, hdd⟩ := hd
  have dc := hd.2.2.2.2.2.2.2.1
  refine y_al0 c_68_0 ?_
  refine y_gd c_68_1 rfl ?_
  refine y_al0 c_68_4 ?_
  refine y_gr 1 c_68_5 rfl (by omega) ?_
  refine k_18 c_68_8 rfl dc (Nat.le_of_ble_eq_true rfl) ?_
  refine s_18 hd hd3 hT ht56 ht256 (fun M1 hf1 hpt => ?_)
  have hC1 : CI x M1 T P R L Tm sd K := CI_of hC (fun b hb => hf1 b (by unfold wown at hb; omega))
  refine y_ret c_68_11 rfl ?_
  exact hQ _ hC1 (fun b hb => hf1 b (by omega))
theorem s_69 (hC : CI x M T P R L Tm sd K) (hA : AOK T P R L Tm K) (hQ0 : ∀ M', (aFault T).1 ≠ -9 → CI x M' T P R L Tm sd K → (∀ b, 106 ≤ b → M' b = M b) → Q (some (.int (iI (-3)))) x M')
    (hQ1 : ∀ rows x' M', aFault T = (-9, rows) → x'.1 = x.1 → CI x' M' T (aPort rows) aR0 (0, L.2) Tm sd (fun _ => none) → (∀ b, 106 ≤ b → M' b = M b) → Q (some (.int (iI (100 * ((aPort rows).2.1 : Int) + 10 * ((aPort rows).2.2.1 : Int) + ((aPort rows).2.2.2 : Int))))) x' M') : yG x M 69 0 [.ref 0, zU] [] Q := by
  obtain ⟨hx, hsd, hT, hM, hR, hL, hTm, hK0, hK⟩ := id hC
  obtain ⟨⟨ht56, ht256⟩, hok, hRk, ⟨hl14, hLk⟩, hTk, hKk⟩ := id hA
  obtain ⟨hp, hp33⟩ := CI_port hx
  obtain ⟨z1, z2, z3, z4, z5⟩ := aRok_len hok hRk
  have z6 : ∀ y ∈ R.2.2.2, y < 6 := fun y hy => by have := z3 y hy; have := hok.2.2.1; omega
  have hb1 := hok.1
  have hb2 := hok.2.1
  have hb3 := hok.2.2.1
  obtain ⟨q0, q1, q2, q3, q4, q5, q6, qc, j0, j1, j2, j3, j4, j5, j6, qlt⟩ := id hp
  obtain ⟨⟨n0, n1, n2, n3, n4, n5, n6⟩, v0, v1, v2, v3, v4, v5, v6⟩ := id hM
  have hd : wportS x.2.2 ∧ 3 ≤ x.2.2 ∧ x.2.2 + 14 < 33 ∧ (x.2.2 + 14 < x.2.1 ∨ x.2.1 + 14 < x.2.2) := by
    rcases hx with ⟨h1, h2⟩ | ⟨h1, h2⟩ <;> rw [h1, h2]
    · exact ⟨wportS_18, by omega, by omega, by omega⟩
    · exact ⟨wportS_3, by omega, by omega, by omega⟩
  obtain ⟨hd, hd3, hd33, hdd⟩ := hd
  have dc := hd.2.2.2.2.2.2.2.1
  have hfr : -9 ≤ (aFault T).1 ∧ (aFault T).1 ≤ 56 := aFault_b ht56
  refine y_al0 c_69_0 ?_
  refine y_gd c_69_1 rfl ?_
  refine y_al0 c_69_4 ?_
  refine y_gr 1 c_69_5 rfl (by omega) ?_
  refine k_18 c_69_8 rfl dc (Nat.le_of_ble_eq_true rfl) ?_
  refine s_18 hd hd3 hT ht56 ht256 (fun M1 hf1 hpt => ?_)
  have hC1 : CI x M1 T P R L Tm sd K := CI_of hC (fun b hb => hf1 b (by unfold wown at hb; omega))
  refine y_bi c_69_11 (by decide) ?_
  refine y_ic_eq c_69_13 (by omega) (by omega) (fun h1 => ?_) (fun h1 => ?_)
  · refine y_al0 c_69_19 ?_
    refine y_gd c_69_20 rfl ?_
    refine y_as1 c_69_23 rfl ?_
    refine y_al0 c_69_24 ?_
    refine y_al0 c_69_25 ?_
    refine y_gp c_69_26 rfl ?_
    refine y_pd c_69_29 ?_
    refine y_al0 c_69_32 ?_
    refine y_al1 c_69_33 ?_
    refine y_pp c_69_34 ?_
    obtain ⟨rows, hrows⟩ : ∃ rows, aFault T = (-9, rows) := ⟨(aFault T).2, by rw [← h1]⟩
    have hM1 := hpt rows hrows
    refine y_al0 c_69_37 ?_
    refine y_gr 33 c_69_38 rfl (by omega) ?_
    refine k_41 c_69_41 rfl rfl (Nat.le_of_ble_eq_true rfl) ?_
    refine s_41 wrunS_33 (fun M2 hR2 hf2 => ?_)
    refine y_al0 c_69_44 ?_
    refine y_gr 39 c_69_45 rfl (by omega) ?_
    refine k_2 c_69_48 rfl rfl (Nat.le_of_ble_eq_true rfl) ?_
    refine s_2 ?_
    refine y_al0 c_69_51 ?_
    refine y_ic c_69_52 ?_
    refine y_pi (j := 9) c_69_53 rfl rfl rfl (by decide) ?_
    obtain ⟨M3, hM3⟩ : ∃ M3 : wM, M3 = wup (wup M2 39 2 0) 0 9 0 := ⟨_, rfl⟩
    rw [← hM3]
    have hf3 : ∀ b, b ≠ 39 → b ≠ 0 → M3 b = M2 b := fun b h3 h4 => by rw [hM3, wup_f _ _ _ h4, wup_f _ _ _ h3]
    have hM4 : wport M3 x.2.2 (aPort rows) := wport_of hM1 (fun b h3 h4 => by rw [hf3 b (by omega) (by omega), hf2 b (by omega)])
    obtain ⟨⟨m0, m1, m2, m3, m4, m5, m6⟩, -⟩ := id hM4
    refine y_bi c_69_56 (by decide) ?_
    refine y_al0 c_69_58 ?_
    refine y_gp c_69_59 rfl ?_
    refine k_21 c_69_62 rfl dc (Nat.le_of_ble_eq_true rfl) ?_
    refine s_21 hd ?_
    rw [m0]
    refine y_mul c_69_65 ?_
    refine y_bi c_69_66 (by decide) ?_
    refine y_al0 c_69_68 ?_
    refine y_gp c_69_69 rfl ?_
    refine k_22 c_69_72 rfl dc (Nat.le_of_ble_eq_true rfl) ?_
    refine s_22 hd ?_
    rw [m2]
    refine y_mul c_69_75 ?_
    refine y_add c_69_76 ?_
    refine y_al0 c_69_77 ?_
    refine y_gp c_69_78 rfl ?_
    refine k_23 c_69_81 rfl dc (Nat.le_of_ble_eq_true rfl) ?_
    refine s_23 hd ?_
    rw [m4]
    refine y_add c_69_84 ?_
    refine y_ret c_69_85 rfl ?_
    have hg3 : ∀ b, b ≠ 39 → b ≠ 0 → (b < x.2.2 ∨ x.2.2 + 14 < b) → (b < 33 ∨ 35 < b) → M3 b = M b := fun b h3 h4 h5 h6 => by rw [hf3 b h3 h4, hf2 b (by omega), hf1 b (by omega)]
    refine hQ1 rows (x.1, x.2.2, x.2.1) M3 hrows rfl ⟨?_, hsd, ?_, hM4, ?_, ?_, ?_, ?_, fun k R3 _ h => by cases h⟩ (fun b hb => hg3 b (by omega) (by omega) (by omega) (by omega))
    · show x.2.2 = 3 ∧ x.2.1 = 18 ∨ x.2.2 = 18 ∧ x.2.1 = 3
      omega
    · rw [hg3 1 (by omega) (by omega) (by omega) (by omega), hg3 2 (by omega) (by omega) (by omega) (by omega)]; exact hT
    · exact wrun_of hR2 (hf3 _ (by omega) (by omega)) (hf3 _ (by omega) (by omega)) (hf3 _ (by omega) (by omega))
    · obtain ⟨nx, g1, g2, -, -, -⟩ := hL
      refine ⟨nx, g1, ?_, ?_, by show 0 ≤ 14; omega, fun j hj => absurd (show j < 0 from hj) (by omega)⟩
      · rw [hM3, wup_a _ _ _ _ (by decide), wup_k _ _ (by decide), hf2 39 (by omega), hf1 39 (by omega)]; exact g2
      · rw [hM3, wup_a _ _ _ _ (by decide), wup_s]; rfl
    · exact wtim_of hTm (fun b h3 h4 => hg3 b (by omega) (by omega) (by omega) (by omega))
    · rw [hM3, wup_s]; rfl
  · refine y_bi c_69_16 (by decide) ?_
    refine y_ret c_69_18 rfl ?_
    exact hQ0 _ h1 hC1 (fun b hb => hf1 b (by omega))
end S22
