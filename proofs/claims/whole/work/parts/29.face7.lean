/-! ===== LoveGlass: timed, rests ===== -/
def aTime (P : aP) (Tm : aT) (y i p g : Int) : Int × aT := if ¬ (0 ≤ y ∧ y < P.2.2.2) then (-1, Tm) else if ¬ ((0 ≤ i ∧ i ≤ 5) ∧ (1 ≤ p ∧ p ≤ 4) ∧ 0 ≤ g ∧ g ≤ 99) then (-2, Tm) else if 6 ≤ Tm.1 then (-4, Tm) else (((Tm.1 + 1 : Nat) : Int), aTput Tm y.toNat i.toNat p.toNat g.toNat)
def aKindsV (P : aP) (Tm : aT) (r : Int) : Prop := ∃ v : Nat, r = v ∧ aBm (fun k => aThose P Tm k Tm.1 = true) 4 v
theorem aKindsV_one {P : aP} {Tm : aT} {r r' : Int} (h1 : aKindsV P Tm r) (h2 : aKindsV P Tm r') : r = r' := by
  obtain ⟨v, rfl, a⟩ := h1
  obtain ⟨v', rfl, b⟩ := h2
  rw [aBm_one a b]
theorem aBestW_max {P : aP} {R : aR} {m w c f : Nat} (h : aBestW P R m w c f) : aMax P R m w := by
  obtain ⟨⟨q, a1, a2, -, -⟩, a3⟩ := h
  exact Or.inl ⟨q, a1, a2, fun q' hq' => by have := a3 q' hq'; unfold aBet at this; omega⟩
def aGn (own oth a b : Int) : Int := if own = 0 then 2 else if oth = 0 then a else b
def aOk4 (v1 v2 w1 w2 : Int) (a b : Int) : Bool := decide (aGn (1 - a) b v1 v2 ≤ aGn a b v1 v2) && decide (aGn (1 - b) a w1 w2 ≤ aGn b a w1 w2)
def aSt4 (ok : Int → Int → Bool) (a b : Int) (t : Int × Int) : Int × Int := (t.1 + (if ok a b = true then 1 else 0), if ok a b = true ∧ t.2 = -9 then 10 * a + b else t.2)
def aAll4 (ok : Int → Int → Bool) : Int × Int := aSt4 ok 1 1 (aSt4 ok 1 0 (aSt4 ok 0 1 (aSt4 ok 0 0 (0, -9))))
def aRestsV (P : aP) (R : aR) (s o z r : Int) : Prop :=
  (¬ ((0 ≤ s ∧ s < P.2.2.1) ∧ 0 ≤ o ∧ o < P.2.2.1) ∧ r = -1) ∨ (((0 ≤ s ∧ s < P.2.2.1) ∧ 0 ≤ o ∧ o < P.2.2.1) ∧ (s = o ∨ ¬ (0 ≤ z ∧ z ≤ 1)) ∧ r = -2) ∨ (((0 ≤ s ∧ s < P.2.2.1) ∧ 0 ≤ o ∧ o < P.2.2.1) ∧ ¬ (s = o ∨ ¬ (0 ≤ z ∧ z ≤ 1)) ∧ R.1 = -9 ∧ r = -3) ∨
  (((0 ≤ s ∧ s < P.2.2.1) ∧ 0 ≤ o ∧ o < P.2.2.1) ∧ ¬ (s = o ∨ ¬ (0 ≤ z ∧ z ≤ 1)) ∧ R.1 ≠ -9 ∧ ∃ v1 v2 w1 w2 : Nat, aMax P (R.1, s, R.2.2.1, []) 63 v1 ∧ aMax P (R.1, s, R.2.2.1 / 2, []) 63 v2 ∧ aMax P (R.1, o, R.2.2.1, []) 63 w1 ∧ aMax P (R.1, o, R.2.2.1 / 2, []) 63 w2 ∧ r = if z = 0 then (aAll4 (aOk4 v1 v2 w1 w2)).1 else (aAll4 (aOk4 v1 v2 w1 w2)).2)
theorem aRestsV_one {P : aP} {R : aR} {s o z r r' : Int} (h1 : aRestsV P R s o z r) (h2 : aRestsV P R s o z r') : r = r' := by
  rcases h1 with ⟨a1, rfl⟩ | ⟨a1, a2, rfl⟩ | ⟨a1, a2, a3, rfl⟩ | ⟨a1, a2, a3, v1, v2, w1, w2, c1, c2, c3, c4, rfl⟩ <;> rcases h2 with ⟨b1, rfl⟩ | ⟨b1, b2, rfl⟩ | ⟨b1, b2, b3, rfl⟩ | ⟨b1, b2, b3, v1', v2', w1', w2', d1, d2, d3, d4, rfl⟩ <;> first | rfl | (exact absurd b1 a1) | (exact absurd a1 b1) | (exact absurd b2 a2) | (exact absurd a2 b2) | (exact absurd b3 a3) | (exact absurd a3 b3) | skip
  rw [aMax_one c1 d1, aMax_one c2 d2, aMax_one c3 d3, aMax_one c4 d4]
theorem aSt4_b (ok : Int → Int → Bool) (a b : Int) (ha : a = 0 ∨ a = 1) (hb : b = 0 ∨ b = 1) (t : Int × Int) (n : Int) (h : 0 ≤ t.1 ∧ t.1 ≤ n ∧ -9 ≤ t.2 ∧ t.2 ≤ 11) : 0 ≤ (aSt4 ok a b t).1 ∧ (aSt4 ok a b t).1 ≤ n + 1 ∧ -9 ≤ (aSt4 ok a b t).2 ∧ (aSt4 ok a b t).2 ≤ 11 := by
  unfold aSt4
  simp only
  refine ⟨?_, ?_, ?_, ?_⟩ <;> split <;> omega
section S17
variable {x : wC} {M : wM} {Q : Option Value → wC → wM → Prop} {T : List Nat} {P : aP} {R : aR} {L : aA} {Tm : aT} {sd : Int64} {K : Nat → Option aR}
theorem s_100 {y i p g : Int} (hC : CI x M T P R L Tm sd K) (hA : AOK T P R L Tm K) (hy : wR y) (hi : wR i) (hp0 : wR p) (hg : wR g) (hQ : ∀ M', CI x M' T P R L (aTime P Tm y i p g).2 sd K → (∀ b, 106 ≤ b → M' b = M b) → Q (some (.int (iI (aTime P Tm y i p g).1))) x M') : yG x M 100 0 [.ref 0, .int (iI y), .int (iI i), .int (iI p), .int (iI g)] [] Q := by
  obtain ⟨hx, hsd, hT, hM, hR, hL, hTm, hK0, hK⟩ := id hC
  obtain ⟨⟨ht56, ht256⟩, hok, hRk, ⟨hl14, hLk⟩, hTk, hKk⟩ := id hA
  obtain ⟨hp, hp33⟩ := CI_port hx
  obtain ⟨z1, z2, z3, z4, z5⟩ := aRok_len hok hRk
  have z6 : ∀ y ∈ R.2.2.2, y < 6 := fun y hy => by have := z3 y hy; have := hok.2.2.1; omega
  have hb1 := hok.1
  have hb2 := hok.2.1
  have hb3 := hok.2.2.1
  obtain ⟨q0, q1, q2, q3, q4, q5, q6, qc, j0, j1, j2, j3, j4, j5, j6, qlt⟩ := id hp
  obtain ⟨⟨n0, n1, n2, n3, n4, n5, n6⟩, v0, v1, v2, v3, v4, v5, v6⟩ := id hM
  have hT6 := hTk.1
  unfold aTime at hQ
  refine y_al0 c_100_0 ?_
  refine y_gp c_100_1 rfl ?_
  refine y_il1 c_100_4 ?_
  refine k_26 c_100_5 rfl qc (Nat.le_of_ble_eq_true rfl) ?_
  refine s_26 hp hy ?_
  rw [n4]
  refine y_pz_ne c_100_8 (fun h1 => ?_) (fun h1 => ?_)
  · rw [if_neg (fun h => h h1)] at hQ
    refine y_al0 c_100_13 ?_
    refine y_gr 84 c_100_14 rfl (by omega) ?_
    refine y_il2 c_100_17 ?_
    refine y_il3 c_100_18 ?_
    refine y_il4 c_100_19 ?_
    refine k_62 c_100_21 rfl rfl (Nat.le_of_ble_eq_true rfl) ?_
    refine s_62 hi hp0 hg ?_
    refine y_pz_ne c_100_24 (fun h2 => ?_) (fun h2 => ?_)
    · rw [if_neg (fun h => h h2)] at hQ
      refine y_al0 c_100_30 ?_
      refine y_gr 84 c_100_31 rfl (by omega) ?_
      refine k_60 c_100_34 rfl rfl (Nat.le_of_ble_eq_true rfl) ?_
      refine s_60 hTm ?_
      refine y_pz_eq c_100_37 (fun h3 => ?_) (fun h3 => ?_)
      · rw [if_neg h3] at hQ
        obtain ⟨y, rfl⟩ : ∃ n : Nat, y = n := ⟨y.toNat, by omega⟩
        obtain ⟨i, rfl⟩ : ∃ n : Nat, i = n := ⟨i.toNat, by omega⟩
        obtain ⟨p, rfl⟩ : ∃ n : Nat, p = n := ⟨p.toNat, by omega⟩
        obtain ⟨g, rfl⟩ : ∃ n : Nat, g = n := ⟨g.toNat, by omega⟩
        simp only [Int.toNat_natCast] at hQ
        refine y_al0 c_100_43 ?_
        refine y_gr 84 c_100_44 rfl (by omega) ?_
        refine y_il1 c_100_47 ?_
        refine y_il2 c_100_48 ?_
        refine y_il3 c_100_49 ?_
        refine y_il4 c_100_50 ?_
        refine k_63 c_100_52 rfl rfl (Nat.le_of_ble_eq_true rfl) ?_
        refine s_63 hTm (by omega) (by omega) (by omega) (by omega) (by omega) (fun M1 hT1 hf1 => ?_)
        refine y_al0 c_100_55 ?_
        refine y_gr 84 c_100_56 rfl (by omega) ?_
        refine k_59 c_100_59 rfl rfl (Nat.le_of_ble_eq_true rfl) ?_
        refine s_59 hT1 ?_
        refine y_ret c_100_62 rfl ?_
        exact hQ _ (CI_upd hC (wrun_of hR (hf1 _ (by omega)) (hf1 _ (by omega)) (hf1 _ (by omega))) (wacts_of hL (fun b h1 h2 => hf1 b (by omega))) hT1 (fun b hb => hf1 b (by omega))) (fun b hb => hf1 b (by omega))
      · refine y_bi c_100_40 (by decide) ?_
        refine y_ret c_100_42 rfl ?_
        rw [if_pos h3] at hQ; exact hQ _ hC (fun b hb => rfl)
    · refine y_bi c_100_27 (by decide) ?_
      refine y_ret c_100_29 rfl ?_
      rw [if_pos h2] at hQ; exact hQ _ hC (fun b hb => rfl)
  · refine y_ic c_100_11 ?_
    refine y_ret c_100_12 rfl ?_
    rw [if_pos h1] at hQ; exact hQ _ hC (fun b hb => rfl)
theorem s_101 (hC : CI x M T P R L Tm sd K) (hA : AOK T P R L Tm K) (hQ : ∀ M', CI x M' T P R L (0, fun _ _ => 0) sd K → (∀ b, 106 ≤ b → M' b = M b) → Q (some (.int (iI (Tm.1 : Int)))) x M') : yG x M 101 0 [.ref 0, zU] [] Q := by
  obtain ⟨hx, hsd, hT, hM, hR, hL, hTm, hK0, hK⟩ := id hC
  obtain ⟨⟨ht56, ht256⟩, hok, hRk, ⟨hl14, hLk⟩, hTk, hKk⟩ := id hA
  obtain ⟨hp, hp33⟩ := CI_port hx
  obtain ⟨z1, z2, z3, z4, z5⟩ := aRok_len hok hRk
  have z6 : ∀ y ∈ R.2.2.2, y < 6 := fun y hy => by have := z3 y hy; have := hok.2.2.1; omega
  have hb1 := hok.1
  have hb2 := hok.2.1
  have hb3 := hok.2.2.1
  obtain ⟨q0, q1, q2, q3, q4, q5, q6, qc, j0, j1, j2, j3, j4, j5, j6, qlt⟩ := id hp
  obtain ⟨⟨n0, n1, n2, n3, n4, n5, n6⟩, v0, v1, v2, v3, v4, v5, v6⟩ := id hM
  refine y_al0 c_101_0 ?_
  refine y_gr 84 c_101_1 rfl (by omega) ?_
  refine k_59 c_101_4 rfl rfl (Nat.le_of_ble_eq_true rfl) ?_
  refine s_59 hTm ?_
  refine y_is1 c_101_7 rfl ?_
  refine y_al0 c_101_8 ?_
  refine y_gr 84 c_101_9 rfl (by omega) ?_
  refine k_61 c_101_12 rfl rfl (Nat.le_of_ble_eq_true rfl) ?_
  refine s_61 (fun M1 hT1 hf1 => ?_)
  refine y_il1 c_101_15 ?_
  refine y_ret c_101_16 rfl ?_
  exact hQ _ (CI_upd hC (wrun_of hR (hf1 _ (by omega)) (hf1 _ (by omega)) (hf1 _ (by omega))) (wacts_of hL (fun b h1 h2 => hf1 b (by omega))) hT1 (fun b hb => hf1 b (by omega))) (fun b hb => hf1 b (by omega))
theorem s_102 (hC : CI x M T P R L Tm sd K) (hA : AOK T P R L Tm K) (hQ : ∀ r, aKindsV P Tm r → Q (some (.int (iI r))) x M) : yG x M 102 0 [.ref 0, zU, zU] [] Q := by
  obtain ⟨hx, hsd, hT, hM, hR, hL, hTm, hK0, hK⟩ := id hC
  obtain ⟨⟨ht56, ht256⟩, hok, hRk, ⟨hl14, hLk⟩, hTk, hKk⟩ := id hA
  obtain ⟨hp, hp33⟩ := CI_port hx
  obtain ⟨z1, z2, z3, z4, z5⟩ := aRok_len hok hRk
  have z6 : ∀ y ∈ R.2.2.2, y < 6 := fun y hy => by have := z3 y hy; have := hok.2.2.1; omega
  have hb1 := hok.1
  have hb2 := hok.2.1
  have hb3 := hok.2.2.1
  obtain ⟨q0, q1, q2, q3, q4, q5, q6, qc, j0, j1, j2, j3, j4, j5, j6, qlt⟩ := id hp
  obtain ⟨⟨n0, n1, n2, n3, n4, n5, n6⟩, v0, v1, v2, v3, v4, v5, v6⟩ := id hM
  have key : ∀ d k : Nat, 4 < k + d → k ≤ 4 → ∀ v : Nat, aBm (fun k => aThose P Tm k Tm.1 = true) k v → yG x M 102 4 [.ref 0, .int (iI (v : Int)), .int (iI (k : Int))] [] Q := by
    intro d
    induction d with
    | zero => intro k g1 g2; omega
    | succ d ih =>
      intro k g1 g2 v hv
      refine y_il2 c_102_4 ?_
      refine y_ic c_102_5 ?_
      refine y_ic_ge c_102_6 (by omega) (by omega) (fun h_6 => ?_) (fun h_6 => ?_)
      · have hk : k = 4 := by omega
        subst hk
        refine y_il1 c_102_36 ?_
        refine y_ret c_102_37 rfl ?_
        exact hQ _ ⟨v, rfl, hv⟩
      · refine y_al0 c_102_9 ?_
        refine y_gr 84 c_102_10 rfl (by omega) ?_
        refine y_al0 c_102_13 ?_
        refine y_gp c_102_14 rfl ?_
        refine y_il2 c_102_17 ?_
        refine k_64 c_102_18 rfl rfl (Nat.le_of_ble_eq_true rfl) ?_
        refine s_64 hTm hTk hp hM hok (by omega) ?_
        refine y_pz_eq c_102_21 (fun h1 => ?_) (fun h1 => ?_)
        · refine y_inc2 c_102_30 rfl ?_
          refine y_goto c_102_33 ?_
          first
            | exact ih (k + 1) (by omega) (by omega) _ (aBm_y hv h1)
            | exact ih (k + 1) (by omega) (by omega) _ (aBm_n hv h1)
        · have hp2 := Nat.pow_le_pow_right (show 0 < 2 by omega) (show k ≤ 3 by omega)
          refine y_il1 c_102_24 ?_
          refine y_ic c_102_25 ?_
          refine y_il2 c_102_26 ?_
          refine y_shl (x1 := 1) (x2 := k) c_102_27 (by omega) (by omega) ?_
          rw [Nat.one_mul]
          refine y_ior (x1 := v) (x2 := 2 ^ k) c_102_28 ?_
          refine y_is1 c_102_29 rfl ?_
          refine y_inc2 c_102_30 rfl ?_
          refine y_goto c_102_33 ?_
          first
            | exact ih (k + 1) (by omega) (by omega) _ (aBm_y hv h1)
            | exact ih (k + 1) (by omega) (by omega) _ (aBm_n hv h1)
  refine y_ic c_102_0 ?_
  refine y_is1 c_102_1 rfl ?_
  refine y_ic c_102_2 ?_
  refine y_is2 c_102_3 rfl ?_
  exact key 5 0 (by omega) (by omega) 0 (aBm_0 _)
theorem s_104 {s n : Nat} (hC : CI x M T P R L Tm sd K) (hA : AOK T P R L Tm K) (hs : s < P.2.2.1) (hn : n ≤ 135) (hrun : R.1 ≠ -9) (hQ : ∀ (v : Nat) M', v < 2147483648 → aMax P (R.1, (s : Int), n, []) 63 v → CI x M' T P R L Tm sd K → (∀ b, 106 ≤ b → M' b = M b) → Q (some (.int (iI (v : Int)))) x M') : yG x M 104 0 [.ref 0, .int (iI (s : Int)), .int (iI (n : Int))] [] Q := by
  obtain ⟨hx, hsd, hT, hM, hR, hL, hTm, hK0, hK⟩ := id hC
  obtain ⟨⟨ht56, ht256⟩, hok, hRk, ⟨hl14, hLk⟩, hTk, hKk⟩ := id hA
  obtain ⟨hp, hp33⟩ := CI_port hx
  obtain ⟨z1, z2, z3, z4, z5⟩ := aRok_len hok hRk
  have z6 : ∀ y ∈ R.2.2.2, y < 6 := fun y hy => by have := z3 y hy; have := hok.2.2.1; omega
  have hb1 := hok.1
  have hb2 := hok.2.1
  have hb3 := hok.2.2.1
  obtain ⟨q0, q1, q2, q3, q4, q5, q6, qc, j0, j1, j2, j3, j4, j5, j6, qlt⟩ := id hp
  obtain ⟨⟨n0, n1, n2, n3, n4, n5, n6⟩, v0, v1, v2, v3, v4, v5, v6⟩ := id hM
  obtain ⟨g, s0, eg, es, hgl, hsl⟩ := aRok_run hRk hrun
  rw [eg] at hQ
  have hRn : aRok P ((g : Int), (s : Int), n, []) := aNew_ok hok hgl hs hn
  refine y_al0 c_104_0 ?_
  refine y_gr 36 c_104_1 rfl (by omega) ?_
  refine y_al0 c_104_4 ?_
  refine y_gp c_104_5 rfl ?_
  refine y_al0 c_104_8 ?_
  refine y_gr 33 c_104_9 rfl (by omega) ?_
  refine y_gi (j := 0) (z := (g : Int)) c_104_12 rfl rfl (hR.1.trans eg) (fun r_12 => ?_)
  refine y_il1 c_104_15 ?_
  refine k_42 c_104_16 rfl rfl (Nat.le_of_ble_eq_true rfl) ?_
  refine s_42 wrunS_36 hp hM hok hgl hs (fun b h1 h2 => by omega) (fun M1 hR1 hf1 => ?_)
  have hM1 := wport_of hM (fun b h1 h2 => hf1 b (by omega))
  refine y_al0 c_104_19 ?_
  refine y_gr 36 c_104_20 rfl (by omega) ?_
  refine y_il2 c_104_23 ?_
  refine y_pi (j := 2) c_104_24 rfl rfl rfl (by omega) ?_
  have hM1' : wport (wup M1 36 2 (n : Int)) x.2.1 P := wport_of hM1 (fun b h1 h2 => wup_f _ _ _ (by omega))
  have hR1' : wrun (wup M1 36 2 (n : Int)) 36 ((g : Int), (s : Int), n, []) := by
    obtain ⟨b0, b1, b2, b3, b4⟩ := hR1
    exact ⟨by rw [wup_k _ _ (by decide)]; exact b0, by rw [wup_k _ _ (by decide)]; exact b1, wup_s _ _ _ _, by rw [wup_a _ _ _ _ (by decide)]; exact b3, fun i hi => by simp at hi⟩
  refine y_al0 c_104_27 ?_
  refine y_gr 93 c_104_28 rfl (by omega) ?_
  refine y_al0 c_104_31 ?_
  refine y_gp c_104_32 rfl ?_
  refine y_al0 c_104_35 ?_
  refine y_gr 36 c_104_36 rfl (by omega) ?_
  refine k_7 c_104_39 rfl rfl (Nat.le_of_ble_eq_true rfl) ?_
  refine s_7 wrunS_36 hR1' hp hM1' hok hRn (by omega) (by omega) (fun M2 hT2 hf2 => ?_)
  have hM2 := wport_of hM1' (fun b h1 h2 => hf2 b (by omega) (by omega))
  refine y_al0 c_104_42 ?_
  refine y_gr 93 c_104_43 rfl (by omega) ?_
  refine y_al0 c_104_46 ?_
  refine y_gp c_104_47 rfl ?_
  refine k_10 c_104_50 rfl rfl (Nat.le_of_ble_eq_true rfl) ?_
  refine s_10 hp hM2 hok hRn hT2 (by omega) (fun M3 hno hf3 => ?_) (fun M3 w c f hb h3 h5 hf3 => ?_)
  · refine y_iz_eq c_104_53 (by decide) (fun _ => ?_) (fun h => absurd rfl h)
    have hf : ∀ b, b ≠ 93 → b ≠ 94 → b ≠ 95 → (b < 36 ∨ 38 < b) → M3 b = M b := fun b h3 h4 h5 h6 => by rw [hf3 b h3, hf2 b h4 h5, wup_f _ _ _ (by omega), hf1 b h6]
    have hC3 : CI x M3 T P R L Tm sd K := CI_of hC (fun b hb => hf b (by unfold wown at hb; omega) (by unfold wown at hb; omega) (by unfold wown at hb; omega) (by unfold wown at hb; omega))
    have hF3 : ∀ b, 106 ≤ b → M3 b = M b := fun b hb => hf b (by omega) (by omega) (by omega) (by omega)
    refine y_ic c_104_66 ?_
    refine y_ret c_104_67 rfl ?_
    exact hQ 0 _ (by decide) (Or.inr ⟨hno, rfl⟩) hC3 hF3
  · refine y_iz_eq c_104_53 (by decide) (fun h => absurd h (by decide)) (fun _ => ?_)
    have hf : ∀ b, b ≠ 93 → b ≠ 94 → b ≠ 95 → (b < 36 ∨ 38 < b) → M3 b = M b := fun b h3 h4 h5 h6 => by rw [hf3 b h3, hf2 b h4 h5, wup_f _ _ _ (by omega), hf1 b h6]
    have hC3 : CI x M3 T P R L Tm sd K := CI_of hC (fun b hb => hf b (by unfold wown at hb; omega) (by unfold wown at hb; omega) (by unfold wown at hb; omega) (by unfold wown at hb; omega))
    have hF3 : ∀ b, 106 ≤ b → M3 b = M b := fun b hb => hf b (by omega) (by omega) (by omega) (by omega)
    refine y_al0 c_104_56 ?_
    refine y_gr 93 c_104_57 rfl (by omega) ?_
    refine y_gi (j := 3) (z := (w : Int)) c_104_60 rfl rfl h3 (fun r_60 => ?_)
    refine y_goto c_104_63 ?_
    refine y_ret c_104_67 rfl ?_
    exact hQ w _ (by omega) (aBestW_max hb) hC3 hF3
theorem s_106 {own oth a b : Int} (h1 : wR own) (h2 : wR oth) (hQ : Q (some (.int (iI (aGn own oth a b)))) x M) : yG x M 106 0 [.int (iI own), .int (iI oth), .int (iI a), .int (iI b)] [] Q := by
  unfold aGn at hQ
  refine y_il0 c_106_0 ?_
  refine y_iz_ne c_106_1 (by omega) (fun h_1 => ?_) (fun h_1 => ?_)
  · rw [if_neg h_1] at hQ
    refine y_il1 c_106_6 ?_
    refine y_iz_ne c_106_7 (by omega) (fun h_7 => ?_) (fun h_7 => ?_)
    · rw [if_neg h_7] at hQ
      refine y_il3 c_106_14 ?_
      refine y_ret c_106_15 rfl ?_
      exact hQ
    · rw [if_pos h_7] at hQ
      refine y_il2 c_106_10 ?_
      refine y_goto c_106_11 ?_
      refine y_ret c_106_15 rfl ?_
      exact hQ
  · rw [if_pos h_1] at hQ
    refine y_ic c_106_4 ?_
    refine y_ret c_106_5 rfl ?_
    exact hQ
theorem s_105 {own oth a b : Int} (h1 : own = 0 ∨ own = 1) (h2 : wR oth) (h3 : wR a) (h4 : wR b) (hQ : Q (some (.int (iI (if aGn (1 - own) oth a b ≤ aGn own oth a b then 1 else 0)))) x M) : yG x M 105 0 [.int (iI own), .int (iI oth), .int (iI a), .int (iI b)] [] Q := by
  have hg : ∀ o, wR (aGn o oth a b) := fun o => by unfold aGn; split <;> (try split) <;> first | assumption | decide
  have hg1 := hg own
  have hg2 := hg (1 - own)
  refine y_il0 c_105_0 ?_
  refine y_il1 c_105_1 ?_
  refine y_il2 c_105_2 ?_
  refine y_il3 c_105_3 ?_
  refine k_106 c_105_4 rfl (Nat.le_of_ble_eq_true rfl) ?_
  refine s_106 (by omega) h2 ?_
  refine y_ic c_105_7 ?_
  refine y_il0 c_105_8 ?_
  refine y_sub c_105_9 ?_
  refine y_il1 c_105_10 ?_
  refine y_il2 c_105_11 ?_
  refine y_il3 c_105_12 ?_
  refine k_106 c_105_13 rfl (Nat.le_of_ble_eq_true rfl) ?_
  refine s_106 (by omega) h2 ?_
  refine y_ic_lt c_105_16 (by omega) (by omega) (fun h_16 => ?_) (fun h_16 => ?_)
  · rw [if_neg (by omega)] at hQ
    refine y_ic c_105_23 ?_
    refine y_zret c_105_24 rfl (by omega) ?_
    exact hQ
  · rw [if_pos (by omega)] at hQ
    refine y_ic c_105_19 ?_
    refine y_goto c_105_20 ?_
    refine y_zret c_105_24 rfl (by omega) ?_
    exact hQ
theorem s_103 {s o z : Int} (hC : CI x M T P R L Tm sd K) (hA : AOK T P R L Tm K) (hs : wR s) (ho : wR o) (hz : wR z) (hQ : ∀ r M', aRestsV P R s o z r → CI x M' T P R L Tm sd K → (∀ b, 106 ≤ b → M' b = M b) → Q (some (.int (iI r))) x M') : yG x M 103 0 [.ref 0, .int (iI s), .int (iI o), .int (iI z), zU, zU, zU, zU, zU, zU, zU, zU] [] Q := by
  obtain ⟨hx, hsd, hT, hM, hR, hL, hTm, hK0, hK⟩ := id hC
  obtain ⟨⟨ht56, ht256⟩, hok, hRk, ⟨hl14, hLk⟩, hTk, hKk⟩ := id hA
  obtain ⟨hp, hp33⟩ := CI_port hx
  obtain ⟨z1, z2, z3, z4, z5⟩ := aRok_len hok hRk
  have z6 : ∀ y ∈ R.2.2.2, y < 6 := fun y hy => by have := z3 y hy; have := hok.2.2.1; omega
  have hb1 := hok.1
  have hb2 := hok.2.1
  have hb3 := hok.2.2.1
  obtain ⟨q0, q1, q2, q3, q4, q5, q6, qc, j0, j1, j2, j3, j4, j5, j6, qlt⟩ := id hp
  obtain ⟨⟨n0, n1, n2, n3, n4, n5, n6⟩, v0, v1, v2, v3, v4, v5, v6⟩ := id hM
  have step : ∀ (v1 v2 w1 w2 : Nat) (M1 : wM), v1 < 2147483648 → v2 < 2147483648 → w1 < 2147483648 → w2 < 2147483648 → ∀ (a b : Int) (t : Int × Int), a = 0 ∨ a = 1 → b = 0 ∨ b = 1 → wR t.1 → wR t.2 → yG x M1 103 192 [.ref 0, .int (iI (s : Int)), .int (iI (o : Int)), .int (iI z), .int (iI (v1 : Int)), .int (iI (v2 : Int)), .int (iI (w1 : Int)), .int (iI (w2 : Int)), .int (iI (aSt4 (aOk4 v1 v2 w1 w2) a b t).1), .int (iI (aSt4 (aOk4 v1 v2 w1 w2) a b t).2), .int (iI a), .int (iI b)] [] Q → yG x M1 103 139 [.ref 0, .int (iI (s : Int)), .int (iI (o : Int)), .int (iI z), .int (iI (v1 : Int)), .int (iI (v2 : Int)), .int (iI (w1 : Int)), .int (iI (w2 : Int)), .int (iI t.1), .int (iI t.2), .int (iI a), .int (iI b)] [] Q := by
    intro v1 v2 w1 w2 M1 hv1 hv2 hw1 hw2 a b t ha hb ht1 ht2 hk
    unfold aSt4 aOk4 at hk
    refine y_il10 c_103_139 ?_
    refine y_il11 c_103_141 ?_
    refine y_il4 c_103_143 ?_
    refine y_il5 c_103_145 ?_
    refine k_105 c_103_147 rfl (Nat.le_of_ble_eq_true rfl) ?_
    refine s_105 ha (by omega) (by omega) (by omega) ?_
    refine y_pz_eq c_103_150 (fun h1 => ?_) (fun h1 => ?_)
    · simp only [decide_eq_false h1, Bool.false_and, Bool.false_eq_true, if_false, false_and, Int.add_zero] at hk
      exact hk
    · refine y_il11 c_103_153 ?_
      refine y_il10 c_103_155 ?_
      refine y_il6 c_103_157 ?_
      refine y_il7 c_103_159 ?_
      refine k_105 c_103_161 rfl (Nat.le_of_ble_eq_true rfl) ?_
      refine s_105 hb (by omega) (by omega) (by omega) ?_
      refine y_pz_eq c_103_164 (fun h2 => ?_) (fun h2 => ?_)
      · simp only [decide_eq_false h2, Bool.and_false, Bool.false_eq_true, if_false, false_and, Int.add_zero] at hk
        exact hk
      · simp only [decide_eq_true h1, decide_eq_true h2, Bool.and_self, if_true, true_and] at hk
        refine y_inc8 c_103_167 rfl ?_
        refine y_il9 c_103_170 ?_
        refine y_bi c_103_172 (by decide) ?_
        refine y_ic_ne c_103_174 (by omega) (by omega) (fun h3 => ?_) (fun h3 => ?_)
        · rw [if_neg h3] at hk
          refine y_il9 c_103_188 ?_
          refine y_is9 c_103_190 rfl ?_
          exact hk
        · rw [if_pos h3] at hk
          refine y_bi c_103_177 (by decide) ?_
          refine y_il10 c_103_179 ?_
          refine y_mul c_103_181 ?_
          refine y_il11 c_103_182 ?_
          refine y_add c_103_184 ?_
          refine y_goto c_103_185 ?_
          refine y_is9 c_103_190 rfl ?_
          exact hk
  refine y_al0 c_103_0 ?_
  refine y_gp c_103_1 rfl ?_
  refine y_il1 c_103_4 ?_
  refine k_25 c_103_5 rfl qc (Nat.le_of_ble_eq_true rfl) ?_
  refine s_25 hp hs ?_
  rw [n2]
  refine y_pz_eq c_103_8 (fun h1 => ?_) (fun h1 => ?_)
  · refine y_ic c_103_22 ?_
    refine y_ret c_103_23 rfl ?_
    exact hQ _ _ (Or.inl ⟨by omega, rfl⟩) hC (fun b hb => rfl)
  · refine y_al0 c_103_11 ?_
    refine y_gp c_103_12 rfl ?_
    refine y_il2 c_103_15 ?_
    refine k_25 c_103_16 rfl qc (Nat.le_of_ble_eq_true rfl) ?_
    refine s_25 hp ho ?_
    rw [n2]
    refine y_pz_ne c_103_19 (fun h2 => ?_) (fun h2 => ?_)
    · refine y_il1 c_103_24 ?_
      refine y_il2 c_103_25 ?_
      refine y_ic_eq c_103_26 (by omega) (by omega) (fun h_26 => ?_) (fun h_26 => ?_)
      · refine y_bi c_103_38 (by decide) ?_
        refine y_ret c_103_40 rfl ?_
        exact hQ _ _ (Or.inr (Or.inl ⟨⟨h1, h2⟩, by omega, rfl⟩)) hC (fun b hb => rfl)
      · refine y_il3 c_103_29 ?_
        refine y_iz_lt c_103_30 (by omega) (fun h_30 => ?_) (fun h_30 => ?_)
        · refine y_bi c_103_38 (by decide) ?_
          refine y_ret c_103_40 rfl ?_
          exact hQ _ _ (Or.inr (Or.inl ⟨⟨h1, h2⟩, by omega, rfl⟩)) hC (fun b hb => rfl)
        · refine y_il3 c_103_33 ?_
          refine y_ic c_103_34 ?_
          refine y_ic_le c_103_35 (by omega) (by omega) (fun h_35 => ?_) (fun h_35 => ?_)
          · refine y_al0 c_103_41 ?_
            refine y_gr 33 c_103_42 rfl (by omega) ?_
            refine k_44 c_103_45 rfl rfl (Nat.le_of_ble_eq_true rfl) ?_
            refine s_44 wrunS_33 ?_
            rw [hR.1]
            have hne : ¬ (s = o ∨ ¬ (0 ≤ z ∧ z ≤ 1)) := by omega
            by_cases hrun : R.1 = -9
            · rw [if_pos hrun]
              refine y_iz_ne c_103_48 (by decide) (fun h => absurd rfl h) (fun _ => ?_)
              refine y_bi c_103_51 (by decide) ?_
              refine y_ret c_103_53 rfl ?_
              exact hQ _ _ (Or.inr (Or.inr (Or.inl ⟨⟨h1, h2⟩, hne, hrun, rfl⟩))) hC (fun b hb => rfl)
            rw [if_neg hrun]
            refine y_iz_ne c_103_48 (by decide) (fun _ => ?_) (fun h => absurd h (by decide))
            obtain ⟨s, rfl⟩ : ∃ n : Nat, s = n := ⟨s.toNat, by omega⟩
            obtain ⟨o, rfl⟩ : ∃ n : Nat, o = n := ⟨o.toNat, by omega⟩
            refine y_al0 c_103_54 ?_
            refine y_il1 c_103_55 ?_
            refine y_al0 c_103_56 ?_
            refine y_gr 33 c_103_57 rfl (by omega) ?_
            refine y_gi (j := 2) (z := (R.2.2.1 : Int)) c_103_60 rfl rfl hR.2.2.1 (fun r_60 => ?_)
            refine k_104 c_103_63 rfl rfl (Nat.le_of_ble_eq_true rfl) ?_
            refine s_104 hC hA (by omega) (by omega) hrun (fun v1 M1 hv1 hm1 hC1 hF1 => ?_)
            refine y_is4 c_103_66 rfl ?_
            refine y_al0 c_103_68 ?_
            refine y_il1 c_103_69 ?_
            refine y_al0 c_103_70 ?_
            refine y_gr 33 c_103_71 rfl (by omega) ?_
            refine y_gi (j := 2) (z := (R.2.2.1 : Int)) c_103_74 rfl rfl hC1.2.2.2.2.1.2.2.1 (fun r_74 => ?_)
            refine y_ic c_103_77 ?_
            refine y_div c_103_78 (by omega) (by omega) (by omega) (by omega) ?_
            rw [show ((R.2.2.1 : Int) / 2) = ((R.2.2.1 / 2 : Nat) : Int) by omega]
            refine k_104 c_103_79 rfl rfl (Nat.le_of_ble_eq_true rfl) ?_
            refine s_104 hC1 hA (by omega) (by omega) hrun (fun v2 M2 hv2 hm2 hC2 hF2 => ?_)
            refine y_is5 c_103_82 rfl ?_
            refine y_al0 c_103_84 ?_
            refine y_il2 c_103_85 ?_
            refine y_al0 c_103_86 ?_
            refine y_gr 33 c_103_87 rfl (by omega) ?_
            refine y_gi (j := 2) (z := (R.2.2.1 : Int)) c_103_90 rfl rfl hC2.2.2.2.2.1.2.2.1 (fun r_90 => ?_)
            refine k_104 c_103_93 rfl rfl (Nat.le_of_ble_eq_true rfl) ?_
            refine s_104 hC2 hA (by omega) (by omega) hrun (fun w1 M3 hw1 hm3 hC3 hF3 => ?_)
            refine y_is6 c_103_96 rfl ?_
            refine y_al0 c_103_98 ?_
            refine y_il2 c_103_99 ?_
            refine y_al0 c_103_100 ?_
            refine y_gr 33 c_103_101 rfl (by omega) ?_
            refine y_gi (j := 2) (z := (R.2.2.1 : Int)) c_103_104 rfl rfl hC3.2.2.2.2.1.2.2.1 (fun r_104 => ?_)
            refine y_ic c_103_107 ?_
            refine y_div c_103_108 (by omega) (by omega) (by omega) (by omega) ?_
            rw [show ((R.2.2.1 : Int) / 2) = ((R.2.2.1 / 2 : Nat) : Int) by omega]
            refine k_104 c_103_109 rfl rfl (Nat.le_of_ble_eq_true rfl) ?_
            refine s_104 hC3 hA (by omega) (by omega) hrun (fun w2 M4 hw2 hm4 hC4 hF4 => ?_)
            refine y_is7 c_103_112 rfl ?_
            refine y_ic c_103_114 ?_
            refine y_is8 c_103_115 rfl ?_
            refine y_bi c_103_117 (by decide) ?_
            refine y_is9 c_103_119 rfl ?_
            refine y_ic c_103_121 ?_
            refine y_is10 c_103_122 rfl ?_
            obtain ⟨ok, hok4⟩ : ∃ ok, ok = aOk4 (v1 : Int) v2 w1 w2 := ⟨_, rfl⟩
            have hfin : ∀ r, r = (if z = 0 then (aAll4 ok).1 else (aAll4 ok).2) → Q (some (.int (iI r))) x M4 := fun r hr => hQ r M4 (Or.inr (Or.inr (Or.inr ⟨⟨h1, h2⟩, hne, hrun, v1, v2, w1, w2, hm1, hm2, hm3, hm4, by rw [hr, hok4]⟩))) hC4 (fun b hb => by rw [hF4 b hb, hF3 b hb, hF2 b hb, hF1 b hb])
            have b1 := aSt4_b ok 0 0 (by omega) (by omega) (0, -9) 0 (by simp)
            have b2 := aSt4_b ok 0 1 (by omega) (by omega) _ 1 b1
            have b3 := aSt4_b ok 1 0 (by omega) (by omega) _ 2 b2
            have b4 := aSt4_b ok 1 1 (by omega) (by omega) _ 3 b3
            have hstep := step v1 v2 w1 w2 M4 hv1 hv2 hw1 hw2
            rw [← hok4] at hstep
            refine y_il10 c_103_124 ?_
            refine y_ic c_103_126 ?_
            refine y_ic_gt c_103_127 (by omega) (by omega) (fun h_127 => absurd h_127 (by decide)) (fun h_127 => ?_)
            refine y_ic c_103_130 ?_
            refine y_is11 c_103_131 rfl ?_
            refine y_il11 c_103_133 ?_
            refine y_ic c_103_135 ?_
            refine y_ic_gt c_103_136 (by omega) (by omega) (fun h_136 => absurd h_136 (by decide)) (fun h_136 => ?_)
            refine hstep 0 0 (0, -9) (by omega) (by omega) (by decide) (by decide) ?_
            have hall : aAll4 ok = aSt4 ok 1 1 (aSt4 ok 1 0 (aSt4 ok 0 1 (aSt4 ok 0 0 (0, -9)))) := rfl
            generalize hg1 : aSt4 ok 0 0 (0, -9) = t1 at *
            refine y_inc11 c_103_192 rfl ?_
            refine y_goto c_103_195 ?_
            refine y_il11 c_103_133 ?_
            refine y_ic c_103_135 ?_
            refine y_ic_gt c_103_136 (by omega) (by omega) (fun h_136 => absurd h_136 (by decide)) (fun h_136 => ?_)
            refine hstep 0 1 t1 (by omega) (by omega) (by omega) (by omega) ?_
            generalize hg2 : aSt4 ok 0 1 t1 = t2 at *
            refine y_inc11 c_103_192 rfl ?_
            refine y_goto c_103_195 ?_
            refine y_il11 c_103_133 ?_
            refine y_ic c_103_135 ?_
            refine y_ic_gt c_103_136 (by omega) (by omega) (fun h_136 => ?_) (fun h_136 => absurd h_136 (by decide))
            refine y_inc10 c_103_198 rfl ?_
            refine y_goto c_103_201 ?_
            refine y_il10 c_103_124 ?_
            refine y_ic c_103_126 ?_
            refine y_ic_gt c_103_127 (by omega) (by omega) (fun h_127 => absurd h_127 (by decide)) (fun h_127 => ?_)
            refine y_ic c_103_130 ?_
            refine y_is11 c_103_131 rfl ?_
            refine y_il11 c_103_133 ?_
            refine y_ic c_103_135 ?_
            refine y_ic_gt c_103_136 (by omega) (by omega) (fun h_136 => absurd h_136 (by decide)) (fun h_136 => ?_)
            refine hstep 1 0 t2 (by omega) (by omega) (by omega) (by omega) ?_
            generalize hg3 : aSt4 ok 1 0 t2 = t3 at *
            refine y_inc11 c_103_192 rfl ?_
            refine y_goto c_103_195 ?_
            refine y_il11 c_103_133 ?_
            refine y_ic c_103_135 ?_
            refine y_ic_gt c_103_136 (by omega) (by omega) (fun h_136 => absurd h_136 (by decide)) (fun h_136 => ?_)
            refine hstep 1 1 t3 (by omega) (by omega) (by omega) (by omega) ?_
            generalize hg4 : aSt4 ok 1 1 t3 = t4 at *
            refine y_inc11 c_103_192 rfl ?_
            refine y_goto c_103_195 ?_
            refine y_il11 c_103_133 ?_
            refine y_ic c_103_135 ?_
            refine y_ic_gt c_103_136 (by omega) (by omega) (fun h_136 => ?_) (fun h_136 => absurd h_136 (by decide))
            refine y_inc10 c_103_198 rfl ?_
            refine y_goto c_103_201 ?_
            refine y_il10 c_103_124 ?_
            refine y_ic c_103_126 ?_
            refine y_ic_gt c_103_127 (by omega) (by omega) (fun h_127 => ?_) (fun h_127 => absurd h_127 (by decide))
            refine y_il3 c_103_204 ?_
            refine y_iz_ne c_103_205 (by omega) (fun h_205 => ?_) (fun h_205 => ?_)
            · refine y_il9 c_103_213 ?_
              refine y_ret c_103_215 rfl ?_
              first
                | exact hfin _ (by rw [if_pos (by assumption), hall])
                | exact hfin _ (by rw [if_neg (by assumption), hall])
            · refine y_il8 c_103_208 ?_
              refine y_goto c_103_210 ?_
              refine y_ret c_103_215 rfl ?_
              first
                | exact hfin _ (by rw [if_pos (by assumption), hall])
                | exact hfin _ (by rw [if_neg (by assumption), hall])
          · refine y_bi c_103_38 (by decide) ?_
            refine y_ret c_103_40 rfl ?_
            exact hQ _ _ (Or.inr (Or.inl ⟨⟨h1, h2⟩, by omega, rfl⟩)) hC (fun b hb => rfl)
    · refine y_ic c_103_22 ?_
      refine y_ret c_103_23 rfl ?_
      exact hQ _ _ (Or.inl ⟨by omega, rfl⟩) hC (fun b hb => rfl)
end S17
