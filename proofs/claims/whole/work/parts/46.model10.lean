/-! ===== the model: declarations ===== -/
theorem aFw_V {P : aP} {R : aR} {F : aF5} {z : Int} (h : aFw P R 63 (fun _ => True) F) (hz : z = 0 ∨ z = 1) : aWarmV P R z (if z = 0 then F.1 else F.2.2.1) := by
  rcases h with ⟨a, b, c⟩ | ⟨q, -, hd, a, b, c, e⟩
  · refine Or.inr ⟨fun q => c q trivial, ?_⟩
    split <;> assumption
  · refine Or.inl ⟨aWarm P q, aS P R q, aFig q, ⟨⟨q, hd, rfl, rfl, rfl⟩, fun q' hd' => e q' trivial hd'⟩, ?_⟩
    split <;> omega
theorem aFs_V {P : aP} {R : aR} {F : aF5} {z : Int} (h : aFs P R 63 (fun _ => True) F) (hz : z = 0 ∨ z = 1) : aShortV P R z (if z = 0 then F.2.2.2.1 else F.2.2.2.2) := by
  rcases h with ⟨a, b, c⟩ | ⟨q, -, hd, a, b, e⟩
  · refine Or.inr ⟨fun q => c q trivial, ?_⟩
    split <;> assumption
  · refine Or.inl ⟨aS P R q, aFig q, ⟨⟨q, hd, rfl, rfl⟩, fun q' hd' => e q' trivial hd'⟩, ?_⟩
    split <;> omega
theorem aFw_C {P : aP} {R : aR} {m : Nat} {F : aF5} (h : aFw P R m (fun _ => True) F) : (F.1 = -9 ∧ ∀ q, ¬ aDec P R m q) ∨ (0 ≤ F.1 ∧ ∃ q, aDec P R m q) := by
  rcases h with ⟨a, b, c⟩ | ⟨q, -, hd, a, -⟩
  · exact Or.inl ⟨a, fun q => c q trivial⟩
  · exact Or.inr ⟨by omega, q, hd⟩
theorem MI_fr4 {x : wC} {M M' : wM} {T : List Nat} {P : aP} {R : aR} {L : aA} {Tm : aT} {sd : Int64} {K : Nat → Option aR} (h : MI x M T P R L Tm sd K) (hf : mfr4 M M') : MI x M' T P R L Tm sd K :=
  MI_of h ⟨fun j hj => hf.2 j (by omega), fun b hb => hf.1 b (by omega) (by omega) (by omega) (by omega)⟩
section S34
variable {x : wC} {M : wM} {Q : Option Value → wC → wM → Prop} {T : List Nat} {P : aP} {R : aR} {L : aA} {Tm : aT} {sd : Int64} {K : Nat → Option aR}
theorem s_163 (hC : MI x M T P R L Tm sd K) (hA : AOK T P R L Tm K) (hQ : ∀ M' F, mfnd M' F → aFw P R 63 (fun _ => True) F → aFs P R 63 (fun _ => True) F → MI x M' T P R L Tm sd K → (∀ b, b < 106 → M' b = M b) → Q none x M') : yG x M 163 0 [.ref 106] [] Q := by
  obtain ⟨⟨ht56, ht256⟩, hok, hRk, ⟨hl14, hLk⟩, hTk, hKk⟩ := id hA
  obtain ⟨z1, z2, z3, z4, z5⟩ := aRok_len hok hRk
  have z6 : ∀ y ∈ R.2.2.2, y < 6 := fun y hy => by have := z3 y hy; have := hok.2.2.1; omega
  have hb1 := hok.1
  have hb2 := hok.2.1
  have hb3 := hok.2.2.1
  refine y_al0 c_163_0 ?_
  refine k_160 c_163_1 rfl rfl (Nat.le_of_ble_eq_true rfl) ?_
  refine s_160 hC hA (fun M1 hR1 hf1 => ?_)
  refine y_al0 c_163_4 ?_
  refine y_bi c_163_5 (by decide) ?_
  refine y_pi (j := 30) c_163_7 rfl rfl rfl (by decide) ?_
  refine y_al0 c_163_10 ?_
  refine y_bi c_163_11 (by decide) ?_
  refine y_pi (j := 32) c_163_13 rfl rfl rfl (by decide) ?_
  refine y_al0 c_163_16 ?_
  refine y_bi c_163_17 (by decide) ?_
  refine y_pi (j := 33) c_163_19 rfl rfl rfl (by decide) ?_
  refine y_al0 c_163_22 ?_
  refine y_bi c_163_23 (by decide) ?_
  refine y_pi (j := 34) c_163_25 rfl rfl rfl (by decide) ?_
  obtain ⟨M2, hM2e⟩ : ∃ M2 : wM, M2 = wup (wup (wup (wup M1 106 30 (-9)) 106 32 (-9)) 106 33 (-9)) 106 34 (-9) := ⟨_, rfl⟩
  rw [← hM2e]
  have hf20 : ∀ b, b ≠ 106 → M2 b = M1 b := fun b hb => by rw [hM2e, wup_f _ _ _ hb, wup_f _ _ _ hb, wup_f _ _ _ hb, wup_f _ _ _ hb]
  have hf2 : ∀ b, b ≠ 106 → b ≠ 115 → M2 b = M b := fun b hb h5 => by rw [hf20 b hb, hf1 b h5]
  have hj2 : ∀ j : Int, (j < 30 ∨ 34 < j) → M2 106 j = M 106 j := fun j hj => by
    rw [hM2e, wup_k _ _ (by omega), wup_k _ _ (by omega), wup_k _ _ (by omega), wup_k _ _ (by omega), hf1 106 (by omega)]
  have hR2 : wpage M2 115 R := wpage_of hR1 (hf20 115 (by omega))
  have hC2 : MI x M2 T P R L Tm sd K := MI_of hC ⟨fun j hj => hj2 j (by omega), fun b hb => hf2 b (by omega) (by omega)⟩
  have hF0 : mfnd M2 (-9, M2 106 31, -9, -9, -9) := by
    unfold mfnd
    simp [hM2e, wup]
  refine y_al0 c_163_28 ?_
  refine y_gr 114 c_163_29 rfl (by omega) ?_
  refine y_ic c_163_32 ?_
  refine y_ald (n := 10) (u := R.1) c_163_33 rfl (by omega) (by omega) (by omega) hC2.2.2.2.1.1 (fun r_33 => ?_)
  refine y_bi c_163_34 (by decide) ?_
  refine y_ic_eq c_163_36 (by omega) (by omega) (fun h0 => ?_) (fun h0 => ?_)
  · refine y_vret c_163_45 rfl ?_
    exact hQ M2 _ hF0 (Or.inl ⟨rfl, rfl, fun q _ hd => hd.1.1 h0⟩) (Or.inl ⟨rfl, rfl, fun q _ hd => hd.1.1 h0⟩) hC2 (fun b hb => hf2 b (by omega) (by omega))
  · refine y_al0 c_163_39 ?_
    refine y_bi c_163_40 (by decide) ?_
    refine k_162 c_163_42 rfl rfl (Nat.le_of_ble_eq_true rfl) ?_
    refine s_162 (by decide) hC2.2.2.1 hok hR2 hRk h0 (fun M3 F hF hFw hFs hf3 => ?_)
    refine y_vret c_163_45 rfl ?_
    exact hQ M3 F hF hFw hFs (MI_fr4 hC2 hf3) (fun b hb => by rw [hf3.1 b (by omega) (by omega) (by omega) (by omega), hf2 b (by omega) (by omega)])
theorem s_164 {z : Int} (hC : MI x M T P R L Tm sd K) (hA : AOK T P R L Tm K) (hz : z = 0 ∨ z = 1) (hQ : ∀ r M', aWarmV P R z r → MI x M' T P R L Tm sd K → (∀ b, b < 106 → M' b = M b) → Q (some (.int (iI r))) x M') : yG x M 164 0 [.ref 106, .int (iI z)] [] Q := by
  obtain ⟨⟨ht56, ht256⟩, hok, hRk, ⟨hl14, hLk⟩, hTk, hKk⟩ := id hA
  obtain ⟨z1, z2, z3, z4, z5⟩ := aRok_len hok hRk
  have z6 : ∀ y ∈ R.2.2.2, y < 6 := fun y hy => by have := z3 y hy; have := hok.2.2.1; omega
  have hb1 := hok.1
  have hb2 := hok.2.1
  have hb3 := hok.2.2.1
  refine y_al0 c_164_0 ?_
  refine y_ic c_164_1 ?_
  refine y_pi (j := 0) c_164_2 rfl rfl rfl (by decide) ?_
  have hC0 := MI_thr hC
  have hF0 : ∀ b, b < 106 → (wup M 106 0 0) b = M b := fun b hb => wup_f _ _ _ (by omega)
  generalize (wup M 106 0 0) = M0 at hC0 hF0 ⊢
  obtain ⟨hsd, hT, hM, hR, hL, hTm, hK⟩ := id hC0
  obtain ⟨m4, m6, m8, v1, v2, v3⟩ := id hM
  obtain ⟨a0, a1, a2, a3, a4⟩ := id hR
  refine y_al0 c_164_5 ?_
  refine k_163 c_164_6 rfl rfl (Nat.le_of_ble_eq_true rfl) ?_
  refine s_163 hC0 hA (fun M1 F hF hFw hFs hC1 hf1 => ?_)
  have hV := aFw_V hFw hz
  refine y_il1 c_164_9 ?_
  refine y_iz_eq c_164_10 (by omega) (fun h_10 => ?_) (fun h_10 => ?_)
  · subst h_10
    rw [if_pos rfl] at hV
    refine y_al0 c_164_20 ?_
    refine y_gi (j := 30) c_164_21 rfl rfl hF.1 (fun r_21 => ?_)
    refine y_ret c_164_24 rfl ?_
    exact hQ _ _ hV hC1 (fun b hb => by rw [hf1 b hb, hF0 b hb])
  · rw [if_neg h_10] at hV
    refine y_al0 c_164_13 ?_
    refine y_gi (j := 32) c_164_14 rfl rfl hF.2.2.1 (fun r_14 => ?_)
    refine y_goto c_164_17 ?_
    refine y_ret c_164_24 rfl ?_
    exact hQ _ _ hV hC1 (fun b hb => by rw [hf1 b hb, hF0 b hb])
theorem s_165 {z : Int} (hC : MI x M T P R L Tm sd K) (hA : AOK T P R L Tm K) (hz : z = 0 ∨ z = 1) (hQ : ∀ r M', aShortV P R z r → MI x M' T P R L Tm sd K → (∀ b, b < 106 → M' b = M b) → Q (some (.int (iI r))) x M') : yG x M 165 0 [.ref 106, .int (iI z)] [] Q := by
  obtain ⟨⟨ht56, ht256⟩, hok, hRk, ⟨hl14, hLk⟩, hTk, hKk⟩ := id hA
  obtain ⟨z1, z2, z3, z4, z5⟩ := aRok_len hok hRk
  have z6 : ∀ y ∈ R.2.2.2, y < 6 := fun y hy => by have := z3 y hy; have := hok.2.2.1; omega
  have hb1 := hok.1
  have hb2 := hok.2.1
  have hb3 := hok.2.2.1
  refine y_al0 c_165_0 ?_
  refine y_ic c_165_1 ?_
  refine y_pi (j := 0) c_165_2 rfl rfl rfl (by decide) ?_
  have hC0 := MI_thr hC
  have hF0 : ∀ b, b < 106 → (wup M 106 0 0) b = M b := fun b hb => wup_f _ _ _ (by omega)
  generalize (wup M 106 0 0) = M0 at hC0 hF0 ⊢
  obtain ⟨hsd, hT, hM, hR, hL, hTm, hK⟩ := id hC0
  obtain ⟨m4, m6, m8, v1, v2, v3⟩ := id hM
  obtain ⟨a0, a1, a2, a3, a4⟩ := id hR
  refine y_al0 c_165_5 ?_
  refine k_163 c_165_6 rfl rfl (Nat.le_of_ble_eq_true rfl) ?_
  refine s_163 hC0 hA (fun M1 F hF hFw hFs hC1 hf1 => ?_)
  have hV := aFs_V hFs hz
  refine y_il1 c_165_9 ?_
  refine y_iz_eq c_165_10 (by omega) (fun h_10 => ?_) (fun h_10 => ?_)
  · subst h_10
    rw [if_pos rfl] at hV
    refine y_al0 c_165_20 ?_
    refine y_gi (j := 33) c_165_21 rfl rfl hF.2.2.2.1 (fun r_21 => ?_)
    refine y_ret c_165_24 rfl ?_
    exact hQ _ _ hV hC1 (fun b hb => by rw [hf1 b hb, hF0 b hb])
  · rw [if_neg h_10] at hV
    refine y_al0 c_165_13 ?_
    refine y_gi (j := 34) c_165_14 rfl rfl hF.2.2.2.2 (fun r_14 => ?_)
    refine y_goto c_165_17 ?_
    refine y_ret c_165_24 rfl ?_
    exact hQ _ _ hV hC1 (fun b hb => by rw [hf1 b hb, hF0 b hb])
theorem s_166 {s g : Nat} (hC : MI x M T P R L Tm sd K) (hA : AOK T P R L Tm K) (hs : s < P.2.2.1) (hg : g < P.2.1) (hQ0 : ∀ M', ¬ aCanD P s g → mfr4 M M' → MI x M' T P R L Tm sd K → (∀ b, b < 106 → M' b = M b) → Q (some (.int (iI 0))) x M') (hQ1 : ∀ M', aCanD P s g → mfr4 M M' → MI x M' T P R L Tm sd K → (∀ b, b < 106 → M' b = M b) → Q (some (.int (iI 1))) x M') : yG x M 166 0 [.ref 106, .int (iI (s : Int)), .int (iI (g : Int))] [] Q := by
  obtain ⟨⟨ht56, ht256⟩, hok, hRk, ⟨hl14, hLk⟩, hTk, hKk⟩ := id hA
  obtain ⟨z1, z2, z3, z4, z5⟩ := aRok_len hok hRk
  have z6 : ∀ y ∈ R.2.2.2, y < 6 := fun y hy => by have := z3 y hy; have := hok.2.2.1; omega
  have hb1 := hok.1
  have hb2 := hok.2.1
  have hb3 := hok.2.2.1
  have hRn : aRok P ((g : Int), (s : Int), aGr P g, []) := aNew_ok hok hg hs (aGr_le hok hg)
  refine y_al0 c_166_0 ?_
  refine y_al0 c_166_1 ?_
  refine y_gr 115 c_166_2 rfl (by omega) ?_
  refine y_il2 c_166_5 ?_
  refine y_il1 c_166_6 ?_
  refine k_149 c_166_7 rfl rfl (Nat.le_of_ble_eq_true rfl) ?_
  refine s_149 rfl (by decide) hC.2.2.1 hok hg hs (fun M1 hR1 hf1 => ?_)
  refine y_al0 c_166_10 ?_
  refine y_bi c_166_11 (by decide) ?_
  refine k_162 c_166_13 rfl rfl (Nat.le_of_ble_eq_true rfl) ?_
  refine s_162 (by decide) (mport_pg (a := 115) (by decide) hC.2.2.1 hf1) hok hR1 hRn (by show (g : Int) ≠ -9; omega) (fun M2 F hF hFw hFs hf2 => ?_)
  have h43 : mfr4 M M2 := ⟨fun b p1 p2 p3 p4 => by rw [hf2.1 b p1 p2 p3 p4, hf1 b p2], fun j hj => by rw [hf2.2 j hj, hf1 106 (by omega)]⟩
  have hC3 : MI x M2 T P R L Tm sd K := MI_fr4 hC h43
  have hF3 : ∀ b, b < 106 → M2 b = M b := fun b hb => h43.1 b (by omega) (by omega) (by omega) (by omega)
  have hFc := aFw_C hFw
  refine y_al0 c_166_16 ?_
  refine y_gi (j := 30) (z := F.1) c_166_17 rfl rfl hF.1 (fun r_17 => ?_)
  refine y_bi c_166_20 (by decide) ?_
  refine y_ic_eq c_166_22 (by omega) (by omega) (fun h_22 => ?_) (fun h_22 => ?_)
  · refine y_ic c_166_29 ?_
    refine y_zret c_166_30 rfl (by decide) ?_
    first
      | exact hQ0 M2 (fun ⟨q, hq⟩ => (hFc.elim (fun h => h.2 q hq) (fun h => by omega))) h43 hC3 hF3
      | exact hQ1 M2 (hFc.elim (fun h => absurd h.1 h_22) (fun h => h.2)) h43 hC3 hF3
  · refine y_ic c_166_25 ?_
    refine y_goto c_166_26 ?_
    refine y_zret c_166_30 rfl (by decide) ?_
    first
      | exact hQ0 M2 (fun ⟨q, hq⟩ => (hFc.elim (fun h => h.2 q hq) (fun h => by omega))) h43 hC3 hF3
      | exact hQ1 M2 (hFc.elim (fun h => absurd h.1 h_22) (fun h => h.2)) h43 hC3 hF3
theorem s_167 {z : Int} (hC : MI x M T P R L Tm sd K) (hA : AOK T P R L Tm K) (hz : wR z) (hQ : ∀ r M', aCanV P z r → MI x M' T P R L Tm sd K → (∀ b, b < 106 → M' b = M b) → Q (some (.int (iI r))) x M') : yG x M 167 0 [.ref 106, .int (iI z), zU, zU] [] Q := by
  obtain ⟨⟨ht56, ht256⟩, hok, hRk, ⟨hl14, hLk⟩, hTk, hKk⟩ := id hA
  obtain ⟨z1, z2, z3, z4, z5⟩ := aRok_len hok hRk
  have z6 : ∀ y ∈ R.2.2.2, y < 6 := fun y hy => by have := z3 y hy; have := hok.2.2.1; omega
  have hb1 := hok.1
  have hb2 := hok.2.1
  have hb3 := hok.2.2.1
  have key : ∀ g : Nat, z = g → g < P.2.1 → ∀ d k : Nat, P.2.2.1 < k + d → k ≤ P.2.2.1 → ∀ (M1 : wM) (v : Nat), MI x M1 T P R L Tm sd K → (∀ b, b < 106 → M1 b = M b) → aBm (fun s => aCanD P s g) k v → yG x M1 167 19 [.ref 106, .int (iI (g : Int)), .int (iI (v : Int)), .int (iI (k : Int))] [] Q := by
    intro g hzg hgl d
    induction d with
    | zero => intro k g1 g2; omega
    | succ d ih =>
      intro k g1 g2 M1 v hC1 hF1 hv
      refine y_il3 c_167_19 ?_
      refine y_al0 c_167_20 ?_
      refine y_gi (j := 6) (z := (P.2.2.1 : Int)) c_167_21 rfl rfl hC1.2.2.1.2.1 (fun r_21 => ?_)
      refine y_ic_ge c_167_24 (by omega) (by omega) (fun h_24 => ?_) (fun h_24 => ?_)
      · have hk : k = P.2.2.1 := by omega
        subst hk
        refine y_il2 c_167_52 ?_
        refine y_ret c_167_53 rfl ?_
        exact hQ _ _ (Or.inr ⟨by omega, v, rfl, by rw [hzg, Int.toNat_natCast]; exact hv⟩) hC1 hF1
      · refine y_il2 c_167_27 ?_
        refine y_al0 c_167_28 ?_
        refine y_il3 c_167_29 ?_
        refine y_il1 c_167_30 ?_
        refine k_166 c_167_31 rfl rfl (Nat.le_of_ble_eq_true rfl) ?_
        refine s_166 hC1 hA (by omega) hgl (fun M2 hno _ hC2 hf2 => ?_) (fun M2 hyes _ hC2 hf2 => ?_)
        · refine y_iz_eq c_167_34 (by decide) (fun _ => ?_) (fun h => absurd rfl h)
          refine y_ic c_167_43 ?_
          refine y_ior (x1 := v) (x2 := 0) c_167_44 ?_
          rw [Nat.or_zero]
          refine y_is2 c_167_45 rfl ?_
          refine y_inc3 c_167_46 rfl ?_
          refine y_goto c_167_49 ?_
          exact ih (k + 1) (by omega) (by omega) M2 v hC2 (fun b hb => by rw [hf2 b hb, hF1 b hb]) (aBm_n hv hno)
        · refine y_iz_eq c_167_34 (by decide) (fun h => absurd h (by decide)) (fun _ => ?_)
          have hp2 := Nat.pow_le_pow_right (show 0 < 2 by omega) (show k ≤ 5 by omega)
          refine y_ic c_167_37 ?_
          refine y_il3 c_167_38 ?_
          refine y_shl (x1 := 1) (x2 := k) c_167_39 (by omega) (by omega) ?_
          refine y_goto c_167_40 ?_
          rw [Nat.one_mul]
          refine y_ior (x1 := v) (x2 := 2 ^ k) c_167_44 ?_
          refine y_is2 c_167_45 rfl ?_
          refine y_inc3 c_167_46 rfl ?_
          refine y_goto c_167_49 ?_
          exact ih (k + 1) (by omega) (by omega) M2 _ hC2 (fun b hb => by rw [hf2 b hb, hF1 b hb]) (aBm_y hv hyes)
  refine y_al0 c_167_0 ?_
  refine y_ic c_167_1 ?_
  refine y_pi (j := 0) c_167_2 rfl rfl rfl (by decide) ?_
  have hC0 := MI_thr hC
  have hF0 : ∀ b, b < 106 → (wup M 106 0 0) b = M b := fun b hb => wup_f _ _ _ (by omega)
  generalize (wup M 106 0 0) = M0 at hC0 hF0 ⊢
  obtain ⟨hsd, hT, hM, hR, hL, hTm, hK⟩ := id hC0
  obtain ⟨m4, m6, m8, v1, v2, v3⟩ := id hM
  obtain ⟨a0, a1, a2, a3, a4⟩ := id hR
  refine y_al0 c_167_5 ?_
  refine y_il1 c_167_6 ?_
  refine k_121 c_167_7 rfl rfl (Nat.le_of_ble_eq_true rfl) ?_
  refine s_121 hM hok hz ?_
  refine y_pz_eq c_167_10 (fun h1 => ?_) (fun h1 => ?_)
  · obtain ⟨g, rfl⟩ : ∃ i : Nat, z = i := ⟨z.toNat, by omega⟩
    refine y_ic c_167_15 ?_
    refine y_is2 c_167_16 rfl ?_
    refine y_ic c_167_17 ?_
    refine y_is3 c_167_18 rfl ?_
    exact key g rfl (by omega) (P.2.2.1 + 1) 0 (by omega) (by omega) M0 0 hC0 hF0 (aBm_0 _)
  · refine y_ic c_167_13 ?_
    refine y_ret c_167_14 rfl ?_
    exact hQ _ _ (Or.inl ⟨h1, rfl⟩) hC0 hF0
theorem s_168 {z : Int} (hC : MI x M T P R L Tm sd K) (hA : AOK T P R L Tm K) (hz : wR z) (hQ : ∀ r M', aDoesV P z r → MI x M' T P R L Tm sd K → (∀ b, b < 106 → M' b = M b) → Q (some (.int (iI r))) x M') : yG x M 168 0 [.ref 106, .int (iI z), zU, zU, zU] [] Q := by
  obtain ⟨⟨ht56, ht256⟩, hok, hRk, ⟨hl14, hLk⟩, hTk, hKk⟩ := id hA
  obtain ⟨z1, z2, z3, z4, z5⟩ := aRok_len hok hRk
  have z6 : ∀ y ∈ R.2.2.2, y < 6 := fun y hy => by have := z3 y hy; have := hok.2.2.1; omega
  have hb1 := hok.1
  have hb2 := hok.2.1
  have hb3 := hok.2.2.1
  have key : ∀ s : Nat, z = s → s < P.2.2.1 → ∀ d k : Nat, P.2.1 < k + d → k ≤ P.2.1 → ∀ (M1 : wM) (r : Int) (w4 : Value), MI x M1 T P R L Tm sd K → (∀ b, b < 106 → M1 b = M b) → aDs P s k r → yG x M1 168 20 [.ref 106, .int (iI (s : Int)), .int (iI r), .int (iI (k : Int)), w4] [] Q := by
    intro s hzs hsl d
    induction d with
    | zero => intro k g1 g2; omega
    | succ d ih =>
      intro k g1 g2 M1 r w4 hC1 hF1 hr
      have hrr : r = -9 ∨ ∃ g : Nat, r = g ∧ g < k := by
        rcases hr with ⟨h, -⟩ | ⟨g, h, h2, -⟩
        · exact Or.inl h
        · exact Or.inr ⟨g, h, h2⟩
      obtain ⟨e1, e2, e3⟩ := aDs_s hr
      refine y_il3 c_168_20 ?_
      refine y_al0 c_168_21 ?_
      refine y_gi (j := 4) (z := (P.2.1 : Int)) c_168_22 rfl rfl hC1.2.2.1.1 (fun r_22 => ?_)
      refine y_ic_ge c_168_25 (by omega) (by omega) (fun h_25 => ?_) (fun h_25 => ?_)
      · have hk : k = P.2.1 := by omega
        subst hk
        refine y_il2 c_168_80 ?_
        refine y_ret c_168_81 rfl ?_
        exact hQ _ _ (Or.inr ⟨by omega, by rw [hzs, Int.toNat_natCast]; exact hr⟩) hC1 hF1
      · have hkl : k < P.2.1 := by omega
        have go1 : (r = -9 ∨ aGr P k < aGr P r.toNat) → yG x M1 168 47 [.ref 106, .int (iI (s : Int)), .int (iI r), .int (iI (k : Int)), w4] [] Q := by
          intro hbet
          refine y_al0 c_168_47 ?_
          refine y_il1 c_168_48 ?_
          refine y_il3 c_168_49 ?_
          refine k_166 c_168_50 rfl rfl (Nat.le_of_ble_eq_true rfl) ?_
          refine s_166 hC1 hA hsl hkl (fun M2 hno _ hC2 hf2 => ?_) (fun M2 hyes _ hC2 hf2 => ?_)
          · refine y_iz_eq c_168_53 (by decide) (fun _ => ?_) (fun h => absurd rfl h)
            refine y_ic c_168_60 ?_
            refine y_is4 c_168_61 rfl ?_
            refine y_il4 c_168_63 ?_
            refine y_iz_eq c_168_65 (by omega) (fun h_65 => ?_) (fun h_65 => absurd h_65 (by decide))
            refine y_il2 c_168_72 ?_
            refine y_is2 c_168_73 rfl ?_
            refine y_inc3 c_168_74 rfl ?_
            refine y_goto c_168_77 ?_
            exact ih (k + 1) (by omega) (by omega) M2 r _ hC2 (fun b hb => by rw [hf2 b hb, hF1 b hb]) (e2 hno)
          · refine y_iz_eq c_168_53 (by decide) (fun h => absurd h (by decide)) (fun _ => ?_)
            refine y_ic c_168_56 ?_
            refine y_goto c_168_57 ?_
            refine y_is4 c_168_61 rfl ?_
            refine y_il4 c_168_63 ?_
            refine y_iz_eq c_168_65 (by omega) (fun h_65 => absurd h_65 (by decide)) (fun h_65 => ?_)
            refine y_il3 c_168_68 ?_
            refine y_goto c_168_69 ?_
            refine y_is2 c_168_73 rfl ?_
            refine y_inc3 c_168_74 rfl ?_
            refine y_goto c_168_77 ?_
            exact ih (k + 1) (by omega) (by omega) M2 (k : Int) _ hC2 (fun b hb => by rw [hf2 b hb, hF1 b hb]) (e1 hyes hbet)
        have go0 : (r ≠ -9 ∧ aGr P r.toNat ≤ aGr P k) → yG x M1 168 60 [.ref 106, .int (iI (s : Int)), .int (iI r), .int (iI (k : Int)), w4] [] Q := by
          intro hbet
          refine y_ic c_168_60 ?_
          refine y_is4 c_168_61 rfl ?_
          refine y_il4 c_168_63 ?_
          refine y_iz_eq c_168_65 (by omega) (fun h_65 => ?_) (fun h_65 => absurd h_65 (by decide))
          refine y_il2 c_168_72 ?_
          refine y_is2 c_168_73 rfl ?_
          refine y_inc3 c_168_74 rfl ?_
          refine y_goto c_168_77 ?_
          exact ih (k + 1) (by omega) (by omega) M1 r _ hC1 hF1 (e3 hbet.1 hbet.2)
        rcases hrr with rfl | ⟨g, rfl, hgk⟩
        · refine y_il2 c_168_28 ?_
          refine y_bi c_168_29 (by decide) ?_
          refine y_ic_eq c_168_31 (by decide) (by decide) (fun _ => ?_) (fun h => absurd rfl h)
          exact go1 (Or.inl rfl)
        rw [Int.toNat_natCast] at go1 go0
        have hgk1 := aGr_le hok (show g < P.2.1 by omega)
        have hgk2 := aGr_le hok hkl
        refine y_il2 c_168_28 ?_
        refine y_bi c_168_29 (by decide) ?_
        refine y_ic_eq c_168_31 (by omega) (by omega) (fun h_31 => absurd h_31 (by omega)) (fun h_31 => ?_)
        refine y_al0 c_168_34 ?_
        refine y_il3 c_168_35 ?_
        refine k_135 c_168_36 rfl rfl (Nat.le_of_ble_eq_true rfl) ?_
        refine s_135 hC1.2.2.1 hok hkl ?_
        refine y_al0 c_168_39 ?_
        refine y_il2 c_168_40 ?_
        refine k_135 c_168_41 rfl rfl (Nat.le_of_ble_eq_true rfl) ?_
        refine s_135 hC1.2.2.1 hok (by omega) ?_
        refine y_ic_ge c_168_44 (by omega) (by omega) (fun h_44 => ?_) (fun h_44 => ?_)
        · exact go0 ⟨by omega, by omega⟩
        · exact go1 (Or.inr (by omega))
  refine y_al0 c_168_0 ?_
  refine y_ic c_168_1 ?_
  refine y_pi (j := 0) c_168_2 rfl rfl rfl (by decide) ?_
  have hC0 := MI_thr hC
  have hF0 : ∀ b, b < 106 → (wup M 106 0 0) b = M b := fun b hb => wup_f _ _ _ (by omega)
  generalize (wup M 106 0 0) = M0 at hC0 hF0 ⊢
  obtain ⟨hsd, hT, hM, hR, hL, hTm, hK⟩ := id hC0
  obtain ⟨m4, m6, m8, v1, v2, v3⟩ := id hM
  obtain ⟨a0, a1, a2, a3, a4⟩ := id hR
  refine y_al0 c_168_5 ?_
  refine y_il1 c_168_6 ?_
  refine k_122 c_168_7 rfl rfl (Nat.le_of_ble_eq_true rfl) ?_
  refine s_122 hM hok hz ?_
  refine y_pz_eq c_168_10 (fun h1 => ?_) (fun h1 => ?_)
  · obtain ⟨s, rfl⟩ : ∃ i : Nat, z = i := ⟨z.toNat, by omega⟩
    refine y_bi c_168_15 (by decide) ?_
    refine y_is2 c_168_17 rfl ?_
    refine y_ic c_168_18 ?_
    refine y_is3 c_168_19 rfl ?_
    exact key s rfl (by omega) (P.2.1 + 1) 0 (by omega) (by omega) M0 (-9) _ hC0 hF0 (Or.inl ⟨rfl, fun g hg => by omega⟩)
  · refine y_ic c_168_13 ?_
    refine y_ret c_168_14 rfl ?_
    exact hQ _ _ (Or.inl ⟨h1, rfl⟩) hC0 hF0
end S34
