/-! ===== the model: acts ===== -/
theorem wpage_tr {M M' : wM} {a b : Nat} {R : aR} (h : wpage M a R) (hl : R.2.2.2.length ≤ 6) (he : ∀ i : Nat, i < 10 → M' b i = M a i) : wpage M' b R := by
  obtain ⟨a0, a1, a2, a3, a4⟩ := h
  refine ⟨(he 0 (by decide)).trans a0, (he 1 (by decide)).trans a1, (he 2 (by decide)).trans a2, (he 3 (by decide)).trans a3, fun i hi => ?_⟩
  rw [show (4 + (i : Int)) = ((4 + i : Nat) : Int) by omega, he (4 + i) (by omega), show ((4 + i : Nat) : Int) = 4 + (i : Int) by omega]
  exact a4 i hi
theorem wbk_pg {M M' : wM} {a b o : Nat} {R : aR} (h : wpage M a R) (hl : R.2.2.2.length ≤ 6) (he : ∀ i : Nat, i < 10 → M' b ((o : Int) + i) = M a i) : wbk M' b o R := wpage_tr (M' := fun _ j => M' b ((o : Int) + j)) h hl he
theorem wpg_bk {M M' : wM} {a b o : Nat} {R : aR} (h : wbk M a o R) (hl : R.2.2.2.length ≤ 6) (he : ∀ i : Nat, i < 10 → M' b i = M a ((o : Int) + i)) : wpage M' b R := wpage_tr (M := fun _ j => M a ((o : Int) + j)) h hl he
theorem wbk_bk {M M' : wM} {a b o o' : Nat} {R : aR} (h : wbk M a o R) (hl : R.2.2.2.length ≤ 6) (he : ∀ i : Nat, i < 10 → M' b ((o' : Int) + i) = M a ((o : Int) + i)) : wbk M' b o' R := wpage_tr (M := fun _ j => M a ((o : Int) + j)) (M' := fun _ j => M' b ((o' : Int) + j)) h hl he
def mfa (M M' : wM) : Prop := (∀ b, b ≠ 106 → b ≠ 114 → b ≠ 115 → b ≠ 116 → M' b = M b) ∧ ∀ j : Int, j ≠ 19 → M' 106 j = M 106 j
theorem MI_acts {x : wC} {M M' : wM} {T : List Nat} {P : aP} {R R' : aR} {L L' : aA} {Tm : aT} {sd : Int64} {K : Nat → Option aR} (h : MI x M T P R L Tm sd K) (hR : wpage M' 114 R') (h19 : M' 106 19 = L'.1) (hbk : ∀ k, k < L'.1 → wbk M' 116 (10 * k) (L'.2 k)) (hf : mfa M M') : MI x M' T P R' L' Tm sd K := by
  obtain ⟨hsd, hT, hM, -, -, hTm, hK⟩ := h
  obtain ⟨f1, f2⟩ := hf
  refine ⟨hsd, ?_, mport_of hM (f2 4 (by omega)) (f2 6 (by omega)) (f2 8 (by omega)) (f1 108 (by omega) (by omega) (by omega) (by omega)) (f1 109 (by omega) (by omega) (by omega) (by omega)) (f1 110 (by omega) (by omega) (by omega) (by omega)), hR, ⟨h19, hbk⟩, ?_, ?_⟩
  · rw [f2 2 (by omega), f1 107 (by omega) (by omega) (by omega) (by omega)]; exact hT
  · rw [f2 22 (by omega), f1 119 (by omega) (by omega) (by omega) (by omega), f1 120 (by omega) (by omega) (by omega) (by omega), f1 121 (by omega) (by omega) (by omega) (by omega), f1 122 (by omega) (by omega) (by omega) (by omega)]; exact hTm
  · intro k hk
    rw [f1 118 (by omega) (by omega) (by omega) (by omega)]
    exact ⟨(hK k hk).1, fun R' h => wbk_of ((hK k hk).2 R' h) (f1 117 (by omega) (by omega) (by omega) (by omega))⟩
section S25
variable {x : wC} {M : wM} {Q : Option Value → wC → wM → Prop} {T : List Nat} {P : aP} {R : aR} {L : aA} {Tm : aT} {sd : Int64} {K : Nat → Option aR}
theorem s_148 (hC : MI x M T P R L Tm sd K) (hA : AOK T P R L Tm K) (hQ : ∀ M', MI x M' T P R (aNote L R) Tm sd K → (∀ b, b < 106 → M' b = M b) → M' 114 = M 114 → M' 115 = M 115 → Q none x M') : yG x M 148 0 [.ref 106, zU] [] Q := by
  obtain ⟨⟨ht56, ht256⟩, hok, hRk, ⟨hl14, hLk⟩, hTk, hKk⟩ := id hA
  obtain ⟨z1, z2, z3, z4, z5⟩ := aRok_len hok hRk
  have z6 : ∀ y ∈ R.2.2.2, y < 6 := fun y hy => by have := z3 y hy; have := hok.2.2.1; omega
  have hb1 := hok.1
  have hb2 := hok.2.1
  have hb3 := hok.2.2.1
  obtain ⟨hsd, hT, hM, hR, hL, hTm, hK⟩ := id hC
  have copy : ∀ (M1 : wM) (A : Nat) (f : Nat → aR) (w1 : Value), A < 14 → M1 106 19 = A → (∀ k, k < A → wbk M1 116 (10 * k) (f k) ∧ (f k).2.2.2.length ≤ 6) → aNote L R = (A + 1, fun k => if k = A then R else f k) → (∀ b, b ≠ 106 → b ≠ 116 → M1 b = M b) → (∀ j : Int, j ≠ 19 → M1 106 j = M 106 j) → yG x M1 148 49 [.ref 106, w1] [] Q := by
    intro M1 A f w1 hA14 hacts hbk hnote hf1 hf2
    have key : ∀ d k : Nat, 10 < k + d → k ≤ 10 → ∀ M2 : wM, (∀ j : Nat, M2 116 j = if 10 * A ≤ j ∧ j < 10 * A + k then M 114 ((j : Int) - 10 * A) else M1 116 j) → (∀ b, b ≠ 116 → M2 b = M1 b) → yG x M2 148 51 [.ref 106, .int (iI (k : Int))] [] Q := by
      intro d
      induction d with
      | zero => intro k g1 g2; omega
      | succ d ih =>
        intro k g1 g2 M2 hm hf3
        refine y_il1 c_148_51 ?_
        refine y_bi c_148_52 (by decide) ?_
        refine y_ic_ge c_148_54 (by omega) (by omega) (fun h_54 => ?_) (fun h_54 => ?_)
        · have hk : k = 10 := by omega
          subst hk
          refine y_al0 c_148_83 ?_
          refine y_dup c_148_84 rfl ?_
          refine y_gi (j := 19) (z := (A : Int)) c_148_85 rfl rfl (by rw [hf3 106 (by omega)]; exact hacts) (fun r_85 => ?_)
          refine y_ic c_148_88 ?_
          refine y_add c_148_89 ?_
          refine y_pi (j := 19) c_148_90 rfl rfl rfl (by omega) ?_
          refine y_vret c_148_93 rfl ?_
          refine hQ _ ?_ (fun b hb => by rw [wup_f _ _ _ (by omega), hf3 b (by omega), hf1 b (by omega) (by omega)]) (by rw [wup_f _ _ _ (by omega), hf3 _ (by omega), hf1 _ (by omega) (by omega)]) (by rw [wup_f _ _ _ (by omega), hf3 _ (by omega), hf1 _ (by omega) (by omega)])
          rw [hnote]
          refine MI_acts hC (wpage_of hR (by rw [wup_f _ _ _ (by omega), hf3 _ (by omega), hf1 _ (by omega) (by omega)])) (by rw [wup_s]; simp) (fun k hk => ?_) ⟨fun b h1 h2 h3 h4 => by rw [wup_f _ _ _ h1, hf3 b h4, hf1 b h1 h4], fun j hj => by rw [wup_k _ _ hj, hf3 106 (by omega), hf2 j hj]⟩
          simp only at hk ⊢
          by_cases hkA : k = A
          · rw [if_pos hkA]
            refine wbk_pg hR z2 (fun i hi => ?_)
            rw [wup_a _ _ _ _ (by omega), show (((10 * k : Nat) : Int) + (i : Int)) = ((10 * k + i : Nat) : Int) by omega, hm, if_pos (by omega)]
            congr 1; omega
          · rw [if_neg hkA]
            obtain ⟨hb1, hb2⟩ := hbk k (by omega)
            refine wbk_bk hb1 hb2 (fun i hi => ?_)
            rw [wup_a _ _ _ _ (by omega), show (((10 * k : Nat) : Int) + (i : Int)) = ((10 * k + i : Nat) : Int) by omega, hm, if_neg (by omega)]
        · refine y_al0 c_148_57 ?_
          refine y_gr 116 c_148_58 rfl (by omega) ?_
          refine y_bi c_148_61 (by decide) ?_
          refine y_al0 c_148_63 ?_
          refine y_gi (j := 19) (z := (A : Int)) c_148_64 rfl rfl (by rw [hf3 106 (by omega)]; exact hacts) (fun r_64 => ?_)
          refine y_mul c_148_67 ?_
          refine y_il1 c_148_68 ?_
          refine y_add c_148_69 ?_
          refine y_al0 c_148_70 ?_
          refine y_gr 114 c_148_71 rfl (by omega) ?_
          refine y_il1 c_148_74 ?_
          refine y_ald (n := 10) (u := (M 114 (k : Int))) c_148_75 rfl (by omega) (by omega) (by omega) (by rw [hf3 114 (by omega), hf1 114 (by omega) (by omega)]) (fun r_75 => ?_)
          refine y_ast (n := 140) c_148_76 rfl (by omega) (by omega) (by omega) (by omega) ?_
          refine y_inc1 c_148_77 rfl ?_
          refine y_goto c_148_80 ?_
          refine ih (k + 1) (by omega) (by omega) _ (fun j => ?_) (fun b hb => by rw [wup_f _ _ _ hb]; exact hf3 b hb)
          by_cases hj : j = 10 * A + k
          · subst hj
            rw [if_pos (by omega), show ((10 * A + k : Nat) : Int) = 10 * (A : Int) + (k : Int) by omega, wup_s]
            congr 1; omega
          · rw [wup_k _ _ (by omega), hm j]
            by_cases h9 : 10 * A ≤ j ∧ j < 10 * A + k
            · rw [if_pos h9, if_pos (by omega)]
            · rw [if_neg h9, if_neg (by omega)]
    refine y_ic c_148_49 ?_
    refine y_is1 c_148_50 rfl ?_
    exact key 11 0 (by omega) (by omega) M1 (fun j => by rw [if_neg (by omega)]) (fun b hb => rfl)
  have shift : L.1 = 14 → ∀ d k : Nat, 130 < k + d → k ≤ 130 → ∀ M1 : wM, (∀ j : Nat, M1 116 j = if j < k then M 116 ((j : Int) + 10) else M 116 j) → (∀ b, b ≠ 116 → M1 b = M b) → yG x M1 148 11 [.ref 106, .int (iI (k : Int))] [] Q := by
    intro h14 d
    induction d with
    | zero => intro k g1 g2; omega
    | succ d ih =>
      intro k g1 g2 M1 hm hf1
      refine y_il1 c_148_11 ?_
      refine y_si c_148_12 (by decide) ?_
      refine y_ic_ge c_148_15 (by omega) (by omega) (fun h_15 => ?_) (fun h_15 => ?_)
      · have hk : k = 130 := by omega
        subst hk
        refine y_al0 c_148_39 ?_
        refine y_dup c_148_40 rfl ?_
        refine y_gi (j := 19) (z := (14 : Int)) c_148_41 rfl rfl (by rw [hf1 106 (by omega), hL.1, h14]; rfl) (fun r_41 => ?_)
        refine y_ic c_148_44 ?_
        refine y_sub c_148_45 ?_
        refine y_pi (j := 19) c_148_46 rfl rfl rfl (by decide) ?_
        refine copy _ 13 (fun k => L.2 (k + 1)) _ (by omega) (by rw [wup_s]; rfl) (fun k hk => ⟨?_, (aRok_len hok (hLk (k + 1) (by omega))).2.1⟩) (by unfold aNote; rw [if_pos h14]) (fun b h1 h2 => by rw [wup_f _ _ _ h1, hf1 b h2]) (fun j hj => by rw [wup_k _ _ hj, hf1 106 (by omega)])
        refine wbk_bk (hL.2 (k + 1) (by omega)) (aRok_len hok (hLk (k + 1) (by omega))).2.1 (fun i hi => ?_)
        rw [wup_a _ _ _ _ (by omega), show (((10 * k : Nat) : Int) + (i : Int)) = ((10 * k + i : Nat) : Int) by omega, hm, if_pos (by omega)]
        congr 1; omega
      · refine y_al0 c_148_18 ?_
        refine y_gr 116 c_148_19 rfl (by omega) ?_
        refine y_il1 c_148_22 ?_
        refine y_al0 c_148_23 ?_
        refine y_gr 116 c_148_24 rfl (by omega) ?_
        refine y_il1 c_148_27 ?_
        refine y_bi c_148_28 (by decide) ?_
        refine y_add c_148_30 ?_
        refine y_ald (n := 140) (u := (M 116 ((k : Int) + 10))) c_148_31 rfl (by omega) (by omega) (by omega) (by rw [show ((k : Int) + 10) = ((k + 10 : Nat) : Int) by omega, hm, if_neg (by omega)]) (fun r_31 => ?_)
        refine y_ast (n := 140) c_148_32 rfl (by omega) (by omega) (by omega) (by omega) ?_
        refine y_inc1 c_148_33 rfl ?_
        refine y_goto c_148_36 ?_
        refine ih (k + 1) (by omega) (by omega) _ (fun j => ?_) (fun b hb => by rw [wup_f _ _ _ hb]; exact hf1 b hb)
        by_cases hj : j = k
        · subst hj; rw [wup_s, if_pos (by omega)]
        · rw [wup_k _ _ (by omega), hm j]
          by_cases h9 : j < k
          · rw [if_pos h9, if_pos (by omega)]
          · rw [if_neg h9, if_neg (by omega)]
  refine y_al0 c_148_0 ?_
  refine y_gi (j := 19) (z := (L.1 : Int)) c_148_1 rfl rfl hL.1 (fun r_1 => ?_)
  refine y_bi c_148_4 (by decide) ?_
  refine y_ic_ne c_148_6 (by omega) (by omega) (fun h1 => ?_) (fun h1 => ?_)
  · exact copy M L.1 L.2 _ (by omega) hL.1 (fun k hk => ⟨hL.2 k hk, (aRok_len hok (hLk k hk)).2.1⟩) (by unfold aNote; rw [if_neg (by omega)]) (fun b h1 h2 => rfl) (fun j hj => rfl)
  · refine y_ic c_148_9 ?_
    refine y_is1 c_148_10 rfl ?_
    exact shift (by omega) 131 0 (by omega) (by omega) M (fun j => by rw [if_neg (by omega)]) (fun b hb => rfl)
theorem s_149 {a g s : Nat} (hw : war a = (0, 10)) (ha : 111 ≤ a) (hM : mport M P) (hok : aPok P) (hg : g < P.2.1) (hs : s < P.2.2.1) (hQ : ∀ M', wpage M' a ((g : Int), (s : Int), aGr P g, []) → (∀ b, b ≠ a → M' b = M b) → Q none x M') : yG x M 149 0 [.ref 106, .ref a, .int (iI (g : Int)), .int (iI (s : Int)), zU] [] Q := by
  have hgr := aGr_le hok hg
  have hg4 := hok.1
  have hs4 := hok.2.1
  have key : ∀ d k : Nat, 10 < k + d → 3 ≤ k → k ≤ 10 → ∀ M1 : wM, M1 a 0 = g → M1 a 1 = s → M1 a 2 = aGr P g → (3 < k → M1 a 3 = 0) → (∀ b, b ≠ a → M1 b = M b) → yG x M1 149 19 [.ref 106, .ref a, .int (iI (g : Int)), .int (iI (s : Int)), .int (iI (k : Int))] [] Q := by
    intro d
    induction d with
    | zero => intro k g1 g2 g3; omega
    | succ d ih =>
      intro k g1 g2 g3 M1 e0 e1 e2 e3 hf1
      refine y_il4 c_149_19 ?_
      refine y_bi c_149_21 (by decide) ?_
      refine y_ic_ge c_149_23 (by omega) (by omega) (fun h_23 => ?_) (fun h_23 => ?_)
      · have hk : k = 10 := by omega
        subst hk
        refine y_vret c_149_37 rfl ?_
        exact hQ M1 ⟨e0, e1, e2, e3 (by omega), fun i hi => by simp at hi⟩ hf1
      · refine y_al1 c_149_26 ?_
        refine y_il4 c_149_27 ?_
        refine y_ic c_149_29 ?_
        refine y_ast c_149_30 hw (by omega) (by omega) (by omega) (by omega) ?_
        refine y_inc4 c_149_31 rfl ?_
        refine y_goto c_149_34 ?_
        refine ih (k + 1) (by omega) (by omega) (by omega) _ (by rw [wup_k _ _ (by omega)]; exact e0) (by rw [wup_k _ _ (by omega)]; exact e1) (by rw [wup_k _ _ (by omega)]; exact e2) (fun h => ?_) (fun b hb => by rw [wup_f _ _ _ hb]; exact hf1 b hb)
        by_cases hk3 : k = 3
        · subst hk3; exact wup_s _ _ _ _
        · rw [wup_k _ _ (by omega)]; exact e3 (by omega)
  refine y_al1 c_149_0 ?_
  refine y_ic c_149_1 ?_
  refine y_il2 c_149_2 ?_
  refine y_ast c_149_3 hw (by omega) (by omega) (by omega) (by omega) ?_
  refine y_al1 c_149_4 ?_
  refine y_ic c_149_5 ?_
  refine y_il3 c_149_6 ?_
  refine y_ast c_149_7 hw (by omega) (by omega) (by omega) (by omega) ?_
  refine y_al1 c_149_8 ?_
  refine y_ic c_149_9 ?_
  refine y_al0 c_149_10 ?_
  refine y_il2 c_149_11 ?_
  refine k_135 c_149_12 rfl rfl (Nat.le_of_ble_eq_true rfl) ?_
  refine s_135 (mport_of hM (by rw [wup_a _ _ _ _ (by omega), wup_a _ _ _ _ (by omega)]) (by rw [wup_a _ _ _ _ (by omega), wup_a _ _ _ _ (by omega)]) (by rw [wup_a _ _ _ _ (by omega), wup_a _ _ _ _ (by omega)]) (by rw [wup_f _ _ _ (by omega), wup_f _ _ _ (by omega)]) (by rw [wup_f _ _ _ (by omega), wup_f _ _ _ (by omega)]) (by rw [wup_f _ _ _ (by omega), wup_f _ _ _ (by omega)])) hok hg ?_
  refine y_ast c_149_15 hw (by omega) (by omega) (by omega) (by omega) ?_
  refine y_ic c_149_16 ?_
  refine y_is4 c_149_17 rfl ?_
  refine key 8 3 (by omega) (by omega) (by omega) _ ?_ ?_ (wup_s _ _ _ _) (fun h => by omega) (fun b hb => by rw [wup_f _ _ _ hb, wup_f _ _ _ hb, wup_f _ _ _ hb])
  · rw [wup_k _ _ (by decide), wup_k _ _ (by decide), wup_s]
  · rw [wup_k _ _ (by decide), wup_s]
theorem s_160 (hC : MI x M T P R L Tm sd K) (hA : AOK T P R L Tm K) (hQ : ∀ M', wpage M' 115 R → (∀ b, b ≠ 115 → M' b = M b) → Q none x M') : yG x M 160 0 [.ref 106] [] Q := by
  obtain ⟨⟨ht56, ht256⟩, hok, hRk, ⟨hl14, hLk⟩, hTk, hKk⟩ := id hA
  obtain ⟨z1, z2, z3, z4, z5⟩ := aRok_len hok hRk
  have z6 : ∀ y ∈ R.2.2.2, y < 6 := fun y hy => by have := z3 y hy; have := hok.2.2.1; omega
  have hb1 := hok.1
  have hb2 := hok.2.1
  have hb3 := hok.2.2.1
  obtain ⟨hsd, hT, hM, hR, hL, hTm, hK⟩ := id hC
  refine y_al0 c_160_0 ?_
  refine y_gr 114 c_160_1 rfl (by omega) ?_
  refine y_al0 c_160_4 ?_
  refine y_gr 115 c_160_5 rfl (by omega) ?_
  refine y_bi c_160_8 (by decide) ?_
  refine k_133 c_160_10 rfl (Nat.le_of_ble_eq_true rfl) ?_
  refine s_133 (na := 10) (nb := 10) rfl rfl (by decide) (by decide) (by decide) (by decide) (by decide) (fun M1 h1 h2 => ?_)
  refine y_vret c_160_13 rfl ?_
  exact hQ M1 (wpage_tr hR z2 h1) h2
end S25
