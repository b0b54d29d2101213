/-! ===== the table of the best rows ===== -/
def wLe (M : wM) (e c f : Nat) : Prop := 0 ≤ M 94 e ∧ (M 94 e < c ∨ (M 94 e = c ∧ M 95 e ≤ f))
def wTs (M : wM) (P : aP) (R : aR) : Prop := ∀ e : Nat, e < 256 → M 94 e = -9 ∨ ∃ q, aCnd P R 63 q ∧ aIx P R q = e ∧ M 94 e = aS P R q ∧ M 95 e = aFig q
def wTa (M : wM) (P : aP) (R : aR) : Prop := wTs M P R ∧ ∀ q, aCnd P R 63 q → wLe M (aIx P R q) (aS P R q) (aFig q)
def wfx (M M' : wM) : Prop := ∀ b, b ≠ 94 → b ≠ 95 → M' b = M b
theorem wTa_of {M M' : wM} {P : aP} {R : aR} (h : wTa M P R) (h4 : M' 94 = M 94) (h5 : M' 95 = M 95) : wTa M' P R := by
  obtain ⟨h1, h2⟩ := h
  refine ⟨fun e he => ?_, fun q hq => ?_⟩
  · rw [h4, h5]; exact h1 e he
  · have := h2 q hq
    unfold wLe at this ⊢
    rw [h4, h5]; exact this
def aOf (M : wM) (e c f : Nat) : Prop := M 94 e < 0 ∨ (c : Int) < M 94 e ∨ ((c : Int) = M 94 e ∧ (f : Int) < M 95 e)
theorem offer_ok {M M' : wM} {P : aP} {R : aR} {e c f : Nat} (h1 : aOf M e c f → M' = wup (wup M 94 e c) 95 e f) (h2 : ¬ aOf M e c f → M' = M) (q0 : List Nat) (hq : aCnd P R 63 q0) (he : aIx P R q0 = e) (hc : c = aS P R q0) (hf : f = aFig q0) (hs : wTs M P R) :
    wTs M' P R ∧ (∀ e' c' f', wLe M e' c' f' → wLe M' e' c' f') ∧ (∀ c' f', (c < c' ∨ (c = c' ∧ f ≤ f')) → wLe M' e c' f') ∧ wfx M M' ∧ ∀ j : Int, j ≠ e → M' 94 j = M 94 j ∧ M' 95 j = M 95 j := by
  by_cases h : aOf M e c f
  · have h1 := h1 h
    have e1 : M' 94 e = c := by rw [h1, wup_a _ _ _ _ (by omega), wup_s]
    have e2 : M' 95 e = f := by rw [h1, wup_s]
    have e3 : ∀ j : Int, j ≠ e → M' 94 j = M 94 j ∧ M' 95 j = M 95 j := fun j hj => by
      rw [h1]; exact ⟨by rw [wup_a _ _ _ _ (by omega), wup_k _ _ hj], by rw [wup_k _ _ hj, wup_a _ _ _ _ (by omega)]⟩
    refine ⟨fun e' he' => ?_, fun e' c' f' hl => ?_, fun c' f' hl => ?_, fun b hb1 hb2 => by rw [h1, wup_f _ _ _ hb2, wup_f _ _ _ hb1], e3⟩
    · by_cases hee : e' = e
      · subst hee
        exact Or.inr ⟨q0, hq, he, by rw [e1, hc], by rw [e2, hf]⟩
      · obtain ⟨g1, g2⟩ := e3 e' (by omega)
        rw [g1, g2]; exact hs e' he'
    · by_cases hee : e' = e
      · subst hee
        unfold wLe at hl ⊢; unfold aOf at h
        rw [e1, e2]; omega
      · obtain ⟨g1, g2⟩ := e3 e' (by omega)
        unfold wLe at hl ⊢
        rw [g1, g2]; exact hl
    · unfold wLe
      rw [e1, e2]; omega
  · have h2 := h2 h
    rw [h2]
    refine ⟨hs, fun _ _ _ hl => hl, fun c' f' hl => ?_, fun _ _ _ => rfl, fun _ _ => ⟨rfl, rfl⟩⟩
    unfold wLe
    unfold aOf at h
    omega
theorem aIx_bits {P : aP} {R : aR} {q : List Nat} : aIx P R q / 4 = aBits q ∧ aIx P R q % 4 = aStage P (R.2.2.2 ++ q) := by
  have := aStage_le P (R.2.2.2 ++ q)
  unfold aIx
  omega
theorem bits_mem_eq {q q0 : List Nat} (h : aBits q = aBits q0) (y : Nat) : y ∈ q ↔ y ∈ q0 := by rw [← aBits_mem, ← aBits_mem, h]
section S6
variable {x : wC} {M : wM} {Q : Option Value → wC → wM → Prop} {p u : Nat} {P : aP} {R : aR}
theorem s_6 {a b : Nat} (hQ : Q (some (.int (iI ((4 * a + b : Nat) : Int)))) x M) : yG x M 6 0 [.int (iI (a : Int)), .int (iI (b : Int))] [] Q := by
  refine y_il0 c_6_0 ?_
  refine y_ic c_6_1 ?_
  refine y_mul c_6_2 ?_
  refine y_il1 c_6_3 ?_
  refine y_add c_6_4 ?_
  refine y_ret c_6_5 rfl ?_
  exact yQi hQ (by omega)
theorem s_188 : ∀ n : Nat, n < 64 → Q (some (.int (iI (aPop n : Nat)))) x M → yG x M 188 0 [.int (iI (n : Int))] [] Q := by
  intro n hn hQ
  refine y_il0 c_188_0 ?_
  refine y_il0 c_188_1 ?_
  refine y_ic c_188_2 ?_
  refine y_st c_188_3 rfl rfl id ?_
  refine y_ldc c_188_4 ?_
  refine y_st c_188_7 rfl rfl id ?_
  refine y_st c_188_8 rfl rfl id ?_
  refine y_is0 c_188_9 ?_
  refine y_il0 c_188_10 ?_
  refine y_ldc c_188_11 ?_
  refine y_st c_188_14 rfl rfl id ?_
  refine y_il0 c_188_15 ?_
  refine y_ic c_188_16 ?_
  refine y_st c_188_17 rfl rfl id ?_
  refine y_ldc c_188_18 ?_
  refine y_st c_188_21 rfl rfl id ?_
  refine y_st c_188_22 rfl rfl id ?_
  refine y_is0 c_188_23 ?_
  refine y_il0 c_188_24 ?_
  refine y_il0 c_188_25 ?_
  refine y_ic c_188_26 ?_
  refine y_st c_188_27 rfl rfl id ?_
  refine y_st c_188_28 rfl rfl id ?_
  refine y_ldc c_188_29 ?_
  refine y_st c_188_32 rfl rfl id ?_
  refine y_is0 c_188_33 ?_
  refine y_il0 c_188_34 ?_
  refine y_il0 c_188_35 ?_
  refine y_bi c_188_36 (by decide) ?_
  refine y_st c_188_38 rfl rfl id ?_
  refine y_st c_188_39 rfl rfl id ?_
  refine y_is0 c_188_40 ?_
  refine y_il0 c_188_41 ?_
  refine y_il0 c_188_42 ?_
  refine y_bi c_188_43 (by decide) ?_
  refine y_st c_188_45 rfl rfl id ?_
  refine y_st c_188_46 rfl rfl id ?_
  refine y_is0 c_188_47 ?_
  refine y_il0 c_188_48 ?_
  refine y_bi c_188_49 (by decide) ?_
  refine y_st c_188_51 rfl rfl id ?_
  have e : ∀ n : Nat, n < 64 → (fun (v : Int32) => let a := v - ((v.toUInt32 >>> (Int32.toUInt32 (iI 1) &&& Int32.toUInt32 31)).toInt32 &&& iI 1431655765); let b := (a &&& iI 858993459) + ((a.toUInt32 >>> (Int32.toUInt32 (iI 2) &&& Int32.toUInt32 31)).toInt32 &&& iI 858993459); let c := (b + (b.toUInt32 >>> (Int32.toUInt32 (iI 4) &&& Int32.toUInt32 31)).toInt32) &&& iI 252645135; let d := c + (c.toUInt32 >>> (Int32.toUInt32 (iI 8) &&& Int32.toUInt32 31)).toInt32; (d + (d.toUInt32 >>> (Int32.toUInt32 (iI 16) &&& Int32.toUInt32 31)).toInt32) &&& iI 63) (iI (n : Int)) = iI (aPop n : Nat) := by decide +kernel
  have e2 := e n hn
  simp only at e2
  refine y_end (v := some (.int (iI (aPop n : Nat)))) c_188_52 rfl ?_ hQ
  rw [← e2]
  rfl
theorem s_189 {a n : Nat} {v : Int} (hw : war a = (0, n)) (hn : n < 100000) (hv : wR v) (hQ : ∀ M' : wM, (∀ i : Nat, i < n → M' a i = v) → (∀ b, b ≠ a → M' b = M b) → Q none x M') : yG x M 189 0 [.ref a, .int (iI v), zU, zU] [] Q := by
  have key : ∀ d k : Nat, n < k + d → k ≤ n → ∀ M1 : wM, (∀ i : Nat, i < k → M1 a i = v) → (∀ b, b ≠ a → M1 b = M b) → yG x M1 189 5 [.ref a, .int (iI v), .int (iI (k : Int)), .int (iI (n : Int))] [] Q := by
    intro d
    induction d with
    | zero => intro k g1 g2; omega
    | succ d ih =>
      intro k g1 g2 M1 e1 e2
      refine y_il2 c_189_5 ?_
      refine y_il3 c_189_6 ?_
      refine y_ic_ge c_189_7 (by omega) (by omega) (fun h_7 => ?_) (fun h_7 => ?_)
      · have hk : k = n := by omega
        subst hk
        refine y_vret c_189_20 rfl ?_
        exact hQ _ e1 e2
      · refine y_al0 c_189_10 ?_
        refine y_il2 c_189_11 ?_
        refine y_il1 c_189_12 ?_
        refine y_ast c_189_13 hw (by omega) (by omega) (by omega) (by omega) ?_
        refine y_inc2 c_189_14 rfl ?_
        refine y_goto c_189_17 ?_
        refine ih (k + 1) (by omega) (by omega) _ (fun i hi => ?_) (fun b hb => by rw [wup_f _ _ _ hb]; exact e2 b hb)
        by_cases hik : i = k
        · subst hik; rw [wup_s]
        · rw [wup_k _ _ (by omega)]; exact e1 i (by omega)
  refine y_ic c_189_0 ?_
  refine y_is2 c_189_1 rfl ?_
  refine y_al0 c_189_2 ?_
  refine y_len c_189_3 hw (by omega) ?_
  refine y_is3 c_189_4 rfl ?_
  exact key (n + 1) 0 (by omega) (by omega) _ (fun i hi => by omega) (fun b hb => rfl)
theorem s_9 {e c f : Nat} (he : e < 256) (hc : c < 100000) (hf : f < 10000000) (q0 : List Nat) (hq : aCnd P R 63 q0) (hie : aIx P R q0 = e) (hqc : c = aS P R q0) (hqf : f = aFig q0) (hs : wTs M P R)
    (hQ : ∀ M' : wM, wTs M' P R → (∀ e' c' f', wLe M e' c' f' → wLe M' e' c' f') → (∀ c' f', (c < c' ∨ (c = c' ∧ f ≤ f')) → wLe M' e c' f') → wfx M M' → (∀ j : Int, j ≠ e → M' 94 j = M 94 j ∧ M' 95 j = M 95 j) → Q none x M') : yG x M 9 0 [.ref 93, .int (iI (e : Int)), .int (iI (c : Int)), .int (iI (f : Int))] [] Q := by
  have fin : ∀ M' : wM, (aOf M e c f → M' = wup (wup M 94 e c) 95 e f) → (¬ aOf M e c f → M' = M) → Q none x M' := fun M' h1 h2 => by
    obtain ⟨a1, a2, a3, a4, a5⟩ := offer_ok h1 h2 q0 hq hie hqc hqf hs
    exact hQ M' a1 a2 a3 a4 a5
  refine y_il1 c_9_0 ?_
  refine y_iz_lt c_9_1 (by omega) (fun h_1 => absurd h_1 (by omega)) (fun h_1 => ?_)
  refine y_il1 c_9_4 ?_
  refine y_al0 c_9_5 ?_
  refine y_gr 94 c_9_6 rfl (by omega) ?_
  refine y_len (t := 0) (n := 256) c_9_9 rfl (by omega) ?_
  refine y_ic_ge c_9_10 (by omega) (by omega) (fun h_10 => absurd h_10 (by omega)) (fun h_10 => ?_)
  refine y_il1 c_9_13 ?_
  refine y_al0 c_9_14 ?_
  refine y_gr 95 c_9_15 rfl (by omega) ?_
  refine y_len (t := 0) (n := 256) c_9_18 rfl (by omega) ?_
  refine y_ic_lt c_9_19 (by omega) (by omega) (fun h_19 => ?_) (fun h_19 => absurd h_19 (by omega))
  refine y_al0 c_9_23 ?_
  refine y_gr 94 c_9_24 rfl (by omega) ?_
  refine y_il1 c_9_27 ?_
  refine y_ald (n := 256) c_9_28 rfl (by omega) (by omega) (by omega) rfl (fun r_28 => ?_)
  refine y_iz_lt c_9_29 (by omega) (fun h_29 => ?_) (fun h_29 => ?_)
  · refine y_al0 c_9_62 ?_
    refine y_gr 94 c_9_63 rfl (by omega) ?_
    refine y_il1 c_9_66 ?_
    refine y_il2 c_9_67 ?_
    refine y_ast (n := 256) c_9_68 rfl (by omega) (by omega) (by omega) (by omega) ?_
    refine y_al0 c_9_69 ?_
    refine y_gr 95 c_9_70 rfl (by omega) ?_
    refine y_il1 c_9_73 ?_
    refine y_il3 c_9_74 ?_
    refine y_ast (n := 256) c_9_75 rfl (by omega) (by omega) (by omega) (by omega) ?_
    refine y_vret c_9_76 rfl ?_
    first
      | exact fin _ (fun _ => rfl) (fun h => absurd (by unfold aOf; omega) h)
      | exact fin _ (fun h => absurd h (by unfold aOf; omega)) (fun _ => rfl)
  · refine y_il2 c_9_32 ?_
    refine y_al0 c_9_33 ?_
    refine y_gr 94 c_9_34 rfl (by omega) ?_
    refine y_il1 c_9_37 ?_
    refine y_ald (n := 256) c_9_38 rfl (by omega) (by omega) (by omega) rfl (fun r_38 => ?_)
    refine y_ic_lt c_9_39 (by omega) (by omega) (fun h_39 => ?_) (fun h_39 => ?_)
    · refine y_al0 c_9_62 ?_
      refine y_gr 94 c_9_63 rfl (by omega) ?_
      refine y_il1 c_9_66 ?_
      refine y_il2 c_9_67 ?_
      refine y_ast (n := 256) c_9_68 rfl (by omega) (by omega) (by omega) (by omega) ?_
      refine y_al0 c_9_69 ?_
      refine y_gr 95 c_9_70 rfl (by omega) ?_
      refine y_il1 c_9_73 ?_
      refine y_il3 c_9_74 ?_
      refine y_ast (n := 256) c_9_75 rfl (by omega) (by omega) (by omega) (by omega) ?_
      refine y_vret c_9_76 rfl ?_
      first
        | exact fin _ (fun _ => rfl) (fun h => absurd (by unfold aOf; omega) h)
        | exact fin _ (fun h => absurd h (by unfold aOf; omega)) (fun _ => rfl)
    · refine y_il2 c_9_42 ?_
      refine y_al0 c_9_43 ?_
      refine y_gr 94 c_9_44 rfl (by omega) ?_
      refine y_il1 c_9_47 ?_
      refine y_ald (n := 256) c_9_48 rfl (by omega) (by omega) (by omega) rfl (fun r_48 => ?_)
      refine y_ic_ne c_9_49 (by omega) (by omega) (fun h_49 => ?_) (fun h_49 => ?_)
      · refine y_vret c_9_76 rfl ?_
        first
          | exact fin _ (fun _ => rfl) (fun h => absurd (by unfold aOf; omega) h)
          | exact fin _ (fun h => absurd h (by unfold aOf; omega)) (fun _ => rfl)
      · refine y_il3 c_9_52 ?_
        refine y_al0 c_9_53 ?_
        refine y_gr 95 c_9_54 rfl (by omega) ?_
        refine y_il1 c_9_57 ?_
        refine y_ald (n := 256) c_9_58 rfl (by omega) (by omega) (by omega) rfl (fun r_58 => ?_)
        refine y_ic_ge c_9_59 (by omega) (by omega) (fun h_59 => ?_) (fun h_59 => ?_)
        · refine y_vret c_9_76 rfl ?_
          first
            | exact fin _ (fun _ => rfl) (fun h => absurd (by unfold aOf; omega) h)
            | exact fin _ (fun h => absurd h (by unfold aOf; omega)) (fun _ => rfl)
        · refine y_al0 c_9_62 ?_
          refine y_gr 94 c_9_63 rfl (by omega) ?_
          refine y_il1 c_9_66 ?_
          refine y_il2 c_9_67 ?_
          refine y_ast (n := 256) c_9_68 rfl (by omega) (by omega) (by omega) (by omega) ?_
          refine y_al0 c_9_69 ?_
          refine y_gr 95 c_9_70 rfl (by omega) ?_
          refine y_il1 c_9_73 ?_
          refine y_il3 c_9_74 ?_
          refine y_ast (n := 256) c_9_75 rfl (by omega) (by omega) (by omega) (by omega) ?_
          refine y_vret c_9_76 rfl ?_
          first
            | exact fin _ (fun _ => rfl) (fun h => absurd (by unfold aOf; omega) h)
            | exact fin _ (fun h => absurd h (by unfold aOf; omega)) (fun _ => rfl)
theorem s_12 {k : Nat} (hk : k < 64) (hQ : Q (some (.int (iI (if 0 ≤ M 94 ((4 * k + 3 : Nat) : Int) then 1 else 0)))) x M) : yG x M 12 0 [.ref 93, .int (iI (k : Int)), zU] [] Q := by
  refine y_il1 c_12_0 ?_
  refine y_ic c_12_1 ?_
  refine k_6 c_12_2 rfl (Nat.le_of_ble_eq_true rfl) ?_
  refine s_6 (a := k) (b := 3) ?_
  refine y_is2 c_12_5 rfl ?_
  refine y_il2 c_12_6 ?_
  refine y_iz_lt c_12_7 (by omega) (fun h_7 => absurd h_7 (by omega)) (fun h_7 => ?_)
  refine y_il2 c_12_10 ?_
  refine y_al0 c_12_11 ?_
  refine y_gr 94 c_12_12 rfl (by omega) ?_
  refine y_len (t := 0) (n := 256) c_12_15 rfl (by omega) ?_
  refine y_ic_ge c_12_16 (by omega) (by omega) (fun h_16 => absurd h_16 (by omega)) (fun h_16 => ?_)
  refine y_al0 c_12_19 ?_
  refine y_gr 94 c_12_20 rfl (by omega) ?_
  refine y_il2 c_12_23 ?_
  refine y_ald (n := 256) c_12_24 rfl (by omega) (by omega) (by omega) rfl (fun r_24 => ?_)
  refine y_iz_lt c_12_25 (by omega) (fun h_25 => ?_) (fun h_25 => ?_)
  · refine y_ic c_12_32 ?_
    refine y_zret c_12_33 rfl (by omega) ?_
    first | (rw [if_pos (by omega)] at hQ; exact hQ) | (rw [if_neg (by omega)] at hQ; exact hQ)
  · refine y_ic c_12_28 ?_
    refine y_goto c_12_29 ?_
    refine y_zret c_12_33 rfl (by omega) ?_
    first | (rw [if_pos (by omega)] at hQ; exact hQ) | (rw [if_neg (by omega)] at hQ; exact hQ)
theorem s_13 {k : Nat} (hk : k < 64) (hQ : Q (some (.int (iI (if M 94 ((4 * k + 3 : Nat) : Int) < M 93 4 ∨ (M 94 ((4 * k + 3 : Nat) : Int) = M 93 4 ∧ M 95 ((4 * k + 3 : Nat) : Int) < M 93 5) then 1 else 0)))) x M) : yG x M 13 0 [.ref 93, .int (iI (k : Int)), zU] [] Q := by
  refine y_il1 c_13_0 ?_
  refine y_ic c_13_1 ?_
  refine k_6 c_13_2 rfl (Nat.le_of_ble_eq_true rfl) ?_
  refine s_6 (a := k) (b := 3) ?_
  refine y_is2 c_13_5 rfl ?_
  refine y_il2 c_13_6 ?_
  refine y_iz_lt c_13_7 (by omega) (fun h_7 => absurd h_7 (by omega)) (fun h_7 => ?_)
  refine y_il2 c_13_10 ?_
  refine y_al0 c_13_11 ?_
  refine y_gr 94 c_13_12 rfl (by omega) ?_
  refine y_len (t := 0) (n := 256) c_13_15 rfl (by omega) ?_
  refine y_ic_ge c_13_16 (by omega) (by omega) (fun h_16 => absurd h_16 (by omega)) (fun h_16 => ?_)
  refine y_il2 c_13_19 ?_
  refine y_al0 c_13_20 ?_
  refine y_gr 95 c_13_21 rfl (by omega) ?_
  refine y_len (t := 0) (n := 256) c_13_24 rfl (by omega) ?_
  refine y_ic_lt c_13_25 (by omega) (by omega) (fun h_25 => ?_) (fun h_25 => absurd h_25 (by omega))
  refine y_al0 c_13_30 ?_
  refine y_gr 94 c_13_31 rfl (by omega) ?_
  refine y_il2 c_13_34 ?_
  refine y_ald (n := 256) c_13_35 rfl (by omega) (by omega) (by omega) rfl (fun r_35 => ?_)
  refine y_al0 c_13_36 ?_
  refine y_gi (j := 4) c_13_37 rfl rfl rfl (fun r_37 => ?_)
  refine y_ic_lt c_13_40 (by omega) (by omega) (fun h_40 => ?_) (fun h_40 => ?_)
  · refine y_ic c_13_69 ?_
    refine y_goto c_13_70 ?_
    refine y_zret c_13_74 rfl (by omega) ?_
    first | (rw [if_pos (by omega)] at hQ; exact hQ) | (rw [if_neg (by omega)] at hQ; exact hQ)
  · refine y_al0 c_13_43 ?_
    refine y_gr 94 c_13_44 rfl (by omega) ?_
    refine y_il2 c_13_47 ?_
    refine y_ald (n := 256) c_13_48 rfl (by omega) (by omega) (by omega) rfl (fun r_48 => ?_)
    refine y_al0 c_13_49 ?_
    refine y_gi (j := 4) c_13_50 rfl rfl rfl (fun r_50 => ?_)
    refine y_ic_ne c_13_53 (by omega) (by omega) (fun h_53 => ?_) (fun h_53 => ?_)
    · refine y_ic c_13_73 ?_
      refine y_zret c_13_74 rfl (by omega) ?_
      first | (rw [if_pos (by omega)] at hQ; exact hQ) | (rw [if_neg (by omega)] at hQ; exact hQ)
    · refine y_al0 c_13_56 ?_
      refine y_gr 95 c_13_57 rfl (by omega) ?_
      refine y_il2 c_13_60 ?_
      refine y_ald (n := 256) c_13_61 rfl (by omega) (by omega) (by omega) rfl (fun r_61 => ?_)
      refine y_al0 c_13_62 ?_
      refine y_gi (j := 5) c_13_63 rfl rfl rfl (fun r_63 => ?_)
      refine y_ic_ge c_13_66 (by omega) (by omega) (fun h_66 => ?_) (fun h_66 => ?_)
      · refine y_ic c_13_73 ?_
        refine y_zret c_13_74 rfl (by omega) ?_
        first | (rw [if_pos (by omega)] at hQ; exact hQ) | (rw [if_neg (by omega)] at hQ; exact hQ)
      · refine y_ic c_13_69 ?_
        refine y_goto c_13_70 ?_
        refine y_zret c_13_74 rfl (by omega) ?_
        first | (rw [if_pos (by omega)] at hQ; exact hQ) | (rw [if_neg (by omega)] at hQ; exact hQ)
theorem s_14 {k : Nat} (hk : k < 64) (hQ : Q none x (wup (wup M 93 4 (M 94 ((4 * k + 3 : Nat) : Int))) 93 5 (M 95 ((4 * k + 3 : Nat) : Int)))) : yG x M 14 0 [.ref 93, .int (iI (k : Int)), zU] [] Q := by
  refine y_il1 c_14_0 ?_
  refine y_ic c_14_1 ?_
  refine k_6 c_14_2 rfl (Nat.le_of_ble_eq_true rfl) ?_
  refine s_6 (a := k) (b := 3) ?_
  refine y_is2 c_14_5 rfl ?_
  refine y_il2 c_14_6 ?_
  refine y_iz_lt c_14_7 (by omega) (fun h_7 => absurd h_7 (by omega)) (fun h_7 => ?_)
  refine y_il2 c_14_10 ?_
  refine y_al0 c_14_11 ?_
  refine y_gr 94 c_14_12 rfl (by omega) ?_
  refine y_len (t := 0) (n := 256) c_14_15 rfl (by omega) ?_
  refine y_ic_ge c_14_16 (by omega) (by omega) (fun h_16 => absurd h_16 (by omega)) (fun h_16 => ?_)
  refine y_il2 c_14_19 ?_
  refine y_al0 c_14_20 ?_
  refine y_gr 95 c_14_21 rfl (by omega) ?_
  refine y_len (t := 0) (n := 256) c_14_24 rfl (by omega) ?_
  refine y_ic_ge c_14_25 (by omega) (by omega) (fun h_25 => absurd h_25 (by omega)) (fun h_25 => ?_)
  refine y_al0 c_14_28 ?_
  refine y_al0 c_14_29 ?_
  refine y_gr 94 c_14_30 rfl (by omega) ?_
  refine y_il2 c_14_33 ?_
  refine y_ald (n := 256) c_14_34 rfl (by omega) (by omega) (by omega) rfl (fun r_34 => ?_)
  refine y_pi (j := 4) c_14_35 rfl rfl rfl (by omega) ?_
  refine y_al0 c_14_38 ?_
  refine y_al0 c_14_39 ?_
  refine y_gr 95 c_14_40 rfl (by omega) ?_
  refine y_il2 c_14_43 ?_
  refine y_ald (n := 256) (u := M 95 ((4 * k + 3 : Nat) : Int)) c_14_44 rfl (by omega) (by omega) (by omega) (wup_a _ _ _ _ (by omega)) (fun r_44 => ?_)
  refine y_pi (j := 5) c_14_45 rfl rfl rfl (by omega) ?_
  refine y_vret c_14_48 rfl ?_
  exact hQ
end S6
