/-! ===== what sets of sayings are worth ===== -/
section S9
variable {x : wC} {M : wM} {Q : Option Value → wC → wM → Prop} {p u : Nat} {P : aP} {R : aR}
theorem iand_not0 : ∀ s : Nat, s < 64 → ∀ y : Nat, y < 6 → ¬ (s / 2 ^ y % 2 = 1) → iI (s : Int) &&& (iI ((2 ^ y : Nat) : Int) ^^^ iI (-1)) = iI (s : Int) := by decide +kernel
theorem aDec_mono (hok : aPok P) {m m' : Nat} {q : List Nat} (h : aDec P R m q) (hm : ∀ y ∈ q, m' / 2 ^ y % 2 = 1) : aDec P R m' q := by
  obtain ⟨⟨h1, h2, h3, h4⟩, h5⟩ := h
  exact ⟨⟨h1, h2, fun y hy => ⟨(h3 y hy).1, hm y hy⟩, h4⟩, h5⟩
theorem aDec_63 (hok : aPok P) {m : Nat} {q : List Nat} (h : aDec P R m q) : aDec P R 63 q := aDec_mono hok h (fun y hy => m63 y (by have := (h.1.2.2.1 y hy).1; have := hok.2.2.1; omega))
/-- what a set is worth: itself, or a part without one -/
theorem aMax_step (hok : aPok P) (hRk : aRok P R) {set : Nat} (hset : set < 64) {v : Nat} (f : Nat → Nat) (hf : ∀ y, y < 6 → set / 2 ^ y % 2 = 1 → aMax P R (set - 2 ^ y) (f y))
    (h1 : (∃ q, aDec P R set q ∧ v = aWarm P q) ∨ v = 0) (h2 : ∀ q, aDec P R 63 q → aBits q = set → aWarm P q ≤ v) (h3 : ∀ y, y < 6 → set / 2 ^ y % 2 = 1 → f y ≤ v) : aMax P R set v := by
  have hub : ∀ q, aDec P R set q → aWarm P q ≤ v := fun q hq => by
    obtain ⟨l1, l2, l3, -⟩ := aCnd_lt hok hRk hq.1
    by_cases hall : ∀ z, z < 6 → set / 2 ^ z % 2 = 1 → z ∈ q
    · refine h2 q (aDec_63 hok hq) (bits_full _ l3 _ hset (fun z hz => ?_))
      rw [aBits_mem]
      exact ⟨fun h => (hq.1.2.2.1 z h).2, fun h => hall z hz h⟩
    · obtain ⟨z, hz⟩ := Classical.not_forall.mp hall
      have hz6 : z < 6 := Classical.byContradiction fun h => hz (fun h' => absurd h' h)
      have hzs : set / 2 ^ z % 2 = 1 := Classical.byContradiction fun h => hz (fun _ h' => absurd h' h)
      have hzq : z ∉ q := fun h => hz (fun _ _ => h)
      have hq2 : aDec P R (set - 2 ^ z) q := aDec_mono hok hq (fun y hy => (sub_bit hset hz6 (l1 y hy) hzs).mpr ⟨(hq.1.2.2.1 y hy).2, fun e => hzq (by rw [← e]; exact hy)⟩)
      rcases hf z hz6 hzs with ⟨q1, a1, b1, c1⟩ | ⟨a1, -⟩
      · have := c1 q hq2
        have := h3 z hz6 hzs
        omega
      · exact absurd hq2 (a1 q)
  by_cases hex : ∃ q, aDec P R set q
  · rcases h1 with ⟨q, a, b⟩ | h0
    · exact Or.inl ⟨q, a, b, hub⟩
    · obtain ⟨q, hq⟩ := hex
      have := hub q hq
      exact Or.inl ⟨q, hq, by omega, hub⟩
  · rcases h1 with ⟨q, a, b⟩ | h0
    · exact absurd ⟨q, a⟩ hex
    · exact Or.inr ⟨fun q hq => hex ⟨q, hq⟩, h0⟩
theorem s_15 (hp : wportS p) (hM : wport M p P) (hok : aPok P) (hRk : aRok P R) (hT : wTa M P R) (hp93 : p + 14 < 93) (hQ : ∀ (M' : wM), (∃ f : Nat → Nat, ∀ set : Nat, set < 64 → M' 96 set = f set ∧ aMax P R set (f set) ∧ f set ≤ 54) → (∀ b, b ≠ 96 → M' b = M b) → Q none x M') : yG x M 15 0 [.ref 93, .ref p, zU, zU, zU, zU] [] Q := by
  obtain ⟨q0, q1, q2, q3, q4, q5, q6, qc, j0, j1, j2, j3, j4, j5, j6, qlt⟩ := id hp
  have key : ∀ d k : Nat, 64 < k + d → k ≤ 64 → ∀ (M1 : wM) (f : Nat → Nat) (t3 t4 t5 : Value), (∀ a, a ≠ 96 → M1 a = M a) → (∀ set : Nat, set < k → M1 96 set = f set ∧ aMax P R set (f set) ∧ f set ≤ 54) → yG x M1 15 2 [.ref 93, .ref p, .int (iI (k : Int)), t3, t4, t5] [] Q := by
    intro d
    induction d with
    | zero => intro k g1 g2; omega
    | succ d ih =>
      intro k g1 g2 M1 f t3 t4 t5 c1 c2
      have hT1 : wTa M1 P R := wTa_of hT (c1 _ (by omega)) (c1 _ (by omega))
      have hM1 : wport M1 p P := wport_of hM (fun a h1 h2 => c1 a (by omega))
      have hwl := aWs_le hok k P.2.2.2 (Nat.le_refl _)
      have h6 := hok.2.2.1
      have inner : k < 64 → ∀ v0 : Nat, ((∃ q, aDec P R k q ∧ v0 = aWarm P q) ∨ v0 = 0) → v0 ≤ 54 → (∀ q, aDec P R 63 q → aBits q = k → aWarm P q ≤ v0) → ∀ d2 j : Nat, 6 < j + d2 → j ≤ 6 → ∀ v : Nat, v0 ≤ v → v ≤ 54 → ((∃ q, aDec P R k q ∧ v = aWarm P q) ∨ v = 0) → (∀ y, y < j → k / 2 ^ y % 2 = 1 → f (k - 2 ^ y) ≤ v) → ∀ t5 : Value, yG x M1 15 32 [.ref 93, .ref p, .int (iI (k : Int)), .int (iI (v : Int)), .int (iI (j : Int)), t5] [] Q := by
        intro hk64 v0 hv0 hv54 hv0q d2
        induction d2 with
        | zero => intro j e1 e2; omega
        | succ d2 ih2 =>
          intro j e1 e2 v e3 e4 e5 e6 t5
          refine y_il4 c_15_32 ?_
          refine y_bi c_15_34 (by decide) ?_
          refine y_ic_ge c_15_36 (by omega) (by omega) (fun h_36 => ?_) (fun h_36 => ?_)
          · have hj : j = 6 := by omega
            subst hj
            refine y_al0 c_15_78 ?_
            refine y_gr 96 c_15_79 rfl (by omega) ?_
            refine y_il2 c_15_82 ?_
            refine y_il3 c_15_83 ?_
            refine y_ast (n := 64) c_15_84 rfl (by omega) (by omega) (by omega) (by omega) ?_
            refine y_inc2 c_15_85 rfl ?_
            refine y_goto c_15_88 ?_
            refine ih (k + 1) (by omega) (by omega) _ (fun s => if s = k then v else f s) _ _ _ (fun a ha => by rw [wup_f _ _ _ ha]; exact c1 a ha) (fun set hset => ?_)
            by_cases hsk : set = k
            · subst hsk
              rw [wup_s]
              simp only [if_true]
              refine ⟨trivial, aMax_step hok hRk hk64 (fun y => f (set - 2 ^ y)) (fun y hy hb => (c2 (set - 2 ^ y) ?_).2.1) e5 (fun q hq e => Nat.le_trans (hv0q q hq e) e3) (fun y hy hb => e6 y hy hb), e4⟩
              have : 1 ≤ 2 ^ y := Nat.one_le_two_pow
              have : 1 ≤ set := by
                rcases Nat.eq_zero_or_pos set with h | h
                · subst h; simp at hb
                · exact h
              omega
            · rw [wup_k _ _ (by omega)]
              simp only [hsk, if_false]
              exact c2 set (by omega)
          · have hj : j < 6 := by omega
            refine y_il2 c_15_39 ?_
            refine y_ic c_15_40 ?_
            refine y_il4 c_15_41 ?_
            refine y_shl (x1 := 1) (x2 := j) c_15_43 (by omega) (by have := Nat.pow_le_pow_right (show 0 < 2 by omega) (show j ≤ 5 by omega); omega) ?_
            rw [Nat.one_mul]
            refine y_ic c_15_44 ?_
            refine y_st c_15_45 rfl rfl id ?_
            refine y_st c_15_46 rfl rfl id ?_
            by_cases h_45 : k / 2 ^ j % 2 = 1
            rotate_left
            · rw [iand_not0 k hk64 j hj h_45]
              refine y_is5 c_15_47 rfl ?_
              refine y_il5 c_15_49 ?_
              refine y_iz_lt c_15_51 (by omega) (fun h => absurd h (by omega)) (fun h => ?_)
              refine y_il5 c_15_54 ?_
              refine y_il2 c_15_56 ?_
              refine y_ic_ge c_15_57 (by omega) (by omega) (fun _ => ?_) (fun h => absurd h (by omega))
              refine y_inc4 c_15_72 rfl ?_
              refine y_goto c_15_75 ?_
              refine ih2 (j + 1) (by omega) (by omega) v e3 e4 e5 (fun y hy hb => ?_) _
              by_cases hyj : y = j
              · subst hyj; exact absurd hb h_45
              · exact e6 y (by omega) hb
            rw [iand_not k hk64 j hj h_45]
            have hpow : 1 ≤ 2 ^ j := Nat.one_le_two_pow
            have hkge : 1 ≤ k := by
              rcases Nat.eq_zero_or_pos k with h | h
              · subst h; simp at h_45
              · exact h
            obtain ⟨f1, f2, f3⟩ := c2 (k - 2 ^ j) (by omega)
            refine y_is5 c_15_47 rfl ?_
            refine y_il5 c_15_49 ?_
            refine y_iz_lt c_15_51 (by omega) (fun h_51 => absurd h_51 (by omega)) (fun h_51 => ?_)
            refine y_il5 c_15_54 ?_
            refine y_il2 c_15_56 ?_
            refine y_ic_ge c_15_57 (by omega) (by omega) (fun h_57 => absurd h_57 (by omega)) (fun h_57 => ?_)
            refine y_il3 c_15_60 ?_
            refine y_al0 c_15_61 ?_
            refine y_gr 96 c_15_62 rfl (by omega) ?_
            refine y_il5 c_15_65 ?_
            refine y_ald (n := 64) (u := ((f (k - 2 ^ j) : Nat) : Int)) c_15_67 rfl (by omega) (by omega) (by omega) f1 (fun r_67 => ?_)
            refine y_max c_15_68 (Nat.le_of_ble_eq_true rfl) (by omega) (by omega) ?_
            have emax : (if (v : Int) < ((f (k - 2 ^ j) : Nat) : Int) then ((f (k - 2 ^ j) : Nat) : Int) else (v : Int)) = ((max v (f (k - 2 ^ j)) : Nat) : Int) := by split <;> omega
            rw [emax]
            refine y_is3 c_15_71 rfl ?_
            refine y_inc4 c_15_72 rfl ?_
            refine y_goto c_15_75 ?_
            refine ih2 (j + 1) (by omega) (by omega) (max v (f (k - 2 ^ j))) (by omega) (by omega) ?_ (fun y hy hb => ?_) _
            · rcases Nat.le_total v (f (k - 2 ^ j)) with h | h
              · rw [Nat.max_eq_right h]
                rcases f2 with ⟨q1, a1, b1, -⟩ | ⟨-, b1⟩
                · exact Or.inl ⟨q1, aDec_mono hok a1 (fun y hy => ((sub_bit hk64 hj (by have := (a1.1.2.2.1 y hy).1; omega) h_45).mp (a1.1.2.2.1 y hy).2).1), b1⟩
                · exact Or.inr b1
              · rw [Nat.max_eq_left h]; exact e5
            · by_cases hyj : y = j
              · subst hyj; omega
              · have := e6 y (by omega) hb; omega
      refine y_il2 c_15_2 ?_
      refine y_al0 c_15_3 ?_
      refine y_gr 96 c_15_4 rfl (by omega) ?_
      refine y_len (t := 0) (n := 64) c_15_7 rfl (by omega) ?_
      refine y_ic_ge c_15_8 (by omega) (by omega) (fun h_8 => ?_) (fun h_8 => ?_)
      · have hk : k = 64 := by omega
        subst hk
        refine y_vret c_15_91 rfl ?_
        exact hQ M1 ⟨f, c2⟩ c1
      · refine y_al0 c_15_11 ?_
        refine y_il2 c_15_12 ?_
        refine k_12 c_15_13 rfl rfl (Nat.le_of_ble_eq_true rfl) ?_
        refine s_12 (k := k) (by omega) ?_
        refine y_pz_eq c_15_16 (fun h_16 => ?_) (fun h_16 => ?_)
        · refine y_ic c_15_27 ?_
          refine y_is3 c_15_28 rfl ?_
          refine y_ic c_15_29 ?_
          refine y_is4 c_15_30 rfl ?_
          have hno : ∀ q, aDec P R 63 q → aBits q = k → aWarm P q ≤ 0 := fun q hq e => by
            have h1 := hT1.2 q hq.1
            rw [aIx_dec hq, e] at h1
            unfold wLe at h1; omega
          exact inner (by omega) 0 (Or.inr rfl) (by omega) hno 7 0 (by omega) (by omega) 0 (by omega) (by omega) (Or.inr rfl) (fun y hy => by omega) _
        rcases hT1.1 (4 * k + 3) (by omega) with h | ⟨qz, hqz, hiz, hcz, hfz⟩
        · omega
        obtain ⟨hdz, hbz⟩ := aDec_ix hok hRk hqz hiz
        have hwz : aWs P k P.2.2.2 = aWarm P qz := by rw [aDec_warm hok hRk hqz, hbz]
        have hdk : aDec P R k qz := aDec_mono hok hdz (fun y hy => by rw [← hbz]; exact (aBits_mem qz y).mpr hy)
        refine y_al1 c_15_19 ?_
        refine y_il2 c_15_20 ?_
        refine k_30 c_15_21 rfl qc (Nat.le_of_ble_eq_true rfl) ?_
        refine s_30 (set := k) hp hM1 hok (by omega) ?_
        refine y_goto c_15_24 ?_
        refine y_is3 c_15_28 rfl ?_
        refine y_ic c_15_29 ?_
        refine y_is4 c_15_30 rfl ?_
        exact inner (by omega) (aWs P k P.2.2.2) (Or.inl ⟨qz, hdk, hwz⟩) (by omega) (fun q hq e => by rw [aDec_warm hok hRk hq.1, e]; exact Nat.le_refl _) 7 0 (by omega) (by omega) _ (Nat.le_refl _) (by omega) (Or.inl ⟨qz, hdk, hwz⟩) (fun y hy => by omega) _
  refine y_ic c_15_0 ?_
  refine y_is2 c_15_1 rfl ?_
  exact key 65 0 (by omega) (by omega) M (fun _ => 0) _ _ _ (fun _ _ => rfl) (fun s hs => by omega)
theorem s_16 {s y v1 v2 : Nat} (hs : s < 64) (hy : y < 6) (h1 : M 96 ((s ||| 2 ^ y : Nat) : Int) = v1) (h2 : M 96 (s : Int) = v2) (hQ : Q (some (.int (iI ((v1 : Int) - (v2 : Int))))) x M) : yG x M 16 0 [.ref 93, .int (iI (s : Int)), .int (iI (y : Int)), zU] [] Q := by
  have hp2 := Nat.pow_le_pow_right (show 0 < 2 by omega) (show y ≤ 5 by omega)
  have hor : s ||| 2 ^ y < 2 ^ 6 := Nat.or_lt_two_pow (by omega) (Nat.pow_lt_pow_right (by omega) hy)
  refine y_il1 c_16_0 ?_
  refine y_ic c_16_1 ?_
  refine y_il2 c_16_2 ?_
  refine y_shl (x1 := 1) (x2 := y) c_16_3 (by omega) (by omega) ?_
  rw [Nat.one_mul]
  refine y_ior (x1 := s) (x2 := 2 ^ y) c_16_4 ?_
  refine y_is3 c_16_5 rfl ?_
  refine y_il1 c_16_6 ?_
  refine y_iz_lt c_16_7 (by omega) (fun h_7 => absurd h_7 (by omega)) (fun h_7 => ?_)
  refine y_il1 c_16_10 ?_
  refine y_al0 c_16_11 ?_
  refine y_gr 96 c_16_12 rfl (by omega) ?_
  refine y_len (t := 0) (n := 64) c_16_15 rfl (by omega) ?_
  refine y_ic_ge c_16_16 (by omega) (by omega) (fun h_16 => absurd h_16 (by omega)) (fun h_16 => ?_)
  refine y_il3 c_16_19 ?_
  refine y_iz_lt c_16_20 (by omega) (fun h_20 => absurd h_20 (by omega)) (fun h_20 => ?_)
  refine y_il3 c_16_23 ?_
  refine y_al0 c_16_24 ?_
  refine y_gr 96 c_16_25 rfl (by omega) ?_
  refine y_len (t := 0) (n := 64) c_16_28 rfl (by omega) ?_
  refine y_ic_lt c_16_29 (by omega) (by omega) (fun h_29 => ?_) (fun h_29 => absurd h_29 (by omega))
  refine y_al0 c_16_34 ?_
  refine y_gr 96 c_16_35 rfl (by omega) ?_
  refine y_il3 c_16_38 ?_
  refine y_ald (n := 64) (u := (v1 : Int)) c_16_39 rfl (by omega) (by omega) (by omega) h1 (fun r_39 => ?_)
  refine y_al0 c_16_40 ?_
  refine y_gr 96 c_16_41 rfl (by omega) ?_
  refine y_il1 c_16_44 ?_
  refine y_ald (n := 64) (u := (v2 : Int)) c_16_45 rfl (by omega) (by omega) (by omega) h2 (fun r_45 => ?_)
  refine y_sub c_16_46 ?_
  refine y_ret c_16_47 rfl ?_
  exact hQ
end S9
