/-! ===== doings at a glass; shelves, acts, timed ===== -/
theorem yQn {Q : Option Value → wC → wM → Prop} {x : wC} {M M' : wM} (h : Q none x M) (e : M = M') : Q none x M' := e ▸ h
section S4
variable {x : wC} {M : wM} {Q : Option Value → wC → wM → Prop} {p u : Nat} {P : aP} {R : aR}
theorem aRok_run (hRk : aRok P R) (hrun : R.1 ≠ -9) : ∃ g s : Nat, R.1 = g ∧ R.2.1 = s ∧ g < P.2.1 ∧ s < P.2.2.1 := by
  rcases hRk with h | ⟨h, -⟩
  · rw [h] at hrun; exact absurd rfl hrun
  · exact h
theorem aTake_le (hok : aPok P) (hRk : aRok P R) {y : Nat} (hy : y < P.2.2.2) (hrun : R.1 ≠ -9) : aTake P R y ≤ 74 := by
  obtain ⟨z1, z2, z3, z4, z5⟩ := aRok_len hok hRk
  rcases hRk with rfl | ⟨⟨g, s, hg, hs, hgl, hsl⟩, -⟩
  · exact absurd rfl hrun
  unfold aTake aCost
  rw [hs, hg, Int.toNat_natCast, Int.toNat_natCast]
  exact aCostBy_le hok (hok.2.2.2.2.1 s hsl).2.1 hy z2
theorem getD_app {l : List Nat} {y i : Nat} : (l ++ [y]).getD i 0 = if i < l.length then l.getD i 0 else if i = l.length then y else 0 := by
  simp only [List.getD_eq_getElem?_getD, List.getElem?_append]
  split
  · rfl
  · rename_i h
    split
    · rename_i h2; subst h2; simp
    · rename_i h2
      have : ∃ k, i - l.length = k + 1 := ⟨i - l.length - 1, by omega⟩
      obtain ⟨k, hk⟩ := this
      simp [hk]
theorem aSay_ok (hRk : aRok P R) {y : Nat} (hy : y < P.2.2.2) (hc : aCan P R y) : aRok P (aSay P R y) := by
  rcases hRk with rfl | ⟨h1, h2, h3, h4⟩
  · exact absurd rfl hc.1
  · refine Or.inr ⟨h1, by show R.2.2.1 - _ ≤ 135; omega, ?_, fun z hz => ?_⟩
    · show (R.2.2.2 ++ [y]).Nodup
      rw [List.nodup_append]
      refine ⟨h3, by simp, fun a ha b hb => ?_⟩
      have : b = y := by simpa using hb
      subst this
      intro e; subst e
      exact hc.2.1 ha
    · rcases List.mem_append.mp hz with hz | hz
      · exact h4 z hz
      · have : z = y := by simpa using hz
        subst this; exact hy
theorem aLen_lt (hok : aPok P) (hRk : aRok P R) {y : Nat} (hy : y < P.2.2.2) (hc : y ∉ R.2.2.2) : R.2.2.2.length < 6 := by
  obtain ⟨z1, z2, z3, z4, z5⟩ := aRok_len hok hRk
  have h := nd_len P.2.2.2 (R.2.2.2 ++ [y]) (by
    rw [List.nodup_append]
    refine ⟨z5, by simp, fun a ha b hb => ?_⟩
    have : b = y := by simpa using hb
    subst this
    intro e; subst e; exact hc ha) (fun z hz => by
      rcases List.mem_append.mp hz with hz | hz
      · exact z3 z hz
      · have : z = y := by simpa using hz
        subst this; exact hy)
  have := hok.2.2.1
  simp at h
  omega
theorem s_51 {z : Int} (hu : wrunS u) (hR : wrun M u R) (hp : wportS p) (hM : wport M p P) (hok : aPok P) (hRk : aRok P R) (hz : wR z) (hd : ∀ b, p ≤ b → b ≤ p + 14 → b < u ∨ u + 2 < b)
    (hQ0 : (∀ y : Nat, z = y → y < P.2.2.2 → ¬ aCan P R y) → Q (some (.int (iI 0))) x M) (hQ1 : ∀ y : Nat, z = y → y < P.2.2.2 → aCan P R y → ∀ M', wrun M' u (aSay P R y) → wfr M M' u (u + 2) → Q (some (.int (iI 1))) x M') :
    yG x M 51 0 [.ref u, .ref p, .int (iI z)] [] Q := by
  obtain ⟨z1, z2, z3, z4, z5⟩ := aRok_len hok hRk
  obtain ⟨f0, f1, f2, f3, fc, g3, flt⟩ := id hu
  obtain ⟨a0, a1, a2, a3, a4⟩ := id hR
  obtain ⟨q0, q1, q2, q3, q4, q5, q6, qc, j0, j1, j2, j3, j4, j5, j6, qlt⟩ := id hp
  obtain ⟨⟨n0, n1, n2, n3, n4, n5, n6⟩, v0, v1, v2, v3, v4, v5, v6⟩ := id hM
  obtain ⟨k1, k2, k3, k4, k5, k6⟩ := id hok
  refine y_al0 c_51_0 ?_
  refine k_44 c_51_1 rfl fc (Nat.le_of_ble_eq_true rfl) ?_
  refine s_44 hu ?_
  by_cases hrun : M u 0 = -9
  · rw [if_pos hrun]
    refine y_iz_eq c_51_4 (by omega) (fun _ => ?_) (fun h => absurd h (by omega))
    refine y_ic c_51_36 ?_
    refine y_zret c_51_37 rfl (by omega) ?_
    exact hQ0 (fun y _ _ hc => hc.1 (by omega))
  rw [if_neg hrun]
  have hne : R.1 ≠ -9 := by omega
  refine y_iz_eq c_51_4 (by omega) (fun h => absurd h (by omega)) (fun _ => ?_)
  refine y_al1 c_51_7 ?_
  refine y_il2 c_51_8 ?_
  refine k_26 c_51_9 rfl qc (Nat.le_of_ble_eq_true rfl) ?_
  refine s_26 hp hz ?_
  refine y_pz_eq c_51_12 (fun hin => ?_) (fun hin => ?_)
  · refine y_ic c_51_36 ?_
    refine y_zret c_51_37 rfl (by omega) ?_
    first
      | exact hQ0 (fun y e hy hc => hin (by omega))
      | exact hQ0 (fun y2 e hy hc => hc.2.1 (by have e2 : y2 = y := by omega
                                                rw [e2]; exact hns))
      | exact hQ0 (fun y2 e hy hc => by have h3 := hc.2.2; rw [show y2 = y by omega] at h3; omega)
  · obtain ⟨y, rfl⟩ : ∃ y : Nat, z = y := ⟨z.toNat, by omega⟩
    have hlt : y < P.2.2.2 := by omega
    have htk := aTake_le hok hRk hlt hne
    refine y_al0 c_51_15 ?_
    refine y_il2 c_51_16 ?_
    refine k_47 c_51_17 rfl fc (Nat.le_of_ble_eq_true rfl) ?_
    refine s_47 hu hR z2 (fun y hy => by have := z3 y hy; omega) (by omega) ?_
    refine y_pz_ne c_51_20 (fun hns => ?_) (fun hns => ?_)
    · refine y_ic c_51_36 ?_
      refine y_zret c_51_37 rfl (by omega) ?_
      first
        | exact hQ0 (fun y e hy hc => hin (by omega))
        | exact hQ0 (fun y2 e hy hc => hc.2.1 (by have e2 : y2 = y := by omega
                                                  rw [e2]; exact hns))
        | exact hQ0 (fun y2 e hy hc => by have h3 := hc.2.2; rw [show y2 = y by omega] at h3; omega)
    · have hl6 := aLen_lt hok hRk hlt hns
      refine y_al0 c_51_23 ?_
      refine y_al1 c_51_24 ?_
      refine y_il2 c_51_25 ?_
      refine k_50 c_51_26 rfl fc (Nat.le_of_ble_eq_true rfl) ?_
      refine s_50 hu hR hp hM hok hRk hne hlt ?_
      refine y_al0 c_51_29 ?_
      refine y_gi (j := 2) c_51_30 f2 rfl rfl (fun r_30 => ?_)
      refine y_ic_le c_51_33 (by omega) (by omega) (fun hle => ?_) (fun hle => ?_)
      · refine y_al0 c_51_38 ?_
        refine y_dup c_51_39 rfl ?_
        refine y_gi (j := 2) c_51_40 f2 rfl rfl (fun r_40 => ?_)
        refine y_al0 c_51_43 ?_
        refine y_al1 c_51_44 ?_
        refine y_il2 c_51_45 ?_
        refine k_50 c_51_46 rfl fc (Nat.le_of_ble_eq_true rfl) ?_
        refine s_50 hu hR hp hM hok hRk hne hlt ?_
        refine y_sub c_51_49 ?_
        refine y_pi (j := 2) c_51_50 f2 rfl rfl (by omega) ?_
        refine y_al0 c_51_53 ?_
        refine y_gr (u + 1) c_51_54 f3 (by omega) ?_
        refine y_il2 c_51_57 ?_
        refine k_37 c_51_58 rfl (wrow_cl g3) (Nat.le_of_ble_eq_true rfl) ?_
        refine s_37 g3 (by omega) (by rw [wup_a _ _ _ _ (by omega), a3]; omega) (by rw [wup_a _ _ _ _ (by omega), a3]; omega) ?_
        rw [wup_a M _ _ _ (show u + 1 ≠ u by omega)]
        refine y_ic c_51_61 ?_
        refine y_zret c_51_62 rfl (by omega) ?_
        refine hQ1 _ rfl hlt ⟨hne, hns, by omega⟩ _ ⟨?_, ?_, ?_, ?_, ?_⟩ ?_
        · rw [wup_a _ _ _ _ (by omega), wup_a _ _ _ _ (by omega), wup_k _ _ (by omega)]; exact a0
        · rw [wup_a _ _ _ _ (by omega), wup_a _ _ _ _ (by omega), wup_k _ _ (by omega)]; exact a1
        · rw [wup_a _ _ _ _ (by omega), wup_a _ _ _ _ (by omega), wup_s]; show _ = ((R.2.2.1 - aTake P R y : Nat) : Int); omega
        · rw [wup_s]; simp [aSay]; exact a3
        · intro i hi
          simp only [aSay, List.length_append, List.length_singleton] at hi
          simp only [aSay]
          rw [wup_a _ _ _ _ (by omega)]
          show wup (wup M u 2 _) (u + 2) (M (u + 1) 3) _ (u + 2) i = _
          rw [a3, getD_app]
          by_cases hik : i = R.2.2.2.length
          · subst hik; rw [wup_s, if_neg (by omega), if_pos rfl]
          · rw [wup_k _ _ (by omega), wup_a _ _ _ _ (by omega), if_pos (by omega)]; exact a4 i (by omega)
        · intro b hb; rw [wup_f _ _ _ (by omega), wup_f _ _ _ (by omega), wup_f _ _ _ (by omega)]
      · refine y_ic c_51_36 ?_
        refine y_zret c_51_37 rfl (by omega) ?_
        first
          | exact hQ0 (fun y e hy hc => hin (by omega))
          | exact hQ0 (fun y2 e hy hc => hc.2.1 (by have e2 : y2 = y := by omega
                                                    rw [e2]; exact hns))
          | exact hQ0 (fun y2 e hy hc => by have h3 := hc.2.2; rw [show y2 = y by omega] at h3; omega)
theorem s_52 (hu : wrunS u) (hR : wrun M u R) (hp : wportS p) (hM : wport M p P) (hok : aPok P) (hRk : aRok P R)
    (hQ0 : ¬ (R.1 ≠ -9 ∧ aPz P R ≤ R.2.2.1) → Q (some (.int (iI 0))) x M) (hQ1 : R.1 ≠ -9 → aPz P R ≤ R.2.2.1 → ∀ M', wrun M' u (R.1, R.2.1, R.2.2.1 - aPz P R, R.2.2.2) → wfr M M' u (u + 2) → Q (some (.int (iI 1))) x M') :
    yG x M 52 0 [.ref u, .ref p, zU] [] Q := by
  obtain ⟨z1, z2, z3, z4, z5⟩ := aRok_len hok hRk
  obtain ⟨f0, f1, f2, f3, fc, g3, flt⟩ := id hu
  obtain ⟨a0, a1, a2, a3, a4⟩ := id hR
  obtain ⟨q0, q1, q2, q3, q4, q5, q6, qc, j0, j1, j2, j3, j4, j5, j6, qlt⟩ := id hp
  obtain ⟨⟨n0, n1, n2, n3, n4, n5, n6⟩, v0, v1, v2, v3, v4, v5, v6⟩ := id hM
  obtain ⟨k1, k2, k3, k4, k5, k6⟩ := id hok
  have hpz : aPz P R ≤ 1 := by unfold aPz; split <;> omega
  have hb1 : ∀ i : Nat, i < P.2.1 → P.1 1 i ≤ 3 := fun i hi => (k4 i hi).2.2
  have hat : (if 0 ≤ M u 0 ∧ M u 0 < M (p + 3) 3 ∧ M u 0 < (4 : Nat) then M (p + 3 + 1) (M u 0) else -9) = if R.1 = -9 then -9 else ((P.1 1 R.1.toNat : Nat) : Int) := by
    by_cases hne : R.1 = -9
    · rw [if_neg (by omega), if_pos hne]
    · obtain ⟨g, s, hg, hs, hgl, hsl⟩ := aRok_run hRk hne
      rw [a0, hg, if_pos ⟨by omega, by omega, by omega⟩, if_neg (by omega)]
      exact v1 g hgl
  have hatb : R.1 ≠ -9 → P.1 1 R.1.toNat ≤ 3 := by
    intro hne
    obtain ⟨g, s, hg, hs, hgl, hsl⟩ := aRok_run hRk hne
    rw [hg]; exact hb1 _ hgl
  have go : ∀ c : Int, wR c → (R.1 ≠ -9 → c = aPz P R) → yG x M 52 21 [.ref u, .ref p, .int (iI c)] [] Q := by
    intro c hcr hc
    refine y_al0 c_52_21 ?_
    refine k_44 c_52_22 rfl fc (Nat.le_of_ble_eq_true rfl) ?_
    refine s_44 hu ?_
    by_cases hrun : M u 0 = -9
    · rw [if_pos hrun]
      refine y_iz_eq c_52_25 (by omega) (fun _ => ?_) (fun h => absurd h (by omega))
      refine y_ic c_52_36 ?_
      refine y_zret c_52_37 rfl (by omega) ?_
      exact hQ0 (fun hc => hc.1 (by omega))
    rw [if_neg hrun]
    have hne : R.1 ≠ -9 := by omega
    have hc := hc hne
    refine y_iz_eq c_52_25 (by omega) (fun h => absurd h (by omega)) (fun _ => ?_)
    refine y_il2 c_52_28 ?_
    refine y_al0 c_52_29 ?_
    refine y_gi (j := 2) c_52_30 f2 rfl rfl (fun r_30 => ?_)
    refine y_ic_le c_52_33 (by omega) (by omega) (fun hle => ?_) (fun hle => ?_)
    · refine y_al0 c_52_38 ?_
      refine y_dup c_52_39 rfl ?_
      refine y_gi (j := 2) c_52_40 f2 rfl rfl (fun r_40 => ?_)
      refine y_il2 c_52_43 ?_
      refine y_sub c_52_44 ?_
      refine y_pi (j := 2) c_52_45 f2 rfl rfl (by omega) ?_
      refine y_ic c_52_48 ?_
      refine y_zret c_52_49 rfl (by omega) ?_
      refine hQ1 hne (by omega) _ ⟨?_, ?_, ?_, ?_, ?_⟩ ?_
      · simp [wup]; exact a0
      · simp [wup]; exact a1
      · simp [wup]; omega
      · simp [wup]; exact a3
      · intro i hi; rw [wup_a _ _ _ _ (by omega)]; exact a4 i hi
      · intro b hb; rw [wup_f _ _ _ (by omega)]
    · refine y_ic c_52_36 ?_
      refine y_zret c_52_37 rfl (by omega) ?_
      exact hQ0 (fun hc => by omega)
  refine y_al1 c_52_0 ?_
  refine y_gr (p + 3) c_52_1 q1 (by omega) ?_
  refine y_al0 c_52_4 ?_
  refine y_gi (j := 0) c_52_5 f0 rfl rfl (fun r_5 => ?_)
  refine k_36 c_52_8 rfl (wrow_cl j1) (Nat.le_of_ble_eq_true rfl) ?_
  refine s_36 j1 (by omega) ?_
  rw [hat]
  refine y_ic c_52_11 ?_
  by_cases hrun : R.1 = -9
  · rw [if_pos hrun]
    refine y_ic_ne c_52_12 (by omega) (by omega) (fun _ => ?_) (fun h => absurd h (by omega))
    refine y_ic c_52_19 ?_
    refine y_is2 c_52_20 rfl ?_
    exact go 1 (by omega) (fun h => absurd hrun h)
  rw [if_neg hrun]
  have hb := hatb hrun
  refine y_ic_ne c_52_12 (by omega) (by omega) (fun h_12 => ?_) (fun h_12 => ?_)
  · refine y_ic c_52_19 ?_
    refine y_is2 c_52_20 rfl ?_
    exact go 1 (by omega) (fun _ => by unfold aPz; rw [if_neg (by omega)]; rfl)
  · refine y_ic c_52_15 ?_
    refine y_goto c_52_16 ?_
    refine y_is2 c_52_20 rfl ?_
    exact go 0 (by omega) (fun _ => by unfold aPz; rw [if_pos (by omega)]; rfl)
theorem s_53 {n : Nat} (hu : wrunS u) (hR : wrun M u R) (hl : R.2.2.1 ≤ 135) (hn : n ≤ 9)
    (hQ0 : ¬ (R.1 ≠ -9 ∧ 1 ≤ R.2.2.1) → Q (some (.int (iI 0))) x M) (hQ1 : R.1 ≠ -9 → 1 ≤ R.2.2.1 → ∀ M', wrun M' u (R.1, R.2.1, R.2.2.1 - n, R.2.2.2) → wfr M M' u (u + 2) → Q (some (.int (iI 1))) x M') :
    yG x M 53 0 [.ref u, .int (iI (n : Int))] [] Q := by
  obtain ⟨f0, f1, f2, f3, fc, g3, flt⟩ := id hu
  obtain ⟨a0, a1, a2, a3, a4⟩ := id hR
  refine y_al0 c_53_0 ?_
  refine k_44 c_53_1 rfl fc (Nat.le_of_ble_eq_true rfl) ?_
  refine s_44 hu ?_
  by_cases hrun : M u 0 = -9
  · rw [if_pos hrun]
    refine y_iz_eq c_53_4 (by omega) (fun _ => ?_) (fun h => absurd h (by omega))
    refine y_ic c_53_15 ?_
    refine y_zret c_53_16 rfl (by omega) ?_
    exact hQ0 (fun hc => hc.1 (by omega))
  rw [if_neg hrun]
  have hne : R.1 ≠ -9 := by omega
  refine y_iz_eq c_53_4 (by omega) (fun h => absurd h (by omega)) (fun _ => ?_)
  refine y_al0 c_53_7 ?_
  refine y_gi (j := 2) c_53_8 f2 rfl rfl (fun r_8 => ?_)
  refine y_ic c_53_11 ?_
  refine y_ic_ge c_53_12 (by omega) (by omega) (fun hle => ?_) (fun hle => ?_)
  · refine y_al0 c_53_17 ?_
    refine y_ic c_53_18 ?_
    refine y_al0 c_53_19 ?_
    refine y_gi (j := 2) c_53_20 f2 rfl rfl (fun r_20 => ?_)
    refine y_il1 c_53_23 ?_
    refine y_sub c_53_24 ?_
    refine y_max c_53_25 (Nat.le_of_ble_eq_true rfl) (by omega) (by omega) ?_
    refine y_pi (j := 2) c_53_28 f2 rfl rfl (by split <;> omega) ?_
    refine y_ic c_53_31 ?_
    refine y_zret c_53_32 rfl (by omega) ?_
    refine hQ1 hne (by omega) _ ⟨?_, ?_, ?_, ?_, ?_⟩ ?_
    · simp [wup]; exact a0
    · simp [wup]; exact a1
    · rw [wup_s]; show _ = ((R.2.2.1 - n : Nat) : Int); split <;> omega
    · simp [wup]; exact a3
    · intro i hi; rw [wup_a _ _ _ _ (by omega)]; exact a4 i hi
    · intro b hb; rw [wup_f _ _ _ (by omega)]
  · refine y_ic c_53_15 ?_
    refine y_zret c_53_16 rfl (by omega) ?_
    exact hQ0 (fun hc => by omega)
end S4
def wrl (a : Nat) : Nat := match wsh[a]? with
  | some (2, n, _) => n
  | _ => 9999
def wrr (a k : Nat) : Nat := match wsh[a]? with
  | some (2, _, s) => s.getD k 9999
  | _ => 9999
section S4b
variable {x : wC} {M : wM} {Q : Option Value → wC → wM → Prop} {mi pc : Nat} {l st : List Value} {ln a b w : Nat}
theorem wrl_get (x : wC) (M : wM) {o n : Nat} (h : wrl o = n) (hn : n < 9999) : ∃ s : List Nat, wsh[o]? = some (2, n, s) ∧ (wW x M)[o]? = some (.inr (.inl (n, fun k => s[k]?))) := by
  unfold wrl at h
  split at h
  · rename_i n2 s hs
    subst h
    exact ⟨s, hs, wW_get x M hs⟩
  · omega
theorem y_qlen {o n : Nat} (hc : zcode mi pc = some (.arraylength, ln, a, b, w)) (hw : wrl o = n) (hn : n < 9999) (k : yG x M mi (pc + 1) l (.int (iI (n : Int)) :: st) Q) : yG x M mi pc l (.ref o :: st) Q := by
  obtain ⟨s, g1, g2⟩ := wrl_get x M hw hn
  refine y_st (pc' := pc + 1) (l' := l) (st' := .int (iI (n : Int)) :: st) (x' := x) (M' := M) hc rfl ?_ id k
  simp only [zst, g2, iI_nat, nI]
theorem y_qld {o n r k : Nat} (hc : zcode mi pc = some (.aaload, ln, a, b, w)) (hw : wrl o = n) (hn : n < 9999) (hr : wrr o k = r) (h9 : r < 9999) (hk : k < n) (kk : yG x M mi (pc + 1) l (.ref r :: st) Q) : yG x M mi pc l (.int (iI (k : Int)) :: .ref o :: st) Q := by
  obtain ⟨s, g1, g2⟩ := wrl_get x M hw hn
  have hk2 : wR (k : Int) := by omega
  have hr2 : s[k]? = some r := by
    unfold wrr at hr
    rw [g1] at hr
    simp only [List.getD_eq_getElem?_getD] at hr
    cases hs : s[k]? with
    | none => rw [hs] at hr; simp at hr; omega
    | some r2 => rw [hs] at hr; simp at hr; rw [hr]
  refine y_st (pc' := pc + 1) (l' := l) (st' := .ref r :: st) (x' := x) (M' := M) hc rfl ?_ id kk
  simp only [zst, g2, iI_zin (show (0 : Int) ≤ k by omega) (show (k : Int) < n by omega) hk2, if_true, iI_clamp (show (0 : Int) ≤ k by omega) hk2, Int.toNat_natCast, hr2, va_rf]
end S4b
def wshelf (a n : Nat) : Prop := wch a 5 0 = a + 1 + 2 ∧ wcl a = 5 ∧ wrl (a + 1) = n ∧ (∀ k, k < n → wrr (a + 1) k = a + 2 + 3 * k) ∧ (∀ k, k < n → wrunS (a + 2 + 3 * k)) ∧ a < 500 ∧ n ≤ 14
theorem wrunS_of {u : Nat} (h : (Nat.beq (wch u 4 0) 0 && Nat.beq (wch u 4 1) 0 && Nat.beq (wch u 4 2) 0 && Nat.beq (wch u 4 3) (u + 1 + 2) && Nat.beq (wcl u) 4 && Nat.beq (wch (u + 1) 3 0) (u + 1 + 1 + 2) && Nat.beq (wch (u + 1) 3 1) 2000 && Nat.beq (wch (u + 1) 3 2) 2005 && Nat.beq (wch (u + 1) 3 3) 0 && decide (war (u + 1 + 1) = (0, 6)) && Nat.beq (wcl (u + 1)) 3 && Nat.ble u 690) = true) : wrunS u := by
  simp only [Bool.and_eq_true, Nat.beq_eq, Nat.ble_eq, decide_eq_true_eq] at h
  obtain ⟨⟨⟨⟨⟨⟨⟨⟨⟨⟨⟨h0, h1⟩, h2⟩, h3⟩, h4⟩, h5⟩, h6⟩, h7⟩, h8⟩, h9⟩, h10⟩, h11⟩ := h
  exact ⟨h0, h1, h2, h3, h4, ⟨h5, h6, h7, h8, h9, h10, by omega, by omega, by omega, by omega⟩, by omega⟩
theorem wrunS_33 : wrunS 33 := wrunS_of (by decide +kernel)
theorem wrunS_36 : wrunS 36 := wrunS_of (by decide +kernel)
theorem wshelf_40 : wshelf 40 14 := ⟨by decide +kernel, by decide +kernel, by decide +kernel, by decide +kernel, fun k hk => wrunS_of (by revert k; decide +kernel), by omega, by omega⟩
theorem wshelf_97 : wshelf 97 2 := ⟨by decide +kernel, by decide +kernel, by decide +kernel, by decide +kernel, fun k hk => wrunS_of (by revert k; decide +kernel), by omega, by omega⟩
section S4c
variable {x : wC} {M : wM} {Q : Option Value → wC → wM → Prop} {p u : Nat} {P : aP} {R : aR} {a n k : Nat}
theorem s_55 (hs : wshelf a n) (hk : k < n) (hQ : Q (some (.ref (a + 2 + 3 * k))) x M) : yG x M 55 0 [.ref a, .int (iI (k : Int))] [] Q := by
  obtain ⟨w0, w1, w2, w3, w4, w5, w6⟩ := id hs
  refine y_il1 c_55_0 ?_
  refine y_iz_lt c_55_1 (by omega) (fun h_1 => absurd h_1 (by omega)) (fun h_1 => ?_)
  refine y_il1 c_55_4 ?_
  refine y_al0 c_55_5 ?_
  refine y_gr (a + 1) c_55_6 w0 (by omega) ?_
  refine y_qlen c_55_9 w2 (by omega) ?_
  refine y_ic_ge c_55_10 (by omega) (by omega) (fun h_10 => absurd h_10 (by omega)) (fun h_10 => ?_)
  refine y_al0 c_55_13 ?_
  refine y_gr (a + 1) c_55_14 w0 (by omega) ?_
  refine y_il1 c_55_17 ?_
  refine y_qld c_55_18 w2 (by omega) (w3 k hk) (by omega) hk ?_
  refine y_goto c_55_19 ?_
  refine y_aret c_55_23 rfl ?_
  exact hQ
theorem s_56 (hs : wshelf a n) (hk : k < n) (hu : wrunS u) (hR : wrun M u R) (hl : R.2.2.2.length ≤ 6) (hd : u + 2 < a ∨ a + 1 + 3 * n < u) (hQ : ∀ M', wrun M' (a + 2 + 3 * k) R → wfr M M' (a + 2 + 3 * k) (a + 2 + 3 * k + 2) → Q none x M') : yG x M 56 0 [.ref a, .int (iI (k : Int)), .ref u, zU] [] Q := by
  obtain ⟨w0, w1, w2, w3, w4, w5, w6⟩ := id hs
  obtain ⟨t0, t1, t2, t3, tc, tg, tlt⟩ := id hu
  have hc := (w4 k hk).2.2.2.2.1
  refine y_al0 c_56_0 ?_
  refine y_il1 c_56_1 ?_
  refine k_55 c_56_2 rfl w1 (Nat.le_of_ble_eq_true rfl) ?_
  refine s_55 hs hk ?_
  refine y_as3 c_56_5 rfl ?_
  refine y_al3 c_56_6 ?_
  refine y_nul_r c_56_7 ?_
  refine y_al3 c_56_10 ?_
  refine y_al2 c_56_11 ?_
  refine k_43 c_56_12 rfl hc (Nat.le_of_ble_eq_true rfl) ?_
  refine s_43 (w4 k hk) hu hR hl (by omega) (fun M2 e1 e2 => ?_)
  refine y_vret c_56_15 rfl ?_
  exact hQ _ e1 e2
theorem s_57 (hs : wshelf a n) (hk : k < n) (hu : wrunS u) (hR : wrun M (a + 2 + 3 * k) R) (hl : R.2.2.2.length ≤ 6) (hd : u + 2 < a ∨ a + 1 + 3 * n < u) (hQ : ∀ M', wrun M' u R → wfr M M' u (u + 2) → Q none x M') : yG x M 57 0 [.ref a, .int (iI (k : Int)), .ref u, zU] [] Q := by
  obtain ⟨w0, w1, w2, w3, w4, w5, w6⟩ := id hs
  obtain ⟨t0, t1, t2, t3, tc, tg, tlt⟩ := id hu
  refine y_al0 c_57_0 ?_
  refine y_il1 c_57_1 ?_
  refine k_55 c_57_2 rfl w1 (Nat.le_of_ble_eq_true rfl) ?_
  refine s_55 hs hk ?_
  refine y_as3 c_57_5 rfl ?_
  refine y_al3 c_57_6 ?_
  refine y_nul_r c_57_7 ?_
  refine y_al2 c_57_10 ?_
  refine y_al3 c_57_11 ?_
  refine k_43 c_57_12 rfl tc (Nat.le_of_ble_eq_true rfl) ?_
  refine s_43 hu (w4 k hk) hR hl (by omega) (fun M2 e1 e2 => ?_)
  refine y_vret c_57_15 rfl ?_
  exact hQ _ e1 e2
end S4c
