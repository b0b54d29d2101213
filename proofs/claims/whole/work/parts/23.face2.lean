/-! ===== LoveGlass: acts ===== -/

def aSpk (P : aP) (R : aR) (z : Int) : Option aR := if (0 ≤ z ∧ z < P.2.2.2) ∧ R.1 ≠ -9 ∧ z.toNat ∉ R.2.2.2 ∧ aTake P R z.toNat ≤ R.2.2.1 then some (aSay P R z.toNat) else none
def aRst (P : aP) (R : aR) : Option aR := if R.1 ≠ -9 ∧ aPz P R ≤ R.2.2.1 then some (R.1, R.2.1, R.2.2.1 - aPz P R, R.2.2.2) else none
def aLos (R : aR) (n : Nat) : Option aR := if R.1 ≠ -9 ∧ 1 ≤ R.2.2.1 then some (R.1, R.2.1, R.2.2.1 - n, R.2.2.2) else none
def aAct (R : aR) (L : aA) : Option aR → Int × aR × aA
  | none => (-3, R, L)
  | some R' => (R'.2.2.1, R', aNote L R)
def aTurn (P : aP) (R : aR) (L : aA) (g s : Int) : Int × aR × aA := if (0 ≤ g ∧ g < P.2.1) ∧ 0 ≤ s ∧ s < P.2.2.1 then aAct R L (some (g, s, aGr P g.toNat, [])) else (-1, R, L)
def aSayA (P : aP) (R : aR) (L : aA) (z : Int) : Int × aR × aA := if 0 ≤ z ∧ z < P.2.2.2 then aAct R L (aSpk P R z) else (-1, R, L)
def aPauseA (P : aP) (R : aR) (L : aA) : Int × aR × aA := aAct R L (aRst P R)
def aDrawA (R : aR) (L : aA) (n : Int) : Int × aR × aA := if 1 ≤ n ∧ n ≤ 9 then aAct R L (aLos R n.toNat) else (-2, R, L)
def aUndo (R : aR) (L : aA) : Int × aR × aA := if L.1 = 0 then (-3, R, L) else (((L.1 - 1 : Nat) : Int), L.2 (L.1 - 1), (L.1 - 1, L.2))
theorem CI_upd {x : wC} {M M' : wM} {T : List Nat} {P : aP} {R R' : aR} {L L' : aA} {Tm Tm' : aT} {sd : Int64} {K : Nat → Option aR} (h : CI x M T P R L Tm sd K) (hR : wrun M' 33 R') (hL : wacts M' L') (hT : wtim M' Tm') (hf : ∀ b, (b ≤ 2 ∨ (x.2.1 ≤ b ∧ b ≤ x.2.1 + 14) ∨ (97 ≤ b ∧ b ≤ 104)) → M' b = M b) : CI x M' T P R' L' Tm' sd K := by
  obtain ⟨hx, hsd, hTt, hM, -, -, -, hK0, hK⟩ := h
  refine ⟨hx, hsd, ?_, ?_, hR, hL, hT, ?_, ?_⟩
  · rw [hf 1 (by omega), hf 2 (by omega)]; exact hTt
  · exact wport_of hM (fun b h1 h2 => hf b (by omega))
  · rw [hf 0 (by omega)]; exact hK0
  · exact fun k R' hk hR' => wrun_of (hK k R' hk hR') (hf _ (by omega)) (hf _ (by omega)) (hf _ (by omega))
theorem aNote_ok {P : aP} {R : aR} {L : aA} (hL : L.1 ≤ 14 ∧ ∀ k, k < L.1 → aRok P (L.2 k)) (hR : aRok P R) : (aNote L R).1 ≤ 14 ∧ ∀ k, k < (aNote L R).1 → aRok P ((aNote L R).2 k) := by
  obtain ⟨h1, h2⟩ := hL
  unfold aNote
  split
  · refine ⟨Nat.le_refl _, fun k hk => ?_⟩
    show aRok P (if k = 13 then R else L.2 (k + 1))
    split
    · exact hR
    · exact h2 _ (by simp at hk; omega)
  · refine ⟨by simp; omega, fun k hk => ?_⟩
    show aRok P (if k = L.1 then R else L.2 k)
    split
    · exact hR
    · exact h2 _ (by simp at hk; omega)
theorem aSpk_ok {P : aP} {R R' : aR} {z : Int} (hR : aRok P R) (h : aSpk P R z = some R') : aRok P R' := by
  unfold aSpk at h
  split at h
  · rename_i hc
    cases h
    exact aSay_ok hR (by omega) hc.2
  · cases h
theorem aLeft_ok {P : aP} {R : aR} (hR : aRok P R) (n : Nat) : aRok P (if R.1 = -9 then R else (R.1, R.2.1, R.2.2.1 - n, R.2.2.2)) := by
  rcases hR with rfl | ⟨h1, h2, h3, h4⟩
  · left; rfl
  · split
    · exact Or.inr ⟨h1, h2, h3, h4⟩
    · exact Or.inr ⟨h1, by show R.2.2.1 - n ≤ 135; omega, h3, h4⟩
theorem aRst_ok {P : aP} {R R' : aR} (hR : aRok P R) (h : aRst P R = some R') : aRok P R' := by
  unfold aRst at h
  split at h
  · rename_i hc
    cases h
    have h := aLeft_ok hR (aPz P R)
    rw [if_neg hc.1] at h; exact h
  · cases h
theorem aLos_ok {P : aP} {R R' : aR} {n : Nat} (hR : aRok P R) (h : aLos R n = some R') : aRok P R' := by
  unfold aLos at h
  split at h
  · rename_i hc
    cases h
    have h := aLeft_ok hR n
    rw [if_neg hc.1] at h; exact h
  · cases h
theorem aGr_le {P : aP} (hok : aPok P) {g : Nat} (hg : g < P.2.1) : aGr P g ≤ 135 := by
  have h := hok.2.2.2.1 g hg
  unfold aGr
  split <;> omega
theorem aNew_ok {P : aP} (hok : aPok P) {g s : Nat} {n : Nat} (hg : g < P.2.1) (hs : s < P.2.2.1) (hn : n ≤ 135) : aRok P ((g : Int), (s : Int), n, []) :=
  Or.inr ⟨⟨g, s, rfl, rfl, hg, hs⟩, hn, List.nodup_nil, fun y hy => by simp at hy⟩
section S11
variable {x : wC} {M : wM} {Q : Option Value → wC → wM → Prop} {T : List Nat} {P : aP} {R : aR} {L : aA} {Tm : aT} {sd : Int64} {K : Nat → Option aR}
theorem s_77 {g s : Int} (hC : CI x M T P R L Tm sd K) (hA : AOK T P R L Tm K) (hg : wR g) (hs : wR s) (hQ : ∀ M', CI x M' T P (aTurn P R L g s).2.1 (aTurn P R L g s).2.2 Tm sd K → (∀ b, 106 ≤ b → M' b = M b) → Q (some (.int (iI (aTurn P R L g s).1))) x M') : yG x M 77 0 [.ref 0, .int (iI g), .int (iI s)] [] Q := by
  obtain ⟨hx, hsd, hT, hM, hR, hL, hTm, hK0, hK⟩ := id hC
  obtain ⟨⟨ht56, ht256⟩, hok, hRk, ⟨hl14, hLk⟩, hTk, hKk⟩ := id hA
  obtain ⟨hp, hp33⟩ := CI_port hx
  obtain ⟨z1, z2, z3, z4, z5⟩ := aRok_len hok hRk
  have z6 : ∀ y ∈ R.2.2.2, y < 6 := fun y hy => by have := z3 y hy; have := hok.2.2.1; omega
  have hb1 := hok.1
  have hb2 := hok.2.1
  have hb3 := hok.2.2.1
  obtain ⟨q0, q1, q2, q3, q4, q5, q6, qc, j0, j1, j2, j3, j4, j5, j6, qlt⟩ := id hp
  obtain ⟨⟨n0, n1, n2, n3, n4, n5, n6⟩, v0, v1, v2, v3, v4, v5, v6⟩ := id hM
  unfold aTurn at hQ
  obtain ⟨hd33, hd36⟩ : (∀ b, x.2.1 ≤ b → b ≤ x.2.1 + 14 → b ≠ 33) ∧ (∀ b, x.2.1 ≤ b → b ≤ x.2.1 + 14 → b < 36 ∨ 36 + 2 < b) := ⟨fun b h1 h2 => by omega, fun b h1 h2 => by omega⟩
  refine y_al0 c_77_0 ?_
  refine y_gp c_77_1 rfl ?_
  refine y_il1 c_77_4 ?_
  refine k_24 c_77_5 rfl qc (Nat.le_of_ble_eq_true rfl) ?_
  refine s_24 hp hg ?_
  rw [n0]
  refine y_pz_eq c_77_8 (fun h1 => ?_) (fun h1 => ?_)
  · refine y_ic c_77_22 ?_
    refine y_ret c_77_23 rfl ?_
    rw [if_neg (by omega)] at hQ; exact hQ _ hC (fun b hb => rfl)
  · refine y_al0 c_77_11 ?_
    refine y_gp c_77_12 rfl ?_
    refine y_il2 c_77_15 ?_
    refine k_25 c_77_16 rfl qc (Nat.le_of_ble_eq_true rfl) ?_
    refine s_25 hp hs ?_
    rw [n2]
    refine y_pz_ne c_77_19 (fun h2 => ?_) (fun h2 => ?_)
    · rw [if_pos ⟨h1, h2⟩] at hQ
      obtain ⟨g, rfl⟩ : ∃ i : Nat, g = i := ⟨g.toNat, by omega⟩
      obtain ⟨s, rfl⟩ : ∃ i : Nat, s = i := ⟨s.toNat, by omega⟩
      simp only [Int.toNat_natCast] at hQ
      have hgl : g < P.2.1 := by omega
      have hsl : s < P.2.2.1 := by omega
      refine y_al0 c_77_24 ?_
      refine y_gr 39 c_77_25 rfl (by omega) ?_
      refine y_al0 c_77_28 ?_
      refine y_gr 33 c_77_29 rfl (by omega) ?_
      refine k_3 c_77_32 rfl rfl (Nat.le_of_ble_eq_true rfl) ?_
      refine s_3 hL wrunS_33 hR z2 (by omega) (fun M1 hL1 hf1 => ?_)
      have hM1 := wport_of hM (fun b h1 h2 => hf1 b (by omega))
      refine y_al0 c_77_35 ?_
      refine y_gr 33 c_77_36 rfl (by omega) ?_
      refine y_al0 c_77_39 ?_
      refine y_gp c_77_40 rfl ?_
      refine y_il1 c_77_43 ?_
      refine y_il2 c_77_44 ?_
      refine k_42 c_77_45 rfl rfl (Nat.le_of_ble_eq_true rfl) ?_
      refine s_42 wrunS_33 hp hM1 hok hgl hsl hd33 (fun M2 hR2 hf2 => ?_)
      refine y_al0 c_77_48 ?_
      refine y_gr 33 c_77_49 rfl (by omega) ?_
      refine y_gi (j := 2) (z := (aGr P g : Int)) c_77_52 rfl rfl hR2.2.2.1 (fun r_52 => ?_)
      refine y_ret c_77_55 rfl ?_
      exact hQ _ (CI_upd hC hR2 (wacts_of hL1 (fun b h1 h2 => hf2 b (by omega))) (wtim_of hTm (fun b h1 h2 => by rw [hf2 b (by omega), hf1 b (by omega)])) (fun b hb => by rw [hf2 b (by omega), hf1 b (by omega)])) (fun b hb => by rw [hf2 b (by omega), hf1 b (by omega)])
    · refine y_ic c_77_22 ?_
      refine y_ret c_77_23 rfl ?_
      rw [if_neg (by omega)] at hQ; exact hQ _ hC (fun b hb => rfl)
theorem s_81f (hQ : Q (some (.int (iI (-3)))) x M) : yG x M 81 0 [.ref 0, .int (iI 0)] [] Q := by
  refine y_il1 c_81_0 ?_
  refine y_iz_ne c_81_1 (by omega) (fun h_1 => absurd h_1 (by omega)) (fun h_1 => ?_)
  refine y_bi c_81_4 (by decide) ?_
  refine y_ret c_81_6 rfl ?_
  exact hQ
theorem s_81t {R2 : aR} (hC : CI x M T P R L Tm sd K) (hA : AOK T P R L Tm K) (hR2 : wrun M 36 R2) (hl2 : R2.2.2.2.length ≤ 6) (hQ : ∀ M', CI x M' T P R2 (aNote L R) Tm sd K → (∀ b, 106 ≤ b → M' b = M b) → Q (some (.int (iI (R2.2.2.1 : Int)))) x M') : yG x M 81 0 [.ref 0, .int (iI 1)] [] Q := by
  obtain ⟨hx, hsd, hT, hM, hR, hL, hTm, hK0, hK⟩ := id hC
  obtain ⟨⟨ht56, ht256⟩, hok, hRk, ⟨hl14, hLk⟩, hTk, hKk⟩ := id hA
  obtain ⟨hp, hp33⟩ := CI_port hx
  obtain ⟨z1, z2, z3, z4, z5⟩ := aRok_len hok hRk
  have z6 : ∀ y ∈ R.2.2.2, y < 6 := fun y hy => by have := z3 y hy; have := hok.2.2.1; omega
  have hb1 := hok.1
  have hb2 := hok.2.1
  have hb3 := hok.2.2.1
  obtain ⟨q0, q1, q2, q3, q4, q5, q6, qc, j0, j1, j2, j3, j4, j5, j6, qlt⟩ := id hp
  obtain ⟨⟨n0, n1, n2, n3, n4, n5, n6⟩, v0, v1, v2, v3, v4, v5, v6⟩ := id hM
  refine y_il1 c_81_0 ?_
  refine y_iz_ne c_81_1 (by omega) (fun h_1 => ?_) (fun h_1 => absurd h_1 (by omega))
  refine y_al0 c_81_7 ?_
  refine y_gr 39 c_81_8 rfl (by omega) ?_
  refine y_al0 c_81_11 ?_
  refine y_gr 33 c_81_12 rfl (by omega) ?_
  refine k_3 c_81_15 rfl rfl (Nat.le_of_ble_eq_true rfl) ?_
  refine s_3 hL wrunS_33 hR z2 (by omega) (fun M1 hL1 hf1 => ?_)
  have hR21 := wrun_of hR2 (hf1 _ (by omega)) (hf1 _ (by omega)) (hf1 _ (by omega))
  refine y_al0 c_81_18 ?_
  refine y_gr 33 c_81_19 rfl (by omega) ?_
  refine y_al0 c_81_22 ?_
  refine y_gr 36 c_81_23 rfl (by omega) ?_
  refine k_43 c_81_26 rfl rfl (Nat.le_of_ble_eq_true rfl) ?_
  refine s_43 wrunS_33 wrunS_36 hR21 hl2 (by omega) (fun M2 hR3 hf2 => ?_)
  refine y_al0 c_81_29 ?_
  refine y_gr 33 c_81_30 rfl (by omega) ?_
  refine y_gi (j := 2) (z := (R2.2.2.1 : Int)) c_81_33 rfl rfl hR3.2.2.1 (fun r_33 => ?_)
  refine y_ret c_81_36 rfl ?_
  exact hQ _ (CI_upd hC hR3 (wacts_of hL1 (fun b h1 h2 => hf2 b (by omega))) (wtim_of hTm (fun b h1 h2 => by rw [hf2 b (by omega), hf1 b (by omega)])) (fun b hb => by rw [hf2 b (by omega), hf1 b (by omega)])) (fun b hb => by rw [hf2 b (by omega), hf1 b (by omega)])
theorem s_78 {z : Int} (hC : CI x M T P R L Tm sd K) (hA : AOK T P R L Tm K) (hz : wR z) (hQ : ∀ M', CI x M' T P (aSayA P R L z).2.1 (aSayA P R L z).2.2 Tm sd K → (∀ b, 106 ≤ b → M' b = M b) → Q (some (.int (iI (aSayA P R L z).1))) x M') : yG x M 78 0 [.ref 0, .int (iI z)] [] Q := by
  obtain ⟨hx, hsd, hT, hM, hR, hL, hTm, hK0, hK⟩ := id hC
  obtain ⟨⟨ht56, ht256⟩, hok, hRk, ⟨hl14, hLk⟩, hTk, hKk⟩ := id hA
  obtain ⟨hp, hp33⟩ := CI_port hx
  obtain ⟨z1, z2, z3, z4, z5⟩ := aRok_len hok hRk
  have z6 : ∀ y ∈ R.2.2.2, y < 6 := fun y hy => by have := z3 y hy; have := hok.2.2.1; omega
  have hb1 := hok.1
  have hb2 := hok.2.1
  have hb3 := hok.2.2.1
  obtain ⟨q0, q1, q2, q3, q4, q5, q6, qc, j0, j1, j2, j3, j4, j5, j6, qlt⟩ := id hp
  obtain ⟨⟨n0, n1, n2, n3, n4, n5, n6⟩, v0, v1, v2, v3, v4, v5, v6⟩ := id hM
  unfold aSayA at hQ
  obtain ⟨hd33, hd36⟩ : (∀ b, x.2.1 ≤ b → b ≤ x.2.1 + 14 → b ≠ 33) ∧ (∀ b, x.2.1 ≤ b → b ≤ x.2.1 + 14 → b < 36 ∨ 36 + 2 < b) := ⟨fun b h1 h2 => by omega, fun b h1 h2 => by omega⟩
  refine y_al0 c_78_0 ?_
  refine y_gp c_78_1 rfl ?_
  refine y_il1 c_78_4 ?_
  refine k_26 c_78_5 rfl qc (Nat.le_of_ble_eq_true rfl) ?_
  refine s_26 hp hz ?_
  rw [n4]
  refine y_pz_ne c_78_8 (fun h1 => ?_) (fun h1 => ?_)
  · rw [if_pos h1] at hQ
    obtain ⟨y, rfl⟩ : ∃ i : Nat, z = i := ⟨z.toNat, by omega⟩
    have hyl : y < P.2.2.2 := by omega
    refine y_al0 c_78_13 ?_
    refine y_gr 36 c_78_14 rfl (by omega) ?_
    refine y_al0 c_78_17 ?_
    refine y_gr 33 c_78_18 rfl (by omega) ?_
    refine k_43 c_78_21 rfl rfl (Nat.le_of_ble_eq_true rfl) ?_
    refine s_43 wrunS_36 wrunS_33 hR z2 (by omega) (fun M1 hR1 hf1 => ?_)
    have hM1 := wport_of hM (fun b h1 h2 => hf1 b (by omega))
    have hC1 : CI x M1 T P R L Tm sd K := CI_of hC (fun b hb => hf1 b (by unfold wown at hb; omega))
    refine y_al0 c_78_24 ?_
    refine y_al0 c_78_25 ?_
    refine y_gr 36 c_78_26 rfl (by omega) ?_
    refine y_al0 c_78_29 ?_
    refine y_gp c_78_30 rfl ?_
    refine y_il1 c_78_33 ?_
    refine k_51 c_78_34 rfl rfl (Nat.le_of_ble_eq_true rfl) ?_
    refine s_51 wrunS_36 hR1 hp hM1 hok hRk hz hd36 (fun hno => ?_) (fun y2 e2 hlt hcan M2 hR2 hf2 => ?_)
    · refine k_81 c_78_37 rfl rfl (Nat.le_of_ble_eq_true rfl) ?_
      refine s_81f ?_
      refine y_ret c_78_40 rfl ?_
      have e : aSpk P R (y : Int) = none := by unfold aSpk; exact if_neg (fun h => hno y rfl hyl h.2)
      rw [e] at hQ
      exact hQ _ hC1 (fun b hb => hf1 b (by omega))
    · obtain rfl : y = y2 := by omega
      have hC2 : CI x M2 T P R L Tm sd K := CI_of hC1 (fun b hb => hf2 b (by unfold wown at hb; omega))
      refine k_81 c_78_37 rfl rfl (Nat.le_of_ble_eq_true rfl) ?_
      have e : aSpk P R (y : Int) = some (aSay P R y) := by unfold aSpk; exact if_pos ⟨h1, hcan⟩
      rw [e] at hQ
      refine s_81t hC2 hA hR2 (by simp [aSay]; have := aLen_lt hok hRk hlt hcan.2.1; omega) (fun M3 hC3 hf3 => ?_)
      refine y_ret c_78_40 rfl ?_
      exact hQ _ hC3 (fun b hb => by rw [hf3 b hb, hf2 b (by omega), hf1 b (by omega)])
  · refine y_ic c_78_11 ?_
    refine y_ret c_78_12 rfl ?_
    rw [if_neg h1] at hQ; exact hQ _ hC (fun b hb => rfl)
theorem s_79 (hC : CI x M T P R L Tm sd K) (hA : AOK T P R L Tm K) (hQ : ∀ M', CI x M' T P (aPauseA P R L).2.1 (aPauseA P R L).2.2 Tm sd K → (∀ b, 106 ≤ b → M' b = M b) → Q (some (.int (iI (aPauseA P R L).1))) x M') : yG x M 79 0 [.ref 0] [] Q := by
  obtain ⟨hx, hsd, hT, hM, hR, hL, hTm, hK0, hK⟩ := id hC
  obtain ⟨⟨ht56, ht256⟩, hok, hRk, ⟨hl14, hLk⟩, hTk, hKk⟩ := id hA
  obtain ⟨hp, hp33⟩ := CI_port hx
  obtain ⟨z1, z2, z3, z4, z5⟩ := aRok_len hok hRk
  have z6 : ∀ y ∈ R.2.2.2, y < 6 := fun y hy => by have := z3 y hy; have := hok.2.2.1; omega
  have hb1 := hok.1
  have hb2 := hok.2.1
  have hb3 := hok.2.2.1
  obtain ⟨q0, q1, q2, q3, q4, q5, q6, qc, j0, j1, j2, j3, j4, j5, j6, qlt⟩ := id hp
  obtain ⟨⟨n0, n1, n2, n3, n4, n5, n6⟩, v0, v1, v2, v3, v4, v5, v6⟩ := id hM
  unfold aPauseA at hQ
  obtain ⟨hd33, hd36⟩ : (∀ b, x.2.1 ≤ b → b ≤ x.2.1 + 14 → b ≠ 33) ∧ (∀ b, x.2.1 ≤ b → b ≤ x.2.1 + 14 → b < 36 ∨ 36 + 2 < b) := ⟨fun b h1 h2 => by omega, fun b h1 h2 => by omega⟩
  refine y_al0 c_79_0 ?_
  refine y_gr 36 c_79_1 rfl (by omega) ?_
  refine y_al0 c_79_4 ?_
  refine y_gr 33 c_79_5 rfl (by omega) ?_
  refine k_43 c_79_8 rfl rfl (Nat.le_of_ble_eq_true rfl) ?_
  refine s_43 wrunS_36 wrunS_33 hR z2 (by omega) (fun M1 hR1 hf1 => ?_)
  have hM1 := wport_of hM (fun b h1 h2 => hf1 b (by omega))
  have hC1 : CI x M1 T P R L Tm sd K := CI_of hC (fun b hb => hf1 b (by unfold wown at hb; omega))
  refine y_al0 c_79_11 ?_
  refine y_al0 c_79_12 ?_
  refine y_gr 36 c_79_13 rfl (by omega) ?_
  refine y_al0 c_79_16 ?_
  refine y_gp c_79_17 rfl ?_
  refine k_52 c_79_20 rfl rfl (Nat.le_of_ble_eq_true rfl) ?_
  refine s_52 wrunS_36 hR1 hp hM1 hok hRk (fun hno => ?_) (fun hne hle M2 hR2 hf2 => ?_)
  · refine k_81 c_79_23 rfl rfl (Nat.le_of_ble_eq_true rfl) ?_
    refine s_81f ?_
    refine y_ret c_79_26 rfl ?_
    have e : aRst P R = none := by unfold aRst; exact if_neg hno
    rw [e] at hQ
    exact hQ _ hC1 (fun b hb => hf1 b (by omega))
  · have hC2 : CI x M2 T P R L Tm sd K := CI_of hC1 (fun b hb => hf2 b (by unfold wown at hb; omega))
    refine k_81 c_79_23 rfl rfl (Nat.le_of_ble_eq_true rfl) ?_
    have e : aRst P R = some (R.1, R.2.1, R.2.2.1 - aPz P R, R.2.2.2) := by unfold aRst; exact if_pos ⟨hne, hle⟩
    rw [e] at hQ
    refine s_81t hC2 hA hR2 z2 (fun M3 hC3 hf3 => ?_)
    refine y_ret c_79_26 rfl ?_
    exact hQ _ hC3 (fun b hb => by rw [hf3 b hb, hf2 b (by omega), hf1 b (by omega)])
theorem s_80 {z : Int} (hC : CI x M T P R L Tm sd K) (hA : AOK T P R L Tm K) (hz : wR z) (hQ : ∀ M', CI x M' T P (aDrawA R L z).2.1 (aDrawA R L z).2.2 Tm sd K → (∀ b, 106 ≤ b → M' b = M b) → Q (some (.int (iI (aDrawA R L z).1))) x M') : yG x M 80 0 [.ref 0, .int (iI z)] [] Q := by
  obtain ⟨hx, hsd, hT, hM, hR, hL, hTm, hK0, hK⟩ := id hC
  obtain ⟨⟨ht56, ht256⟩, hok, hRk, ⟨hl14, hLk⟩, hTk, hKk⟩ := id hA
  obtain ⟨hp, hp33⟩ := CI_port hx
  obtain ⟨z1, z2, z3, z4, z5⟩ := aRok_len hok hRk
  have z6 : ∀ y ∈ R.2.2.2, y < 6 := fun y hy => by have := z3 y hy; have := hok.2.2.1; omega
  have hb1 := hok.1
  have hb2 := hok.2.1
  have hb3 := hok.2.2.1
  obtain ⟨q0, q1, q2, q3, q4, q5, q6, qc, j0, j1, j2, j3, j4, j5, j6, qlt⟩ := id hp
  obtain ⟨⟨n0, n1, n2, n3, n4, n5, n6⟩, v0, v1, v2, v3, v4, v5, v6⟩ := id hM
  unfold aDrawA at hQ
  obtain ⟨hd33, hd36⟩ : (∀ b, x.2.1 ≤ b → b ≤ x.2.1 + 14 → b ≠ 33) ∧ (∀ b, x.2.1 ≤ b → b ≤ x.2.1 + 14 → b < 36 ∨ 36 + 2 < b) := ⟨fun b h1 h2 => by omega, fun b h1 h2 => by omega⟩
  refine y_il1 c_80_0 ?_
  refine y_ic c_80_1 ?_
  refine y_ic_lt c_80_2 (by omega) (by omega) (fun h_2 => ?_) (fun h_2 => ?_)
  · refine y_bi c_80_11 (by decide) ?_
    refine y_ret c_80_13 rfl ?_
    rw [if_neg (by omega)] at hQ; exact hQ _ hC (fun b hb => rfl)
  · refine y_il1 c_80_5 ?_
    refine y_bi c_80_6 (by decide) ?_
    refine y_ic_le c_80_8 (by omega) (by omega) (fun h_8 => ?_) (fun h_8 => ?_)
    · rw [if_pos (by omega)] at hQ
      obtain ⟨n, rfl⟩ : ∃ i : Nat, z = i := ⟨z.toNat, by omega⟩
      rw [Int.toNat_natCast] at hQ
      refine y_al0 c_80_14 ?_
      refine y_gr 36 c_80_15 rfl (by omega) ?_
      refine y_al0 c_80_18 ?_
      refine y_gr 33 c_80_19 rfl (by omega) ?_
      refine k_43 c_80_22 rfl rfl (Nat.le_of_ble_eq_true rfl) ?_
      refine s_43 wrunS_36 wrunS_33 hR z2 (by omega) (fun M1 hR1 hf1 => ?_)
      have hM1 := wport_of hM (fun b h1 h2 => hf1 b (by omega))
      have hC1 : CI x M1 T P R L Tm sd K := CI_of hC (fun b hb => hf1 b (by unfold wown at hb; omega))
      refine y_al0 c_80_25 ?_
      refine y_al0 c_80_26 ?_
      refine y_gr 36 c_80_27 rfl (by omega) ?_
      refine y_il1 c_80_30 ?_
      refine k_53 c_80_31 rfl rfl (Nat.le_of_ble_eq_true rfl) ?_
      refine s_53 wrunS_36 hR1 z4 (by omega) (fun hno => ?_) (fun hne hle M2 hR2 hf2 => ?_)
      · refine k_81 c_80_34 rfl rfl (Nat.le_of_ble_eq_true rfl) ?_
        refine s_81f ?_
        refine y_ret c_80_37 rfl ?_
        have e : aLos R n = none := by unfold aLos; exact if_neg hno
        rw [e] at hQ
        exact hQ _ hC1 (fun b hb => hf1 b (by omega))
      · have hC2 : CI x M2 T P R L Tm sd K := CI_of hC1 (fun b hb => hf2 b (by unfold wown at hb; omega))
        refine k_81 c_80_34 rfl rfl (Nat.le_of_ble_eq_true rfl) ?_
        have e : aLos R n = some (R.1, R.2.1, R.2.2.1 - n, R.2.2.2) := by unfold aLos; exact if_pos ⟨hne, hle⟩
        rw [e] at hQ
        refine s_81t hC2 hA hR2 z2 (fun M3 hC3 hf3 => ?_)
        refine y_ret c_80_37 rfl ?_
        exact hQ _ hC3 (fun b hb => by rw [hf3 b hb, hf2 b (by omega), hf1 b (by omega)])
    · refine y_bi c_80_11 (by decide) ?_
      refine y_ret c_80_13 rfl ?_
      rw [if_neg (by omega)] at hQ; exact hQ _ hC (fun b hb => rfl)
theorem s_82 (hC : CI x M T P R L Tm sd K) (hA : AOK T P R L Tm K) (hQ : ∀ M', CI x M' T P (aUndo R L).2.1 (aUndo R L).2.2 Tm sd K → (∀ b, 106 ≤ b → M' b = M b) → Q (some (.int (iI (aUndo R L).1))) x M') : yG x M 82 0 [.ref 0] [] Q := by
  obtain ⟨hx, hsd, hT, hM, hR, hL, hTm, hK0, hK⟩ := id hC
  obtain ⟨⟨ht56, ht256⟩, hok, hRk, ⟨hl14, hLk⟩, hTk, hKk⟩ := id hA
  obtain ⟨hp, hp33⟩ := CI_port hx
  obtain ⟨z1, z2, z3, z4, z5⟩ := aRok_len hok hRk
  have z6 : ∀ y ∈ R.2.2.2, y < 6 := fun y hy => by have := z3 y hy; have := hok.2.2.1; omega
  have hb1 := hok.1
  have hb2 := hok.2.1
  have hb3 := hok.2.2.1
  obtain ⟨q0, q1, q2, q3, q4, q5, q6, qc, j0, j1, j2, j3, j4, j5, j6, qlt⟩ := id hp
  obtain ⟨⟨n0, n1, n2, n3, n4, n5, n6⟩, v0, v1, v2, v3, v4, v5, v6⟩ := id hM
  unfold aUndo at hQ
  refine y_al0 c_82_0 ?_
  refine y_gr 39 c_82_1 rfl (by omega) ?_
  refine y_al0 c_82_4 ?_
  refine y_gr 33 c_82_5 rfl (by omega) ?_
  refine k_4 c_82_8 rfl rfl (Nat.le_of_ble_eq_true rfl) ?_
  refine s_4 hL wrunS_33 (fun h => (aRok_len hok (hLk _ (by omega))).2.1) (by omega) (fun h0 => ?_) (fun h0 M1 hL1 hR1 hf1 => ?_)
  · refine y_iz_eq c_82_11 (by omega) (fun _ => ?_) (fun h => absurd rfl h)
    refine y_bi c_82_24 (by decide) ?_
    refine y_ret c_82_26 rfl ?_
    rw [if_pos h0] at hQ
    exact hQ _ hC (fun b hb => rfl)
  · rw [if_neg (by omega)] at hQ
    refine y_iz_eq c_82_11 (by omega) (fun h => absurd h (by decide)) (fun _ => ?_)
    refine y_al0 c_82_14 ?_
    refine y_gr 39 c_82_15 rfl (by omega) ?_
    refine k_1 c_82_18 rfl rfl (Nat.le_of_ble_eq_true rfl) ?_
    refine s_1 ?_
    rw [show M1 39 2 = ((L.1 - 1 : Nat) : Int) from hL1.choose_spec.2.2.1]
    refine y_goto c_82_21 ?_
    refine y_ret c_82_26 rfl ?_
    exact hQ _ (CI_upd hC hR1 hL1 (wtim_of hTm (fun b h1 h2 => hf1 b (by omega) (by omega))) (fun b hb => hf1 b (by omega) (by omega))) (fun b hb => hf1 b (by omega) (by omega))
end S11
