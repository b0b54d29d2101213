/-! ===== the port: what is told, and what it costs ===== -/
theorem yQi {Q : Option Value → wC → wM → Prop} {x : wC} {M : wM} {a b : Int} (h : Q (some (.int (iI a))) x M) (e : a = b) : Q (some (.int (iI b))) x M := e ▸ h
theorem wrow_cl {r n lo hi : Nat} (h : wrow r n lo hi) : wcl r = 3 := h.2.2.2.2.2.1
theorem wrow_lt {r n lo hi : Nat} (h : wrow r n lo hi) : r < 800 ∧ lo < 900 ∧ hi < 900 ∧ n < 1000 := h.2.2.2.2.2.2
/-- figures by row (sand, kind, pace, kind, letters, warmth, sort) and place; glasses, suitors, sayings -/
abbrev aP : Type := (Nat → Nat → Nat) × Nat × Nat × Nat
def aPok (P : aP) : Prop := P.2.1 ≤ 4 ∧ P.2.2.1 ≤ 4 ∧ P.2.2.2 ≤ 6 ∧ (∀ i, i < P.2.1 → 1 ≤ P.1 0 i ∧ P.1 0 i ≤ 9 ∧ P.1 1 i ≤ 3) ∧ (∀ i, i < P.2.2.1 → 1 ≤ P.1 2 i ∧ P.1 2 i ≤ 4 ∧ P.1 3 i ≤ 3) ∧ ∀ i, i < P.2.2.2 → 1 ≤ P.1 4 i ∧ P.1 4 i ≤ 9 ∧ P.1 5 i ≤ 9 ∧ P.1 6 i ≤ 3
def wportS (p : Nat) : Prop := wch p 2 0 = p + 1 + 2 ∧ wch p 2 1 = p + 3 + 2 ∧ wch p 2 2 = p + 5 + 2 ∧ wch p 2 3 = p + 7 + 2 ∧ wch p 2 4 = p + 9 + 2 ∧ wch p 2 5 = p + 11 + 2 ∧ wch p 2 6 = p + 13 + 2 ∧ wcl p = 2 ∧
  wrow (p + 1) 4 1 9 ∧ wrow (p + 3) 4 0 3 ∧ wrow (p + 5) 4 1 4 ∧ wrow (p + 7) 4 0 3 ∧ wrow (p + 9) 6 1 9 ∧ wrow (p + 11) 6 0 9 ∧ wrow (p + 13) 6 0 3 ∧ p < 700
def wportN (M : wM) (p : Nat) (P : aP) : Prop := M (p + 1) 3 = P.2.1 ∧ M (p + 3) 3 = P.2.1 ∧ M (p + 5) 3 = P.2.2.1 ∧ M (p + 7) 3 = P.2.2.1 ∧ M (p + 9) 3 = P.2.2.2 ∧ M (p + 11) 3 = P.2.2.2 ∧ M (p + 13) 3 = P.2.2.2
def wportV (M : wM) (p : Nat) (P : aP) : Prop := (∀ i : Nat, i < P.2.1 → M (p + 2) i = P.1 0 i) ∧ (∀ i : Nat, i < P.2.1 → M (p + 4) i = P.1 1 i) ∧ (∀ i : Nat, i < P.2.2.1 → M (p + 6) i = P.1 2 i) ∧ (∀ i : Nat, i < P.2.2.1 → M (p + 8) i = P.1 3 i) ∧ (∀ i : Nat, i < P.2.2.2 → M (p + 10) i = P.1 4 i) ∧ (∀ i : Nat, i < P.2.2.2 → M (p + 12) i = P.1 5 i) ∧ ∀ i : Nat, i < P.2.2.2 → M (p + 14) i = P.1 6 i
def wport (M : wM) (p : Nat) (P : aP) : Prop := wportN M p P ∧ wportV M p P
theorem wportS_3 : wportS 3 := by
  refine ⟨?_, ?_, ?_, ?_, ?_, ?_, ?_, ?_, ?_, ?_, ?_, ?_, ?_, ?_, ?_, ?_⟩
  all_goals first | (refine ⟨?_, ?_, ?_, ?_, ?_, ?_, ?_, ?_, ?_, ?_⟩ <;> decide +kernel) | decide +kernel
theorem wportS_18 : wportS 18 := by
  refine ⟨?_, ?_, ?_, ?_, ?_, ?_, ?_, ?_, ?_, ?_, ?_, ?_, ?_, ?_, ?_, ?_⟩
  all_goals first | (refine ⟨?_, ?_, ?_, ?_, ?_, ?_, ?_, ?_, ?_, ?_⟩ <;> decide +kernel) | decide +kernel
def aGr (P : aP) (g : Nat) : Nat := if P.1 1 g = 2 then 15 * P.1 0 g else 10 * P.1 0 g
def aCostBy (P : aP) (kind pace gk y i : Nat) : Nat := (if kind = 1 ∧ P.1 6 y = 0 then P.1 4 y * pace / 2 else if kind = 2 ∧ i = 0 then P.1 4 y * pace * 2 else if kind = 3 then P.1 4 y * pace + i else P.1 4 y * pace) + (if gk = 1 then 2 else 0)
def aCost (P : aP) (y s g i : Nat) : Nat := aCostBy P (P.1 3 s) (P.1 2 s) (P.1 1 g) y i
/-- the warmth of sayings below n that are in a set -/
def aWs (P : aP) (set : Nat) : Nat → Nat
  | 0 => 0
  | n + 1 => aWs P set n + (if set / 2 ^ n % 2 = 1 then P.1 5 n else 0)
theorem aCostBy_le {P : aP} (hok : aPok P) {kind pace gk y i : Nat} (hp : pace ≤ 4) (hy : y < P.2.2.2) (hi : i ≤ 6) : aCostBy P kind pace gk y i ≤ 74 := by
  obtain ⟨-, -, -, -, -, h6⟩ := hok
  have hm : P.1 4 y * pace ≤ 9 * 4 := Nat.mul_le_mul (h6 y hy).2.1 hp
  unfold aCostBy
  generalize P.1 4 y * pace = v at hm
  (repeat' split) <;> omega
theorem aWs_le {P : aP} (hok : aPok P) (set : Nat) : ∀ n, n ≤ P.2.2.2 → aWs P set n ≤ 9 * n
  | 0, _ => Nat.le_refl _
  | n + 1, h => by
    have h1 := aWs_le hok set n (by omega)
    obtain ⟨-, -, -, -, -, h6⟩ := hok
    have h2 := h6 n (by omega)
    unfold aWs
    split <;> omega
section S2
variable {x : wC} {M : wM} {Q : Option Value → wC → wM → Prop} {p : Nat} {P : aP}
theorem s_20 (hp : wportS p) (hQ : Q none x (wup (wup (wup (wup (wup (wup (wup M (p + 1) 3 0) (p + 3) 3 0) (p + 5) 3 0) (p + 7) 3 0) (p + 9) 3 0) (p + 11) 3 0) (p + 13) 3 0)) : yG x M 20 0 [.ref p] [] Q := by
  obtain ⟨f0, f1, f2, f3, f4, f5, f6, fc, g0, g1, g2, g3, g4, g5, g6, flt⟩ := hp
  refine y_al0 c_20_0 ?_
  refine y_gr (p + 1) c_20_1 f0 (by omega) ?_
  refine k_38 c_20_4 rfl (wrow_cl g0) (Nat.le_of_ble_eq_true rfl) ?_
  refine s_38 g0 ?_
  refine y_al0 c_20_7 ?_
  refine y_gr (p + 3) c_20_8 f1 (by omega) ?_
  refine k_38 c_20_11 rfl (wrow_cl g1) (Nat.le_of_ble_eq_true rfl) ?_
  refine s_38 g1 ?_
  refine y_al0 c_20_14 ?_
  refine y_gr (p + 5) c_20_15 f2 (by omega) ?_
  refine k_38 c_20_18 rfl (wrow_cl g2) (Nat.le_of_ble_eq_true rfl) ?_
  refine s_38 g2 ?_
  refine y_al0 c_20_21 ?_
  refine y_gr (p + 7) c_20_22 f3 (by omega) ?_
  refine k_38 c_20_25 rfl (wrow_cl g3) (Nat.le_of_ble_eq_true rfl) ?_
  refine s_38 g3 ?_
  refine y_al0 c_20_28 ?_
  refine y_gr (p + 9) c_20_29 f4 (by omega) ?_
  refine k_38 c_20_32 rfl (wrow_cl g4) (Nat.le_of_ble_eq_true rfl) ?_
  refine s_38 g4 ?_
  refine y_al0 c_20_35 ?_
  refine y_gr (p + 11) c_20_36 f5 (by omega) ?_
  refine k_38 c_20_39 rfl (wrow_cl g5) (Nat.le_of_ble_eq_true rfl) ?_
  refine s_38 g5 ?_
  refine y_al0 c_20_42 ?_
  refine y_gr (p + 13) c_20_43 f6 (by omega) ?_
  refine k_38 c_20_46 rfl (wrow_cl g6) (Nat.le_of_ble_eq_true rfl) ?_
  refine s_38 g6 ?_
  refine y_vret c_20_49 rfl ?_
  exact hQ
theorem s_21 (hp : wportS p) (hQ : Q (some (.int (iI (M (p + 1) 3)))) x M) : yG x M 21 0 [.ref p] [] Q := by
  obtain ⟨f0, f1, f2, f3, f4, f5, f6, fc, g0, g1, g2, g3, g4, g5, g6, flt⟩ := hp
  refine y_al0 c_21_0 ?_
  refine y_gr (p + 1) c_21_1 f0 (by omega) ?_
  refine k_32 c_21_4 rfl (wrow_cl g0) (Nat.le_of_ble_eq_true rfl) ?_
  refine s_32 g0 ?_
  refine y_ret c_21_7 rfl ?_
  exact hQ
theorem s_22 (hp : wportS p) (hQ : Q (some (.int (iI (M (p + 5) 3)))) x M) : yG x M 22 0 [.ref p] [] Q := by
  obtain ⟨f0, f1, f2, f3, f4, f5, f6, fc, g0, g1, g2, g3, g4, g5, g6, flt⟩ := hp
  refine y_al0 c_22_0 ?_
  refine y_gr (p + 5) c_22_1 f2 (by omega) ?_
  refine k_32 c_22_4 rfl (wrow_cl g2) (Nat.le_of_ble_eq_true rfl) ?_
  refine s_32 g2 ?_
  refine y_ret c_22_7 rfl ?_
  exact hQ
theorem s_23 (hp : wportS p) (hQ : Q (some (.int (iI (M (p + 9) 3)))) x M) : yG x M 23 0 [.ref p] [] Q := by
  obtain ⟨f0, f1, f2, f3, f4, f5, f6, fc, g0, g1, g2, g3, g4, g5, g6, flt⟩ := hp
  refine y_al0 c_23_0 ?_
  refine y_gr (p + 9) c_23_1 f4 (by omega) ?_
  refine k_32 c_23_4 rfl (wrow_cl g4) (Nat.le_of_ble_eq_true rfl) ?_
  refine s_32 g4 ?_
  refine y_ret c_23_7 rfl ?_
  exact hQ
theorem s_24 {z : Int} (hp : wportS p) (hz : wR z) (hQ : Q (some (.int (iI (if 0 ≤ z ∧ z < M (p + 1) 3 then 1 else 0)))) x M) : yG x M 24 0 [.ref p, .int (iI z)] [] Q := by
  obtain ⟨f0, f1, f2, f3, f4, f5, f6, fc, g0, g1, g2, g3, g4, g5, g6, flt⟩ := hp
  refine y_al0 c_24_0 ?_
  refine y_gr (p + 1) c_24_1 f0 (by omega) ?_
  refine y_il1 c_24_4 ?_
  refine k_35 c_24_5 rfl (wrow_cl g0) (Nat.le_of_ble_eq_true rfl) ?_
  refine s_35 g0 hz ?_
  refine y_zret c_24_8 rfl (by split <;> omega) ?_
  exact hQ
theorem s_25 {z : Int} (hp : wportS p) (hz : wR z) (hQ : Q (some (.int (iI (if 0 ≤ z ∧ z < M (p + 5) 3 then 1 else 0)))) x M) : yG x M 25 0 [.ref p, .int (iI z)] [] Q := by
  obtain ⟨f0, f1, f2, f3, f4, f5, f6, fc, g0, g1, g2, g3, g4, g5, g6, flt⟩ := hp
  refine y_al0 c_25_0 ?_
  refine y_gr (p + 5) c_25_1 f2 (by omega) ?_
  refine y_il1 c_25_4 ?_
  refine k_35 c_25_5 rfl (wrow_cl g2) (Nat.le_of_ble_eq_true rfl) ?_
  refine s_35 g2 hz ?_
  refine y_zret c_25_8 rfl (by split <;> omega) ?_
  exact hQ
theorem s_26 {z : Int} (hp : wportS p) (hz : wR z) (hQ : Q (some (.int (iI (if 0 ≤ z ∧ z < M (p + 9) 3 then 1 else 0)))) x M) : yG x M 26 0 [.ref p, .int (iI z)] [] Q := by
  obtain ⟨f0, f1, f2, f3, f4, f5, f6, fc, g0, g1, g2, g3, g4, g5, g6, flt⟩ := hp
  refine y_al0 c_26_0 ?_
  refine y_gr (p + 9) c_26_1 f4 (by omega) ?_
  refine y_il1 c_26_4 ?_
  refine k_35 c_26_5 rfl (wrow_cl g4) (Nat.le_of_ble_eq_true rfl) ?_
  refine s_35 g4 hz ?_
  refine y_zret c_26_8 rfl (by split <;> omega) ?_
  exact hQ
theorem s_27 {g : Nat} (hp : wportS p) (hM : wport M p P) (hok : aPok P) (hg : g < P.2.1) (hQ : Q (some (.int (iI (aGr P g : Nat)))) x M) : yG x M 27 0 [.ref p, .int (iI (g : Int)), zU] [] Q := by
  obtain ⟨f0, f1, f2, f3, f4, f5, f6, fc, g0, g1, g2, g3, g4, g5, g6, flt⟩ := hp
  obtain ⟨⟨n0, n1, n2, n3, n4, n5, n6⟩, v0, v1, v2, v3, v4, v5, v6⟩ := hM
  obtain ⟨k1, k2, k3, k4, k5, k6⟩ := id hok
  have b0 := k4 g hg
  refine y_bi c_27_0 (by decide) ?_
  refine y_al0 c_27_2 ?_
  refine y_gr (p + 1) c_27_3 f0 (by omega) ?_
  refine y_il1 c_27_6 ?_
  refine k_36 c_27_7 rfl (wrow_cl g0) (Nat.le_of_ble_eq_true rfl) ?_
  refine s_36i g0 (by omega) (by omega) (by omega) (v0 g hg) ?_
  refine y_mul c_27_10 ?_
  refine y_is2 c_27_11 rfl ?_
  refine y_al0 c_27_12 ?_
  refine y_gr (p + 3) c_27_13 f1 (by omega) ?_
  refine y_il1 c_27_16 ?_
  refine k_36 c_27_17 rfl (wrow_cl g1) (Nat.le_of_ble_eq_true rfl) ?_
  refine s_36i g1 (by omega) (by omega) (by omega) (v1 g hg) ?_
  refine y_ic c_27_20 ?_
  refine y_ic_ne c_27_21 (by omega) (by omega) (fun h_21 => ?_) (fun h_21 => ?_)
  · refine y_il2 c_27_32 ?_
    refine y_ret c_27_33 rfl ?_
    exact yQi hQ (by unfold aGr; split <;> omega)
  · refine y_il2 c_27_24 ?_
    refine y_il2 c_27_25 ?_
    refine y_ic c_27_26 ?_
    refine y_div c_27_27 (by omega) (by omega) (by omega) (by omega) ?_
    refine y_add c_27_28 ?_
    refine y_goto c_27_29 ?_
    refine y_ret c_27_33 rfl ?_
    exact yQi hQ (by unfold aGr; split <;> omega)
theorem s_29 {kind pace gk y i : Nat} (hp : wportS p) (hM : wport M p P) (hok : aPok P) (hk : kind ≤ 3) (hpc : pace ≤ 4) (hgk : gk ≤ 3) (hy : y < P.2.2.2) (hi : i ≤ 6) (hQ : Q (some (.int (iI (aCostBy P kind pace gk y i : Nat)))) x M) : yG x M 29 0 [.ref p, .int (iI (kind : Int)), .int (iI (pace : Int)), .int (iI (gk : Int)), .int (iI (y : Int)), .int (iI (i : Int)), zU] [] Q := by
  obtain ⟨f0, f1, f2, f3, f4, f5, f6, fc, g0, g1, g2, g3, g4, g5, g6, flt⟩ := hp
  obtain ⟨⟨n0, n1, n2, n3, n4, n5, n6⟩, v0, v1, v2, v3, v4, v5, v6⟩ := hM
  obtain ⟨k1, k2, k3, k4, k5, k6⟩ := id hok
  have b0 := k6 y hy
  have hm : P.1 4 y * pace ≤ 9 * 4 := Nat.mul_le_mul b0.2.1 hpc
  have hv : (P.1 4 y : Int) * (pace : Int) = ((P.1 4 y * pace : Nat) : Int) := by rw [Int.natCast_mul]
  unfold aCostBy at hQ
  generalize P.1 4 y * pace = v at hm hv hQ
  refine y_al0 c_29_0 ?_
  refine y_gr (p + 9) c_29_1 f4 (by omega) ?_
  refine y_il4 c_29_4 ?_
  refine k_36 c_29_6 rfl (wrow_cl g4) (Nat.le_of_ble_eq_true rfl) ?_
  refine s_36i g4 (by omega) (by omega) (by omega) (v4 y hy) ?_
  refine y_il2 c_29_9 ?_
  refine y_mul c_29_10 ?_
  rw [hv]
  refine y_is6 c_29_11 rfl ?_
  refine y_il1 c_29_13 ?_
  refine y_ic c_29_14 ?_
  refine y_ic_ne c_29_15 (by omega) (by omega) (fun h_15 => ?_) (fun h_15 => ?_)
  · refine y_il1 c_29_39 ?_
    refine y_ic c_29_40 ?_
    refine y_ic_ne c_29_41 (by omega) (by omega) (fun h_41 => ?_) (fun h_41 => ?_)
    · refine y_il1 c_29_58 ?_
      refine y_ic c_29_59 ?_
      refine y_ic_ne c_29_60 (by omega) (by omega) (fun h_60 => ?_) (fun h_60 => ?_)
      · refine y_il3 c_29_70 ?_
        refine y_ic c_29_71 ?_
        refine y_ic_ne c_29_72 (by omega) (by omega) (fun h_72 => ?_) (fun h_72 => ?_)
        · refine y_il6 c_29_82 ?_
          refine y_ret c_29_84 rfl ?_
          exact yQi hQ (by (repeat' split) <;> omega)
        · refine y_il6 c_29_75 ?_
          refine y_ic c_29_77 ?_
          refine y_add c_29_78 ?_
          refine y_goto c_29_79 ?_
          refine y_ret c_29_84 rfl ?_
          exact yQi hQ (by (repeat' split) <;> omega)
      · refine y_il6 c_29_63 ?_
        refine y_il5 c_29_65 ?_
        refine y_add c_29_67 ?_
        refine y_is6 c_29_68 rfl ?_
        refine y_il3 c_29_70 ?_
        refine y_ic c_29_71 ?_
        refine y_ic_ne c_29_72 (by omega) (by omega) (fun h_72 => ?_) (fun h_72 => ?_)
        · refine y_il6 c_29_82 ?_
          refine y_ret c_29_84 rfl ?_
          exact yQi hQ (by (repeat' split) <;> omega)
        · refine y_il6 c_29_75 ?_
          refine y_ic c_29_77 ?_
          refine y_add c_29_78 ?_
          refine y_goto c_29_79 ?_
          refine y_ret c_29_84 rfl ?_
          exact yQi hQ (by (repeat' split) <;> omega)
    · refine y_il5 c_29_44 ?_
      refine y_iz_ne c_29_46 (by omega) (fun h_46 => ?_) (fun h_46 => ?_)
      · refine y_il1 c_29_58 ?_
        refine y_ic c_29_59 ?_
        refine y_ic_ne c_29_60 (by omega) (by omega) (fun h_60 => ?_) (fun h_60 => ?_)
        · refine y_il3 c_29_70 ?_
          refine y_ic c_29_71 ?_
          refine y_ic_ne c_29_72 (by omega) (by omega) (fun h_72 => ?_) (fun h_72 => ?_)
          · refine y_il6 c_29_82 ?_
            refine y_ret c_29_84 rfl ?_
            exact yQi hQ (by (repeat' split) <;> omega)
          · refine y_il6 c_29_75 ?_
            refine y_ic c_29_77 ?_
            refine y_add c_29_78 ?_
            refine y_goto c_29_79 ?_
            refine y_ret c_29_84 rfl ?_
            exact yQi hQ (by (repeat' split) <;> omega)
        · refine y_il6 c_29_63 ?_
          refine y_il5 c_29_65 ?_
          refine y_add c_29_67 ?_
          refine y_is6 c_29_68 rfl ?_
          refine y_il3 c_29_70 ?_
          refine y_ic c_29_71 ?_
          refine y_ic_ne c_29_72 (by omega) (by omega) (fun h_72 => ?_) (fun h_72 => ?_)
          · refine y_il6 c_29_82 ?_
            refine y_ret c_29_84 rfl ?_
            exact yQi hQ (by (repeat' split) <;> omega)
          · refine y_il6 c_29_75 ?_
            refine y_ic c_29_77 ?_
            refine y_add c_29_78 ?_
            refine y_goto c_29_79 ?_
            refine y_ret c_29_84 rfl ?_
            exact yQi hQ (by (repeat' split) <;> omega)
      · refine y_il6 c_29_49 ?_
        refine y_ic c_29_51 ?_
        refine y_mul c_29_52 ?_
        refine y_is6 c_29_53 rfl ?_
        refine y_goto c_29_55 ?_
        refine y_il3 c_29_70 ?_
        refine y_ic c_29_71 ?_
        refine y_ic_ne c_29_72 (by omega) (by omega) (fun h_72 => ?_) (fun h_72 => ?_)
        · refine y_il6 c_29_82 ?_
          refine y_ret c_29_84 rfl ?_
          exact yQi hQ (by (repeat' split) <;> omega)
        · refine y_il6 c_29_75 ?_
          refine y_ic c_29_77 ?_
          refine y_add c_29_78 ?_
          refine y_goto c_29_79 ?_
          refine y_ret c_29_84 rfl ?_
          exact yQi hQ (by (repeat' split) <;> omega)
  · refine y_al0 c_29_18 ?_
    refine y_gr (p + 13) c_29_19 f6 (by omega) ?_
    refine y_il4 c_29_22 ?_
    refine k_36 c_29_24 rfl (wrow_cl g6) (Nat.le_of_ble_eq_true rfl) ?_
    refine s_36i g6 (by omega) (by omega) (by omega) (v6 y hy) ?_
    refine y_iz_ne c_29_27 (by omega) (fun h_27 => ?_) (fun h_27 => ?_)
    · refine y_il1 c_29_39 ?_
      refine y_ic c_29_40 ?_
      refine y_ic_ne c_29_41 (by omega) (by omega) (fun h_41 => ?_) (fun h_41 => ?_)
      · refine y_il1 c_29_58 ?_
        refine y_ic c_29_59 ?_
        refine y_ic_ne c_29_60 (by omega) (by omega) (fun h_60 => ?_) (fun h_60 => ?_)
        · refine y_il3 c_29_70 ?_
          refine y_ic c_29_71 ?_
          refine y_ic_ne c_29_72 (by omega) (by omega) (fun h_72 => ?_) (fun h_72 => ?_)
          · refine y_il6 c_29_82 ?_
            refine y_ret c_29_84 rfl ?_
            exact yQi hQ (by (repeat' split) <;> omega)
          · refine y_il6 c_29_75 ?_
            refine y_ic c_29_77 ?_
            refine y_add c_29_78 ?_
            refine y_goto c_29_79 ?_
            refine y_ret c_29_84 rfl ?_
            exact yQi hQ (by (repeat' split) <;> omega)
        · refine y_il6 c_29_63 ?_
          refine y_il5 c_29_65 ?_
          refine y_add c_29_67 ?_
          refine y_is6 c_29_68 rfl ?_
          refine y_il3 c_29_70 ?_
          refine y_ic c_29_71 ?_
          refine y_ic_ne c_29_72 (by omega) (by omega) (fun h_72 => ?_) (fun h_72 => ?_)
          · refine y_il6 c_29_82 ?_
            refine y_ret c_29_84 rfl ?_
            exact yQi hQ (by (repeat' split) <;> omega)
          · refine y_il6 c_29_75 ?_
            refine y_ic c_29_77 ?_
            refine y_add c_29_78 ?_
            refine y_goto c_29_79 ?_
            refine y_ret c_29_84 rfl ?_
            exact yQi hQ (by (repeat' split) <;> omega)
      · refine y_il5 c_29_44 ?_
        refine y_iz_ne c_29_46 (by omega) (fun h_46 => ?_) (fun h_46 => ?_)
        · refine y_il1 c_29_58 ?_
          refine y_ic c_29_59 ?_
          refine y_ic_ne c_29_60 (by omega) (by omega) (fun h_60 => ?_) (fun h_60 => ?_)
          · refine y_il3 c_29_70 ?_
            refine y_ic c_29_71 ?_
            refine y_ic_ne c_29_72 (by omega) (by omega) (fun h_72 => ?_) (fun h_72 => ?_)
            · refine y_il6 c_29_82 ?_
              refine y_ret c_29_84 rfl ?_
              exact yQi hQ (by (repeat' split) <;> omega)
            · refine y_il6 c_29_75 ?_
              refine y_ic c_29_77 ?_
              refine y_add c_29_78 ?_
              refine y_goto c_29_79 ?_
              refine y_ret c_29_84 rfl ?_
              exact yQi hQ (by (repeat' split) <;> omega)
          · refine y_il6 c_29_63 ?_
            refine y_il5 c_29_65 ?_
            refine y_add c_29_67 ?_
            refine y_is6 c_29_68 rfl ?_
            refine y_il3 c_29_70 ?_
            refine y_ic c_29_71 ?_
            refine y_ic_ne c_29_72 (by omega) (by omega) (fun h_72 => ?_) (fun h_72 => ?_)
            · refine y_il6 c_29_82 ?_
              refine y_ret c_29_84 rfl ?_
              exact yQi hQ (by (repeat' split) <;> omega)
            · refine y_il6 c_29_75 ?_
              refine y_ic c_29_77 ?_
              refine y_add c_29_78 ?_
              refine y_goto c_29_79 ?_
              refine y_ret c_29_84 rfl ?_
              exact yQi hQ (by (repeat' split) <;> omega)
        · refine y_il6 c_29_49 ?_
          refine y_ic c_29_51 ?_
          refine y_mul c_29_52 ?_
          refine y_is6 c_29_53 rfl ?_
          refine y_goto c_29_55 ?_
          refine y_il3 c_29_70 ?_
          refine y_ic c_29_71 ?_
          refine y_ic_ne c_29_72 (by omega) (by omega) (fun h_72 => ?_) (fun h_72 => ?_)
          · refine y_il6 c_29_82 ?_
            refine y_ret c_29_84 rfl ?_
            exact yQi hQ (by (repeat' split) <;> omega)
          · refine y_il6 c_29_75 ?_
            refine y_ic c_29_77 ?_
            refine y_add c_29_78 ?_
            refine y_goto c_29_79 ?_
            refine y_ret c_29_84 rfl ?_
            exact yQi hQ (by (repeat' split) <;> omega)
    · refine y_il6 c_29_30 ?_
      refine y_ic c_29_32 ?_
      refine y_div c_29_33 (by omega) (by omega) (by omega) (by omega) ?_
      refine y_is6 c_29_34 rfl ?_
      refine y_goto c_29_36 ?_
      refine y_il3 c_29_70 ?_
      refine y_ic c_29_71 ?_
      refine y_ic_ne c_29_72 (by omega) (by omega) (fun h_72 => ?_) (fun h_72 => ?_)
      · refine y_il6 c_29_82 ?_
        refine y_ret c_29_84 rfl ?_
        exact yQi hQ (by (repeat' split) <;> omega)
      · refine y_il6 c_29_75 ?_
        refine y_ic c_29_77 ?_
        refine y_add c_29_78 ?_
        refine y_goto c_29_79 ?_
        refine y_ret c_29_84 rfl ?_
        exact yQi hQ (by (repeat' split) <;> omega)
theorem s_28 {s g y i : Nat} (hp : wportS p) (hM : wport M p P) (hok : aPok P) (hs : s < P.2.2.1) (hg : g < P.2.1) (hy : y < P.2.2.2) (hi : i ≤ 6) (hQ : Q (some (.int (iI (aCost P y s g i : Nat)))) x M) : yG x M 28 0 [.ref p, .int (iI (y : Int)), .int (iI (s : Int)), .int (iI (g : Int)), .int (iI (i : Int))] [] Q := by
  have hp2 := hp
  have hM2 := hM
  obtain ⟨f0, f1, f2, f3, f4, f5, f6, fc, g0, g1, g2, g3, g4, g5, g6, flt⟩ := hp
  obtain ⟨⟨n0, n1, n2, n3, n4, n5, n6⟩, v0, v1, v2, v3, v4, v5, v6⟩ := hM
  obtain ⟨k1, k2, k3, k4, k5, k6⟩ := id hok
  have b0 := k4 g hg
  have b1 := k5 s hs
  refine y_al0 c_28_0 ?_
  refine y_al0 c_28_1 ?_
  refine y_gr (p + 7) c_28_2 f3 (by omega) ?_
  refine y_il2 c_28_5 ?_
  refine k_36 c_28_6 rfl (wrow_cl g3) (Nat.le_of_ble_eq_true rfl) ?_
  refine s_36i g3 (by omega) (by omega) (by omega) (v3 s hs) ?_
  refine y_al0 c_28_9 ?_
  refine y_gr (p + 5) c_28_10 f2 (by omega) ?_
  refine y_il2 c_28_13 ?_
  refine k_36 c_28_14 rfl (wrow_cl g2) (Nat.le_of_ble_eq_true rfl) ?_
  refine s_36i g2 (by omega) (by omega) (by omega) (v2 s hs) ?_
  refine y_al0 c_28_17 ?_
  refine y_gr (p + 3) c_28_18 f1 (by omega) ?_
  refine y_il3 c_28_21 ?_
  refine k_36 c_28_22 rfl (wrow_cl g1) (Nat.le_of_ble_eq_true rfl) ?_
  refine s_36i g1 (by omega) (by omega) (by omega) (v1 g hg) ?_
  refine y_il1 c_28_25 ?_
  refine y_il4 c_28_26 ?_
  refine k_29 c_28_28 rfl fc (Nat.le_of_ble_eq_true rfl) ?_
  refine s_29 hp2 hM2 hok b1.2.2 b1.2.1 b0.2.2 hy hi ?_
  refine y_ret c_28_31 rfl ?_
  exact hQ
theorem s_30 {set : Nat} (hp : wportS p) (hM : wport M p P) (hok : aPok P) (hset : set < 2147483648) (hQ : Q (some (.int (iI (aWs P set P.2.2.2 : Nat)))) x M) : yG x M 30 0 [.ref p, .int (iI (set : Int)), zU, zU] [] Q := by
  have hp2 := hp
  obtain ⟨f0, f1, f2, f3, f4, f5, f6, fc, g0, g1, g2, g3, g4, g5, g6, flt⟩ := hp
  obtain ⟨⟨n0, n1, n2, n3, n4, n5, n6⟩, v0, v1, v2, v3, v4, v5, v6⟩ := hM
  obtain ⟨k1, k2, k3, k4, k5, k6⟩ := id hok
  have key : ∀ n k : Nat, P.2.2.2 < k + n → k ≤ P.2.2.2 → yG x M 30 4 [.ref p, .int (iI (set : Int)), .int (iI (aWs P set k : Nat)), .int (iI (k : Int))] [] Q := by
    intro n
    induction n with
    | zero => intro k h1 h2; omega
    | succ n ih =>
      intro k h1 h2
      have hb := aWs_le hok set k h2
      refine y_il3 c_30_4 ?_
      refine y_al0 c_30_5 ?_
      refine k_23 c_30_6 rfl fc (Nat.le_of_ble_eq_true rfl) ?_
      refine s_23 hp2 ?_
      rw [n4]
      refine y_ic_ge c_30_9 (by omega) (by omega) (fun h_9 => ?_) (fun h_9 => ?_)
      · have hk2 : k = P.2.2.2 := by omega
        subst hk2
        refine y_il2 c_30_37 ?_
        refine y_ret c_30_38 rfl ?_
        exact hQ
      · refine y_il1 c_30_12 ?_
        refine y_il3 c_30_13 ?_
        refine k_114 c_30_14 rfl (Nat.le_of_ble_eq_true rfl) ?_
        refine s_114 (k := k) hset (by omega) ?_
        refine y_pz_eq c_30_17 (fun h_17 => ?_) (fun h_17 => ?_)
        · have e : (aWs P set k : Nat) = aWs P set (k + 1) := by show _ = aWs P set k + _; rw [if_neg h_17]; rfl
          rw [e]
          refine y_inc3 c_30_31 rfl ?_
          refine y_goto c_30_34 ?_
          exact ih (k + 1) (by omega) (by omega)
        · have e : ((aWs P set k : Nat) : Int) + (P.1 5 k : Nat) = (aWs P set (k + 1) : Nat) := by show _ = ((aWs P set k + _ : Nat) : Int); rw [if_pos h_17]; omega
          refine y_il2 c_30_20 ?_
          refine y_al0 c_30_21 ?_
          refine y_gr (p + 11) c_30_22 f5 (by omega) ?_
          refine y_il3 c_30_25 ?_
          refine k_36 c_30_26 rfl (wrow_cl g5) (Nat.le_of_ble_eq_true rfl) ?_
          refine s_36i g5 (by omega) (by omega) (by omega) (v5 k (by omega)) ?_
          refine y_add c_30_29 ?_
          rw [e]
          refine y_is2 c_30_30 rfl ?_
          refine y_inc3 c_30_31 rfl ?_
          refine y_goto c_30_34 ?_
          exact ih (k + 1) (by omega) (by omega)
  refine y_ic c_30_0 ?_
  refine y_is2 c_30_1 rfl ?_
  refine y_ic c_30_2 ?_
  refine y_is3 c_30_3 rfl ?_
  exact key (P.2.2.2 + 1) 0 (by omega) (by omega)
end S2
