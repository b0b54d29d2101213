/-! ===== LoveGlass: judge, share ===== -/
def aDo (P : aP) (R : aR) (a b : Int) : Option aR := if a = 0 then aSpk P R b else if a = 1 then (if b = 0 then aRst P R else none) else if a = 2 then (if 0 < b then aLos R b.toNat else none) else if a = 3 then (if b = 0 ∧ aStage P R.2.2.2 = 3 then some R else none) else if a = 4 then (if b ≤ aWarm P R.2.2.2 then some R else none) else none
def aJg (P : aP) (row n : Nat) (R : aR) : Nat → Int
  | 0 => -9
  | d + 1 => match aDo P R ((row / 100 ^ d % 100 / 10 : Nat) : Int) ((row / 100 ^ d % 100 % 10 : Nat) : Int) with
    | none => ((n - (d + 1) : Nat) : Int)
    | some R' => aJg P row n R' d
def aJudge (P : aP) (R : aR) (z w : Int) : Int := if (1 ≤ z ∧ z ≤ 4) ∧ 0 ≤ w ∧ w < ((100 ^ z.toNat : Nat) : Int) then aJg P w.toNat z.toNat R z.toNat else -2
theorem aDo_ok {P : aP} {R R' : aR} {a b : Int} (hR : aRok P R) (h : aDo P R a b = some R') : aRok P R' := by
  unfold aDo at h
  split at h
  · exact aSpk_ok hR h
  split at h
  · split at h
    · exact aRst_ok hR h
    · cases h
  split at h
  · split at h
    · exact aLos_ok hR h
    · cases h
  split at h
  · split at h
    · cases h; exact hR
    · cases h
  split at h
  · split at h
    · cases h; exact hR
    · cases h
  · cases h
def aFac : Nat → Nat
  | 0 => 1
  | n + 1 => (n + 1) * aFac n
def aFrac (a b : Nat) (z : Int) : Nat := if z = 0 then b / Nat.gcd a b else a / Nat.gcd a b
def aShU (f : Nat → Nat) (Y z : Nat) : Nat → Nat := sumTo (fun s => if s / 2 ^ z % 2 = 1 then 0 else aFac (aPop s) * aFac (Y - 1 - aPop s) * (f (s ||| 2 ^ z) - f s))
def aFresh (P : aP) (R : aR) : aR := (R.1, R.2.1, aGr P R.1.toNat, [])
def aShareV (P : aP) (R : aR) (z b r : Int) : Prop := (¬ (0 ≤ z ∧ z < P.2.2.2) ∧ r = -1) ∨ ((0 ≤ z ∧ z < P.2.2.2) ∧ R.1 = -9 ∧ r = -3) ∨ ((0 ≤ z ∧ z < P.2.2.2) ∧ R.1 ≠ -9 ∧ ∃ f : Nat → Nat, (∀ s, s < 64 → aMax P (aFresh P R) s (f s)) ∧ r = aFrac (aShU f P.2.2.2 z.toNat (2 ^ P.2.2.2)) (aFac P.2.2.2) b)
theorem sumTo_le {f g : Nat → Nat} : ∀ n, (∀ k, k < n → f k ≤ g k) → sumTo f n ≤ sumTo g n
  | 0, _ => Nat.le_refl _
  | n + 1, h => by have := sumTo_le n (fun k hk => h k (by omega)); have := h n (by omega); simp only [sumTo]; omega
theorem or_lt64 {s z : Nat} (hs : s < 64) (hz : z < 6) : s ||| 2 ^ z < 64 := or_bit_lt (n := 6) hs hz
theorem aShareV_one {P : aP} {R : aR} {z b r r' : Int} (hok : aPok P) (h1 : aShareV P R z b r) (h2 : aShareV P R z b r') : r = r' := by
  have := hok.2.2.1
  rcases h1 with ⟨a1, rfl⟩ | ⟨a1, a2, rfl⟩ | ⟨a1, a2, f, a3, rfl⟩ <;> rcases h2 with ⟨b1, rfl⟩ | ⟨b1, b2, rfl⟩ | ⟨b1, b2, f', b3, rfl⟩ <;> first | rfl | (exact absurd b1 a1) | (exact absurd a1 b1) | (exact absurd b2 a2) | (exact absurd a2 b2) | skip
  have e : aShU f P.2.2.2 z.toNat (2 ^ P.2.2.2) = aShU f' P.2.2.2 z.toNat (2 ^ P.2.2.2) := by
    refine sumTo_congr _ (fun s hs => ?_)
    have hs6 : s < 64 := Nat.lt_of_lt_of_le hs (Nat.pow_le_pow_right (show 0 < 2 by omega) (show P.2.2.2 ≤ 6 by omega))
    rw [aMax_one (a3 s hs6) (b3 s hs6), aMax_one (a3 _ (or_lt64 hs6 (show z.toNat < 6 by omega))) (b3 _ (or_lt64 hs6 (show z.toNat < 6 by omega)))]
  rw [e]
theorem aMax_mono {P : aP} {R : aR} {m m' v v' : Nat} (hok : aPok P) (h : aMax P R m v) (h' : aMax P R m' v') (hm : ∀ y, m / 2 ^ y % 2 = 1 → m' / 2 ^ y % 2 = 1) : v ≤ v' := by
  rcases h with ⟨q, a1, rfl, -⟩ | ⟨-, rfl⟩
  · have h2 := aDec_mono (m' := m') hok a1 (fun y hy => hm y (a1.1.2.2.1 y hy).2)
    rcases h' with ⟨q', b1, rfl, b3⟩ | ⟨b1, -⟩
    · exact b3 q h2
    · exact absurd h2 (b1 q)
  · exact Nat.zero_le _
theorem aPop_lt : ∀ Y, Y < 7 → ∀ s, s < 2 ^ Y → ∀ z, z < Y → ¬ s / 2 ^ z % 2 = 1 → aPop s ≤ Y - 1 := by decide +kernel
theorem aFac_le : ∀ a, a < 6 → ∀ b, b < 6 - a → aFac a * aFac b ≤ 120 := by decide +kernel
theorem gcd_half {a b : Nat} (h : b % (a % b) ≠ 0 ∨ True) (hr : a % b ≠ 0) (hb : 0 < b) : 2 * (b % (a % b)) < b := by
  have h1 := Nat.mod_lt a hb
  have h2 := Nat.mod_lt b (show 0 < a % b by omega)
  have h3 := Nat.div_add_mod b (a % b)
  have h4 : 1 ≤ b / (a % b) := (Nat.one_le_div_iff (by omega)).mpr (by omega)
  have h5 : (a % b) * 1 ≤ (a % b) * (b / (a % b)) := Nat.mul_le_mul_left _ h4
  omega
theorem aWarm_lt {P : aP} {l : List Nat} (hok : aPok P) (h : ∀ y ∈ l, y < P.2.2.2) (hl : l.length ≤ 6) : aWarm P l < 2147483648 := by
  have key : ∀ l : List Nat, (∀ y ∈ l, y < P.2.2.2) → aWarm P l ≤ 9 * l.length := by
    intro l
    induction l with
    | nil => intro _; exact Nat.le_refl 0
    | cons y l ih =>
      intro h
      have h1 := ih (fun z hz => h z (List.mem_cons_of_mem _ hz))
      have h2 := (hok.2.2.2.2.2 y (h y List.mem_cons_self)).2.2.1
      show P.1 5 y + aWarm P l ≤ 9 * (l.length + 1)
      omega
  have := key l h
  omega
section S15
variable {x : wC} {M : wM} {Q : Option Value → wC → wM → Prop} {T : List Nat} {P : aP} {R : aR} {L : aA} {Tm : aT} {sd : Int64} {K : Nat → Option aR}
theorem s_94 {n : Nat} (hn : n ≤ 4) (hQ : Q (some (.int (iI ((100 ^ n : Nat) : Int)))) x M) : yG x M 94 0 [.int (iI (n : Int)), zU, zU] [] Q := by
  have key : ∀ d k : Nat, n < k + d → k ≤ n → yG x M 94 4 [.int (iI (n : Int)), .int (iI ((100 ^ k : Nat) : Int)), .int (iI (k : Int))] [] Q := by
    intro d
    induction d with
    | zero => intro k g1 g2; omega
    | succ d ih =>
      intro k g1 g2
      refine y_il2 c_94_4 ?_
      refine y_il0 c_94_5 ?_
      refine y_ic_ge c_94_6 (by omega) (by omega) (fun h_6 => ?_) (fun h_6 => ?_)
      · have hk : k = n := by omega
        subst hk
        refine y_il1 c_94_20 ?_
        refine y_ret c_94_21 rfl ?_
        exact hQ
      · refine y_il1 c_94_9 ?_
        refine y_bi c_94_10 (by decide) ?_
        refine y_mul c_94_12 ?_
        rw [show (((100 ^ k : Nat) : Int) * 100 : Int) = ((100 ^ (k + 1) : Nat) : Int) by rw [Nat.pow_succ]; omega]
        refine y_is1 c_94_13 rfl ?_
        refine y_inc2 c_94_14 rfl ?_
        refine y_goto c_94_17 ?_
        exact ih (k + 1) (by omega) (by omega)
  refine y_ic c_94_0 ?_
  refine y_is1 c_94_1 rfl ?_
  refine y_ic c_94_2 ?_
  refine y_is2 c_94_3 rfl ?_
  exact key (n + 1) 0 (by omega) (by omega)
theorem s_95 {a b : Int} {R2 : aR} (hx : wportS x.2.1) (h33 : x.2.1 + 14 < 33) (hM : wport M x.2.1 P) (hok : aPok P) (hR : wrun M 36 R2) (hRk : aRok P R2) (ha : wR a) (hb : 0 ≤ b) (hb9 : b ≤ 9)
    (hQ0 : aDo P R2 a b = none → Q (some (.int (iI 0))) x M) (hQ1 : ∀ R', aDo P R2 a b = some R' → ∀ M', wrun M' 36 R' → wfr M M' 36 38 → Q (some (.int (iI 1))) x M') : yG x M 95 0 [.ref 0, .int (iI a), .int (iI b)] [] Q := by
  obtain ⟨z1, z2, z3, z4, z5⟩ := aRok_len hok hRk
  have z6 : ∀ y ∈ R2.2.2.2, y < 6 := fun y hy => by have := z3 y hy; have := hok.2.2.1; omega
  have qc := hx.2.2.2.2.2.2.2.1
  have refl : wfr M M 36 38 := fun b _ => rfl
  refine y_il1 c_95_0 ?_
  by_cases hd_1 : a = 0 ∨ a = 1 ∨ a = 2 ∨ a = 3 ∨ a = 4
  rotate_left
  · refine y_td 142 c_95_1 (by omega) (by omega) rfl ?_
    have e : aDo P R2 a b = none := by unfold aDo; rw [if_neg (by omega), if_neg (by omega), if_neg (by omega), if_neg (by omega), if_neg (by omega)]
    refine y_ic c_95_142 ?_
    refine y_zret c_95_143 rfl (by omega) ?_
    exact hQ0 e
  rcases hd_1 with rfl | rfl | rfl | rfl | rfl
  · refine y_ts 36 c_95_1 (by omega) (by omega) (by omega) rfl rfl ?_
    refine y_al0 c_95_36 ?_
    refine y_gr 36 c_95_37 rfl (by omega) ?_
    refine y_al0 c_95_40 ?_
    refine y_gp c_95_41 rfl ?_
    refine y_il2 c_95_44 ?_
    refine k_51 c_95_45 rfl rfl (Nat.le_of_ble_eq_true rfl) ?_
    have e : aDo P R2 0 b = aSpk P R2 b := if_pos rfl
    rw [e] at hQ0 hQ1
    refine s_51 wrunS_36 hR hx hM hok hRk (by omega) (fun b h1 h2 => by omega) (fun hno => ?_) (fun y e2 hlt hcan M2 hR2 hf2 => ?_)
    · refine y_zret c_95_48 rfl (by decide) ?_
      exact hQ0 (if_neg (fun h => hno b.toNat (by omega) (by omega) h.2))
    · refine y_zret c_95_48 rfl (by decide) ?_
      subst e2
      exact hQ1 _ (if_pos ⟨by omega, by rw [Int.toNat_natCast]; exact hcan⟩) M2 hR2 hf2
  · refine y_ts 49 c_95_1 (by omega) (by omega) (by omega) rfl rfl ?_
    refine y_il2 c_95_49 ?_
    refine y_iz_ne c_95_50 (by omega) (fun h1 => ?_) (fun h1 => ?_)
    · refine y_ic c_95_71 ?_
      refine y_zret c_95_72 rfl (by omega) ?_
      exact hQ0 (by unfold aDo; rw [if_neg (by decide), if_pos rfl, if_neg (by omega)])
    · refine y_al0 c_95_53 ?_
      refine y_gr 36 c_95_54 rfl (by omega) ?_
      refine y_al0 c_95_57 ?_
      refine y_gp c_95_58 rfl ?_
      refine k_52 c_95_61 rfl rfl (Nat.le_of_ble_eq_true rfl) ?_
      have e : aDo P R2 1 b = aRst P R2 := by unfold aDo; rw [if_neg (by decide), if_pos rfl, if_pos h1]
      rw [e] at hQ0 hQ1
      refine s_52 wrunS_36 hR hx hM hok hRk (fun hno => ?_) (fun hne hle M2 hR2 hf2 => ?_)
      · refine y_iz_eq c_95_64 (by decide) (fun _ => ?_) (fun h => absurd rfl h)
        refine y_ic c_95_71 ?_
        refine y_zret c_95_72 rfl (by omega) ?_
        exact hQ0 (if_neg hno)
      · refine y_iz_eq c_95_64 (by decide) (fun h => absurd h (by decide)) (fun _ => ?_)
        refine y_ic c_95_67 ?_
        refine y_goto c_95_68 ?_
        refine y_zret c_95_72 rfl (by omega) ?_
        exact hQ1 _ (if_pos ⟨hne, hle⟩) M2 hR2 hf2
  · refine y_ts 73 c_95_1 (by omega) (by omega) (by omega) rfl rfl ?_
    refine y_il2 c_95_73 ?_
    refine y_iz_le c_95_74 (by omega) (fun h1 => ?_) (fun h1 => ?_)
    · refine y_ic c_95_92 ?_
      refine y_zret c_95_93 rfl (by omega) ?_
      exact hQ0 (by unfold aDo; rw [if_neg (by decide), if_neg (by decide), if_pos rfl, if_neg (by omega)])
    · obtain ⟨n, rfl⟩ : ∃ n : Nat, b = n := ⟨b.toNat, by omega⟩
      refine y_al0 c_95_77 ?_
      refine y_gr 36 c_95_78 rfl (by omega) ?_
      refine y_il2 c_95_81 ?_
      refine k_53 c_95_82 rfl rfl (Nat.le_of_ble_eq_true rfl) ?_
      have e : aDo P R2 2 (n : Int) = aLos R2 n := by unfold aDo; rw [if_neg (by decide), if_neg (by decide), if_pos rfl, if_pos h1, Int.toNat_natCast]
      rw [e] at hQ0 hQ1
      refine s_53 wrunS_36 hR z4 (by omega) (fun hno => ?_) (fun hne hle M2 hR2 hf2 => ?_)
      · refine y_iz_eq c_95_85 (by decide) (fun _ => ?_) (fun h => absurd rfl h)
        refine y_ic c_95_92 ?_
        refine y_zret c_95_93 rfl (by omega) ?_
        exact hQ0 (if_neg hno)
      · refine y_iz_eq c_95_85 (by decide) (fun h => absurd h (by decide)) (fun _ => ?_)
        refine y_ic c_95_88 ?_
        refine y_goto c_95_89 ?_
        refine y_zret c_95_93 rfl (by omega) ?_
        exact hQ1 _ (if_pos ⟨hne, hle⟩) M2 hR2 hf2
  · refine y_ts 94 c_95_1 (by omega) (by omega) (by omega) rfl rfl ?_
    refine y_il2 c_95_94 ?_
    refine y_iz_ne c_95_95 (by omega) (fun h1 => ?_) (fun h1 => ?_)
    · refine y_ic c_95_116 ?_
      refine y_zret c_95_117 rfl (by omega) ?_
      first
        | exact hQ1 R2 (by unfold aDo; rw [if_neg (by decide), if_neg (by decide), if_neg (by decide), if_pos rfl, if_pos ⟨h1, h2⟩]) M hR refl
        | exact hQ0 (by unfold aDo; rw [if_neg (by decide), if_neg (by decide), if_neg (by decide), if_pos rfl, if_neg (fun h => h2 h.2)])
        | exact hQ0 (by unfold aDo; rw [if_neg (by decide), if_neg (by decide), if_neg (by decide), if_pos rfl, if_neg (fun h => h1 h.1)])
    · refine y_al0 c_95_98 ?_
      refine y_gr 36 c_95_99 rfl (by omega) ?_
      refine y_al0 c_95_102 ?_
      refine y_gp c_95_103 rfl ?_
      refine k_49 c_95_106 rfl rfl (Nat.le_of_ble_eq_true rfl) ?_
      refine s_49 wrunS_36 hR hx hM hok z2 z3 ?_
      refine y_pz_eq c_95_109 (fun h2 => ?_) (fun h2 => ?_)
      · refine y_ic c_95_116 ?_
        refine y_zret c_95_117 rfl (by omega) ?_
        first
          | exact hQ1 R2 (by unfold aDo; rw [if_neg (by decide), if_neg (by decide), if_neg (by decide), if_pos rfl, if_pos ⟨h1, h2⟩]) M hR refl
          | exact hQ0 (by unfold aDo; rw [if_neg (by decide), if_neg (by decide), if_neg (by decide), if_pos rfl, if_neg (fun h => h2 h.2)])
          | exact hQ0 (by unfold aDo; rw [if_neg (by decide), if_neg (by decide), if_neg (by decide), if_pos rfl, if_neg (fun h => h1 h.1)])
      · refine y_ic c_95_112 ?_
        refine y_goto c_95_113 ?_
        refine y_zret c_95_117 rfl (by omega) ?_
        first
          | exact hQ1 R2 (by unfold aDo; rw [if_neg (by decide), if_neg (by decide), if_neg (by decide), if_pos rfl, if_pos ⟨h1, h2⟩]) M hR refl
          | exact hQ0 (by unfold aDo; rw [if_neg (by decide), if_neg (by decide), if_neg (by decide), if_pos rfl, if_neg (fun h => h2 h.2)])
          | exact hQ0 (by unfold aDo; rw [if_neg (by decide), if_neg (by decide), if_neg (by decide), if_pos rfl, if_neg (fun h => h1 h.1)])
  · refine y_ts 118 c_95_1 (by omega) (by omega) (by omega) rfl rfl ?_
    refine y_al0 c_95_118 ?_
    refine y_gp c_95_119 rfl ?_
    refine y_al0 c_95_122 ?_
    refine y_gr 36 c_95_123 rfl (by omega) ?_
    refine k_46 c_95_126 rfl rfl (Nat.le_of_ble_eq_true rfl) ?_
    refine s_46 wrunS_36 hR z2 z6 ?_
    refine k_30 c_95_129 rfl qc (Nat.le_of_ble_eq_true rfl) ?_
    refine s_30 hx hM hok (by have := aBits_lt z6; omega) ?_
    rw [aWs_warm z5 z3]
    have hwl : aWarm P R2.2.2.2 < 2147483648 := aWarm_lt hok z3 z2
    refine y_il2 c_95_132 ?_
    refine y_ic_lt c_95_133 (by omega) (by omega) (fun h2 => ?_) (fun h2 => ?_)
    · refine y_ic c_95_140 ?_
      refine y_zret c_95_141 rfl (by omega) ?_
      first
        | exact hQ1 R2 (by unfold aDo; rw [if_neg (by decide), if_neg (by decide), if_neg (by decide), if_neg (by decide), if_pos rfl, if_pos h2]) M hR refl
        | exact hQ0 (by unfold aDo; rw [if_neg (by decide), if_neg (by decide), if_neg (by decide), if_neg (by decide), if_pos rfl, if_neg (by omega)])
    · refine y_ic c_95_136 ?_
      refine y_goto c_95_137 ?_
      refine y_zret c_95_141 rfl (by omega) ?_
      first
        | exact hQ1 R2 (by unfold aDo; rw [if_neg (by decide), if_neg (by decide), if_neg (by decide), if_neg (by decide), if_pos rfl, if_pos h2]) M hR refl
        | exact hQ0 (by unfold aDo; rw [if_neg (by decide), if_neg (by decide), if_neg (by decide), if_neg (by decide), if_pos rfl, if_neg (by omega)])
theorem s_93 {z w : Int} (hC : CI x M T P R L Tm sd K) (hA : AOK T P R L Tm K) (hz : wR z) (hw : wR w) (hQ : ∀ M', CI x M' T P R L Tm sd K → (∀ b, 106 ≤ b → M' b = M b) → Q (some (.int (iI (aJudge P R z w)))) x M') : yG x M 93 0 [.ref 0, .int (iI z), .int (iI w), zU, zU] [] Q := by
  obtain ⟨hx, hsd, hT, hM, hR, hL, hTm, hK0, hK⟩ := id hC
  obtain ⟨⟨ht56, ht256⟩, hok, hRk, ⟨hl14, hLk⟩, hTk, hKk⟩ := id hA
  obtain ⟨hp, hp33⟩ := CI_port hx
  obtain ⟨z1, z2, z3, z4, z5⟩ := aRok_len hok hRk
  have z6 : ∀ y ∈ R.2.2.2, y < 6 := fun y hy => by have := z3 y hy; have := hok.2.2.1; omega
  have hb1 := hok.1
  have hb2 := hok.2.1
  have hb3 := hok.2.2.1
  obtain ⟨q0, q1, q2, q3, q4, q5, q6, qc, j0, j1, j2, j3, j4, j5, j6, qlt⟩ := id hp
  obtain ⟨⟨n0, n1, n2, n3, n4, n5, n6⟩, v0, v1, v2, v3, v4, v5, v6⟩ := id hM
  unfold aJudge at hQ
  have key : ∀ n row : Nat, z = n → w = row → n ≤ 4 → row < 100 ^ n → ∀ d k : Nat, n = k + d → ∀ (M1 : wM) (R2 : aR) (w4 : Value), CI x M1 T P R L Tm sd K → (∀ b, 106 ≤ b → M1 b = M b) → wrun M1 36 R2 → aRok P R2 → (∀ M', CI x M' T P R L Tm sd K → (∀ b, 106 ≤ b → M' b = M b) → Q (some (.int (iI (aJg P row n R2 d)))) x M') → yG x M1 93 38 [.ref 0, .int (iI (n : Int)), .int (iI (row : Int)), .int (iI (k : Int)), w4] [] Q := by
    intro n row hzn hwn hn4 hrow d
    have hp4 : 100 ^ n ≤ 100 ^ 4 := Nat.pow_le_pow_right (by omega) hn4
    induction d with
    | zero =>
      intro k hk M1 R2 w4 hC1 hF1 hR2 hRk2 hQ
      refine y_il3 c_93_38 ?_
      refine y_il1 c_93_39 ?_
      refine y_ic_ge c_93_40 (by omega) (by omega) (fun h_40 => ?_) (fun h_40 => absurd h_40 (by omega))
      refine y_bi c_93_84 (by decide) ?_
      refine y_ret c_93_86 rfl ?_
      exact hQ _ hC1 hF1
    | succ d ih =>
      intro k hk M1 R2 w4 hC1 hF1 hR2 hRk2 hQ
      have hp5 : 100 ^ d ≤ 100 ^ 4 := Nat.pow_le_pow_right (by omega) (by omega)
      have hp6 : 0 < 100 ^ d := Nat.pow_pos (by omega)
      have hml : row / 100 ^ d % 100 < 100 := Nat.mod_lt _ (by omega)
      have hed : n - (d + 1) = k := by omega
      simp only [aJg] at hQ
      rw [hed] at hQ
      refine y_il3 c_93_38 ?_
      refine y_il1 c_93_39 ?_
      refine y_ic_ge c_93_40 (by omega) (by omega) (fun h_40 => absurd h_40 (by omega)) (fun h_40 => ?_)
      refine y_il2 c_93_43 ?_
      refine y_il1 c_93_44 ?_
      refine y_ic c_93_45 ?_
      refine y_sub c_93_46 ?_
      refine y_il3 c_93_47 ?_
      refine y_sub c_93_48 ?_
      rw [show ((n : Int) - 1 - (k : Int)) = (d : Int) by omega]
      refine k_94 c_93_49 rfl (Nat.le_of_ble_eq_true rfl) ?_
      refine s_94 (by omega) ?_
      refine y_bi c_93_52 (by decide) ?_
      refine k_92 c_93_54 rfl (Nat.le_of_ble_eq_true rfl) ?_
      refine s_92 (b := 100) (by omega) (by omega) (by decide) (by omega) (by decide) ?_
      generalize row / 100 ^ d % 100 = t at hml hQ ⊢
      refine y_is4 c_93_57 rfl ?_
      refine y_al0 c_93_59 ?_
      refine y_il4 c_93_60 ?_
      refine y_bi c_93_62 (by decide) ?_
      refine y_div c_93_64 (by omega) (by omega) (by omega) (by omega) ?_
      rw [show ((t : Int) / 10) = ((t / 10 : Nat) : Int) by omega]
      refine y_il4 c_93_65 ?_
      refine y_bi c_93_67 (by decide) ?_
      refine y_rem c_93_69 (by omega) (by omega) (by omega) (by omega) ?_
      rw [show ((t : Int) % 10) = ((t % 10 : Nat) : Int) by omega]
      refine k_95 c_93_70 rfl rfl (Nat.le_of_ble_eq_true rfl) ?_
      refine s_95 hp hp33 hC1.2.2.2.1 hok hR2 hRk2 (by omega) (by omega) (by omega) (fun hno => ?_) (fun R3 hyes M2 hR3 hf2 => ?_)
      · refine y_iz_ne c_93_73 (by decide) (fun h => absurd rfl h) (fun _ => ?_)
        rw [hno] at hQ
        refine y_il3 c_93_76 ?_
        refine y_ret c_93_77 rfl ?_
        exact hQ _ hC1 hF1
      · refine y_iz_ne c_93_73 (by decide) (fun _ => ?_) (fun h => absurd h (by decide))
        rw [hyes] at hQ
        refine y_inc3 c_93_78 rfl ?_
        refine y_goto c_93_81 ?_
        exact ih (k + 1) (by omega) M2 R3 _ (CI_of hC1 (fun b hb => hf2 b (by unfold wown at hb; omega))) (fun b hb => by rw [hf2 b (by omega), hF1 b hb]) hR3 (aDo_ok hRk2 hyes) hQ
  refine y_il1 c_93_0 ?_
  refine y_ic c_93_1 ?_
  refine y_ic_lt c_93_2 (by omega) (by omega) (fun h_2 => ?_) (fun h_2 => ?_)
  · refine y_bi c_93_22 (by decide) ?_
    refine y_ret c_93_24 rfl ?_
    rw [if_neg (by omega)] at hQ; exact hQ _ hC (fun b hb => rfl)
  · refine y_il1 c_93_5 ?_
    refine y_ic c_93_6 ?_
    refine y_ic_gt c_93_7 (by omega) (by omega) (fun h_7 => ?_) (fun h_7 => ?_)
    · refine y_bi c_93_22 (by decide) ?_
      refine y_ret c_93_24 rfl ?_
      rw [if_neg (by omega)] at hQ; exact hQ _ hC (fun b hb => rfl)
    · obtain ⟨n, rfl⟩ : ∃ n : Nat, z = n := ⟨z.toNat, by omega⟩
      have hp4 : 100 ^ n ≤ 100 ^ 4 := Nat.pow_le_pow_right (by omega) (show n ≤ 4 by omega)
      have hp3 : 0 < 100 ^ n := Nat.pow_pos (by omega)
      rw [Int.toNat_natCast] at hQ
      refine y_il2 c_93_10 ?_
      refine y_iz_lt c_93_11 (by omega) (fun h_11 => ?_) (fun h_11 => ?_)
      · refine y_bi c_93_22 (by decide) ?_
        refine y_ret c_93_24 rfl ?_
        rw [if_neg (by omega)] at hQ; exact hQ _ hC (fun b hb => rfl)
      · refine y_il2 c_93_14 ?_
        refine y_il1 c_93_15 ?_
        refine k_94 c_93_16 rfl (Nat.le_of_ble_eq_true rfl) ?_
        refine s_94 (by omega) ?_
        refine y_ic_lt c_93_19 (by omega) (by omega) (fun h_19 => ?_) (fun h_19 => ?_)
        · refine y_al0 c_93_25 ?_
          refine y_gr 36 c_93_26 rfl (by omega) ?_
          refine y_al0 c_93_29 ?_
          refine y_gr 33 c_93_30 rfl (by omega) ?_
          refine k_43 c_93_33 rfl rfl (Nat.le_of_ble_eq_true rfl) ?_
          rw [if_pos (by omega)] at hQ
          obtain ⟨row, rfl⟩ : ∃ n : Nat, w = n := ⟨w.toNat, by omega⟩
          rw [Int.toNat_natCast] at hQ
          refine s_43 wrunS_36 wrunS_33 hR z2 (by omega) (fun M1 hR1 hf1 => ?_)
          have hM1 := wport_of hM (fun b h1 h2 => hf1 b (by omega))
          have hC1 : CI x M1 T P R L Tm sd K := CI_of hC (fun b hb => hf1 b (by unfold wown at hb; omega))
          refine y_ic c_93_36 ?_
          refine y_is3 c_93_37 rfl ?_
          exact key n row rfl rfl (by omega) (by omega) n 0 (by omega) M1 R _ hC1 (fun b hb => hf1 b (by omega)) hR1 hRk hQ
        · refine y_bi c_93_22 (by decide) ?_
          refine y_ret c_93_24 rfl ?_
          rw [if_neg (by omega)] at hQ; exact hQ _ hC (fun b hb => rfl)
end S15
