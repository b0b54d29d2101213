/-! ===== a glass that runs ===== -/
abbrev aR : Type := Int × Int × Nat × List Nat
def aBits (l : List Nat) : Nat := l.foldl (fun s y => s ||| 2 ^ y) 0
def aStage (P : aP) (l : List Nat) : Nat := l.foldl (fun s y => if s < 3 ∧ P.1 6 y = s + 1 then s + 1 else s) 0
def aR0 : aR := (-9, -9, 0, [])
def aTake (P : aP) (R : aR) (y : Nat) : Nat := aCost P y R.2.1.toNat R.1.toNat R.2.2.2.length
def aCan (P : aP) (R : aR) (y : Nat) : Prop := R.1 ≠ -9 ∧ y ∉ R.2.2.2 ∧ aTake P R y ≤ R.2.2.1
def aSay (P : aP) (R : aR) (y : Nat) : aR := (R.1, R.2.1, R.2.2.1 - aTake P R y, R.2.2.2 ++ [y])
def aPz (P : aP) (R : aR) : Nat := if P.1 1 R.1.toNat = 3 then 0 else 1
def aRok (P : aP) (R : aR) : Prop := R = aR0 ∨ ((∃ g s : Nat, R.1 = g ∧ R.2.1 = s ∧ g < P.2.1 ∧ s < P.2.2.1) ∧ R.2.2.1 ≤ 135 ∧ R.2.2.2.Nodup ∧ ∀ y ∈ R.2.2.2, y < P.2.2.2)
theorem nd_len : ∀ (n : Nat) (l : List Nat), l.Nodup → (∀ y ∈ l, y < n) → l.length ≤ n
  | 0, l, _, h => by
    cases l with
    | nil => simp
    | cons a t => exact absurd (h a List.mem_cons_self) (by omega)
  | n + 1, l, hd, h => by
    have h1 := nd_len n (l.filter (fun y => decide (y < n))) (hd.filter _) (fun y hy => by simpa using (List.mem_filter.mp hy).2)
    have h2 : l.length ≤ (l.filter (fun y => decide (y < n))).length + 1 := by
      clear h1
      induction l with
      | nil => simp
      | cons a t ih =>
        have hd2 := List.nodup_cons.mp hd
        by_cases ha : a < n
        · have := ih hd2.2 (fun y hy => h y (List.mem_cons_of_mem _ hy))
          simp [List.filter_cons, ha]
          omega
        · have hae : a = n := by have := h a List.mem_cons_self; omega
          have e : t.filter (fun y => decide (y < n)) = t := by
            apply List.filter_eq_self.mpr
            intro y hy
            have h3 := h y (List.mem_cons_of_mem _ hy)
            have h4 : y ≠ n := fun e => hd2.1 (by rw [hae, ← e]; exact hy)
            simp; omega
          simp [List.filter_cons, ha, e]
    omega
theorem aRok_len {P : aP} {R : aR} (hok : aPok P) (h : aRok P R) : R.2.2.2.length ≤ P.2.2.2 ∧ R.2.2.2.length ≤ 6 ∧ (∀ y ∈ R.2.2.2, y < P.2.2.2) ∧ R.2.2.1 ≤ 135 ∧ R.2.2.2.Nodup := by
  have h6 := hok.2.2.1
  rcases h with rfl | ⟨-, h1, h2, h3⟩
  · refine ⟨Nat.zero_le _, Nat.zero_le _, fun y hy => (by cases hy), Nat.zero_le _, List.nodup_nil⟩
  · have := nd_len _ _ h2 h3
    exact ⟨this, by omega, h3, h1, h2⟩
theorem take_s {l : List Nat} {k : Nat} (h : k < l.length) : l.take (k + 1) = l.take k ++ [l.getD k 0] := by
  rw [List.take_add_one, List.getD_eq_getElem?_getD, List.getElem?_eq_getElem h]
  rfl
theorem aBits_s {l : List Nat} {k : Nat} (h : k < l.length) : aBits (l.take (k + 1)) = aBits (l.take k) ||| 2 ^ (l.getD k 0) := by
  rw [take_s h]; simp [aBits, List.foldl_append]
theorem aStage_s (P : aP) {l : List Nat} {k : Nat} (h : k < l.length) : aStage P (l.take (k + 1)) = if aStage P (l.take k) < 3 ∧ P.1 6 (l.getD k 0) = aStage P (l.take k) + 1 then aStage P (l.take k) + 1 else aStage P (l.take k) := by
  rw [take_s h]; simp [aStage, List.foldl_append]
theorem aStage_le (P : aP) (l : List Nat) : aStage P l ≤ 3 := by
  have key : ∀ (l : List Nat) (s : Nat), s ≤ 3 → l.foldl (fun s y => if s < 3 ∧ P.1 6 y = s + 1 then s + 1 else s) s ≤ 3 := by
    intro l
    induction l with
    | nil => intro s h; exact h
    | cons a t ih =>
      intro s h
      rw [List.foldl_cons]
      apply ih
      split <;> omega
  exact key l 0 (by omega)
theorem aBits_lt {l : List Nat} {n : Nat} (h : ∀ y ∈ l, y < n) : aBits l < 2 ^ n := by
  have key : ∀ (l : List Nat) (s : Nat), s < 2 ^ n → (∀ y ∈ l, y < n) → l.foldl (fun s y => s ||| 2 ^ y) s < 2 ^ n := by
    intro l
    induction l with
    | nil => intro s h _; exact h
    | cons a t ih =>
      intro s hs hl
      rw [List.foldl_cons]
      exact ih _ (Nat.or_lt_two_pow hs (Nat.pow_lt_pow_right (by omega) (hl a List.mem_cons_self))) (fun y hy => hl y (List.mem_cons_of_mem _ hy))
  exact key l 0 (Nat.two_pow_pos n) h
theorem aBits_mem (l : List Nat) (y : Nat) : aBits l / 2 ^ y % 2 = 1 ↔ y ∈ l := by
  have key : ∀ (l : List Nat) (s : Nat), (l.foldl (fun s y => s ||| 2 ^ y) s).testBit y = (s.testBit y || decide (y ∈ l)) := by
    intro l
    induction l with
    | nil => intro s; simp
    | cons a t ih =>
      intro s
      rw [List.foldl_cons, ih, Nat.testBit_or, Nat.testBit_two_pow]
      by_cases h : a = y
      · subst h; simp
      · have h2 : ¬ y = a := fun e => h e.symm
        simp [h, h2]
  have h1 := key l 0
  rw [Nat.testBit_eq_decide_div_mod_eq] at h1
  simp only [Nat.zero_testBit, Bool.false_or] at h1
  unfold aBits
  exact decide_eq_decide.mp h1
theorem mem_getD {l : List Nat} {k : Nat} (h : k < l.length) : l.getD k 0 ∈ l := by
  rw [List.getD_eq_getElem?_getD, List.getElem?_eq_getElem h]
  exact List.getElem_mem h
def wrunS (u : Nat) : Prop := wch u 4 0 = 0 ∧ wch u 4 1 = 0 ∧ wch u 4 2 = 0 ∧ wch u 4 3 = u + 1 + 2 ∧ wcl u = 4 ∧ wrow (u + 1) 6 0 5 ∧ u < 700
def wrun (M : wM) (u : Nat) (R : aR) : Prop := M u 0 = R.1 ∧ M u 1 = R.2.1 ∧ M u 2 = R.2.2.1 ∧ M (u + 1) 3 = R.2.2.2.length ∧ ∀ i : Nat, i < R.2.2.2.length → M (u + 2) i = (R.2.2.2.getD i 0 : Nat)
def wfr (M M' : wM) (lo hi : Nat) : Prop := ∀ b, (b < lo ∨ hi < b) → M' b = M b
theorem wup_f (M : wM) {a b : Nat} (k v : Int) (h : b ≠ a) : wup M a k v b = M b := funext fun j => wup_a M k v j h
theorem wrun_of {M M' : wM} {u : Nat} {R : aR} (h : wrun M u R) (h0 : M' u = M u) (h1 : M' (u + 1) = M (u + 1)) (h2 : M' (u + 2) = M (u + 2)) : wrun M' u R := by
  obtain ⟨a0, a1, a2, a3, a4⟩ := h
  exact ⟨by rw [h0]; exact a0, by rw [h0]; exact a1, by rw [h0]; exact a2, by rw [h1]; exact a3, fun i hi => by rw [h2]; exact a4 i hi⟩
theorem wport_of {M M' : wM} {p : Nat} {P : aP} (h : wport M p P) (hf : ∀ b, p ≤ b → b ≤ p + 14 → M' b = M b) : wport M' p P := by
  obtain ⟨⟨n0, n1, n2, n3, n4, n5, n6⟩, v0, v1, v2, v3, v4, v5, v6⟩ := h
  refine ⟨⟨?_, ?_, ?_, ?_, ?_, ?_, ?_⟩, ?_, ?_, ?_, ?_, ?_, ?_, ?_⟩
  · rw [hf _ (by omega) (by omega)]; exact n0
  · rw [hf _ (by omega) (by omega)]; exact n1
  · rw [hf _ (by omega) (by omega)]; exact n2
  · rw [hf _ (by omega) (by omega)]; exact n3
  · rw [hf _ (by omega) (by omega)]; exact n4
  · rw [hf _ (by omega) (by omega)]; exact n5
  · rw [hf _ (by omega) (by omega)]; exact n6
  · intro i hi; rw [hf _ (by omega) (by omega)]; exact v0 i hi
  · intro i hi; rw [hf _ (by omega) (by omega)]; exact v1 i hi
  · intro i hi; rw [hf _ (by omega) (by omega)]; exact v2 i hi
  · intro i hi; rw [hf _ (by omega) (by omega)]; exact v3 i hi
  · intro i hi; rw [hf _ (by omega) (by omega)]; exact v4 i hi
  · intro i hi; rw [hf _ (by omega) (by omega)]; exact v5 i hi
  · intro i hi; rw [hf _ (by omega) (by omega)]; exact v6 i hi
section S3
variable {x : wC} {M : wM} {Q : Option Value → wC → wM → Prop} {p u : Nat} {P : aP} {R : aR}
theorem s_39 {r q n lo hi n2 lo2 hi2 : Nat} {c : Nat} (hr : wrow r n lo hi) (hq : wrow q n2 lo2 hi2) (h1 : r ≠ q) (h2 : r ≠ q + 1) (h3 : q ≠ r + 1) (hc : M q 3 = c) (hcn : c ≤ n) (hcn2 : c ≤ n2) (hv : ∀ i : Nat, i < c → wR (M (q + 1) i))
    (hQ : ∀ M' : wM, M' r 3 = c → (∀ i : Nat, i < c → M' (r + 1) i = M (q + 1) i) → wfr M M' r (r + 1) → Q none x M') : yG x M 39 0 [.ref r, .ref q, zU] [] Q := by
  obtain ⟨w0, w1, w2, w3, w4, w5, w6, w7, w8, w9⟩ := id hr
  obtain ⟨t0, t1, t2, t3, t4, t5, t6, t7, t8, t9⟩ := id hq
  have key : ∀ d k : Nat, c < k + d → k ≤ c → ∀ M1 : wM, M1 r 3 = k → (∀ i : Nat, i < k → M1 (r + 1) i = M (q + 1) i) → wfr M M1 r (r + 1) → yG x M1 39 6 [.ref r, .ref q, .int (iI (k : Int))] [] Q := by
    intro d
    induction d with
    | zero => intro k g1 g2; omega
    | succ d ih =>
      intro k g1 g2 M1 e1 e2 e3
      have eq3 : M1 q 3 = c := by rw [e3 q (by omega)]; exact hc
      have eqv : ∀ i : Nat, M1 (q + 1) i = M (q + 1) i := fun i => by rw [e3 (q + 1) (by omega)]
      refine y_il2 c_39_6 ?_
      refine y_al1 c_39_7 ?_
      refine y_gi (j := 3) c_39_8 t3 rfl rfl (fun r_8 => ?_)
      refine y_ic_ge c_39_11 (by omega) (by omega) (fun h_11 => ?_) (fun h_11 => ?_)
      · have hk : k = c := by omega
        subst hk
        refine y_vret c_39_29 rfl ?_
        exact hQ _ e1 e2 e3
      · refine y_al0 c_39_14 ?_
        refine y_al1 c_39_15 ?_
        refine y_il2 c_39_16 ?_
        refine k_36 c_39_17 rfl t5 (Nat.le_of_ble_eq_true rfl) ?_
        refine s_36i hq (by omega) (by omega) (by omega) (eqv k) ?_
        refine k_37 c_39_20 rfl w5 (Nat.le_of_ble_eq_true rfl) ?_
        refine s_37 hr (hv k (by omega)) (by omega) (by omega) ?_
        refine y_inc2 c_39_23 rfl ?_
        refine y_goto c_39_26 ?_
        refine ih (k + 1) (by omega) (by omega) _ ?_ ?_ ?_
        · rw [wup_s, e1]; omega
        · intro i hi
          rw [wup_a _ _ _ _ (by omega), e1]
          by_cases hik : i = k
          · subst hik; rw [wup_s]
          · rw [wup_k _ _ (by omega)]; exact e2 i (by omega)
        · intro b hb
          rw [wup_f _ _ _ (by omega), wup_f _ _ _ (by omega)]; exact e3 b hb
  refine y_al0 c_39_0 ?_
  refine k_38 c_39_1 rfl w5 (Nat.le_of_ble_eq_true rfl) ?_
  refine s_38 hr ?_
  refine y_ic c_39_4 ?_
  refine y_is2 c_39_5 rfl ?_
  exact key (c + 1) 0 (by omega) (by omega) _ (by rw [wup_s]; rfl) (fun i hi => by omega) (fun b hb => wup_f _ _ _ (by omega))
theorem s_41 (hu : wrunS u) (hQ : ∀ M', wrun M' u aR0 → wfr M M' u (u + 2) → Q none x M') : yG x M 41 0 [.ref u] [] Q := by
  obtain ⟨f0, f1, f2, f3, fc, g3, flt⟩ := hu
  refine y_al0 c_41_0 ?_
  refine y_bi c_41_1 (by decide) ?_
  refine y_pi (j := 0) c_41_3 f0 rfl rfl (by omega) ?_
  refine y_al0 c_41_6 ?_
  refine y_bi c_41_7 (by decide) ?_
  refine y_pi (j := 1) c_41_9 f1 rfl rfl (by omega) ?_
  refine y_al0 c_41_12 ?_
  refine y_ic c_41_13 ?_
  refine y_pi (j := 2) c_41_14 f2 rfl rfl (by omega) ?_
  refine y_al0 c_41_17 ?_
  refine y_gr (u + 1) c_41_18 f3 (by omega) ?_
  refine k_38 c_41_21 rfl (wrow_cl g3) (Nat.le_of_ble_eq_true rfl) ?_
  refine s_38 g3 ?_
  refine y_vret c_41_24 rfl ?_
  refine hQ _ ⟨?_, ?_, ?_, ?_, ?_⟩ ?_
  · simp [wup, aR0]
  · simp [wup, aR0]
  · simp [wup, aR0]
  · simp [wup, aR0]
  · intro i hi; simp [aR0] at hi
  · intro b hb; rw [wup_f _ _ _ (by omega), wup_f _ _ _ (by omega), wup_f _ _ _ (by omega), wup_f _ _ _ (by omega)]
theorem s_42 {g s : Nat} (hu : wrunS u) (hp : wportS p) (hM : wport M p P) (hok : aPok P) (hg : g < P.2.1) (hs : s < P.2.2.1) (hd : ∀ b, p ≤ b → b ≤ p + 14 → b ≠ u) (hQ : ∀ M', wrun M' u ((g : Int), (s : Int), aGr P g, []) → wfr M M' u (u + 2) → Q none x M') : yG x M 42 0 [.ref u, .ref p, .int (iI (g : Int)), .int (iI (s : Int))] [] Q := by
  obtain ⟨f0, f1, f2, f3, fc, g3, flt⟩ := hu
  obtain ⟨q0, q1, q2, q3, q4, q5, q6, qc, j0, j1, j2, j3, j4, j5, j6, qlt⟩ := id hp
  obtain ⟨⟨n0, n1, n2, n3, n4, n5, n6⟩, v0, v1, v2, v3, v4, v5, v6⟩ := id hM
  obtain ⟨k1, k2, k3, k4, k5, k6⟩ := id hok
  have hM2 : wport (wup (wup M u 0 g) u 1 s) p P := wport_of hM (fun b h1 h2 => by rw [wup_f _ _ _ (hd b h1 h2), wup_f _ _ _ (hd b h1 h2)])
  have hgr : aGr P g ≤ 135 := by
    have := k4 g hg
    unfold aGr; split <;> omega
  refine y_al0 c_42_0 ?_
  refine y_il2 c_42_1 ?_
  refine y_pi (j := 0) c_42_2 f0 rfl rfl (by omega) ?_
  refine y_al0 c_42_5 ?_
  refine y_il3 c_42_6 ?_
  refine y_pi (j := 1) c_42_7 f1 rfl rfl (by omega) ?_
  refine y_al0 c_42_10 ?_
  refine y_al1 c_42_11 ?_
  refine y_il2 c_42_12 ?_
  refine k_27 c_42_13 rfl qc (Nat.le_of_ble_eq_true rfl) ?_
  refine s_27 hp hM2 hok hg ?_
  refine y_pi (j := 2) c_42_16 f2 rfl rfl (by omega) ?_
  refine y_al0 c_42_19 ?_
  refine y_gr (u + 1) c_42_20 f3 (by omega) ?_
  refine k_38 c_42_23 rfl (wrow_cl g3) (Nat.le_of_ble_eq_true rfl) ?_
  refine s_38 g3 ?_
  refine y_vret c_42_26 rfl ?_
  refine hQ _ ⟨?_, ?_, ?_, ?_, ?_⟩ ?_
  · simp [wup]
  · simp [wup]
  · simp [wup]
  · simp [wup]
  · intro i hi; simp at hi
  · intro b hb; rw [wup_f _ _ _ (by omega), wup_f _ _ _ (by omega), wup_f _ _ _ (by omega), wup_f _ _ _ (by omega)]
theorem s_43 {v : Nat} (hu : wrunS u) (hv : wrunS v) (hR : wrun M v R) (hl : R.2.2.2.length ≤ 6) (hd : v + 2 < u ∨ u + 2 < v) (hQ : ∀ M', wrun M' u R → wfr M M' u (u + 2) → Q none x M') : yG x M 43 0 [.ref u, .ref v] [] Q := by
  obtain ⟨f0, f1, f2, f3, fc, g3, flt⟩ := hu
  obtain ⟨t0, t1, t2, t3, tc, tg, tlt⟩ := id hv
  obtain ⟨a0, a1, a2, a3, a4⟩ := hR
  refine y_rng fun rM => ?_
  refine y_al0 c_43_0 ?_
  refine y_al1 c_43_1 ?_
  refine y_gi (j := 0) c_43_2 t0 rfl rfl (fun r_2 => ?_)
  refine y_pi (j := 0) c_43_5 f0 rfl rfl (by omega) ?_
  refine y_al0 c_43_8 ?_
  refine y_al1 c_43_9 ?_
  refine y_gi (j := 1) (z := M v 1) c_43_10 t1 rfl (wup_a _ _ _ _ (by omega)) (fun r_10 => ?_)
  refine y_pi (j := 1) c_43_13 f1 rfl rfl (by omega) ?_
  refine y_al0 c_43_16 ?_
  refine y_al1 c_43_17 ?_
  refine y_gi (j := 2) (z := M v 2) c_43_18 t2 rfl (by rw [wup_a _ _ _ _ (by omega), wup_a _ _ _ _ (by omega)]) (fun r_18 => ?_)
  refine y_pi (j := 2) c_43_21 f2 rfl rfl (by omega) ?_
  refine y_al0 c_43_24 ?_
  refine y_gr (u + 1) c_43_25 f3 (by omega) ?_
  refine y_al1 c_43_28 ?_
  refine y_gr (v + 1) c_43_29 t3 (by omega) ?_
  refine k_39 c_43_32 rfl (wrow_cl g3) (Nat.le_of_ble_eq_true rfl) ?_
  refine s_39 (c := R.2.2.2.length) g3 tg (by omega) (by omega) (by omega) (by rw [wup_a _ _ _ _ (by omega), wup_a _ _ _ _ (by omega), wup_a _ _ _ _ (by omega)]; exact a3) hl hl (fun i hi => ?_) (fun M2 e1 e2 e3 => ?_)
  · rw [wup_a _ _ _ _ (by omega), wup_a _ _ _ _ (by omega), wup_a _ _ _ _ (by omega)]; exact rM _ _
  refine y_vret c_43_35 rfl ?_
  refine hQ _ ⟨?_, ?_, ?_, e1, ?_⟩ ?_
  · rw [e3 u (by omega)]; simp [wup]; exact a0
  · rw [e3 u (by omega)]; simp [wup]; exact a1
  · rw [e3 u (by omega)]; simp [wup]; exact a2
  · intro i hi
    rw [e2 i hi, wup_a _ _ _ _ (by omega), wup_a _ _ _ _ (by omega), wup_a _ _ _ _ (by omega)]; exact a4 i hi
  · intro b hb
    rw [e3 b (by omega), wup_f _ _ _ (by omega), wup_f _ _ _ (by omega), wup_f _ _ _ (by omega)]
theorem s_44 (hu : wrunS u) (hQ : Q (some (.int (iI (if M u 0 = -9 then 0 else 1)))) x M) : yG x M 44 0 [.ref u] [] Q := by
  obtain ⟨f0, f1, f2, f3, fc, g3, flt⟩ := hu
  refine y_al0 c_44_0 ?_
  refine y_gi (j := 0) c_44_1 f0 rfl rfl (fun r_1 => ?_)
  refine y_bi c_44_4 (by decide) ?_
  refine y_ic_eq c_44_6 (by omega) (by omega) (fun h_6 => ?_) (fun h_6 => ?_)
  · refine y_ic c_44_13 ?_
    refine y_zret c_44_14 rfl (by omega) ?_
    first | (rw [if_pos (by omega)] at hQ; exact hQ) | (rw [if_neg (by omega)] at hQ; exact hQ)
  · refine y_ic c_44_9 ?_
    refine y_goto c_44_10 ?_
    refine y_zret c_44_14 rfl (by omega) ?_
    first | (rw [if_pos (by omega)] at hQ; exact hQ) | (rw [if_neg (by omega)] at hQ; exact hQ)
theorem s_45 (hu : wrunS u) (hQ : Q (some (.int (iI (M (u + 1) 3)))) x M) : yG x M 45 0 [.ref u] [] Q := by
  obtain ⟨f0, f1, f2, f3, fc, g3, flt⟩ := hu
  refine y_al0 c_45_0 ?_
  refine y_gr (u + 1) c_45_1 f3 (by omega) ?_
  refine k_32 c_45_4 rfl (wrow_cl g3) (Nat.le_of_ble_eq_true rfl) ?_
  refine s_32 g3 ?_
  refine y_ret c_45_7 rfl ?_
  exact hQ
theorem s_46 (hu : wrunS u) (hR : wrun M u R) (hl : R.2.2.2.length ≤ 6) (hy : ∀ y ∈ R.2.2.2, y < 6) (hQ : Q (some (.int (iI (aBits R.2.2.2 : Nat)))) x M) : yG x M 46 0 [.ref u, zU, zU] [] Q := by
  obtain ⟨f0, f1, f2, f3, fc, g3, flt⟩ := hu
  obtain ⟨a0, a1, a2, a3, a4⟩ := hR
  generalize R.2.2.2 = l at *
  have key : ∀ d k : Nat, l.length < k + d → k ≤ l.length → yG x M 46 4 [.ref u, .int (iI (aBits (l.take k) : Nat)), .int (iI (k : Int))] [] Q := by
    intro d
    induction d with
    | zero => intro k g1 g2; omega
    | succ d ih =>
      intro k g1 g2
      refine y_il2 c_46_4 ?_
      refine y_al0 c_46_5 ?_
      refine y_gr (u + 1) c_46_6 f3 (by omega) ?_
      refine k_32 c_46_9 rfl (wrow_cl g3) (Nat.le_of_ble_eq_true rfl) ?_
      refine s_32 g3 ?_
      refine y_ic_ge c_46_12 (by omega) (by omega) (fun h_12 => ?_) (fun h_12 => ?_)
      · have hk : k = l.length := by omega
        subst hk
        refine y_il1 c_46_34 ?_
        refine y_ret c_46_35 rfl ?_
        rw [List.take_length] at *; exact hQ
      · have hk : k < l.length := by omega
        have hyk := hy _ (mem_getD hk)
        have e := aBits_s hk
        have hp2 := Nat.pow_le_pow_right (show 0 < 2 by omega) (show l.getD k 0 ≤ 5 by omega)
        refine y_il1 c_46_15 ?_
        refine y_ic c_46_16 ?_
        refine y_al0 c_46_17 ?_
        refine y_gr (u + 1) c_46_18 f3 (by omega) ?_
        refine y_il2 c_46_21 ?_
        refine k_36 c_46_22 rfl (wrow_cl g3) (Nat.le_of_ble_eq_true rfl) ?_
        refine s_36i g3 (by omega) (by omega) (by omega) (a4 k hk) ?_
        refine y_shl (x1 := 1) (x2 := l.getD k 0) c_46_25 (by omega) (by omega) ?_
        rw [Nat.one_mul]
        refine y_ior (x1 := aBits (l.take k)) (x2 := 2 ^ l.getD k 0) c_46_26 ?_
        rw [← e]
        refine y_is1 c_46_27 rfl ?_
        refine y_inc2 c_46_28 rfl ?_
        refine y_goto c_46_31 ?_
        exact ih (k + 1) (by omega) (by omega)
  refine y_ic c_46_0 ?_
  refine y_is1 c_46_1 rfl ?_
  refine y_ic c_46_2 ?_
  refine y_is2 c_46_3 rfl ?_
  exact key (l.length + 1) 0 (by omega) (by omega)
theorem s_47 {y : Nat} (hu : wrunS u) (hR : wrun M u R) (hl : R.2.2.2.length ≤ 6) (hy : ∀ y ∈ R.2.2.2, y < 6) (h31 : y < 31) (hQ : Q (some (.int (iI (if y ∈ R.2.2.2 then 1 else 0)))) x M) : yG x M 47 0 [.ref u, .int (iI (y : Int))] [] Q := by
  have hb := aBits_lt hy
  have hm := aBits_mem R.2.2.2 y
  obtain ⟨f0, f1, f2, f3, fc, g3, flt⟩ := id hu
  refine y_al0 c_47_0 ?_
  refine k_46 c_47_1 rfl fc (Nat.le_of_ble_eq_true rfl) ?_
  refine s_46 hu hR hl hy ?_
  refine y_il1 c_47_4 ?_
  refine k_114 c_47_5 rfl (Nat.le_of_ble_eq_true rfl) ?_
  refine s_114 (by omega) h31 ?_
  simp only [hm]
  refine y_zret c_47_8 rfl (by split <;> omega) ?_
  exact hQ
theorem aSt_nat (s k : Nat) : aSt (s : Int) (k : Int) = ((if s < 3 ∧ k = s + 1 then s + 1 else s : Nat) : Int) := by unfold aSt; (repeat' split) <;> omega
theorem s_48 (hu : wrunS u) (hR : wrun M u R) (hp : wportS p) (hM : wport M p P) (hok : aPok P) (hl : R.2.2.2.length ≤ 6) (hy : ∀ y ∈ R.2.2.2, y < P.2.2.2) (hQ : Q (some (.int (iI (aStage P R.2.2.2 : Nat)))) x M) : yG x M 48 0 [.ref u, .ref p, zU, zU] [] Q := by
  obtain ⟨f0, f1, f2, f3, fc, g3, flt⟩ := hu
  obtain ⟨a0, a1, a2, a3, a4⟩ := hR
  obtain ⟨q0, q1, q2, q3, q4, q5, q6, qc, j0, j1, j2, j3, j4, j5, j6, qlt⟩ := id hp
  obtain ⟨⟨n0, n1, n2, n3, n4, n5, n6⟩, v0, v1, v2, v3, v4, v5, v6⟩ := id hM
  obtain ⟨k1, k2, k3, k4, k5, k6⟩ := id hok
  generalize R.2.2.2 = l at *
  have key : ∀ d k : Nat, l.length < k + d → k ≤ l.length → yG x M 48 4 [.ref u, .ref p, .int (iI (aStage P (l.take k) : Nat)), .int (iI (k : Int))] [] Q := by
    intro d
    induction d with
    | zero => intro k g1 g2; omega
    | succ d ih =>
      intro k g1 g2
      have hsl := aStage_le P (l.take k)
      refine y_il3 c_48_4 ?_
      refine y_al0 c_48_5 ?_
      refine y_gr (u + 1) c_48_6 f3 (by omega) ?_
      refine k_32 c_48_9 rfl (wrow_cl g3) (Nat.le_of_ble_eq_true rfl) ?_
      refine s_32 g3 ?_
      refine y_ic_ge c_48_12 (by omega) (by omega) (fun h_12 => ?_) (fun h_12 => ?_)
      · have hk : k = l.length := by omega
        subst hk
        refine y_il2 c_48_41 ?_
        refine y_ret c_48_42 rfl ?_
        rw [List.take_length] at *; exact hQ
      · have hk : k < l.length := by omega
        have hyk := hy _ (mem_getD hk)
        have e := aStage_s P hk
        have b6 := k6 _ hyk
        refine y_il2 c_48_15 ?_
        refine y_al1 c_48_16 ?_
        refine y_gr (p + 13) c_48_17 q6 (by omega) ?_
        refine y_al0 c_48_20 ?_
        refine y_gr (u + 1) c_48_21 f3 (by omega) ?_
        refine y_il3 c_48_24 ?_
        refine k_36 c_48_25 rfl (wrow_cl g3) (Nat.le_of_ble_eq_true rfl) ?_
        refine s_36i g3 (by omega) (by omega) (by omega) (a4 k hk) ?_
        refine k_36 c_48_28 rfl (wrow_cl j6) (Nat.le_of_ble_eq_true rfl) ?_
        refine s_36i j6 (by omega) (by omega) (by omega) (v6 _ hyk) ?_
        refine k_115 c_48_31 rfl (Nat.le_of_ble_eq_true rfl) ?_
        refine s_115 (by omega) (by omega) ?_
        rw [aSt_nat, ← e]
        refine y_is2 c_48_34 rfl ?_
        refine y_inc3 c_48_35 rfl ?_
        refine y_goto c_48_38 ?_
        exact ih (k + 1) (by omega) (by omega)
  refine y_ic c_48_0 ?_
  refine y_is2 c_48_1 rfl ?_
  refine y_ic c_48_2 ?_
  refine y_is3 c_48_3 rfl ?_
  exact key (l.length + 1) 0 (by omega) (by omega)
theorem s_49 (hu : wrunS u) (hR : wrun M u R) (hp : wportS p) (hM : wport M p P) (hok : aPok P) (hl : R.2.2.2.length ≤ 6) (hy : ∀ y ∈ R.2.2.2, y < P.2.2.2) (hQ : Q (some (.int (iI (if aStage P R.2.2.2 = 3 then 1 else 0)))) x M) : yG x M 49 0 [.ref u, .ref p] [] Q := by
  have hsl := aStage_le P R.2.2.2
  obtain ⟨f0, f1, f2, f3, fc, g3, flt⟩ := id hu
  refine y_al0 c_49_0 ?_
  refine y_al1 c_49_1 ?_
  refine k_48 c_49_2 rfl fc (Nat.le_of_ble_eq_true rfl) ?_
  refine s_48 hu hR hp hM hok hl hy ?_
  refine y_ic c_49_5 ?_
  refine y_ic_ne c_49_6 (by omega) (by omega) (fun h_6 => ?_) (fun h_6 => ?_)
  · refine y_ic c_49_13 ?_
    refine y_zret c_49_14 rfl (by omega) ?_
    first | (rw [if_pos (by omega)] at hQ; exact hQ) | (rw [if_neg (by omega)] at hQ; exact hQ)
  · refine y_ic c_49_9 ?_
    refine y_goto c_49_10 ?_
    refine y_zret c_49_14 rfl (by omega) ?_
    first | (rw [if_pos (by omega)] at hQ; exact hQ) | (rw [if_neg (by omega)] at hQ; exact hQ)
theorem s_50 {y : Nat} (hu : wrunS u) (hR : wrun M u R) (hp : wportS p) (hM : wport M p P) (hok : aPok P) (hRk : aRok P R) (hrun : R.1 ≠ -9) (hy : y < P.2.2.2) (hQ : Q (some (.int (iI (aTake P R y : Nat)))) x M) : yG x M 50 0 [.ref u, .ref p, .int (iI (y : Int))] [] Q := by
  obtain ⟨z1, z2, z3, z4, z5⟩ := aRok_len hok hRk
  rcases hRk with rfl | ⟨⟨g, s, hg, hs, hgl, hsl⟩, -⟩
  · exact absurd rfl hrun
  unfold aTake at hQ
  rw [hg, hs, Int.toNat_natCast, Int.toNat_natCast] at hQ
  obtain ⟨f0, f1, f2, f3, fc, g3, flt⟩ := hu
  obtain ⟨a0, a1, a2, a3, a4⟩ := hR
  obtain ⟨q0, q1, q2, q3, q4, q5, q6, qc, j0, j1, j2, j3, j4, j5, j6, qlt⟩ := id hp
  rw [hg] at a0
  rw [hs] at a1
  refine y_al1 c_50_0 ?_
  refine y_il2 c_50_1 ?_
  refine y_al0 c_50_2 ?_
  refine y_gi (j := 1) (z := (s : Int)) c_50_3 f1 rfl a1 (fun r_3 => ?_)
  refine y_al0 c_50_6 ?_
  refine y_gi (j := 0) (z := (g : Int)) c_50_7 f0 rfl a0 (fun r_7 => ?_)
  refine y_al0 c_50_10 ?_
  refine y_gr (u + 1) c_50_11 f3 (by omega) ?_
  refine k_32 c_50_14 rfl (wrow_cl g3) (Nat.le_of_ble_eq_true rfl) ?_
  refine s_32 g3 ?_
  rw [a3]
  refine k_28 c_50_17 rfl qc (Nat.le_of_ble_eq_true rfl) ?_
  refine s_28 hp hM hok hsl hgl hy z2 ?_
  refine y_ret c_50_20 rfl ?_
  exact hQ
end S3
