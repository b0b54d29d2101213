/-! ===== LoveGlass: misheard, seed, weeks, slots ===== -/
def aNx (s k : Nat) : Nat := if s < 3 ∧ k = s + 1 then s + 1 else s
def aHr (x0 k : Nat) (c : Nat → Nat) (s : Nat) : Nat := c s * x0 + (if aNx s k = s then c s * (10 - x0) else 0) + (if 1 ≤ s ∧ aNx (s - 1) k = s then c (s - 1) * (10 - x0) else 0)
def aCh (P : aP) (x0 : Nat) (l : List Nat) : Nat → Nat := l.foldl (fun c y => aHr x0 (P.1 6 y) c) (fun s => if s = 0 then 1 else 0)
theorem aCh_app (P : aP) (x0 : Nat) (l : List Nat) (y : Nat) : aCh P x0 (l ++ [y]) = aHr x0 (P.1 6 y) (aCh P x0 l) := by unfold aCh; rw [List.foldl_append]; rfl
theorem aHr_sum {x0 k : Nat} {c : Nat → Nat} (hx : x0 ≤ 10) : aHr x0 k c 0 + aHr x0 k c 1 + aHr x0 k c 2 + aHr x0 k c 3 = 10 * (c 0 + c 1 + c 2 + c 3) := by
  have e : ∀ s, c s * x0 + c s * (10 - x0) = c s * 10 := fun s => by rw [← Nat.mul_add, show x0 + (10 - x0) = 10 by omega]
  have e0 := e 0
  have e1 := e 1
  have e2 := e 2
  have e3 := e 3
  by_cases h1 : k = 1
  · subst h1; simp [aHr, aNx]; omega
  by_cases h2 : k = 2
  · subst h2; simp [aHr, aNx]; omega
  by_cases h3 : k = 3
  · subst h3; simp [aHr, aNx]; omega
  simp [aHr, aNx, h1, h2, h3]; omega
theorem aCh_sum (P : aP) {x0 : Nat} (hx : x0 ≤ 10) (l : List Nat) : ∀ k, k ≤ l.length → aCh P x0 (l.take k) 0 + aCh P x0 (l.take k) 1 + aCh P x0 (l.take k) 2 + aCh P x0 (l.take k) 3 = 10 ^ k := by
  intro k
  induction k with
  | zero => intro _; simp [aCh]
  | succ k ih =>
    intro hk
    rw [take_s (by omega), aCh_app, aHr_sum hx, ih (by omega), Nat.pow_succ, Nat.mul_comm]
def aMis (P : aP) (R : aR) (z b : Int) : Int := if 0 ≤ z ∧ z ≤ 10 then (aFrac (aCh P z.toNat R.2.2.2 3) (10 ^ R.2.2.2.length) b : Nat) else -2
def aWd (P : aP) (R : aR) (d : Nat) : aR × Bool := if 22 ≤ d then ((aLos R (d - 21)).getD R, false) else if 16 ≤ d then ((aSpk P R ((d - 16 : Nat) : Int)).getD R, (aSpk P R ((d - 16 : Nat) : Int)).isSome) else if d / 4 < P.2.1 ∧ d % 4 < P.2.2.1 then (((d / 4 : Nat) : Int), ((d % 4 : Nat) : Int), aGr P (d / 4), [], false) |> fun t => ((t.1, t.2.1, t.2.2.1, t.2.2.2.1), t.2.2.2.2) else (R, false)
theorem aWd_ok {P : aP} {R : aR} {d : Nat} (hok : aPok P) (hR : aRok P R) : aRok P (aWd P R d).1 := by
  unfold aWd
  split
  · cases h : aLos R (d - 21) with
    | none => exact hR
    | some R' => exact aLos_ok hR h
  split
  · cases h : aSpk P R ((d - 16 : Nat) : Int) with
    | none => exact hR
    | some R' => exact aSpk_ok hR h
  split
  · rename_i h
    exact aNew_ok hok h.1 h.2 (aGr_le hok h.1)
  · exact hR
def aWk1 (f : Int64 → Int64) (dz : Int64 → Nat) (P : aP) (t : Int64 × aR × Nat) : Int64 × aR × Nat := (f t.1, (aWd P t.2.1 (dz (f t.1))).1, t.2.2 + if (aWd P t.2.1 (dz (f t.1))).2 = true ∧ aStage P (aWd P t.2.1 (dz (f t.1))).1.2.2.2 = 3 then 1 else 0)
def aWks (f : Int64 → Int64) (dz : Int64 → Nat) (P : aP) (t : Int64 × aR × Nat) : Nat → Int64 × aR × Nat
  | 0 => t
  | n + 1 => aWk1 f dz P (aWks f dz P t n)
theorem aWk1_r (f : Int64 → Int64) (dz : Int64 → Nat) (P : aP) (t : Int64 × aR × Nat) : (aWk1 f dz P t).2.1 = (aWd P t.2.1 (dz (f t.1))).1 := rfl
theorem aWk1_s (f : Int64 → Int64) (dz : Int64 → Nat) (P : aP) (t : Int64 × aR × Nat) : (aWk1 f dz P t).1 = f t.1 := rfl
theorem aWk1_n (f : Int64 → Int64) (dz : Int64 → Nat) (P : aP) (t : Int64 × aR × Nat) : (aWk1 f dz P t).2.2 = t.2.2 + if (aWd P t.2.1 (dz (f t.1))).2 = true ∧ aStage P (aWd P t.2.1 (dz (f t.1))).1.2.2.2 = 3 then 1 else 0 := rfl
theorem aWks_s (f : Int64 → Int64) (dz : Int64 → Nat) (P : aP) (t : Int64 × aR × Nat) (n : Nat) : aWks f dz P t (n + 1) = aWk1 f dz P (aWks f dz P t n) := rfl
theorem aWks_ok {P : aP} {R : aR} {sd : Int64} (f : Int64 → Int64) (dz : Int64 → Nat) (hok : aPok P) (hR : aRok P R) : ∀ n, aRok P (aWks f dz P (sd, R, 0) n).2.1 ∧ (aWks f dz P (sd, R, 0) n).2.2 ≤ n := by
  intro n
  induction n with
  | zero => exact ⟨hR, Nat.le_refl 0⟩
  | succ n ih =>
    obtain ⟨h1, h2⟩ := ih
    rw [aWks_s]
    generalize aWks f dz P (sd, R, 0) n = t at h1 h2
    have h3 := aWk1_n f dz P t
    refine ⟨?_, ?_⟩
    · rw [aWk1_r]
      exact aWd_ok hok h1
    · rw [h3]
      split <;> omega
def aWeeks (f : Int64 → Int64) (dz : Int64 → Nat) (P : aP) (R : aR) (sd : Int64) (z : Int) : Int × Int64 := if 1 ≤ z ∧ z ≤ 30 then (((aWks f dz P (sd, R, 0) z.toNat).2.2 : Int), (aWks f dz P (sd, R, 0) z.toNat).1) else (-2, sd)
def aKeep (R : aR) (K : Nat → Option aR) (z : Int) : Int × (Nat → Option aR) := if 0 ≤ z ∧ z ≤ 1 then ((R.2.2.1 : Int), fun k => if k = z.toNat then some R else K k) else (-1, K)
def aAgain (R : aR) (L : aA) (K : Nat → Option aR) (z : Int) : Int × aR × aA := if 0 ≤ z ∧ z ≤ 1 then (match K z.toNat with | none => (-3, R, L) | some R' => (R'.2.2.1, R', (0, L.2))) else (-1, R, L)
theorem aKb_bit (K : Nat → Option aR) (k : Nat) (hk : k < 2) : aKb K / 2 ^ k % 2 = 1 ↔ (K k).isSome = true := by
  unfold aKb
  rcases (show k = 0 ∨ k = 1 by omega) with rfl | rfl <;> cases (K 0).isSome <;> cases (K 1).isSome <;> decide
theorem aKb_put (K : Nat → Option aR) (R : aR) (k : Nat) (hk : k < 2) : aKb (fun j => if j = k then some R else K j) = aKb K ||| 2 ^ k := by
  unfold aKb
  rcases (show k = 0 ∨ k = 1 by omega) with rfl | rfl <;> simp <;> cases (K 0).isSome <;> cases (K 1).isSome <;> decide
theorem CI_seed {x : wC} {M : wM} {T : List Nat} {P : aP} {R : aR} {L : aA} {Tm : aT} {sd : Int64} {K : Nat → Option aR} (h : CI x M T P R L Tm sd K) (v : Int64) : CI (xsd x 0 v) M T P R L Tm v K := by
  obtain ⟨hx, hsd, h3⟩ := h
  exact ⟨hx, rfl, h3⟩
section S19
variable {x : wC} {M : wM} {Q : Option Value → wC → wM → Prop} {T : List Nat} {P : aP} {R : aR} {L : aA} {Tm : aT} {sd : Int64} {K : Nat → Option aR}
theorem s_108s {M1 : wM} {s u v x0 k : Nat} {w4 w5 : Value} (hs : s < 4) (hx : x0 ≤ 10) (hk : k ≤ 3) (hu : M1 105 (s : Int) = u) (hu1 : u ≤ 100000) (hv : (wup M1 105 (s : Int) ((u * x0 : Nat) : Int)) 105 (aNx s k : Nat) = v) (hv1 : v ≤ 2000000)
    (h : ∀ w4 w5 : Value, yG x (wup (wup M1 105 (s : Int) ((u * x0 : Nat) : Int)) 105 (aNx s k : Nat) ((v + u * (10 - x0) : Nat) : Int)) 108 8 [.ref 0, .int (iI (k : Int)), .int (iI (x0 : Int)), .int (iI ((s : Int) + -1)), w4, w5] [] Q) : yG x M1 108 8 [.ref 0, .int (iI (k : Int)), .int (iI (x0 : Int)), .int (iI (s : Int)), w4, w5] [] Q := by
  have hnx : aNx s k ≤ 3 := by unfold aNx; split <;> omega
  have hm1 : u * x0 ≤ 100000 * 10 := Nat.mul_le_mul hu1 hx
  have hm2 : u * (10 - x0) ≤ 100000 * 10 := Nat.mul_le_mul hu1 (by omega)
  refine y_il3 c_108_8 ?_
  refine y_iz_lt c_108_9 (by omega) (fun h_9 => absurd h_9 (by omega)) (fun h_9 => ?_)
  refine y_il3 c_108_12 ?_
  refine y_il1 c_108_13 ?_
  refine k_115 c_108_14 rfl (Nat.le_of_ble_eq_true rfl) ?_
  refine s_115 (by omega) (by omega) ?_
  rw [aSt_nat, show (if s < 3 ∧ k = s + 1 then s + 1 else s) = aNx s k from rfl]
  refine y_is4 c_108_17 rfl ?_
  refine y_al0 c_108_19 ?_
  refine y_gr 105 c_108_20 rfl (by omega) ?_
  refine y_il3 c_108_23 ?_
  refine y_ald (n := 4) (u := (u : Int)) c_108_24 rfl (by omega) (by omega) (by omega) hu (fun r_24 => ?_)
  refine y_bi c_108_25 (by decide) ?_
  refine y_il2 c_108_27 ?_
  refine y_sub c_108_28 ?_
  rw [show ((10 : Int) - (x0 : Int)) = ((10 - x0 : Nat) : Int) by omega]
  refine y_mul c_108_29 ?_
  rw [← Int.natCast_mul]
  refine y_is5 c_108_30 rfl ?_
  refine y_al0 c_108_32 ?_
  refine y_gr 105 c_108_33 rfl (by omega) ?_
  refine y_il3 c_108_36 ?_
  refine y_dup2 c_108_37 rfl rfl ?_
  refine y_ald (n := 4) (u := (u : Int)) c_108_38 rfl (by omega) (by omega) (by omega) hu (fun r_38 => ?_)
  refine y_il2 c_108_39 ?_
  refine y_mul c_108_40 ?_
  rw [← Int.natCast_mul]
  refine y_ast (n := 4) c_108_41 rfl (by omega) (by omega) (by omega) (by omega) ?_
  refine y_il4 c_108_42 ?_
  refine y_iz_lt c_108_44 (by omega) (fun h_44 => absurd h_44 (by omega)) (fun h_44 => ?_)
  refine y_il4 c_108_47 ?_
  refine y_al0 c_108_49 ?_
  refine y_gr 105 c_108_50 rfl (by omega) ?_
  refine y_len (t := 0) (n := 4) c_108_53 rfl (by omega) ?_
  refine y_ic_ge c_108_54 (by omega) (by omega) (fun h_54 => absurd h_54 (by omega)) (fun h_54 => ?_)
  refine y_al0 c_108_57 ?_
  refine y_gr 105 c_108_58 rfl (by omega) ?_
  refine y_il4 c_108_61 ?_
  refine y_dup2 c_108_63 rfl rfl ?_
  refine y_ald (n := 4) (u := (v : Int)) c_108_64 rfl (by omega) (by omega) (by omega) hv (fun r_64 => ?_)
  refine y_il5 c_108_65 ?_
  refine y_add c_108_67 ?_
  rw [← Int.natCast_add]
  refine y_ast (n := 4) c_108_68 rfl (by omega) (by omega) (by omega) (by omega) ?_
  refine y_inc3 c_108_69 rfl ?_
  refine y_goto c_108_72 ?_
  exact h _ _
theorem s_108 {c : Nat → Nat} {x0 k : Nat} (hx : x0 ≤ 10) (hk : k ≤ 3) (hc : ∀ s : Nat, s < 4 → M 105 s = c s) (hc1 : ∀ s, c s ≤ 100000) (hQ : ∀ M' : wM, (∀ s : Nat, s < 4 → M' 105 s = aHr x0 k c s) → (∀ b, b ≠ 105 → M' b = M b) → Q none x M') : yG x M 108 0 [.ref 0, .int (iI (k : Int)), .int (iI (x0 : Int)), zU, zU, zU] [] Q := by
  have e0 : M 105 0 = c 0 := hc 0 (by decide)
  have e1 : M 105 1 = c 1 := hc 1 (by decide)
  have e2 : M 105 2 = c 2 := hc 2 (by decide)
  have e3 : M 105 3 = c 3 := hc 3 (by decide)
  have hb : ∀ s, c s * x0 ≤ 100000 * 10 ∧ c s * (10 - x0) ≤ 100000 * 10 := fun s => ⟨Nat.mul_le_mul (hc1 s) hx, Nat.mul_le_mul (hc1 s) (by omega)⟩
  refine y_al0 c_108_0 ?_
  refine y_gr 105 c_108_1 rfl (by omega) ?_
  refine y_len (t := 0) (n := 4) c_108_4 rfl (by omega) ?_
  refine y_ic c_108_5 ?_
  refine y_sub c_108_6 ?_
  rw [show (((4 : Nat) : Int) - 1) = ((3 : Nat) : Int) from rfl]
  refine y_is3 c_108_7 rfl ?_
  rcases (show k = 0 ∨ k = 1 ∨ k = 2 ∨ k = 3 by omega) with rfl | rfl | rfl | rfl
  · refine s_108s (s := 3) (u := c 3) (v := c 3 * x0) (by decide) hx (by decide) (by simp [wup, aNx, e0, e1, e2, e3]) (hc1 _) (by simp [wup, aNx, e0, e1, e2, e3]) (by have := hb 3; have := hb 3; omega) (fun w4 w5 => ?_)
    refine s_108s (s := 2) (u := c 2) (v := c 2 * x0) (by decide) hx (by decide) (by simp [wup, aNx, e0, e1, e2, e3]) (hc1 _) (by simp [wup, aNx, e0, e1, e2, e3]) (by have := hb 2; have := hb 3; omega) (fun w4 w5 => ?_)
    refine s_108s (s := 1) (u := c 1) (v := c 1 * x0) (by decide) hx (by decide) (by simp [wup, aNx, e0, e1, e2, e3]) (hc1 _) (by simp [wup, aNx, e0, e1, e2, e3]) (by have := hb 1; have := hb 2; omega) (fun w4 w5 => ?_)
    refine s_108s (s := 0) (u := c 0) (v := c 0 * x0) (by decide) hx (by decide) (by simp [wup, aNx, e0, e1, e2, e3]) (hc1 _) (by simp [wup, aNx, e0, e1, e2, e3]) (by have := hb 0; have := hb 1; omega) (fun w4 w5 => ?_)
    refine y_il3 c_108_8 ?_
    refine y_iz_lt c_108_9 (by omega) (fun h_9 => ?_) (fun h_9 => absurd h_9 (by decide))
    refine y_vret c_108_75 rfl ?_
    refine hQ _ (fun s hs => ?_) (fun b hb => by simp only [wup_f _ _ _ hb])
    rcases (show s = 0 ∨ s = 1 ∨ s = 2 ∨ s = 3 by omega) with rfl | rfl | rfl | rfl <;> simp [wup, aHr, aNx, e0, e1, e2, e3]
  · refine s_108s (s := 3) (u := c 3) (v := c 3 * x0) (by decide) hx (by decide) (by simp [wup, aNx, e0, e1, e2, e3]) (hc1 _) (by simp [wup, aNx, e0, e1, e2, e3]) (by have := hb 3; have := hb 3; omega) (fun w4 w5 => ?_)
    refine s_108s (s := 2) (u := c 2) (v := c 2 * x0) (by decide) hx (by decide) (by simp [wup, aNx, e0, e1, e2, e3]) (hc1 _) (by simp [wup, aNx, e0, e1, e2, e3]) (by have := hb 2; have := hb 3; omega) (fun w4 w5 => ?_)
    refine s_108s (s := 1) (u := c 1) (v := c 1 * x0) (by decide) hx (by decide) (by simp [wup, aNx, e0, e1, e2, e3]) (hc1 _) (by simp [wup, aNx, e0, e1, e2, e3]) (by have := hb 1; have := hb 2; omega) (fun w4 w5 => ?_)
    refine s_108s (s := 0) (u := c 0) (v := c 1 * x0 + c 1 * (10 - x0)) (by decide) hx (by decide) (by simp [wup, aNx, e0, e1, e2, e3]) (hc1 _) (by simp [wup, aNx, e0, e1, e2, e3]) (by have := hb 0; have := hb 1; omega) (fun w4 w5 => ?_)
    refine y_il3 c_108_8 ?_
    refine y_iz_lt c_108_9 (by omega) (fun h_9 => ?_) (fun h_9 => absurd h_9 (by decide))
    refine y_vret c_108_75 rfl ?_
    refine hQ _ (fun s hs => ?_) (fun b hb => by simp only [wup_f _ _ _ hb])
    rcases (show s = 0 ∨ s = 1 ∨ s = 2 ∨ s = 3 by omega) with rfl | rfl | rfl | rfl <;> simp [wup, aHr, aNx, e0, e1, e2, e3]
  · refine s_108s (s := 3) (u := c 3) (v := c 3 * x0) (by decide) hx (by decide) (by simp [wup, aNx, e0, e1, e2, e3]) (hc1 _) (by simp [wup, aNx, e0, e1, e2, e3]) (by have := hb 3; have := hb 3; omega) (fun w4 w5 => ?_)
    refine s_108s (s := 2) (u := c 2) (v := c 2 * x0) (by decide) hx (by decide) (by simp [wup, aNx, e0, e1, e2, e3]) (hc1 _) (by simp [wup, aNx, e0, e1, e2, e3]) (by have := hb 2; have := hb 3; omega) (fun w4 w5 => ?_)
    refine s_108s (s := 1) (u := c 1) (v := c 2 * x0 + c 2 * (10 - x0)) (by decide) hx (by decide) (by simp [wup, aNx, e0, e1, e2, e3]) (hc1 _) (by simp [wup, aNx, e0, e1, e2, e3]) (by have := hb 1; have := hb 2; omega) (fun w4 w5 => ?_)
    refine s_108s (s := 0) (u := c 0) (v := c 0 * x0) (by decide) hx (by decide) (by simp [wup, aNx, e0, e1, e2, e3]) (hc1 _) (by simp [wup, aNx, e0, e1, e2, e3]) (by have := hb 0; have := hb 1; omega) (fun w4 w5 => ?_)
    refine y_il3 c_108_8 ?_
    refine y_iz_lt c_108_9 (by omega) (fun h_9 => ?_) (fun h_9 => absurd h_9 (by decide))
    refine y_vret c_108_75 rfl ?_
    refine hQ _ (fun s hs => ?_) (fun b hb => by simp only [wup_f _ _ _ hb])
    rcases (show s = 0 ∨ s = 1 ∨ s = 2 ∨ s = 3 by omega) with rfl | rfl | rfl | rfl <;> simp [wup, aHr, aNx, e0, e1, e2, e3]
  · refine s_108s (s := 3) (u := c 3) (v := c 3 * x0) (by decide) hx (by decide) (by simp [wup, aNx, e0, e1, e2, e3]) (hc1 _) (by simp [wup, aNx, e0, e1, e2, e3]) (by have := hb 3; have := hb 3; omega) (fun w4 w5 => ?_)
    refine s_108s (s := 2) (u := c 2) (v := c 3 * x0 + c 3 * (10 - x0)) (by decide) hx (by decide) (by simp [wup, aNx, e0, e1, e2, e3]) (hc1 _) (by simp [wup, aNx, e0, e1, e2, e3]) (by have := hb 2; have := hb 3; omega) (fun w4 w5 => ?_)
    refine s_108s (s := 1) (u := c 1) (v := c 1 * x0) (by decide) hx (by decide) (by simp [wup, aNx, e0, e1, e2, e3]) (hc1 _) (by simp [wup, aNx, e0, e1, e2, e3]) (by have := hb 1; have := hb 2; omega) (fun w4 w5 => ?_)
    refine s_108s (s := 0) (u := c 0) (v := c 0 * x0) (by decide) hx (by decide) (by simp [wup, aNx, e0, e1, e2, e3]) (hc1 _) (by simp [wup, aNx, e0, e1, e2, e3]) (by have := hb 0; have := hb 1; omega) (fun w4 w5 => ?_)
    refine y_il3 c_108_8 ?_
    refine y_iz_lt c_108_9 (by omega) (fun h_9 => ?_) (fun h_9 => absurd h_9 (by decide))
    refine y_vret c_108_75 rfl ?_
    refine hQ _ (fun s hs => ?_) (fun b hb => by simp only [wup_f _ _ _ hb])
    rcases (show s = 0 ∨ s = 1 ∨ s = 2 ∨ s = 3 by omega) with rfl | rfl | rfl | rfl <;> simp [wup, aHr, aNx, e0, e1, e2, e3]
theorem s_190 {n : Nat} {v : Int} (hn : n < 4) (hv : M 105 (n : Int) = v) (hQ : Q (some (.int (iI v))) x M) : yG x M 190 0 [.ref 0, .int (iI (n : Int))] [] Q := by
  refine y_il1 c_190_0 ?_
  refine y_iz_lt c_190_1 (by omega) (fun h_1 => absurd h_1 (by omega)) (fun h_1 => ?_)
  refine y_il1 c_190_4 ?_
  refine y_al0 c_190_5 ?_
  refine y_gr 105 c_190_6 rfl (by omega) ?_
  refine y_len (t := 0) (n := 4) c_190_9 rfl (by omega) ?_
  refine y_ic_ge c_190_10 (by omega) (by omega) (fun h_10 => absurd h_10 (by omega)) (fun h_10 => ?_)
  refine y_al0 c_190_13 ?_
  refine y_gr 105 c_190_14 rfl (by omega) ?_
  refine y_il1 c_190_17 ?_
  refine y_ald (n := 4) (u := v) c_190_18 rfl (by omega) (by omega) (by omega) hv (fun r_18 => ?_)
  refine y_goto c_190_19 ?_
  refine y_ret c_190_23 rfl ?_
  exact hQ
theorem s_107 {z b : Int} (hC : CI x M T P R L Tm sd K) (hA : AOK T P R L Tm K) (hz : wR z) (hb : b = 0 ∨ b = 1) (hQ : ∀ M', CI x M' T P R L Tm sd K → (∀ b, 106 ≤ b → M' b = M b) → Q (some (.int (iI (aMis P R z b)))) x M') : yG x M 107 0 [.ref 0, .int (iI z), .int (iI b), zU, zU] [] Q := by
  obtain ⟨hx, hsd, hT, hM, hR, hL, hTm, hK0, hK⟩ := id hC
  obtain ⟨⟨ht56, ht256⟩, hok, hRk, ⟨hl14, hLk⟩, hTk, hKk⟩ := id hA
  obtain ⟨hp, hp33⟩ := CI_port hx
  obtain ⟨z1, z2, z3, z4, z5⟩ := aRok_len hok hRk
  have z6 : ∀ y ∈ R.2.2.2, y < 6 := fun y hy => by have := z3 y hy; have := hok.2.2.1; omega
  have hb1 := hok.1
  have hb2 := hok.2.1
  have hb3 := hok.2.2.1
  obtain ⟨q0, q1, q2, q3, q4, q5, q6, qc, j0, j1, j2, j3, j4, j5, j6, qlt⟩ := id hp
  obtain ⟨⟨n0, n1, n2, n3, n4, n5, n6⟩, v0, v1, v2, v3, v4, v5, v6⟩ := id hM
  unfold aMis at hQ
  have key : ∀ x0 : Nat, x0 ≤ 10 → z = x0 → ∀ d k : Nat, R.2.2.2.length < k + d → k ≤ R.2.2.2.length → ∀ M1 : wM, CI x M1 T P R L Tm sd K → (∀ b, 106 ≤ b → M1 b = M b) → (∀ s : Nat, s < 4 → M1 105 s = aCh P x0 (R.2.2.2.take k) s) → yG x M1 107 50 [.ref 0, .int (iI (x0 : Int)), .int (iI b), .int (iI ((10 ^ k : Nat) : Int)), .int (iI (k : Int))] [] Q := by
    intro x0 hx0 hzx d
    induction d with
    | zero => intro k g1 g2; omega
    | succ d ih =>
      intro k g1 g2 M1 hC1 hF1 hch
      have hR1 := hC1.2.2.2.2.1
      obtain ⟨⟨m0, m1, m2, m3, m4, m5, m6⟩, u0, u1, u2, u3, u4, u5, u6⟩ := id hC1.2.2.2.1
      have hsum := aCh_sum P hx0 R.2.2.2 k g2
      have hp6 : 10 ^ k ≤ 10 ^ 6 := Nat.pow_le_pow_right (by omega) (by omega)
      have hp0 : 0 < 10 ^ k := Nat.pow_pos (by omega)
      refine y_il4 c_107_50 ?_
      refine y_al0 c_107_52 ?_
      refine y_gr 33 c_107_53 rfl (by omega) ?_
      refine k_45 c_107_56 rfl rfl (Nat.le_of_ble_eq_true rfl) ?_
      refine s_45 wrunS_33 ?_
      rw [hR1.2.2.2.1]
      refine y_ic_ge c_107_59 (by omega) (by omega) (fun h_59 => ?_) (fun h_59 => ?_)
      · have hk : k = R.2.2.2.length := by omega
        subst hk
        refine y_al0 c_107_100 ?_
        refine y_ic c_107_101 ?_
        refine k_190 c_107_102 rfl rfl (Nat.le_of_ble_eq_true rfl) ?_
        refine s_190 (n := 3) (v := (aCh P x0 R.2.2.2 3 : Int)) (by decide) (by have h9 := hch 3 (by decide); rw [List.take_length] at h9; exact h9) ?_
        refine y_il3 c_107_105 ?_
        refine y_il2 c_107_106 ?_
        refine k_98 c_107_107 rfl (Nat.le_of_ble_eq_true rfl) ?_
        rw [List.take_length] at hsum
        refine s_98 (by omega) (by omega) hp0 hb ?_
        refine y_ret c_107_110 rfl ?_
        rw [if_pos (by omega), hzx, Int.toNat_natCast] at hQ; exact hQ _ hC1 hF1
      · have hk : k < R.2.2.2.length := by omega
        have hyl := z3 _ (mem_getD hk)
        have hs3 := (hok.2.2.2.2.2 _ hyl).2.2.2
        have hp5 : 10 ^ k ≤ 10 ^ 5 := Nat.pow_le_pow_right (by omega) (by omega)
        have hcb : ∀ s : Nat, s < 4 → aCh P x0 (R.2.2.2.take k) s ≤ 100000 := fun s hs => by
          rcases (show s = 0 ∨ s = 1 ∨ s = 2 ∨ s = 3 by omega) with rfl | rfl | rfl | rfl <;> omega
        refine y_al0 c_107_62 ?_
        refine y_al0 c_107_63 ?_
        refine y_gp c_107_64 rfl ?_
        refine y_gr (x.2.1 + 13) c_107_67 q6 (by omega) ?_
        refine y_al0 c_107_70 ?_
        refine y_gr 33 c_107_71 rfl (by omega) ?_
        refine y_gr 34 c_107_74 rfl (by omega) ?_
        refine y_il4 c_107_77 ?_
        refine k_36 c_107_79 rfl rfl (Nat.le_of_ble_eq_true rfl) ?_
        refine s_36i wrow_34 (by omega) (by rw [hR1.2.2.2.1]; omega) (by omega) (hR1.2.2.2.2 k hk) ?_
        refine k_36 c_107_82 rfl (wrow_cl j6) (Nat.le_of_ble_eq_true rfl) ?_
        refine s_36i j6 (by omega) (by omega) (by omega) (u6 _ hyl) ?_
        refine y_il1 c_107_85 ?_
        refine k_108 c_107_86 rfl rfl (Nat.le_of_ble_eq_true rfl) ?_
        refine s_108 (c := fun s => if s < 4 then aCh P x0 (R.2.2.2.take k) s else 0) hx0 hs3 (fun s hs => by rw [if_pos hs]; exact hch s hs) (fun s => by split <;> rename_i h <;> first | exact hcb s h | omega) (fun M2 hM2 hf2 => ?_)
        have hch2 : ∀ s : Nat, s < 4 → M2 105 s = aCh P x0 (R.2.2.2.take (k + 1)) s := fun s hs => by
          rw [hM2 s hs, take_s hk, aCh_app]
          rcases (show s = 0 ∨ s = 1 ∨ s = 2 ∨ s = 3 by omega) with rfl | rfl | rfl | rfl <;> rfl
        refine y_il3 c_107_89 ?_
        refine y_bi c_107_90 (by decide) ?_
        refine y_mul c_107_92 ?_
        rw [show (((10 ^ k : Nat) : Int) * 10) = ((10 ^ (k + 1) : Nat) : Int) by rw [Nat.pow_succ]; omega]
        refine y_is3 c_107_93 rfl ?_
        refine y_inc4 c_107_94 rfl ?_
        refine y_goto c_107_97 ?_
        exact ih (k + 1) (by omega) (by omega) M2 (CI_of hC1 (fun b hb => hf2 b (by unfold wown at hb; omega))) (fun b hb => by rw [hf2 b (by omega), hF1 b hb]) hch2
  refine y_il1 c_107_0 ?_
  refine y_iz_lt c_107_1 (by omega) (fun h_1 => ?_) (fun h_1 => ?_)
  · refine y_bi c_107_10 (by decide) ?_
    refine y_ret c_107_12 rfl ?_
    rw [if_neg (by omega)] at hQ; exact hQ _ hC (fun b hb => rfl)
  · refine y_il1 c_107_4 ?_
    refine y_bi c_107_5 (by decide) ?_
    refine y_ic_le c_107_7 (by omega) (by omega) (fun h_7 => ?_) (fun h_7 => ?_)
    · obtain ⟨x0, rfl⟩ : ∃ n : Nat, z = n := ⟨z.toNat, by omega⟩
      refine y_ic c_107_13 ?_
      refine y_is3 c_107_14 rfl ?_
      refine y_il3 c_107_15 ?_
      refine y_al0 c_107_16 ?_
      refine y_gr 105 c_107_17 rfl (by omega) ?_
      refine y_len (t := 0) (n := 4) c_107_20 rfl (by omega) ?_
      refine y_ic_ge c_107_21 (by omega) (by omega) (fun h_21 => absurd h_21 (by omega)) (fun h_21 => ?_)
      refine y_al0 c_107_24 ?_
      refine y_gr 105 c_107_25 rfl (by omega) ?_
      refine y_il3 c_107_28 ?_
      refine y_il3 c_107_29 ?_
      refine y_iz_ne c_107_30 (by omega) (fun h_30 => absurd h_30 (by omega)) (fun h_30 => ?_)
      refine y_ic c_107_33 ?_
      refine y_goto c_107_34 ?_
      refine y_ast (n := 4) c_107_38 rfl (by omega) (by omega) (by omega) (by omega) ?_
      refine y_inc3 c_107_39 rfl ?_
      refine y_goto c_107_42 ?_
      refine y_il3 c_107_15 ?_
      refine y_al0 c_107_16 ?_
      refine y_gr 105 c_107_17 rfl (by omega) ?_
      refine y_len (t := 0) (n := 4) c_107_20 rfl (by omega) ?_
      refine y_ic_ge c_107_21 (by omega) (by omega) (fun h_21 => absurd h_21 (by omega)) (fun h_21 => ?_)
      refine y_al0 c_107_24 ?_
      refine y_gr 105 c_107_25 rfl (by omega) ?_
      refine y_il3 c_107_28 ?_
      refine y_il3 c_107_29 ?_
      refine y_iz_ne c_107_30 (by omega) (fun h_30 => ?_) (fun h_30 => absurd h_30 (by omega))
      refine y_ic c_107_37 ?_
      refine y_ast (n := 4) c_107_38 rfl (by omega) (by omega) (by omega) (by omega) ?_
      refine y_inc3 c_107_39 rfl ?_
      refine y_goto c_107_42 ?_
      refine y_il3 c_107_15 ?_
      refine y_al0 c_107_16 ?_
      refine y_gr 105 c_107_17 rfl (by omega) ?_
      refine y_len (t := 0) (n := 4) c_107_20 rfl (by omega) ?_
      refine y_ic_ge c_107_21 (by omega) (by omega) (fun h_21 => absurd h_21 (by omega)) (fun h_21 => ?_)
      refine y_al0 c_107_24 ?_
      refine y_gr 105 c_107_25 rfl (by omega) ?_
      refine y_il3 c_107_28 ?_
      refine y_il3 c_107_29 ?_
      refine y_iz_ne c_107_30 (by omega) (fun h_30 => ?_) (fun h_30 => absurd h_30 (by omega))
      refine y_ic c_107_37 ?_
      refine y_ast (n := 4) c_107_38 rfl (by omega) (by omega) (by omega) (by omega) ?_
      refine y_inc3 c_107_39 rfl ?_
      refine y_goto c_107_42 ?_
      refine y_il3 c_107_15 ?_
      refine y_al0 c_107_16 ?_
      refine y_gr 105 c_107_17 rfl (by omega) ?_
      refine y_len (t := 0) (n := 4) c_107_20 rfl (by omega) ?_
      refine y_ic_ge c_107_21 (by omega) (by omega) (fun h_21 => absurd h_21 (by omega)) (fun h_21 => ?_)
      refine y_al0 c_107_24 ?_
      refine y_gr 105 c_107_25 rfl (by omega) ?_
      refine y_il3 c_107_28 ?_
      refine y_il3 c_107_29 ?_
      refine y_iz_ne c_107_30 (by omega) (fun h_30 => ?_) (fun h_30 => absurd h_30 (by omega))
      refine y_ic c_107_37 ?_
      refine y_ast (n := 4) c_107_38 rfl (by omega) (by omega) (by omega) (by omega) ?_
      refine y_inc3 c_107_39 rfl ?_
      refine y_goto c_107_42 ?_
      refine y_il3 c_107_15 ?_
      refine y_al0 c_107_16 ?_
      refine y_gr 105 c_107_17 rfl (by omega) ?_
      refine y_len (t := 0) (n := 4) c_107_20 rfl (by omega) ?_
      refine y_ic_ge c_107_21 (by omega) (by omega) (fun h_21 => ?_) (fun h_21 => absurd h_21 (by omega))
      refine y_ic c_107_45 ?_
      refine y_is3 c_107_46 rfl ?_
      refine y_ic c_107_47 ?_
      refine y_is4 c_107_48 rfl ?_
      have hoff : ∀ b, b ≠ 105 → (wup (wup (wup (wup M 105 0 1) 105 (0 + 1) 0) 105 (0 + 1 + 1) 0) 105 (0 + 1 + 1 + 1) 0) b = M b := fun b hb => by rw [wup_f _ _ _ hb, wup_f _ _ _ hb, wup_f _ _ _ hb, wup_f _ _ _ hb]
      refine key x0 (by omega) rfl (R.2.2.2.length + 1) 0 (by omega) (by omega) _ (CI_of hC (fun b hb => hoff b (by unfold wown at hb; omega))) (fun b hb => hoff b (by omega)) (fun s hs => ?_)
      rcases (show s = 0 ∨ s = 1 ∨ s = 2 ∨ s = 3 by omega) with rfl | rfl | rfl | rfl <;> simp [wup, aCh]
    · refine y_bi c_107_10 (by decide) ?_
      refine y_ret c_107_12 rfl ?_
      rw [if_neg (by omega)] at hQ; exact hQ _ hC (fun b hb => rfl)
theorem s_109 {v : Int64} (hC : CI x M T P R L Tm sd K) (hA : AOK T P R L Tm K) (hQ : CI (xsd x 0 v) M T P R L Tm v K → Q (some (.long sd)) (xsd x 0 v) M) : yG x M 109 0 [.ref 0, .long v, zU, zU, zU] [] Q := by
  have hsd : x.1 0 = sd := hC.2.1
  refine y_al0 c_109_0 ?_
  refine y_gl c_109_1 rfl ?_
  refine y_ls3 c_109_4 rfl ?_
  refine y_al0 c_109_5 ?_
  refine y_ll1 c_109_6 ?_
  refine y_pl c_109_7 rfl rfl (fun s hs i hi => ?_) ?_
  · cases hs
    intro h1
    have : i < 12 := by have h2 := (List.getElem?_eq_some_iff.mp h1).1; exact h2
    rcases (show i = 0 ∨ i = 1 ∨ i = 2 ∨ i = 3 ∨ i = 4 ∨ i = 5 ∨ i = 6 ∨ i = 7 ∨ i = 8 ∨ i = 9 ∨ i = 11 by omega) with rfl | rfl | rfl | rfl | rfl | rfl | rfl | rfl | rfl | rfl | rfl <;> cases h1
  refine y_ll3 c_109_10 ?_
  refine y_lret c_109_11 rfl ?_
  rw [hsd]; exact hQ (CI_seed hC v)
end S19
