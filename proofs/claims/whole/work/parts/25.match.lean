/-! ===== ways to match ===== -/
def aDg (w ns r s : Nat) : Nat := r / w ^ (ns - 1 - s) % w
def aRow (w : Nat) (d : Nat → Nat) : Nat → Nat
  | 0 => 0
  | n + 1 => w * aRow w d n + d n
def aMfig (d : Nat → Nat) : Nat → Nat
  | 0 => 1
  | n + 1 => 10 * aMfig d n + d n
def aMcnt (c : Nat → Nat → Bool) (d : Nat → Nat) : Nat → Nat
  | 0 => 0
  | n + 1 => aMcnt c d n + if d n ≠ 0 ∧ c n (d n - 1) = true then 1 else 0
def aMok (d : Nat → Nat) (n : Nat) : Prop := ∀ s t, s < t → t < n → d s ≠ 0 → d s ≠ d t
def aMgd (c : Nat → Nat → Bool) (d : Nat → Nat) (n : Nat) : Prop := aMok d n ∧ ∀ s, s < n → d s ≠ 0 → c s (d s - 1) = true
def aMat (c : Nat → Nat → Bool) (ns gl m f : Nat) : Prop := (∃ d, (∀ s, s < ns → d s ≤ gl) ∧ aMok d ns ∧ m = aMcnt c d ns ∧ f = aMfig d ns) ∧ ∀ d, (∀ s, s < ns → d s ≤ gl) → aMok d ns → aMcnt c d ns < m ∨ (aMcnt c d ns = m ∧ f ≤ aMfig d ns)
theorem aMcnt_congr {c c' : Nat → Nat → Bool} {d : Nat → Nat} {gl : Nat} : ∀ n, (∀ s, s < n → d s ≤ gl) → (∀ s g, s < n → g < gl → c s g = c' s g) → aMcnt c d n = aMcnt c' d n
  | 0, _, _ => rfl
  | n + 1, h, hc => by
    show aMcnt c d n + _ = aMcnt c' d n + _
    rw [aMcnt_congr n (fun s hs => h s (by omega)) (fun s g hs hg => hc s g (by omega) hg)]
    have := h n (by omega)
    by_cases h0 : d n = 0
    · rw [if_neg (fun g => g.1 h0), if_neg (fun g => g.1 h0)]
    · rw [hc n (d n - 1) (by omega) (by omega)]
theorem aMat_one {c c' : Nat → Nat → Bool} {ns gl m f m' f' : Nat} (hc : ∀ s g, s < ns → g < gl → c s g = c' s g) (h1 : aMat c ns gl m f) (h2 : aMat c' ns gl m' f') : m = m' ∧ f = f' := by
  obtain ⟨⟨d, a1, a2, a3, a4⟩, a5⟩ := h1
  obtain ⟨⟨d', b1, b2, b3, b4⟩, b5⟩ := h2
  have e1 := b5 d a1 a2
  have e2 := a5 d' b1 b2
  rw [← aMcnt_congr ns a1 hc] at e1
  rw [aMcnt_congr ns b1 hc] at e2
  omega
theorem aRow_mono {w : Nat} {d d' : Nat → Nat} (hw : w ≤ 10) (h : ∀ s, d s < w) (h' : ∀ s, d' s < w) : ∀ n, (aRow w d n < aRow w d' n → aMfig d n < aMfig d' n) ∧ (aRow w d n = aRow w d' n → aMfig d n = aMfig d' n)
  | 0 => ⟨fun h => absurd h (Nat.lt_irrefl _), fun _ => rfl⟩
  | n + 1 => by
    obtain ⟨i1, i2⟩ := aRow_mono hw h h' n
    have h1 := h n
    have h2 := h' n
    simp only [aRow, aMfig]
    rcases Nat.lt_trichotomy (aRow w d n) (aRow w d' n) with hl | he | hl
    · have := i1 hl
      have h3 : w * (aRow w d n + 1) ≤ w * aRow w d' n := Nat.mul_le_mul_left w hl
      rw [Nat.mul_add] at h3
      exact ⟨fun _ => by omega, fun _ => by omega⟩
    · have := i2 he
      rw [he]
      exact ⟨fun _ => by omega, fun _ => by omega⟩
    · have h3 : w * (aRow w d' n + 1) ≤ w * aRow w d n := Nat.mul_le_mul_left w hl
      rw [Nat.mul_add] at h3
      exact ⟨fun _ => by omega, fun _ => by omega⟩
theorem aRow_lt {w : Nat} {d : Nat → Nat} (h : ∀ s, d s < w) : ∀ n, aRow w d n < w ^ n
  | 0 => by simp [aRow]
  | n + 1 => by
    have h1 := aRow_lt h n
    have h2 := h n
    have h3 : w * (aRow w d n + 1) ≤ w * w ^ n := Nat.mul_le_mul_left w h1
    rw [Nat.mul_add] at h3
    rw [Nat.pow_succ, Nat.mul_comm (w ^ n) w]
    simp only [aRow]; omega
theorem aRow_congr {w : Nat} {d d' : Nat → Nat} : ∀ n, (∀ s, s < n → d s = d' s) → aRow w d n = aRow w d' n
  | 0, _ => rfl
  | n + 1, h => by show w * _ + _ = w * _ + _; rw [aRow_congr n (fun s hs => h s (by omega)), h n (by omega)]
theorem aMfig_congr {d d' : Nat → Nat} : ∀ n, (∀ s, s < n → d s = d' s) → aMfig d n = aMfig d' n
  | 0, _ => rfl
  | n + 1, h => by show 10 * _ + _ = 10 * _ + _; rw [aMfig_congr n (fun s hs => h s (by omega)), h n (by omega)]
theorem aMcnt_congr2 {c : Nat → Nat → Bool} {d d' : Nat → Nat} : ∀ n, (∀ s, s < n → d s = d' s) → aMcnt c d n = aMcnt c d' n
  | 0, _ => rfl
  | n + 1, h => by show _ + _ = _ + _; rw [aMcnt_congr2 n (fun s hs => h s (by omega)), h n (by omega)]
theorem aDg_row {w : Nat} {d : Nat → Nat} (h : ∀ s, d s < w) : ∀ n s, s < n → aDg w n (aRow w d n) s = d s
  | 0, s, hs => by omega
  | n + 1, s, hs => by
    have hn := h n
    unfold aDg
    by_cases e : s = n
    · subst e
      rw [show s + 1 - 1 - s = 0 by omega, Nat.pow_zero, Nat.div_one]
      show (w * _ + d s) % w = d s
      rw [Nat.mul_add_mod, Nat.mod_eq_of_lt hn]
    · rw [show n + 1 - 1 - s = (n - 1 - s) + 1 by omega, Nat.pow_succ, Nat.mul_comm, ← Nat.div_div_eq_div_mul]
      show (w * aRow w d n + d n) / w / w ^ (n - 1 - s) % w = d s
      rw [Nat.mul_add_div (by omega), Nat.div_eq_of_lt hn, Nat.add_zero]
      exact aDg_row h n s (by omega)
theorem aRow_dg {w : Nat} (hw : 0 < w) : ∀ n r, r < w ^ n → aRow w (aDg w n r) n = r
  | 0, r, h => by simp [aRow] at *; omega
  | n + 1, r, h => by
    show w * aRow w (aDg w (n + 1) r) n + aDg w (n + 1) r n = r
    have h1 : r / w < w ^ n := by rw [Nat.div_lt_iff_lt_mul hw]; rw [Nat.pow_succ] at h; exact h
    have h2 : aDg w (n + 1) r n = r % w := by unfold aDg; rw [show n + 1 - 1 - n = 0 by omega, Nat.pow_zero, Nat.div_one]
    rw [h2, aRow_congr (d' := aDg w n (r / w)) n (fun s hs => by
      unfold aDg; rw [show n + 1 - 1 - s = (n - 1 - s) + 1 by omega, Nat.pow_succ, Nat.mul_comm, ← Nat.div_div_eq_div_mul]), aRow_dg hw n _ h1]
    exact Nat.div_add_mod r w
theorem aDg_lt {w ns r s : Nat} (hw : 0 < w) : aDg w ns r s < w := Nat.mod_lt _ hw
/-- the first of the ways of the most -/
theorem aMat_rows {c : Nat → Nat → Bool} {ns gl w m b : Nat} (hw : w = gl + 1) (hw5 : w ≤ 10) (hb : b < w ^ ns) (hgd : aMok (aDg w ns b) ns) (hm : m = aMcnt c (aDg w ns b) ns)
    (hmax : ∀ r, r < w ^ ns → aMok (aDg w ns r) ns → aMcnt c (aDg w ns r) ns < m ∨ (aMcnt c (aDg w ns r) ns = m ∧ b ≤ r)) : aMat c ns gl m (aMfig (aDg w ns b) ns) := by
  have hw0 : 0 < w := by omega
  refine ⟨⟨aDg w ns b, fun s hs => by have := @aDg_lt w ns b s hw0; omega, hgd, hm, rfl⟩, fun d hd hok => ?_⟩
  have hcl : ∀ s, (if s < ns then d s else 0) < w := fun s => by split <;> rename_i h <;> first | (have := hd s h; omega) | omega
  have hdg := aDg_row hcl ns
  have e : ∀ s, s < ns → aDg w ns (aRow w (fun s => if s < ns then d s else 0) ns) s = d s := fun s hs => by rw [hdg s hs, if_pos hs]
  have h1 := hmax _ (aRow_lt hcl ns) (fun s t h1 h2 h3 => by rw [e s (by omega)] at *; rw [e t h2]; exact hok s t h1 h2 h3)
  rw [aMcnt_congr2 ns e] at h1
  rcases h1 with h1 | ⟨h1, h2⟩
  · exact Or.inl h1
  · refine Or.inr ⟨h1, ?_⟩
    have hmn := aRow_mono hw5 (fun s => @aDg_lt w ns b s hw0) hcl ns
    rw [aRow_dg hw0 ns b hb] at hmn
    rw [aMfig_congr (d := d) (d' := fun s => if s < ns then d s else 0) ns (fun s hs => by simp [hs])]
    rcases Nat.lt_or_eq_of_le h2 with h3 | h3
    · exact Nat.le_of_lt (hmn.1 h3)
    · exact Nat.le_of_eq (hmn.2 h3)
/-- ways with pairs that can not may be passed over -/
theorem aMat_good {c : Nat → Nat → Bool} {ns gl w m b : Nat} (hw : gl < w) (hw5 : w ≤ 10) (hc : ∀ s g, c s g = true → g < gl) (hb : b < w ^ ns) (hgd : aMgd c (aDg w ns b) ns) (hm : m = aMcnt c (aDg w ns b) ns)
    (hmax : ∀ r, r < w ^ ns → aMgd c (aDg w ns r) ns → aMcnt c (aDg w ns r) ns < m ∨ (aMcnt c (aDg w ns r) ns = m ∧ b ≤ r)) : aMat c ns gl m (aMfig (aDg w ns b) ns) := by
  have hw0 : 0 < w := by omega
  refine ⟨⟨aDg w ns b, fun s hs => ?_, hgd.1, hm, rfl⟩, fun d hd hok => ?_⟩
  · by_cases h0 : aDg w ns b s = 0
    · omega
    · have := hc _ _ (hgd.2 s hs h0); omega
  have cnt2 : ∀ n, aMcnt c (fun s => if s < ns ∧ c s (d s - 1) = true then d s else 0) n ≤ aMcnt c d n ∧ (n ≤ ns → aMcnt c (fun s => if s < ns ∧ c s (d s - 1) = true then d s else 0) n = aMcnt c d n ∧ aMfig (fun s => if s < ns ∧ c s (d s - 1) = true then d s else 0) n ≤ aMfig d n) := by
    intro n
    induction n with
    | zero => exact ⟨Nat.le_refl _, fun _ => ⟨rfl, Nat.le_refl _⟩⟩
    | succ n ih =>
      simp only [aMcnt, aMfig]
      by_cases hn : n < ns ∧ c n (d n - 1) = true
      · simp only [if_pos hn]
        exact ⟨by omega, fun h => ⟨by rw [(ih.2 (by omega)).1], by have := (ih.2 (by omega)).2; omega⟩⟩
      · simp only [if_neg hn]
        refine ⟨by simp; omega, fun h => ⟨?_, by have := (ih.2 (by omega)).2; omega⟩⟩
        rw [(ih.2 (by omega)).1, if_neg (by simp), if_neg (fun g => hn ⟨by omega, g.2⟩)]
  have hcl : ∀ s, (if s < ns ∧ c s (d s - 1) = true then d s else 0) < w := fun s => by split <;> rename_i h <;> first | (have := hd s h.1; omega) | omega
  have hdg := aDg_row hcl ns
  have hg : aMgd c (aDg w ns (aRow w (fun s => if s < ns ∧ c s (d s - 1) = true then d s else 0) ns)) ns := by
    refine ⟨fun s t h1 h2 h3 => ?_, fun s hs h0 => ?_⟩
    · rw [hdg s (by omega)] at *
      rw [hdg t h2]
      by_cases ha : s < ns ∧ c s (d s - 1) = true
      · rw [if_pos ha] at *
        have := hok s t h1 h2 h3
        split
        · exact this
        · exact h3
      · rw [if_neg ha] at h3; exact absurd rfl h3
    · rw [hdg s hs] at *
      by_cases ha : s < ns ∧ c s (d s - 1) = true
      · rw [if_pos ha]; exact ha.2
      · rw [if_neg ha] at h0; exact absurd rfl h0
  have h1 := hmax _ (aRow_lt hcl ns) hg
  obtain ⟨e1, e2⟩ := (cnt2 ns).2 (Nat.le_refl _)
  rw [aMcnt_congr2 ns hdg, e1] at h1
  rcases h1 with h1 | ⟨h1, h2⟩
  · exact Or.inl h1
  · refine Or.inr ⟨h1, Nat.le_trans ?_ e2⟩
    have hmn := aRow_mono hw5 (fun s => @aDg_lt w ns b s hw0) hcl ns
    rw [aRow_dg hw0 ns b hb] at hmn
    rcases Nat.lt_or_eq_of_le h2 with h3 | h3
    · exact Nat.le_of_lt (hmn.1 h3)
    · exact Nat.le_of_eq (hmn.2 h3)
def aMatV (P : aP) (b r : Int) : Prop := ∃ c m f, (∀ s g, s < P.2.2.1 → g < P.2.1 → (c s g = true ↔ aCanD P s g)) ∧ aMat c P.2.2.1 P.2.1 m f ∧ r = if b = 0 then (m : Int) else f
theorem aMatV_one {P : aP} {b r r' : Int} (h1 : aMatV P b r) (h2 : aMatV P b r') : r = r' := by
  obtain ⟨c, m, f, a1, a2, rfl⟩ := h1
  obtain ⟨c', m', f', b1, b2, rfl⟩ := h2
  obtain ⟨rfl, rfl⟩ := aMat_one (fun s g hs hg => by rw [Bool.eq_iff_iff, a1 s g hs hg, b1 s g hs hg]) a2 b2
  rfl
section S13
variable {x : wC} {M : wM} {Q : Option Value → wC → wM → Prop} {T : List Nat} {P : aP} {R : aR} {L : aA} {Tm : aT} {sd : Int64} {K : Nat → Option aR}
theorem s_89 {s g : Nat} (hQ : Q (some (.int (iI ((4 * s + g : Nat) : Int)))) x M) : yG x M 89 0 [.int (iI (s : Int)), .int (iI (g : Int))] [] Q := by
  refine y_il0 c_89_0 ?_
  refine y_ic c_89_1 ?_
  refine y_mul c_89_2 ?_
  refine y_il1 c_89_3 ?_
  refine y_add c_89_4 ?_
  refine y_ret c_89_5 rfl ?_
  exact yQi hQ (by omega)
theorem s_92 {r w b : Nat} (hr : wR r) (hw : wR w) (hb : wR b) (h1 : 1 ≤ w) (h2 : 1 ≤ b) (hQ : Q (some (.int (iI ((r / w % b : Nat) : Int)))) x M) : yG x M 92 0 [.int (iI (r : Int)), .int (iI (w : Int)), .int (iI (b : Int))] [] Q := by
  have hd : ((r : Int) / (w : Int)) = ((r / w : Nat) : Int) := by omega
  have hle : r / w ≤ r := Nat.div_le_self _ _
  refine y_il1 c_92_0 ?_
  refine y_ic c_92_1 ?_
  refine y_ic_lt c_92_2 (by omega) (by omega) (fun h_2 => absurd h_2 (by omega)) (fun h_2 => ?_)
  refine y_il2 c_92_5 ?_
  refine y_ic c_92_6 ?_
  refine y_ic_ge c_92_7 (by omega) (by omega) (fun h_7 => ?_) (fun h_7 => absurd h_7 (by omega))
  refine y_il0 c_92_14 ?_
  refine y_il1 c_92_15 ?_
  refine y_div c_92_16 (by omega) (by omega) (by omega) (by omega) ?_
  rw [hd]
  generalize r / w = v at hle hQ ⊢
  refine y_il2 c_92_17 ?_
  refine y_rem c_92_18 (by omega) (by omega) (by omega) (by omega) ?_
  refine y_ret c_92_19 rfl ?_
  exact yQi hQ (by omega)
theorem s_91 {r : Nat} (hC : CI x M T P R L Tm sd K) (hA : AOK T P R L Tm K) (hr : r < 5 ^ P.2.2.1) (hQ : Q (some (.int (iI (aMfig (aDg 5 P.2.2.1 r) P.2.2.1 : Nat)))) x M) : yG x M 91 0 [.ref 0, .int (iI (r : Int)), .int (iI ((5 ^ P.2.2.1 : Nat) : Int)), zU, zU, zU] [] Q := by
  obtain ⟨hx, hsd, hT, hM, hR, hL, hTm, hK0, hK⟩ := id hC
  obtain ⟨⟨ht56, ht256⟩, hok, hRk, ⟨hl14, hLk⟩, hTk, hKk⟩ := id hA
  obtain ⟨hp, hp33⟩ := CI_port hx
  obtain ⟨z1, z2, z3, z4, z5⟩ := aRok_len hok hRk
  have z6 : ∀ y ∈ R.2.2.2, y < 6 := fun y hy => by have := z3 y hy; have := hok.2.2.1; omega
  have hb1 := hok.1
  have hb2 := hok.2.1
  have hb3 := hok.2.2.1
  obtain ⟨q0, q1, q2, q3, q4, q5, q6, qc, j0, j1, j2, j3, j4, j5, j6, qlt⟩ := id hp
  obtain ⟨⟨n0, n1, n2, n3, n4, n5, n6⟩, v0, v1, v2, v3, v4, v5, v6⟩ := id hM
  have hp8 : 5 ^ P.2.2.1 ≤ 5 ^ 4 := Nat.pow_le_pow_right (by omega) (by omega)
  have hfl : ∀ n, aMfig (aDg 5 P.2.2.1 r) n < 2 * 10 ^ n := by
    intro n
    induction n with
    | zero => exact (show 1 < 2 * 10 ^ 0 by decide)
    | succ n ih => have := @aDg_lt 5 P.2.2.1 r n (by omega); simp only [aMfig]; rw [Nat.pow_succ]; omega
  have key : ∀ d k : Nat, P.2.2.1 < k + d → k ≤ P.2.2.1 → yG x M 91 8 [.ref 0, .int (iI (r : Int)), .int (iI ((5 ^ P.2.2.1 : Nat) : Int)), .int (iI ((5 ^ (P.2.2.1 - k) : Nat) : Int)), .int (iI (aMfig (aDg 5 P.2.2.1 r) k : Nat)), .int (iI (k : Int))] [] Q := by
    intro d
    induction d with
    | zero => intro k g1 g2; omega
    | succ d ih =>
      intro k g1 g2
      refine y_il5 c_91_8 ?_
      refine y_al0 c_91_10 ?_
      refine y_gp c_91_11 rfl ?_
      refine k_22 c_91_14 rfl qc (Nat.le_of_ble_eq_true rfl) ?_
      refine s_22 hp ?_
      rw [n2]
      refine y_ic_ge c_91_17 (by omega) (by omega) (fun h_17 => ?_) (fun h_17 => ?_)
      · have hk : k = P.2.2.1 := by omega
        subst hk
        refine y_il4 c_91_44 ?_
        refine y_ret c_91_46 rfl ?_
        exact hQ
      · have hp5 : 5 ^ (P.2.2.1 - k) = 5 * 5 ^ (P.2.2.1 - 1 - k) := by rw [show P.2.2.1 - k = (P.2.2.1 - 1 - k) + 1 by omega, Nat.pow_succ, Nat.mul_comm]
        have hp6 : 5 ^ (P.2.2.1 - k) ≤ 5 ^ 4 := Nat.pow_le_pow_right (by omega) (by omega)
        have hp7 : 0 < 5 ^ (P.2.2.1 - 1 - k) := Nat.pow_pos (by omega)
        refine y_il3 c_91_20 ?_
        refine y_ic c_91_21 ?_
        refine y_div c_91_22 (by omega) (by omega) (by omega) (by omega) ?_
        rw [show (((5 ^ (P.2.2.1 - k) : Nat) : Int) / 5 : Int) = ((5 ^ (P.2.2.1 - 1 - k) : Nat) : Int) by omega]
        refine y_is3 c_91_23 rfl ?_
        refine y_bi c_91_24 (by decide) ?_
        refine y_il4 c_91_26 ?_
        refine y_mul c_91_28 ?_
        refine y_il1 c_91_29 ?_
        refine y_il3 c_91_30 ?_
        refine y_ic c_91_31 ?_
        refine k_92 c_91_32 rfl (Nat.le_of_ble_eq_true rfl) ?_
        refine s_92 (b := 5) (by omega) (by omega) (by decide) (by omega) (by decide) ?_
        refine y_add c_91_35 ?_
        have e : (10 : Int) * (aMfig (aDg 5 P.2.2.1 r) k : Nat) + ((r / 5 ^ (P.2.2.1 - 1 - k) % 5 : Nat) : Int) = (aMfig (aDg 5 P.2.2.1 r) (k + 1) : Nat) := by simp only [aMfig, aDg]; omega
        rw [e, show P.2.2.1 - 1 - k = P.2.2.1 - (k + 1) by omega]
        refine y_is4 c_91_36 rfl ?_
        refine y_inc5 c_91_38 rfl ?_
        refine y_goto c_91_41 ?_
        exact ih (k + 1) (by omega) (by omega)
  refine y_il2 c_91_0 ?_
  refine y_is3 c_91_1 rfl ?_
  refine y_ic c_91_2 ?_
  refine y_is4 c_91_3 rfl ?_
  refine y_ic c_91_5 ?_
  refine y_is5 c_91_6 rfl ?_
  exact key (P.2.2.1 + 1) 0 (by omega) (by omega)
theorem s_90 {r pr : Nat} (c : Nat → Nat → Bool) (hC : CI x M T P R L Tm sd K) (hA : AOK T P R L Tm K) (hr : r < 5 ^ P.2.2.1) (hpr : pr < 2147483648) (hc : ∀ s g, s < P.2.2.1 → g < 4 → (pr / 2 ^ (4 * s + g) % 2 = 1 ↔ c s g = true))
    (hQ0 : ¬ aMgd c (aDg 5 P.2.2.1 r) P.2.2.1 → Q (some (.int (iI (-9)))) x M) (hQ1 : aMgd c (aDg 5 P.2.2.1 r) P.2.2.1 → Q (some (.int (iI (aMcnt c (aDg 5 P.2.2.1 r) P.2.2.1 : Nat)))) x M) : yG x M 90 0 [.ref 0, .int (iI (r : Int)), .int (iI ((5 ^ P.2.2.1 : Nat) : Int)), .int (iI (pr : Int)), zU, zU, zU, zU, zU] [] Q := by
  obtain ⟨hx, hsd, hT, hM, hR, hL, hTm, hK0, hK⟩ := id hC
  obtain ⟨⟨ht56, ht256⟩, hok, hRk, ⟨hl14, hLk⟩, hTk, hKk⟩ := id hA
  obtain ⟨hp, hp33⟩ := CI_port hx
  obtain ⟨z1, z2, z3, z4, z5⟩ := aRok_len hok hRk
  have z6 : ∀ y ∈ R.2.2.2, y < 6 := fun y hy => by have := z3 y hy; have := hok.2.2.1; omega
  have hb1 := hok.1
  have hb2 := hok.2.1
  have hb3 := hok.2.2.1
  obtain ⟨q0, q1, q2, q3, q4, q5, q6, qc, j0, j1, j2, j3, j4, j5, j6, qlt⟩ := id hp
  obtain ⟨⟨n0, n1, n2, n3, n4, n5, n6⟩, v0, v1, v2, v3, v4, v5, v6⟩ := id hM
  have hp8 : 5 ^ P.2.2.1 ≤ 5 ^ 4 := Nat.pow_le_pow_right (by omega) (by omega)
  have hcl : ∀ n, aMcnt c (aDg 5 P.2.2.1 r) n ≤ n := by
    intro n
    induction n with
    | zero => exact Nat.le_refl 0
    | succ n ih => simp only [aMcnt]; split <;> omega
  have key : ∀ d k : Nat, P.2.2.1 < k + d → k ≤ P.2.2.1 → ∀ (t m : Nat) (w8 : Value), m = aMcnt c (aDg 5 P.2.2.1 r) k → t < 2 ^ 4 → (∀ g, g < 4 → (t / 2 ^ g % 2 = 1 ↔ ∃ s, s < k ∧ aDg 5 P.2.2.1 r s = g + 1)) → aMgd c (aDg 5 P.2.2.1 r) k → yG x M 90 12 [.ref 0, .int (iI (r : Int)), .int (iI ((5 ^ P.2.2.1 : Nat) : Int)), .int (iI (pr : Int)), .int (iI ((5 ^ (P.2.2.1 - k) : Nat) : Int)), .int (iI (t : Int)), .int (iI (m : Int)), .int (iI (k : Int)), w8] [] Q := by
    intro d
    induction d with
    | zero => intro k g1 g2; omega
    | succ d ih =>
      intro k g1 g2 t m w8 hm ht htu hg
      have hml := hcl k
      refine y_il7 c_90_12 ?_
      refine y_al0 c_90_14 ?_
      refine y_gp c_90_15 rfl ?_
      refine k_22 c_90_18 rfl qc (Nat.le_of_ble_eq_true rfl) ?_
      refine s_22 hp ?_
      rw [n2]
      refine y_ic_ge c_90_21 (by omega) (by omega) (fun h_21 => ?_) (fun h_21 => ?_)
      · have hk : k = P.2.2.1 := by omega
        subst hk
        refine y_il6 c_90_94 ?_
        refine y_ret c_90_96 rfl ?_
        subst hm; exact hQ1 hg
      · have hp5 : 5 ^ (P.2.2.1 - k) = 5 * 5 ^ (P.2.2.1 - 1 - k) := by rw [show P.2.2.1 - k = (P.2.2.1 - 1 - k) + 1 by omega, Nat.pow_succ, Nat.mul_comm]
        have hp6 : 5 ^ (P.2.2.1 - k) ≤ 5 ^ 4 := Nat.pow_le_pow_right (by omega) (by omega)
        have hp7 : 0 < 5 ^ (P.2.2.1 - 1 - k) := Nat.pow_pos (by omega)
        refine y_il4 c_90_24 ?_
        refine y_ic c_90_26 ?_
        refine y_div c_90_27 (by omega) (by omega) (by omega) (by omega) ?_
        rw [show (((5 ^ (P.2.2.1 - k) : Nat) : Int) / 5 : Int) = ((5 ^ (P.2.2.1 - 1 - k) : Nat) : Int) by omega]
        refine y_is4 c_90_28 rfl ?_
        refine y_il1 c_90_30 ?_
        refine y_il4 c_90_31 ?_
        refine y_ic c_90_33 ?_
        refine k_92 c_90_34 rfl (Nat.le_of_ble_eq_true rfl) ?_
        refine s_92 (b := 5) (by omega) (by omega) (by decide) (by omega) (by decide) ?_
        have hdl := @aDg_lt 5 P.2.2.1 r k (by omega)
        rw [show (r / 5 ^ (P.2.2.1 - 1 - k) % 5 : Nat) = aDg 5 P.2.2.1 r k from rfl]
        refine y_ic c_90_37 ?_
        refine y_sub c_90_38 ?_
        refine y_is8 c_90_39 rfl ?_
        refine y_il8 c_90_41 ?_
        rw [show P.2.2.1 - 1 - k = P.2.2.1 - (k + 1) by omega]
        by_cases hz : aDg 5 P.2.2.1 r k = 0
        · rw [hz]
          refine y_iz_ge c_90_43 (by omega) (fun h_43 => absurd h_43 (by omega)) (fun h_43 => ?_)
          refine y_goto c_90_46 ?_
          refine y_inc7 c_90_88 rfl ?_
          refine y_goto c_90_91 ?_
          refine ih (k + 1) (by omega) (by omega) t m _ (by simp only [aMcnt]; rw [if_neg (fun h => h.1 hz)]; exact hm) ht (fun g hgl => ?_) ⟨fun s t h1 h2 h3 => ?_, fun s hs h0 => ?_⟩
          · rw [htu g hgl]
            constructor
            · rintro ⟨s, h1, h2⟩; exact ⟨s, by omega, h2⟩
            · rintro ⟨s, h1, h2⟩
              exact ⟨s, by
                have : s ≠ k := fun e => by subst e; omega
                omega, h2⟩
          · by_cases e : t = k
            · subst e; omega
            · exact hg.1 s t h1 (by omega) h3
          · exact hg.2 s (by
              have : s ≠ k := fun e => by subst e; omega
              omega) h0
        obtain ⟨e, he⟩ : ∃ e, aDg 5 P.2.2.1 r k = e + 1 := ⟨aDg 5 P.2.2.1 r k - 1, by omega⟩
        have he4 : e < 4 := by omega
        rw [he, show (((e + 1 : Nat) : Int) - 1) = (e : Int) by omega]
        have bad : ¬ aMgd c (aDg 5 P.2.2.1 r) (k + 1) → Q (some (.int (iI (-9)))) x M := fun h => hQ0 (fun hh => h ⟨fun s t h1 h2 h3 => hh.1 s t h1 (by omega) h3, fun s hs h0 => hh.2 s (by omega) h0⟩)
        refine y_iz_ge c_90_43 (by omega) (fun _ => ?_) (fun h => absurd h (by omega))
        refine y_il5 c_90_49 ?_
        refine y_il8 c_90_51 ?_
        refine k_114 c_90_53 rfl (Nat.le_of_ble_eq_true rfl) ?_
        refine s_114 (by omega) (by omega) ?_
        refine y_pz_ne c_90_56 (fun h1 => ?_) (fun h1 => ?_)
        · have hbad : ¬ aMgd c (aDg 5 P.2.2.1 r) (k + 1) := fun hh => by
            obtain ⟨s, hs1, hs2⟩ := (htu e he4).mp h1
            exact hh.1 s k hs1 (by omega) (by omega) (by rw [hs2, he])
          refine y_bi c_90_73 (by decide) ?_
          refine y_ret c_90_75 rfl ?_
          exact bad hbad
        · refine y_il3 c_90_59 ?_
          refine y_il7 c_90_60 ?_
          refine y_il8 c_90_62 ?_
          refine k_89 c_90_64 rfl (Nat.le_of_ble_eq_true rfl) ?_
          refine s_89 ?_
          refine k_114 c_90_67 rfl (Nat.le_of_ble_eq_true rfl) ?_
          refine s_114 hpr (by omega) ?_
          refine y_pz_ne c_90_70 (fun h2 => ?_) (fun h2 => ?_)
          · refine y_il5 c_90_76 ?_
            refine y_ic c_90_78 ?_
            refine y_il8 c_90_79 ?_
            refine y_shl (x1 := 1) (x2 := e) c_90_81 (by omega) (by have := Nat.pow_le_pow_right (show 0 < 2 by omega) (show e ≤ 3 by omega); omega) ?_
            rw [Nat.one_mul]
            refine y_ior (x1 := t) (x2 := 2 ^ e) c_90_82 ?_
            refine y_is5 c_90_83 rfl ?_
            refine y_inc6 c_90_85 rfl ?_
            refine y_inc7 c_90_88 rfl ?_
            refine y_goto c_90_91 ?_
            have hct := (hc k e (by omega) he4).mp h2
            refine ih (k + 1) (by omega) (by omega) (t ||| 2 ^ e) (m + 1) _ (by simp only [aMcnt]; rw [if_pos ⟨by omega, by rw [he]; exact hct⟩, hm]) (or_bit_lt ht he4) (fun g hgl => ?_) ⟨fun s t h3 h4 h5 => ?_, fun s hs h0 => ?_⟩
            · rw [or_bit, htu g hgl]
              constructor
              · rintro (⟨s, h3, h4⟩ | h3)
                · exact ⟨s, by omega, h4⟩
                · subst h3; exact ⟨k, by omega, he⟩
              · rintro ⟨s, h3, h4⟩
                by_cases hsk : s = k
                · subst hsk; right; omega
                · exact Or.inl ⟨s, by omega, h4⟩
            · by_cases htk : t = k
              · subst htk
                intro hst
                exact h1 ((htu e he4).mpr ⟨s, h3, by omega⟩)
              · exact hg.1 s t h3 (by omega) h5
            · by_cases hsk : s = k
              · subst hsk; rw [he]; exact hct
              · exact hg.2 s (by omega) h0
          · have hbad : ¬ aMgd c (aDg 5 P.2.2.1 r) (k + 1) := fun hh => by
              have h3 := hh.2 k (by omega) (by omega)
              rw [he] at h3
              exact h2 ((hc k e (by omega) he4).mpr h3)
            refine y_bi c_90_73 (by decide) ?_
            refine y_ret c_90_75 rfl ?_
            exact bad hbad
  refine y_il2 c_90_0 ?_
  refine y_is4 c_90_1 rfl ?_
  refine y_ic c_90_3 ?_
  refine y_is5 c_90_4 rfl ?_
  refine y_ic c_90_6 ?_
  refine y_is6 c_90_7 rfl ?_
  refine y_ic c_90_9 ?_
  refine y_is7 c_90_10 rfl ?_
  exact key (P.2.2.1 + 1) 0 (by omega) (by omega) 0 0 _ rfl (by decide) (fun g hg => ⟨fun h => by simp at h, fun ⟨s, hs, _⟩ => by omega⟩) ⟨fun s t h1 h2 => by omega, fun s hs => by omega⟩
end S13
