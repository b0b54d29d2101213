/-! ===== rows of sayings that can be said, and the best of them ===== -/
def sumTo (f : Nat → Nat) : Nat → Nat
  | 0 => 0
  | n + 1 => sumTo f n + f n
theorem sumTo_congr {f g : Nat → Nat} : ∀ n, (∀ k, k < n → f k = g k) → sumTo f n = sumTo g n
  | 0, _ => rfl
  | n + 1, h => by
    show sumTo f n + f n = sumTo g n + g n
    rw [sumTo_congr n (fun k hk => h k (by omega)), h n (by omega)]
theorem sumTo_add (f g : Nat → Nat) : ∀ n, sumTo (fun k => f k + g k) n = sumTo f n + sumTo g n
  | 0 => rfl
  | n + 1 => by
    show sumTo _ n + (f n + g n) = sumTo f n + f n + (sumTo g n + g n)
    rw [sumTo_add f g n]; omega
theorem sumTo_one (w : Nat → Nat) (a : Nat) : ∀ n, sumTo (fun k => if k = a then w k else 0) n = if a < n then w a else 0
  | 0 => by simp [sumTo]
  | n + 1 => by
    show sumTo _ n + (if n = a then w n else 0) = _
    rw [sumTo_one w a n]
    by_cases h : n = a
    · subst h; simp
    · rw [if_neg h]
      by_cases h2 : a < n
      · rw [if_pos h2, if_pos (by omega)]; omega
      · rw [if_neg h2, if_neg (by omega)]
theorem sumTo_zero : ∀ n, sumTo (fun _ => 0) n = 0
  | 0 => rfl
  | n + 1 => by show sumTo _ n + 0 = 0; rw [sumTo_zero n]
theorem sum_mem (w : Nat → Nat) (n : Nat) : ∀ l : List Nat, l.Nodup → (∀ y ∈ l, y < n) → sumTo (fun k => if k ∈ l then w k else 0) n = (l.map w).sum
  | [], _, _ => by
    rw [sumTo_congr n (g := fun _ => 0) (fun k _ => by simp)]
    exact sumTo_zero n
  | a :: t, hd, h => by
    have hd2 := List.nodup_cons.mp hd
    rw [sumTo_congr n (g := fun k => (if k = a then w k else 0) + (if k ∈ t then w k else 0)) (fun k _ => by
      by_cases hk : k = a
      · subst hk; simp [hd2.1]
      · simp [hk])]
    rw [sumTo_add, sumTo_one, sum_mem w n t hd2.2 (fun y hy => h y (List.mem_cons_of_mem _ hy)), if_pos (h a List.mem_cons_self)]
    simp
theorem aWs_sum (P : aP) (set : Nat) : ∀ n, aWs P set n = sumTo (fun k => if set / 2 ^ k % 2 = 1 then P.1 5 k else 0) n
  | 0 => rfl
  | n + 1 => by show aWs P set n + _ = sumTo _ n + _; rw [aWs_sum P set n]
def aWarm (P : aP) (l : List Nat) : Nat := (l.map (P.1 5)).sum
theorem aWs_warm {P : aP} {l : List Nat} {n : Nat} (hd : l.Nodup) (h : ∀ y ∈ l, y < n) : aWs P (aBits l) n = aWarm P l := by
  rw [aWs_sum]
  unfold aWarm
  rw [← sum_mem (P.1 5) n l hd h]
  exact sumTo_congr n (fun k _ => by simp only [aBits_mem])
def aPop (n : Nat) : Nat := sumTo (fun k => n / 2 ^ k % 2) 6
theorem aPop_len {l : List Nat} (hd : l.Nodup) (h : ∀ y ∈ l, y < 6) : aPop (aBits l) = l.length := by
  have e := sum_mem (fun _ => 1) 6 l hd h
  have e2 : (l.map (fun _ => 1)).sum = l.length := by
    clear e hd h
    induction l with
    | nil => rfl
    | cons a t ih => simp [ih]; omega
  rw [← e2, ← e]
  refine sumTo_congr 6 (fun k _ => ?_)
  have hm := aBits_mem l k
  have h2 : aBits l / 2 ^ k % 2 = 0 ∨ aBits l / 2 ^ k % 2 = 1 := by omega
  by_cases hk : k ∈ l
  · rw [if_pos hk]; exact hm.mpr hk
  · rw [if_neg hk]
    rcases h2 with h2 | h2
    · exact h2
    · exact absurd (hm.mp h2) hk
theorem aBits_app (l q : List Nat) : aBits (l ++ q) = aBits l ||| aBits q := by
  apply Nat.eq_of_testBit_eq
  intro i
  rw [Nat.testBit_or]
  have key : ∀ l : List Nat, (aBits l).testBit i = decide (i ∈ l) := fun l => by
    rw [Nat.testBit_eq_decide_div_mod_eq]
    exact decide_eq_decide.mpr (aBits_mem l i)
  rw [key, key, key]
  simp
theorem aBits_snoc (q : List Nat) (y : Nat) : aBits (q ++ [y]) = aBits q ||| 2 ^ y := by rw [aBits_app]; simp [aBits]
theorem or_two_pow {s y : Nat} (h : ¬ s / 2 ^ y % 2 = 1) : s ||| 2 ^ y = s + 2 ^ y := by
  have h0 : s.testBit y = false := by rw [Nat.testBit_eq_decide_div_mod_eq]; exact decide_eq_false h
  have e1 : s = 2 ^ (y + 1) * (s / 2 ^ (y + 1)) + s % 2 ^ (y + 1) := (Nat.div_add_mod s (2 ^ (y + 1))).symm
  have hlt : s % 2 ^ (y + 1) < 2 ^ y := by
    have h1 := Nat.mod_lt s (Nat.two_pow_pos (y + 1))
    have h2 : (s % 2 ^ (y + 1)) / 2 ^ y = s / 2 ^ y % 2 := by rw [Nat.pow_succ, Nat.mod_mul_right_div_self]
    have h3 : (s % 2 ^ (y + 1)) / 2 ^ y = 0 := by omega
    rcases Nat.lt_or_ge (s % 2 ^ (y + 1)) (2 ^ y) with h4 | h4
    · exact h4
    · have := Nat.div_pos h4 (Nat.two_pow_pos y); omega
  have h5 := Nat.two_pow_add_eq_or_of_lt (i := y) hlt 1
  have h6 : 2 ^ y + s % 2 ^ (y + 1) < 2 ^ (y + 1) := Nat.lt_of_lt_of_le (Nat.add_lt_add_left hlt _) (by rw [Nat.pow_succ]; omega)
  have h7 := Nat.two_pow_add_eq_or_of_lt (i := y + 1) h6 (s / 2 ^ (y + 1))
  have h8 := Nat.two_pow_add_eq_or_of_lt (i := y + 1) (show s % 2 ^ (y + 1) < 2 ^ (y + 1) from Nat.mod_lt _ (Nat.two_pow_pos _)) (s / 2 ^ (y + 1))
  rw [Nat.mul_one] at h5
  have e2 : s = 2 ^ (y + 1) * (s / 2 ^ (y + 1)) ||| s % 2 ^ (y + 1) := by rw [← h8]; exact e1
  calc s ||| 2 ^ y = (2 ^ (y + 1) * (s / 2 ^ (y + 1)) ||| s % 2 ^ (y + 1)) ||| 2 ^ y := by rw [← e2]
    _ = 2 ^ (y + 1) * (s / 2 ^ (y + 1)) ||| (2 ^ y ||| s % 2 ^ (y + 1)) := by rw [Nat.or_assoc, Nat.or_comm (s % 2 ^ (y + 1))]
    _ = 2 ^ (y + 1) * (s / 2 ^ (y + 1)) ||| (2 ^ y + s % 2 ^ (y + 1)) := by rw [← h5]
    _ = 2 ^ (y + 1) * (s / 2 ^ (y + 1)) + (2 ^ y + s % 2 ^ (y + 1)) := by rw [← h7]
    _ = s + 2 ^ y := by omega
theorem aBits_add {q : List Nat} {y : Nat} (h : y ∉ q) : aBits (q ++ [y]) = aBits q + 2 ^ y := by
  rw [aBits_snoc]; exact or_two_pow (fun h2 => h ((aBits_mem q y).mp h2))
theorem aStage_app (P : aP) (l : List Nat) (y : Nat) : aStage P (l ++ [y]) = if aStage P l < 3 ∧ P.1 6 y = aStage P l + 1 then aStage P l + 1 else aStage P l := by unfold aStage; rw [List.foldl_append]; rfl
def aSp (P : aP) (s g : Nat) : Nat → List Nat → Nat
  | _, [] => 0
  | i, y :: t => aCost P y s g i + aSp P s g (i + 1) t
theorem aSp_app (P : aP) (s g : Nat) (y : Nat) : ∀ (q : List Nat) (i : Nat), aSp P s g i (q ++ [y]) = aSp P s g i q + aCost P y s g (i + q.length)
  | [], i => by simp [aSp]
  | a :: t, i => by
    show aCost P a s g i + aSp P s g (i + 1) (t ++ [y]) = aCost P a s g i + aSp P s g (i + 1) t + _
    rw [aSp_app P s g y t (i + 1), List.length_cons, show i + 1 + t.length = i + (t.length + 1) by omega]
    omega
def aFig (q : List Nat) : Nat := q.foldl (fun r y => 10 * r + y + 1) 0
theorem aFig_app (q : List Nat) (y : Nat) : aFig (q ++ [y]) = 10 * aFig q + y + 1 := by simp [aFig, List.foldl_append]
theorem snoc_of {q : List Nat} (h : q ≠ []) : ∃ q1 y, q = q1 ++ [y] := ⟨q.dropLast, q.getLast h, (List.dropLast_concat_getLast h).symm⟩
theorem aFig_lt : ∀ (n : Nat) (q : List Nat), q.length = n → (∀ y ∈ q, y < 6) → aFig q < 10 ^ n
  | 0, q, hn, _ => by
    have : q = [] := List.length_eq_zero_iff.mp hn
    subst this; simp [aFig]
  | n + 1, q, hn, h => by
    obtain ⟨q1, y, rfl⟩ := snoc_of (q := q) (fun e => by subst e; simp at hn)
    have h1 := aFig_lt n q1 (by simpa using hn) (fun z hz => h z (List.mem_append_left _ hz))
    have h2 := h y (List.mem_append_right _ List.mem_cons_self)
    rw [aFig_app, Nat.pow_succ]
    omega
/-- a row of sayings that can be said behind R, of a set m -/
def aCnd (P : aP) (R : aR) (m : Nat) (q : List Nat) : Prop := R.1 ≠ -9 ∧ (R.2.2.2 ++ q).Nodup ∧ (∀ y ∈ q, y < P.2.2.2 ∧ m / 2 ^ y % 2 = 1) ∧ aSp P R.2.1.toNat R.1.toNat R.2.2.2.length q ≤ R.2.2.1
abbrev aS (P : aP) (R : aR) (q : List Nat) : Nat := aSp P R.2.1.toNat R.1.toNat R.2.2.2.length q
def aIx (P : aP) (R : aR) (q : List Nat) : Nat := 4 * aBits q + aStage P (R.2.2.2 ++ q)
theorem aCnd_pre {P : aP} {R : aR} {m y : Nat} {q : List Nat} (h : aCnd P R m (q ++ [y])) : aCnd P R m q := by
  obtain ⟨h1, h2, h3, h4⟩ := h
  rw [← List.append_assoc] at h2
  refine ⟨h1, (List.nodup_append.mp h2).1, fun z hz => h3 z (List.mem_append_left _ hz), ?_⟩
  rw [aSp_app] at h4
  omega
theorem aCnd_last {P : aP} {R : aR} {m y : Nat} {q : List Nat} (h : aCnd P R m (q ++ [y])) : y < P.2.2.2 ∧ m / 2 ^ y % 2 = 1 ∧ y ∉ R.2.2.2 ++ q ∧ aS P R q + aCost P y R.2.1.toNat R.1.toNat (R.2.2.2.length + q.length) ≤ R.2.2.1 := by
  obtain ⟨h1, h2, h3, h4⟩ := h
  have h5 := h3 y (List.mem_append_right _ List.mem_cons_self)
  rw [← List.append_assoc] at h2
  rw [aSp_app] at h4
  refine ⟨h5.1, h5.2, fun hy => ?_, h4⟩
  exact (List.nodup_append.mp h2).2.2 y hy y List.mem_cons_self rfl
theorem aCnd_ext {P : aP} {R : aR} {m y : Nat} {q : List Nat} (h : aCnd P R m q) (hy : y < P.2.2.2) (hm : m / 2 ^ y % 2 = 1) (hn : y ∉ R.2.2.2 ++ q) (hc : aS P R q + aCost P y R.2.1.toNat R.1.toNat (R.2.2.2.length + q.length) ≤ R.2.2.1) : aCnd P R m (q ++ [y]) := by
  obtain ⟨h1, h2, h3, h4⟩ := h
  refine ⟨h1, ?_, fun z hz => ?_, by rw [aSp_app]; exact hc⟩
  · rw [← List.append_assoc, List.nodup_append]
    refine ⟨h2, by simp, fun a ha b hb => ?_⟩
    have : b = y := by simpa using hb
    subst this
    intro e; subst e; exact hn ha
  · rcases List.mem_append.mp hz with hz | hz
    · exact h3 z hz
    · have : z = y := by simpa using hz
      subst this; exact ⟨hy, hm⟩
theorem aCnd_lt {P : aP} {R : aR} {m : Nat} {q : List Nat} (hok : aPok P) (hRk : aRok P R) (h : aCnd P R m q) : (∀ y ∈ q, y < 6) ∧ q.Nodup ∧ aBits q < 64 ∧ aIx P R q < 256 ∧ aFig q < 1000000 ∧ aS P R q ≤ 135 ∧ R.2.2.2.length + q.length ≤ 6 := by
  obtain ⟨h1, h2, h3, h4⟩ := h
  obtain ⟨z1, z2, z3, z4, z5⟩ := aRok_len hok hRk
  have h6 := hok.2.2.1
  have h5 : ∀ y ∈ q, y < 6 := fun y hy => by have := (h3 y hy).1; omega
  have h7 := aBits_lt h5
  have h8 := aStage_le P (R.2.2.2 ++ q)
  have h9 := nd_len P.2.2.2 _ h2 (fun y hy => by
    rcases List.mem_append.mp hy with hy | hy
    · exact z3 y hy
    · exact (h3 y hy).1)
  rw [List.length_append] at h9
  have h10 := aFig_lt q.length q rfl h5
  have h11 : 10 ^ q.length ≤ 10 ^ 6 := Nat.pow_le_pow_right (by omega) (by omega)
  refine ⟨h5, (List.nodup_append.mp h2).2.1, by omega, by unfold aIx; omega, by omega, by unfold aS; omega, by omega⟩
theorem aIx_pre {P : aP} {R : aR} {y : Nat} {q : List Nat} (h : y ∉ q) : aIx P R q < aIx P R (q ++ [y]) := by
  unfold aIx
  rw [aBits_add h]
  have := aStage_le P (R.2.2.2 ++ q)
  have := Nat.two_pow_pos y
  omega
/-- better, or as good: warmth, then grains, then figures -/
def aBet (w c f w' c' f' : Nat) : Prop := w' < w ∨ (w = w' ∧ (c < c' ∨ (c = c' ∧ f ≤ f')))
theorem aBet_anti {w c f w' c' f' : Nat} (h1 : aBet w c f w' c' f') (h2 : aBet w' c' f' w c f) : w = w' ∧ c = c' ∧ f = f' := by unfold aBet at *; omega
theorem aBet_trans {w c f w1 c1 f1 w2 c2 f2 : Nat} (h1 : aBet w c f w1 c1 f1) (h2 : aBet w1 c1 f1 w2 c2 f2) : aBet w c f w2 c2 f2 := by unfold aBet at *; omega
theorem aBet_total (w c f w1 c1 f1 : Nat) : aBet w c f w1 c1 f1 ∨ aBet w1 c1 f1 w c f := by unfold aBet; omega
def aDec (P : aP) (R : aR) (m : Nat) (q : List Nat) : Prop := aCnd P R m q ∧ aStage P (R.2.2.2 ++ q) = 3
/-- the best by warmth -/
def aBestW (P : aP) (R : aR) (m w c f : Nat) : Prop := (∃ q, aDec P R m q ∧ w = aWarm P q ∧ c = aS P R q ∧ f = aFig q) ∧ ∀ q, aDec P R m q → aBet w c f (aWarm P q) (aS P R q) (aFig q)
/-- the best by grains -/
def aBestS (P : aP) (R : aR) (m c f : Nat) : Prop := (∃ q, aDec P R m q ∧ c = aS P R q ∧ f = aFig q) ∧ ∀ q, aDec P R m q → aBet 0 c f 0 (aS P R q) (aFig q)
theorem aBestW_one {P : aP} {R : aR} {m w c f w' c' f' : Nat} (h1 : aBestW P R m w c f) (h2 : aBestW P R m w' c' f') : w = w' ∧ c = c' ∧ f = f' := by
  obtain ⟨⟨q1, a1, rfl, rfl, rfl⟩, b1⟩ := h1
  obtain ⟨⟨q2, a2, rfl, rfl, rfl⟩, b2⟩ := h2
  exact aBet_anti (b1 q2 a2) (b2 q1 a1)
theorem aBestS_one {P : aP} {R : aR} {m c f c' f' : Nat} (h1 : aBestS P R m c f) (h2 : aBestS P R m c' f') : c = c' ∧ f = f' := by
  obtain ⟨⟨q1, a1, rfl, rfl⟩, b1⟩ := h1
  obtain ⟨⟨q2, a2, rfl, rfl⟩, b2⟩ := h2
  exact (aBet_anti (b1 q2 a2) (b2 q1 a1)).2
