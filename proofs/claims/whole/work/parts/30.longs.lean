/-! ===== rules for fields of longs, and of the ports; the seed's doings ===== -/
theorem wW_putx {x x' : wC} {M : wM} {a ci k c : Nat} {s : List Nat} (hs : wsh[a]? = some (3, ci, s)) (hk : s[k]? = some c) (hne : ∀ b t n s', wsh[b]? = some (t, n, s') → ∀ i c', s'[i]? = some c' → ¬ (b = a ∧ i = k) → wv x' M b i c' = wv x M b i c') :
    (wW x M).set a (.inr (.inr (ci, (s.mapIdx (wv x M a)).set k (wv x' M a k c)))) = wW x' M := by
  apply List.ext_getElem?
  intro j
  simp only [wW, List.getElem?_set, List.getElem?_mapIdx, List.length_mapIdx]
  by_cases hj : a = j
  · subst hj
    have hl := (List.getElem?_eq_some_iff.mp hs).1
    simp only [hs, hl, if_true, Option.map_some, wE, Option.some.injEq, Sum.inr.injEq, Prod.mk.injEq, true_and]
    apply List.ext_getElem?
    intro i
    simp only [List.getElem?_set, List.getElem?_mapIdx, List.length_mapIdx]
    by_cases hi : k = i
    · subst hi
      have hl2 := (List.getElem?_eq_some_iff.mp hk).1
      simp only [if_true, hl2, hk, Option.map_some]
    · simp only [hi, if_false]
      cases hsi : s[i]? with
      | none => rfl
      | some c' => simp only [Option.map_some]; rw [hne a 3 ci s hs i c' hsi (fun h => hi h.2.symm)]
  · simp only [hj, if_false]
    cases hsj : wsh[j]? with
    | none => rfl
    | some q =>
      obtain ⟨t, n, s'⟩ := q
      simp only [Option.map_some, Option.some.injEq]
      unfold wE
      have e : s'.mapIdx (wv x M j) = s'.mapIdx (wv x' M j) := by
        apply List.ext_getElem?
        intro i
        simp only [List.getElem?_mapIdx]
        cases hsi : s'[i]? with
        | none => rfl
        | some c' => simp only [Option.map_some]; rw [hne j t n s' hsj i c' hsi (fun h => hj h.1.symm)]
      simp only [e]
section S18
variable {x : wC} {M : wM} {mi pc : Nat} {l st : List Value} {Q : Option Value → wC → wM → Prop} {ln a b w : Nat}
def xsd (x : wC) (o : Nat) (v : Int64) : wC := (fun b => if b = o then v else x.1 b, x.2)
theorem y_pl {q o : Nat} {v : Int64} (hc : zcode mi pc = some (.putfield q, ln, a, b, w)) (hw : wch o a b = 1) (ht : zcY a b = .long) (hu : ∀ s, wsh[o]? = some (3, a, s) → ∀ i, i ≠ b → s[i]? ≠ some 1) (k : yG (xsd x o v) M mi (pc + 3) l st Q) : yG x M mi pc l (.long v :: .ref o :: st) Q := by
  obtain ⟨s, h1, h2, h3, h4⟩ := wch_get x M hw (by omega)
  have hl := (List.getElem?_eq_some_iff.mp h3).1
  refine y_st (pc' := pc + 3) (l' := l) (st' := st) (x' := xsd x o v) (M' := M) hc rfl ?_ id k
  simp only [zst, h2, ht]
  have e := wW_putx (x := x) (x' := xsd x o v) (M := M) h1 h4 (fun b' t n s' hs' i c' hc' hne => by
    unfold wv xsd
    by_cases hb : b' = o
    · subst hb
      rw [h1] at hs'
      cases hs'
      by_cases h1' : c' = 1
      · subst h1'; exact absurd hc' (hu s h1 i (fun e => hne ⟨rfl, e⟩))
      · simp only [h1', if_false]
    · simp only [hb, if_false])
  have ev : wv (xsd x o v) M o b 1 = .long v := by unfold wv xsd; simp
  rw [ev] at e
  rw [if_pos ⟨trivial, hl, rfl, rfl⟩, e]
def wunq (c : Nat) (a k : Nat) : Bool := wsh.zipIdx.all fun e => e.1.2.2.zipIdx.all fun f => !(f.1 == c) || (e.2 == a && f.2 == k)
theorem wunq_of {c a k : Nat} (h : wunq c a k = true) {b t n i : Nat} {s : List Nat} (hs : wsh[b]? = some (t, n, s)) (hi : s[i]? = some c) : b = a ∧ i = k := by
  have h1 := List.all_eq_true.mp h ((t, n, s), b) (by rw [List.mem_zipIdx_iff_getElem?]; exact hs)
  have h2 := List.all_eq_true.mp h1 (c, i) (by rw [List.mem_zipIdx_iff_getElem?]; exact hi)
  simpa using h2
theorem wunq_p : wunq 1000 0 1 = true := by decide +kernel
theorem wunq_d : wunq 1001 0 2 = true := by decide +kernel
theorem y_pp {q r : Nat} (hc : zcode mi pc = some (.putfield q, ln, 7, 1, w)) (k : yG (x.1, r, x.2.2) M mi (pc + 3) l st Q) : yG x M mi pc l (.ref r :: .ref 0 :: st) Q := by
  obtain ⟨s, h1, h2, h3, h4⟩ := wch_get x M (a := 0) (ci := 7) (k := 1) (c := 1000) rfl (by omega)
  have hl := (List.getElem?_eq_some_iff.mp h3).1
  refine y_st (pc' := pc + 3) (l' := l) (st' := st) (x' := (x.1, r, x.2.2)) (M' := M) hc rfl ?_ id k
  simp only [zst, h2]
  have e := wW_putx (x := x) (x' := (x.1, r, x.2.2)) (M := M) h1 h4 (fun b' t n s' hs' i c' hc' hne => by
    by_cases h1' : c' = 1000
    · subst h1'; exact absurd (wunq_of wunq_p hs' hc') hne
    · unfold wv; simp only [h1', if_false])
  have ev : wv (x.1, r, x.2.2) M 0 1 1000 = .ref r := by unfold wv; simp
  rw [ev] at e
  rw [if_pos ⟨trivial, hl, rfl, rfl⟩, e]
theorem y_pd {q r : Nat} (hc : zcode mi pc = some (.putfield q, ln, 7, 2, w)) (k : yG (x.1, x.2.1, r) M mi (pc + 3) l st Q) : yG x M mi pc l (.ref r :: .ref 0 :: st) Q := by
  obtain ⟨s, h1, h2, h3, h4⟩ := wch_get x M (a := 0) (ci := 7) (k := 2) (c := 1001) rfl (by omega)
  have hl := (List.getElem?_eq_some_iff.mp h3).1
  refine y_st (pc' := pc + 3) (l' := l) (st' := st) (x' := (x.1, x.2.1, r)) (M' := M) hc rfl ?_ id k
  simp only [zst, h2]
  have e := wW_putx (x := x) (x' := (x.1, x.2.1, r)) (M := M) h1 h4 (fun b' t n s' hs' i c' hc' hne => by
    by_cases h1' : c' = 1001
    · subst h1'; exact absurd (wunq_of wunq_d hs' hc') hne
    · unfold wv; simp only [h1', if_false])
  have ev : wv (x.1, x.2.1, r) M 0 2 1001 = .ref r := by unfold wv; simp
  rw [ev] at e
  rw [if_pos ⟨trivial, hl, rfl, rfl⟩, e]
def aNs (s : Int64) : Int64 := s * lI (6364136223846793005 : Nat) + lI (1442695040888963407 : Nat)
def aDz (s : Int64) : Nat := s.toUInt64.toNat / 2 ^ 33 % 28
theorem lI_t64 {z : Int} (h : -9223372036854775808 ≤ z ∧ z < 9223372036854775808) : (lI z).toInt = z := by
  unfold lI
  rw [Int64.toInt_ofInt]
  exact Int.bmod_eq_of_le (by show -((18446744073709551616 : Int) / 2) ≤ z; omega) (by show z < ((18446744073709551616 : Int) + 1) / 2; omega)
theorem dz_u (s : Int64) : (s.toUInt64 >>> ((iI 33).toInt64.toUInt64 &&& Int64.toUInt64 63)).toInt64 = lI ((s.toUInt64.toNat / 2 ^ 33 : Nat) : Int) := by
  have e : (iI 33).toInt64.toUInt64 &&& Int64.toUInt64 63 = 33 := by decide +kernel
  rw [e]
  have hlt : s.toUInt64.toNat < 2 ^ 64 := s.toUInt64.toNat_lt
  have h31 : s.toUInt64.toNat / 2 ^ 33 < 2 ^ 31 := by omega
  have h1 : (s.toUInt64 >>> (33 : UInt64)).toNat = s.toUInt64.toNat / 2 ^ 33 := by
    rw [UInt64.toNat_shiftRight, Nat.shiftRight_eq_div_pow]; rfl
  rw [← Int64.toInt_inj, lI_t64 (by omega)]
  show ((s.toUInt64 >>> (33 : UInt64)).toBitVec).toInt = _
  rw [BitVec.toInt_eq_toNat_of_lt]
  · show (((s.toUInt64 >>> (33 : UInt64)).toNat : Nat) : Int) = _
    rw [h1]
  · show 2 * (s.toUInt64 >>> (33 : UInt64)).toNat < 2 ^ 64
    rw [h1]; omega
theorem lI_sub (a b : Int) : lI a - lI b = lI (a - b) := by simp [lI]
theorem lI_mul (a b : Int) : lI a * lI b = lI (a * b) := by simp [lI]
theorem dz_eq (s : Int64) : ((s.toUInt64 >>> ((iI 33).toInt64.toUInt64 &&& Int64.toUInt64 63)).toInt64 - (s.toUInt64 >>> ((iI 33).toInt64.toUInt64 &&& Int64.toUInt64 63)).toInt64 / lI ((28 : Nat) : Int) * lI ((28 : Nat) : Int)).toInt32 = iI (aDz s : Int) := by
  rw [dz_u]
  unfold aDz
  have hlt : s.toUInt64.toNat < 2 ^ 64 := s.toUInt64.toNat_lt
  have h31 : s.toUInt64.toNat / 2 ^ 33 < 2 ^ 31 := by omega
  generalize s.toUInt64.toNat / 2 ^ 33 = n at h31
  have hd : lI (n : Int) / lI ((28 : Nat) : Int) = lI ((n / 28 : Nat) : Int) := by
    rw [← Int64.toInt_inj, Int64.toInt_div, lI_t64 (by omega), lI_t64 (by omega), lI_t64 (by omega)]
    have : (n : Int).tdiv ((28 : Nat) : Int) = ((n / 28 : Nat) : Int) := by rw [Int.tdiv_eq_ediv_of_nonneg (by omega)]; omega
    rw [this]
    exact Int.bmod_eq_of_le (by show -((18446744073709551616 : Int) / 2) ≤ _; omega) (by show _ < ((18446744073709551616 : Int) + 1) / 2; omega)
  rw [hd, lI_mul, lI_sub, show ((n : Int) - ((n / 28 : Nat) : Int) * ((28 : Nat) : Int)) = ((n % 28 : Nat) : Int) by omega]
  rw [← Int32.toInt_inj, Int64.toInt_toInt32, lI_t64 (by omega), iI_ti (by omega)]
  exact Int.bmod_eq_of_le (by show -((4294967296 : Int) / 2) ≤ _; omega) (by show _ < ((4294967296 : Int) + 1) / 2; omega)
theorem aDz_lt (s : Int64) : aDz s < 28 := Nat.mod_lt _ (by omega)
end S18

