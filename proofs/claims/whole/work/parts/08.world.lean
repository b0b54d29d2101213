/-! ===== the world behind the constructors: whole numbers by cell and place ===== -/
abbrev wM : Type := Nat → Int → Int
abbrev wC : Type := (Nat → Int64) × Nat × Nat
def iI (z : Int) : Int32 := Int32.ofInt z
def lI (z : Int) : Int64 := Int64.ofInt z
abbrev wR (z : Int) : Prop := -2147483648 ≤ z ∧ z < 2147483648
def wRM (M : wM) : Prop := ∀ a k, wR (M a k)
def wup (M : wM) (a : Nat) (k v : Int) : wM := fun b j => if b = a ∧ j = k then v else M b j
def wsh : List (Nat × Nat × List Nat) := [(3, 7, [3, 1000, 1001, 35, 38, 41, 86, 95, 99, 0, 1, 107]),
  (3, 3, [4, 2000, 2255, 0]),
  (0, 56, []),
  (3, 2, [6, 8, 10, 12, 14, 16, 18]),
  (3, 3, [7, 2001, 2009, 0]),
  (0, 4, []),
  (3, 3, [9, 2000, 2003, 0]),
  (0, 4, []),
  (3, 3, [11, 2001, 2004, 0]),
  (0, 4, []),
  (3, 3, [13, 2000, 2003, 0]),
  (0, 4, []),
  (3, 3, [15, 2001, 2009, 0]),
  (0, 6, []),
  (3, 3, [17, 2000, 2009, 0]),
  (0, 6, []),
  (3, 3, [19, 2000, 2003, 0]),
  (0, 6, []),
  (3, 2, [21, 23, 25, 27, 29, 31, 33]),
  (3, 3, [22, 2001, 2009, 0]),
  (0, 4, []),
  (3, 3, [24, 2000, 2003, 0]),
  (0, 4, []),
  (3, 3, [26, 2001, 2004, 0]),
  (0, 4, []),
  (3, 3, [28, 2000, 2003, 0]),
  (0, 4, []),
  (3, 3, [30, 2001, 2009, 0]),
  (0, 6, []),
  (3, 3, [32, 2000, 2009, 0]),
  (0, 6, []),
  (3, 3, [34, 2000, 2003, 0]),
  (0, 6, []),
  (3, 4, [0, 0, 0, 36]),
  (3, 3, [37, 2000, 2005, 0]),
  (0, 6, []),
  (3, 4, [0, 0, 0, 39]),
  (3, 3, [40, 2000, 2005, 0]),
  (0, 6, []),
  (3, 0, [42, 0, 0]),
  (3, 5, [43]),
  (2, 14, [42, 45, 48, 51, 54, 57, 60, 63, 66, 69, 72, 75, 78, 81]),
  (3, 4, [0, 0, 0, 45]),
  (3, 3, [46, 2000, 2005, 0]),
  (0, 6, []),
  (3, 4, [0, 0, 0, 48]),
  (3, 3, [49, 2000, 2005, 0]),
  (0, 6, []),
  (3, 4, [0, 0, 0, 51]),
  (3, 3, [52, 2000, 2005, 0]),
  (0, 6, []),
  (3, 4, [0, 0, 0, 54]),
  (3, 3, [55, 2000, 2005, 0]),
  (0, 6, []),
  (3, 4, [0, 0, 0, 57]),
  (3, 3, [58, 2000, 2005, 0]),
  (0, 6, []),
  (3, 4, [0, 0, 0, 60]),
  (3, 3, [61, 2000, 2005, 0]),
  (0, 6, []),
  (3, 4, [0, 0, 0, 63]),
  (3, 3, [64, 2000, 2005, 0]),
  (0, 6, []),
  (3, 4, [0, 0, 0, 66]),
  (3, 3, [67, 2000, 2005, 0]),
  (0, 6, []),
  (3, 4, [0, 0, 0, 69]),
  (3, 3, [70, 2000, 2005, 0]),
  (0, 6, []),
  (3, 4, [0, 0, 0, 72]),
  (3, 3, [73, 2000, 2005, 0]),
  (0, 6, []),
  (3, 4, [0, 0, 0, 75]),
  (3, 3, [76, 2000, 2005, 0]),
  (0, 6, []),
  (3, 4, [0, 0, 0, 78]),
  (3, 3, [79, 2000, 2005, 0]),
  (0, 6, []),
  (3, 4, [0, 0, 0, 81]),
  (3, 3, [82, 2000, 2005, 0]),
  (0, 6, []),
  (3, 4, [0, 0, 0, 84]),
  (3, 3, [85, 2000, 2005, 0]),
  (0, 6, []),
  (3, 6, [87, 89, 91, 93]),
  (3, 3, [88, 2000, 2005, 0]),
  (0, 6, []),
  (3, 3, [90, 2000, 2005, 0]),
  (0, 6, []),
  (3, 3, [92, 2001, 2004, 0]),
  (0, 6, []),
  (3, 3, [94, 2000, 2099, 0]),
  (0, 6, []),
  (3, 1, [96, 97, 98, 0, 0, 0]),
  (0, 256, []),
  (0, 256, []),
  (0, 64, []),
  (3, 5, [100]),
  (2, 2, [99, 102]),
  (3, 4, [0, 0, 0, 102]),
  (3, 3, [103, 2000, 2005, 0]),
  (0, 6, []),
  (3, 4, [0, 0, 0, 105]),
  (3, 3, [106, 2000, 2005, 0]),
  (0, 6, []),
  (0, 4, []),
  (3, 8, [0, 109, 0, 0, 0, 110, 0, 111, 0, 112, 0, 113, 0, 114, 0, 115, 116, 117, 118, 0, 119, 120, 0, 121, 122, 123, 124, 1, 125, 126, 0, 0, 0, 0, 0, 0, 0, 0, 0, 127, 128]),
  (0, 56, []),
  (0, 8, []),
  (0, 8, []),
  (0, 18, []),
  (0, 8, []),
  (0, 8, []),
  (0, 18, []),
  (0, 10, []),
  (0, 10, []),
  (0, 140, []),
  (0, 20, []),
  (1, 2, []),
  (0, 6, []),
  (0, 6, []),
  (0, 6, []),
  (0, 6, []),
  (0, 8, []),
  (0, 8, []),
  (0, 8, []),
  (0, 64, [])]
def wv (x : wC) (M : wM) (a k c : Nat) : Value :=
  if c = 0 then .int (iI (M a k)) else if c = 1 then .long (x.1 a) else if c = 1000 then .ref x.2.1 else if c = 1001 then .ref x.2.2 else if 2000 ≤ c then .int (iI ((c - 2000 : Nat) : Int)) else .ref (c - 2)
def wE (x : wC) (M : wM) (a : Nat) (s : Nat × Nat × List Nat) : zE := match s.1 with
  | 0 => .inl (0, s.2.1, fun k => iI (M a k))
  | 1 => .inl (1, s.2.1, fun k => iI (M a k))
  | 2 => .inr (.inl (s.2.1, fun k => s.2.2[k]?))
  | _ => .inr (.inr (s.2.1, s.2.2.mapIdx (wv x M a)))
def wW (x : wC) (M : wM) : List zE := wsh.mapIdx (wE x M)
/-- the kind of a field: of the object at a, of class ci, the k-th -/
def wch (a ci k : Nat) : Nat := match wsh[a]? with
  | some (3, c, s) => if c = ci then s.getD k 9999 else 9999
  | _ => 9999
/-- an array: of ints 0, of booleans 1; how long -/
def war (a : Nat) : Nat × Nat := match wsh[a]? with
  | some (0, n, _) => (0, n)
  | some (1, n, _) => (1, n)
  | _ => (9, 0)
def wcl (a : Nat) : Nat := match wsh[a]? with
  | some (3, c, _) => c
  | _ => 9999
theorem wup_s (M : wM) (a : Nat) (k v : Int) : wup M a k v a k = v := by simp [wup]
theorem wup_n (M : wM) {a b : Nat} {k j : Int} (v : Int) (h : ¬ (b = a ∧ j = k)) : wup M a k v b j = M b j := by simp [wup, h]
theorem wup_a (M : wM) {a b : Nat} (k v : Int) (j : Int) (h : b ≠ a) : wup M a k v b j = M b j := by simp [wup, h]
theorem wup_k (M : wM) {a : Nat} {k j : Int} (v : Int) (h : j ≠ k) : wup M a k v a j = M a j := by simp [wup, h]
theorem wRM_up {M : wM} (h : wRM M) (a : Nat) (k : Int) {v : Int} (hv : wR v) : wRM (wup M a k v) := by
  intro b j
  unfold wup
  split
  · exact hv
  · exact h b j
theorem wW_get (x : wC) (M : wM) {a : Nat} {s : Nat × Nat × List Nat} (h : wsh[a]? = some s) : (wW x M)[a]? = some (wE x M a s) := by
  simp [wW, List.getElem?_mapIdx, h]
theorem wch_get (x : wC) (M : wM) {a ci k c : Nat} (h : wch a ci k = c) (hc : c < 9999) : ∃ s : List Nat, wsh[a]? = some (3, ci, s) ∧ (wW x M)[a]? = some (.inr (.inr (ci, s.mapIdx (wv x M a)))) ∧ (s.mapIdx (wv x M a))[k]? = some (wv x M a k c) ∧ s[k]? = some c := by
  unfold wch at h
  split at h
  · rename_i c2 s hs
    split at h
    · rename_i he
      subst he
      refine ⟨s, hs, wW_get x M hs, ?_, ?_⟩
      all_goals
        rw [List.getD_eq_getElem?_getD] at h
        cases hk : s[k]? with
        | none => rw [hk] at h; simp at h; omega
        | some c3 =>
          rw [hk] at h
          simp only [Option.getD_some] at h
          subst h
          first | rfl | simp [List.getElem?_mapIdx, hk]
    · omega
  · omega
theorem wE_off (x : wC) {M M' : wM} {a : Nat} (s : Nat × Nat × List Nat) (h : ∀ k, M' a k = M a k) : wE x M' a s = wE x M a s := by
  have e : M' a = M a := funext h
  have e2 : wv x M' a = wv x M a := by funext k c; simp only [wv, e]
  unfold wE
  simp only [e, e2]
/-- one int field is put -/
theorem wW_put (x : wC) (M : wM) {a ci k : Nat} {s : List Nat} (hs : wsh[a]? = some (3, ci, s)) (hk : s[k]? = some 0) (v : Int) :
    (wW x M).set a (.inr (.inr (ci, (s.mapIdx (wv x M a)).set k (.int (iI v))))) = wW x (wup M a k v) := by
  apply List.ext_getElem?
  intro j
  simp only [wW, List.getElem?_set, List.getElem?_mapIdx, List.length_mapIdx]
  by_cases hj : a = j
  · subst hj
    have hl := (List.getElem?_eq_some_iff.mp hs).1
    simp only [hs, hl, if_true, Option.map_some, wE, Option.some.injEq, Sum.inr.injEq, Prod.mk.injEq, true_and]
    apply List.ext_getElem?
    intro i
    simp only [List.getElem?_set, List.getElem?_mapIdx, List.length_mapIdx]
    by_cases hi : k = i
    · subst hi
      have hl2 := (List.getElem?_eq_some_iff.mp hk).1
      have hk2 : s[k] = 0 := (List.getElem?_eq_some_iff.mp hk).2
      simp [hl2, hk2, wv, wup]
    · simp only [hi, if_false]
      congr 1
      funext c
      have h2 : ¬ ((i : Int) = (k : Int)) := by omega
      simp [wv, wup, h2]
  · simp only [hj, if_false]
    congr 1
    funext q
    exact (wE_off x q (fun i => wup_a M k v i (fun e => hj e.symm))).symm
theorem war_get (x : wC) (M : wM) {a t n : Nat} (h : war a = (t, n)) (ht : t < 2) : ∃ s : List Nat, wsh[a]? = some (t, n, s) ∧ (wW x M)[a]? = some (.inl (t, n, fun k => iI (M a k))) := by
  unfold war at h
  split at h
  · rename_i n2 s hs
    cases h
    exact ⟨s, hs, wW_get x M hs⟩
  · rename_i n2 s hs
    cases h
    exact ⟨s, hs, wW_get x M hs⟩
  · cases h
    omega
/-- one place of an int array is stored -/
theorem wW_sto (x : wC) (M : wM) {a t n : Nat} {s : List Nat} (hs : wsh[a]? = some (t, n, s)) (ht : t < 2) (i : Nat) (v : Int) :
    (wW x M).set a (.inl (t, n, upd (fun k => iI (M a k)) i (iI v))) = wW x (wup M a i v) := by
  apply List.ext_getElem?
  intro j
  simp only [wW, List.getElem?_set, List.getElem?_mapIdx, List.length_mapIdx]
  by_cases hj : a = j
  · subst hj
    have hl := (List.getElem?_eq_some_iff.mp hs).1
    have e : (fun k : Nat => iI (wup M a i v a k)) = upd (fun k => iI (M a k)) i (iI v) := by
      funext k
      by_cases hk : k = i
      · subst hk
        simp [upd, wup]
      · have h2 : ¬ ((k : Int) = (i : Int)) := by omega
        simp [upd, wup, hk, h2]
    simp only [hs, hl, if_true, Option.map_some, Option.some.injEq]
    rcases (show t = 0 ∨ t = 1 by omega) with rfl | rfl
    · show _ = Sum.inl (0, n, fun k : Nat => iI (wup M a i v a k))
      rw [e]
    · show _ = Sum.inl (1, n, fun k : Nat => iI (wup M a i v a k))
      rw [e]
  · simp only [hj, if_false]
    congr 1
    funext q
    exact (wE_off x q (fun k => wup_a M i v k (fun e => hj e.symm))).symm
/-! whole numbers -/
theorem iI_ti {z : Int} (h : wR z) : (iI z).toInt = z := by
  unfold iI
  rw [Int32.toInt_ofInt]
  exact Int.bmod_eq_of_le (by show -((4294967296 : Int) / 2) ≤ z; omega) (by show z < ((4294967296 : Int) + 1) / 2; omega)
theorem iI_of (v : Int32) : v = iI v.toInt := by simp [iI]
theorem wR_of (v : Int32) : wR v.toInt := ⟨by have := Int32.minValue_le_toInt v; simpa using this, by have := Int32.toInt_lt v; simpa using this⟩
theorem iI_add (x y : Int) : iI x + iI y = iI (x + y) := by simp [iI, Int32.ofInt_add]
theorem iI_sub (x y : Int) : iI x - iI y = iI (x - y) := by simp [iI, Int32.ofInt_sub]
theorem iI_mul (x y : Int) : iI x * iI y = iI (x * y) := by simp [iI, Int32.ofInt_mul]
theorem iI_neg (x : Int) : -iI x = iI (-x) := by simp [iI, Int32.ofInt_neg]
theorem iI_lt {x y : Int} (hx : wR x) (hy : wR y) : iI x < iI y ↔ x < y := by rw [Int32.lt_iff_toInt_lt, iI_ti hx, iI_ti hy]
theorem iI_le {x y : Int} (hx : wR x) (hy : wR y) : iI x ≤ iI y ↔ x ≤ y := by rw [Int32.le_iff_toInt_le, iI_ti hx, iI_ti hy]
theorem iI_eq {x y : Int} (hx : wR x) (hy : wR y) : iI x = iI y ↔ x = y := by rw [← Int32.toInt_inj, iI_ti hx, iI_ti hy]
theorem iI_nat (n : Nat) : iI (n : Int) = nI n := by simp [iI, nI, Int32.ofInt_eq_ofNat]
theorem iI_clamp {x : Int} (h0 : 0 ≤ x) (h : wR x) : (iI x).toNatClampNeg = x.toNat := by
  have := iI_ti h
  simp [Int32.toNatClampNeg, this]
theorem iI_zin {x : Int} {n : Nat} (h0 : 0 ≤ x) (h1 : x < n) (h : wR x) : zin (iI x) n = true := by
  simp [zin, iI_ti h, h0, h1]

