/-! ===== the search: what it has seen ===== -/
def seen : List Nat → Nat → List Nat → Prop
  | _, _, [] => True
  | [], c, y :: _ => y < c
  | x :: qs, c, y :: r => y < x ∨ (y = x ∧ seen qs c r)
theorem seen_pop {Y x : Nat} : ∀ (q q' : List Nat), (∀ y ∈ q', y < Y) → (seen (q ++ [x]) Y q' ↔ seen q (x + 1) q')
  | [], [], _ => by simp [seen]
  | _ :: _, [], _ => by simp [seen]
  | [], y :: r, h => by
    show (y < x ∨ (y = x ∧ seen [] Y r)) ↔ y < x + 1
    have hr : seen [] Y r := by
      cases r with
      | nil => trivial
      | cons z t => exact h z (List.mem_cons_of_mem _ List.mem_cons_self)
    exact ⟨fun g => g.elim (fun g => by omega) (fun g => by omega), fun g => if e : y = x then Or.inr ⟨e, hr⟩ else Or.inl (by omega)⟩
  | a :: qs, y :: r, h => by
    show (y < a ∨ (y = a ∧ seen (qs ++ [x]) Y r)) ↔ (y < a ∨ (y = a ∧ seen qs (x + 1) r))
    rw [seen_pop qs r (fun z hz => h z (List.mem_cons_of_mem _ hz))]
theorem seen_skip {c : Nat} : ∀ (q q' : List Nat), (seen q (c + 1) q' ↔ seen q c q' ∨ ∃ r, q' = q ++ c :: r)
  | [], [] => by simp [seen]
  | _ :: _, [] => by simp [seen]
  | [], y :: r => by
    show y < c + 1 ↔ y < c ∨ ∃ t, y :: r = c :: t
    constructor
    · intro g
      by_cases e : y = c
      · subst e; exact Or.inr ⟨r, rfl⟩
      · exact Or.inl (by omega)
    · rintro (g | ⟨t, g⟩)
      · omega
      · injection g with g1 g2; omega
  | a :: qs, y :: r => by
    show (y < a ∨ (y = a ∧ seen qs (c + 1) r)) ↔ (y < a ∨ (y = a ∧ seen qs c r)) ∨ ∃ t, y :: r = a :: (qs ++ c :: t)
    rw [seen_skip qs r]
    constructor
    · rintro (g | ⟨g, g2 | ⟨t, g2⟩⟩)
      · exact Or.inl (Or.inl g)
      · exact Or.inl (Or.inr ⟨g, g2⟩)
      · exact Or.inr ⟨t, by rw [g, g2]⟩
    · rintro ((g | ⟨g, g2⟩) | ⟨t, g⟩)
      · exact Or.inl g
      · exact Or.inr ⟨g, Or.inl g2⟩
      · injection g with g1 g2
        exact Or.inr ⟨g1, Or.inr ⟨t, g2⟩⟩
theorem seen_push {c : Nat} : ∀ (q q' : List Nat), (seen (q ++ [c]) 0 q' ↔ seen q c q' ∨ q' = q ++ [c])
  | [], [] => by simp [seen]
  | _ :: _, [] => by simp [seen]
  | [], y :: r => by
    show (y < c ∨ (y = c ∧ seen [] 0 r)) ↔ y < c ∨ y :: r = [c]
    cases r with
    | nil => simp [seen]
    | cons z t => simp [seen]
  | a :: qs, y :: r => by
    show (y < a ∨ (y = a ∧ seen (qs ++ [c]) 0 r)) ↔ (y < a ∨ (y = a ∧ seen qs c r)) ∨ y :: r = a :: (qs ++ [c])
    rw [seen_push qs r]
    constructor
    · rintro (g | ⟨g, g2 | g2⟩)
      · exact Or.inl (Or.inl g)
      · exact Or.inl (Or.inr ⟨g, g2⟩)
      · exact Or.inr (by rw [g, g2])
    · rintro ((g | ⟨g, g2⟩) | g)
      · exact Or.inl g
      · exact Or.inr ⟨g, Or.inl g2⟩
      · injection g with g1 g2
        exact Or.inr ⟨g1, Or.inr g2⟩
theorem seen_0 (q' : List Nat) : seen [] 0 q' ↔ q' = [] := by
  cases q' with
  | nil => simp [seen]
  | cons y t => simp [seen]
theorem seen_all {Y : Nat} {q' : List Nat} (h : ∀ y ∈ q', y < Y) : seen [] Y q' := by
  cases q' with
  | nil => trivial
  | cons y t => exact h y List.mem_cons_self
def smu : Nat → List Nat → Nat → Nat
  | e, [], c => (6 - c) * 8 ^ e
  | e, x :: qs, c => (5 - x) * 8 ^ e + 1 + smu (e - 1) qs c
theorem smu_pop {x Y : Nat} (hx : x < 6) : ∀ (q : List Nat) (e : Nat), smu e q (x + 1) < smu e (q ++ [x]) Y
  | [], e => by
    show (6 - (x + 1)) * 8 ^ e < (5 - x) * 8 ^ e + 1 + (6 - Y) * 8 ^ (e - 1)
    rw [show 6 - (x + 1) = 5 - x by omega]; omega
  | a :: qs, e => by
    have := smu_pop (Y := Y) hx qs (e - 1)
    show (5 - a) * 8 ^ e + 1 + smu (e - 1) qs (x + 1) < (5 - a) * 8 ^ e + 1 + smu (e - 1) (qs ++ [x]) Y
    omega
theorem smu_skip {c : Nat} (hc : c < 6) : ∀ (q : List Nat) (e : Nat), smu e q (c + 1) < smu e q c
  | [], e => by
    show (6 - (c + 1)) * 8 ^ e < (6 - c) * 8 ^ e
    exact Nat.mul_lt_mul_of_pos_right (by omega) (Nat.pow_pos (by omega))
  | a :: qs, e => by
    have := smu_skip hc qs (e - 1)
    show (5 - a) * 8 ^ e + 1 + smu (e - 1) qs (c + 1) < (5 - a) * 8 ^ e + 1 + smu (e - 1) qs c
    omega
theorem smu_push {c : Nat} (hc : c < 6) : ∀ (q : List Nat) (e : Nat), q.length < e → smu e (q ++ [c]) 0 < smu e q c
  | [], e, he => by
    obtain ⟨k, rfl⟩ : ∃ k, e = k + 1 := ⟨e - 1, by simp at he; omega⟩
    show (5 - c) * 8 ^ (k + 1) + 1 + (6 - 0) * 8 ^ (k + 1 - 1) < (6 - c) * 8 ^ (k + 1)
    have hp : 0 < 8 ^ k := Nat.pow_pos (by omega)
    rw [show 6 - c = (5 - c) + 1 by omega, Nat.add_mul, Nat.one_mul, Nat.add_sub_cancel, Nat.pow_succ]
    omega
  | a :: qs, e, he => by
    have := smu_push hc qs (e - 1) (by simp at he; omega)
    show (5 - a) * 8 ^ e + 1 + smu (e - 1) (qs ++ [c]) 0 < (5 - a) * 8 ^ e + 1 + smu (e - 1) qs c
    omega
def aFw (P : aP) (R : aR) (m : Nat) (V : List Nat → Prop) (F : aF5) : Prop :=
  (F.1 = -9 ∧ F.2.2.1 = -9 ∧ ∀ q, V q → ¬ aDec P R m q) ∨ ∃ q, V q ∧ aDec P R m q ∧ F.1 = (aWarm P R.2.2.2 : Int) + aWarm P q ∧ F.2.1 = aS P R q ∧ F.2.2.1 = aFig q ∧ ∀ q', V q' → aDec P R m q' → aBet (aWarm P q) (aS P R q) (aFig q) (aWarm P q') (aS P R q') (aFig q')
def aFs (P : aP) (R : aR) (m : Nat) (V : List Nat → Prop) (F : aF5) : Prop :=
  (F.2.2.2.1 = -9 ∧ F.2.2.2.2 = -9 ∧ ∀ q, V q → ¬ aDec P R m q) ∨ ∃ q, V q ∧ aDec P R m q ∧ F.2.2.2.1 = aS P R q ∧ F.2.2.2.2 = aFig q ∧ ∀ q', V q' → aDec P R m q' → aBet 0 (aS P R q) (aFig q) 0 (aS P R q') (aFig q')
theorem aFw_iff {P : aP} {R : aR} {m : Nat} {V V' : List Nat → Prop} {F : aF5} (h : aFw P R m V F) (hv : ∀ q, aDec P R m q → (V q ↔ V' q)) : aFw P R m V' F := by
  rcases h with ⟨a, b, c⟩ | ⟨q, a, b, c, d, e, f⟩
  · exact Or.inl ⟨a, b, fun q hq hd => c q ((hv q hd).mpr hq) hd⟩
  · exact Or.inr ⟨q, (hv q b).mp a, b, c, d, e, fun q' hq hd => f q' ((hv q' hd).mpr hq) hd⟩
theorem aFs_iff {P : aP} {R : aR} {m : Nat} {V V' : List Nat → Prop} {F : aF5} (h : aFs P R m V F) (hv : ∀ q, aDec P R m q → (V q ↔ V' q)) : aFs P R m V' F := by
  rcases h with ⟨a, b, c⟩ | ⟨q, a, b, c, d, f⟩
  · exact Or.inl ⟨a, b, fun q hq hd => c q ((hv q hd).mpr hq) hd⟩
  · exact Or.inr ⟨q, (hv q b).mp a, b, c, d, fun q' hq hd => f q' ((hv q' hd).mpr hq) hd⟩
theorem aWarm_app (P : aP) (l q : List Nat) : aWarm P (l ++ q) = aWarm P l + aWarm P q := by unfold aWarm; rw [List.map_append, List.sum_append]
theorem aFw_look {P : aP} {R : aR} {m : Nat} {V : List Nat → Prop} {F : aF5} {qn : List Nat} (h : aFw P R m V F) (hd : aDec P R m qn) : aFw P R m (fun q => V q ∨ q = qn) (aLk F (aWarm P (R.2.2.2 ++ qn) : Nat) (aS P R qn) (aFig qn : Nat)) := by
  rw [aWarm_app]
  rcases h with ⟨a, b, c⟩ | ⟨q, a, b, c, d, e, f⟩
  · refine Or.inr ⟨qn, Or.inr rfl, hd, ?_, ?_, ?_, fun q' hq' hd' => ?_⟩
    · simp [aLk, a]; omega
    · simp [aLk, a]; omega
    · simp [aLk, a]; omega
    · rcases hq' with hq' | rfl
      · exact absurd hd' (c q' hq')
      · exact (aBet_total _ _ _ _ _ _).elim id id
  · by_cases hb : (decide (F.1 < ((aWarm P R.2.2.2 + aWarm P qn : Nat) : Int)) || (decide (((aWarm P R.2.2.2 + aWarm P qn : Nat) : Int) = F.1) && (decide ((aS P R qn : Int) < F.2.1) || (decide ((aS P R qn : Int) = F.2.1) && decide ((aFig qn : Int) < F.2.2.1))))) = true
    · refine Or.inr ⟨qn, Or.inr rfl, hd, ?_, ?_, ?_, fun q' hq' hd' => ?_⟩
      · simp only [aLk, hb, if_true]; omega
      · simp only [aLk, hb, if_true]
      · simp only [aLk, hb, if_true]
      · simp only [Bool.or_eq_true, Bool.and_eq_true, decide_eq_true_iff] at hb
        rcases hq' with hq' | rfl
        · refine aBet_trans (w1 := aWarm P q) (c1 := aS P R q) (f1 := aFig q) ?_ (f q' hq' hd')
          unfold aBet; omega
        · exact (aBet_total _ _ _ _ _ _).elim id id
    · refine Or.inr ⟨q, Or.inl a, b, ?_, ?_, ?_, fun q' hq' hd' => ?_⟩
      · simp only [aLk, Bool.eq_false_iff.mpr hb, Bool.false_eq_true, if_false]; exact c
      · simp only [aLk, Bool.eq_false_iff.mpr hb, Bool.false_eq_true, if_false]; exact d
      · simp only [aLk, Bool.eq_false_iff.mpr hb, Bool.false_eq_true, if_false]; exact e
      · rcases hq' with hq' | rfl
        · exact f q' hq' hd'
        · simp only [Bool.or_eq_true, Bool.and_eq_true, decide_eq_true_iff] at hb
          unfold aBet; omega
theorem aFs_look {P : aP} {R : aR} {m : Nat} {V : List Nat → Prop} {F : aF5} {qn : List Nat} {w : Int} (h : aFs P R m V F) (hd : aDec P R m qn) : aFs P R m (fun q => V q ∨ q = qn) (aLk F w (aS P R qn) (aFig qn : Nat)) := by
  rcases h with ⟨a, b, c⟩ | ⟨q, a, b, d, e, f⟩
  · refine Or.inr ⟨qn, Or.inr rfl, hd, ?_, ?_, fun q' hq' hd' => ?_⟩
    · simp [aLk, a]
    · simp [aLk, a]
    · rcases hq' with hq' | rfl
      · exact absurd hd' (c q' hq')
      · exact (aBet_total _ _ _ _ _ _).elim id id
  · by_cases hb : (decide (F.2.2.2.1 = -9) || (decide ((aS P R qn : Int) < F.2.2.2.1) || (decide ((aS P R qn : Int) = F.2.2.2.1) && decide ((aFig qn : Int) < F.2.2.2.2)))) = true
    · refine Or.inr ⟨qn, Or.inr rfl, hd, ?_, ?_, fun q' hq' hd' => ?_⟩
      · simp only [aLk, hb, if_true]
      · simp only [aLk, hb, if_true]
      · simp only [Bool.or_eq_true, Bool.and_eq_true, decide_eq_true_iff] at hb
        rcases hq' with hq' | rfl
        · refine aBet_trans (w1 := 0) (c1 := aS P R q) (f1 := aFig q) ?_ (f q' hq' hd')
          unfold aBet; omega
        · exact (aBet_total _ _ _ _ _ _).elim id id
    · refine Or.inr ⟨q, Or.inl a, b, ?_, ?_, fun q' hq' hd' => ?_⟩
      · simp only [aLk, Bool.eq_false_iff.mpr hb, Bool.false_eq_true, if_false]; exact d
      · simp only [aLk, Bool.eq_false_iff.mpr hb, Bool.false_eq_true, if_false]; exact e
      · rcases hq' with hq' | rfl
        · exact f q' hq' hd'
        · simp only [Bool.or_eq_true, Bool.and_eq_true, decide_eq_true_iff] at hb
          unfold aBet; omega
theorem aF_no {P : aP} {R : aR} {m : Nat} {V : List Nat → Prop} {qn : List Nat} (hd : ¬ aDec P R m qn) : ∀ q, aDec P R m q → (V q ↔ V q ∨ q = qn) := fun q hq => ⟨Or.inl, fun h => h.elim id (fun e => by subst e; exact absurd hq hd)⟩

