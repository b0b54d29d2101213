/-! ===== the text is read ===== -/
abbrev aS3 := Nat × Nat × (Nat → List Nat)
def aRk (pt fg : Nat) : Option Nat := if pt = 71 then (if fg = 0 then some 0 else if fg = 1 then some 1 else none) else if pt = 83 then (if fg = 0 then some 2 else if fg = 1 then some 3 else none) else if pt = 89 then (if fg = 0 then some 4 else if fg = 1 then some 5 else if fg = 2 then some 6 else none) else none
def aCap (f : Nat) : Nat := if f < 4 then 4 else 6
def aLo (f : Nat) : Nat := if f = 0 ∨ f = 2 ∨ f = 4 then 1 else 0
def aHi (f : Nat) : Nat := if f = 0 ∨ f = 4 ∨ f = 5 then 9 else if f = 2 then 4 else 3
def aAdd (rows : Nat → List Nat) (r n : Nat) : Nat → List Nat := fun f => if f = r then rows r ++ [n] else rows f
def aStp (ch : Nat) (s : aS3) : Option aS3 :=
  if s.1 = 0 then (match aRk ch 0 with
    | none => none
    | some r => if aCap r ≤ (s.2.2 r).length then none else some (ch, 0, s.2.2))
  else match aRk s.1 s.2.1 with
    | none => none
    | some r => if aLo r + 48 ≤ ch ∧ ch ≤ aHi r + 48 then some (if (aRk s.1 (s.2.1 + 1)).isNone = true then 0 else s.1, s.2.1 + 1, aAdd s.2.2 r (ch - 48)) else none
def aRun : List Nat → aS3 → Nat → Int × (Nat → List Nat)
  | [], s, i => (if s.1 = 0 then -9 else (i : Int), s.2.2)
  | c :: cs, s, i => match aStp c s with
    | none => ((i : Int), s.2.2)
    | some s' => aRun cs s' (i + 1)
def aFault : List Nat → Int × (Nat → List Nat)
  | [] => (0, fun _ => [])
  | c :: cs => if c = 69 then aRun cs (0, 0, fun _ => []) 1 else (0, fun _ => [])
def aPort (rows : Nat → List Nat) : aP := (fun f k => (rows f).getD k 0, (rows 0).length, (rows 2).length, (rows 4).length)
/-- what stands while it is read -/
def aIv (s : aS3) : Prop := (∀ f, f < 7 → ∀ v ∈ s.2.2 f, aLo f ≤ v ∧ v ≤ aHi f) ∧ (s.2.2 0).length ≤ 4 ∧ (s.2.2 2).length ≤ 4 ∧ (s.2.2 4).length ≤ 6 ∧
  ((s.1 = 0 ∧ (s.2.2 1).length = (s.2.2 0).length ∧ (s.2.2 3).length = (s.2.2 2).length ∧ (s.2.2 5).length = (s.2.2 4).length ∧ (s.2.2 6).length = (s.2.2 4).length)
  ∨ (s.1 = 71 ∧ s.2.1 = 0 ∧ (s.2.2 0).length < 4 ∧ (s.2.2 1).length = (s.2.2 0).length ∧ (s.2.2 3).length = (s.2.2 2).length ∧ (s.2.2 5).length = (s.2.2 4).length ∧ (s.2.2 6).length = (s.2.2 4).length)
  ∨ (s.1 = 71 ∧ s.2.1 = 1 ∧ (s.2.2 1).length + 1 = (s.2.2 0).length ∧ (s.2.2 3).length = (s.2.2 2).length ∧ (s.2.2 5).length = (s.2.2 4).length ∧ (s.2.2 6).length = (s.2.2 4).length)
  ∨ (s.1 = 83 ∧ s.2.1 = 0 ∧ (s.2.2 2).length < 4 ∧ (s.2.2 1).length = (s.2.2 0).length ∧ (s.2.2 3).length = (s.2.2 2).length ∧ (s.2.2 5).length = (s.2.2 4).length ∧ (s.2.2 6).length = (s.2.2 4).length)
  ∨ (s.1 = 83 ∧ s.2.1 = 1 ∧ (s.2.2 1).length = (s.2.2 0).length ∧ (s.2.2 3).length + 1 = (s.2.2 2).length ∧ (s.2.2 5).length = (s.2.2 4).length ∧ (s.2.2 6).length = (s.2.2 4).length)
  ∨ (s.1 = 89 ∧ s.2.1 = 0 ∧ (s.2.2 4).length < 6 ∧ (s.2.2 1).length = (s.2.2 0).length ∧ (s.2.2 3).length = (s.2.2 2).length ∧ (s.2.2 5).length = (s.2.2 4).length ∧ (s.2.2 6).length = (s.2.2 4).length)
  ∨ (s.1 = 89 ∧ s.2.1 = 1 ∧ (s.2.2 1).length = (s.2.2 0).length ∧ (s.2.2 3).length = (s.2.2 2).length ∧ (s.2.2 5).length + 1 = (s.2.2 4).length ∧ (s.2.2 6).length + 1 = (s.2.2 4).length)
  ∨ (s.1 = 89 ∧ s.2.1 = 2 ∧ (s.2.2 1).length = (s.2.2 0).length ∧ (s.2.2 3).length = (s.2.2 2).length ∧ (s.2.2 5).length = (s.2.2 4).length ∧ (s.2.2 6).length + 1 = (s.2.2 4).length))
theorem aAdd_v {rows : Nat → List Nat} {r n : Nat} (h : ∀ f, f < 7 → ∀ v ∈ rows f, aLo f ≤ v ∧ v ≤ aHi f) (hn : aLo r ≤ n ∧ n ≤ aHi r) : ∀ f, f < 7 → ∀ v ∈ aAdd rows r n f, aLo f ≤ v ∧ v ≤ aHi f := by
  intro f hf v hv
  unfold aAdd at hv
  split at hv
  · rename_i e
    subst e
    rcases List.mem_append.mp hv with hv | hv
    · exact h f hf v hv
    · have : v = n := by simpa using hv
      subst this; exact hn
  · exact h f hf v hv
theorem aAdd_l (rows : Nat → List Nat) (r n f : Nat) : (aAdd rows r n f).length = (rows f).length + if f = r then 1 else 0 := by
  unfold aAdd
  split
  · rename_i e; subst e; simp
  · simp
theorem aIv_get {s : aS3} (h : aIv s) (h0 : s.1 ≠ 0) : ∃ r, aRk s.1 s.2.1 = some r ∧ r < 7 ∧ (s.2.2 r).length < aCap r ∧ s.2.1 ≤ 2 ∧ s.1 < 256 := by
  obtain ⟨h1, h2, h3, h4, h5⟩ := h
  rcases h5 with h5 | h5 | h5 | h5 | h5 | h5 | h5 | h5
  · exact absurd h5.1 h0
  · exact ⟨0, by rw [h5.1, h5.2.1]; rfl, by decide, by show _ < 4; omega, by omega, by omega⟩
  · exact ⟨1, by rw [h5.1, h5.2.1]; rfl, by decide, by show _ < 4; omega, by omega, by omega⟩
  · exact ⟨2, by rw [h5.1, h5.2.1]; rfl, by decide, by show _ < 4; omega, by omega, by omega⟩
  · exact ⟨3, by rw [h5.1, h5.2.1]; rfl, by decide, by show _ < 4; omega, by omega, by omega⟩
  · exact ⟨4, by rw [h5.1, h5.2.1]; rfl, by decide, by show _ < 6; omega, by omega, by omega⟩
  · exact ⟨5, by rw [h5.1, h5.2.1]; rfl, by decide, by show _ < 6; omega, by omega, by omega⟩
  · exact ⟨6, by rw [h5.1, h5.2.1]; rfl, by decide, by show _ < 6; omega, by omega, by omega⟩
theorem aRk_0 {ch r : Nat} (h : aRk ch 0 = some r) : (ch = 71 ∧ r = 0) ∨ (ch = 83 ∧ r = 2) ∨ (ch = 89 ∧ r = 4) := by
  unfold aRk at h
  split at h
  · simp at h; omega
  split at h
  · simp at h; omega
  split at h
  · simp at h; omega
  · cases h
theorem aIv_eq {s : aS3} (h : aIv s) (h0 : s.1 = 0) : (s.2.2 1).length = (s.2.2 0).length ∧ (s.2.2 3).length = (s.2.2 2).length ∧ (s.2.2 5).length = (s.2.2 4).length ∧ (s.2.2 6).length = (s.2.2 4).length := by
  obtain ⟨-, -, -, -, h5⟩ := h
  rcases h5 with h5 | h5 | h5 | h5 | h5 | h5 | h5 | h5
  · exact h5.2
  all_goals
    have := h5.1
    omega
theorem aIv_lt {s : aS3} (h : aIv s) : s.1 < 256 := by
  obtain ⟨-, -, -, -, h5⟩ := h
  rcases h5 with h5 | h5 | h5 | h5 | h5 | h5 | h5 | h5
  all_goals
    have := h5.1
    omega
theorem aStp_iv {s s' : aS3} {ch : Nat} (h : aIv s) (hs : aStp ch s = some s') : aIv s' := by
  unfold aStp at hs
  by_cases h0 : s.1 = 0
  · rw [if_pos h0] at hs
    cases hr : aRk ch 0 with
    | none => rw [hr] at hs; cases hs
    | some r =>
      rw [hr] at hs
      simp only at hs
      split at hs
      · cases hs
      · rename_i hc
        cases hs
        obtain ⟨l1, l3, l5, l6⟩ := aIv_eq h h0
        obtain ⟨h1, h2, h3, h4, -⟩ := h
        refine ⟨h1, h2, h3, h4, ?_⟩
        rcases aRk_0 hr with ⟨rfl, rfl⟩ | ⟨rfl, rfl⟩ | ⟨rfl, rfl⟩
        · have : aCap 0 = 4 := rfl
          exact Or.inr (Or.inl ⟨rfl, rfl, by simp only; omega, l1, l3, l5, l6⟩)
        · have : aCap 2 = 4 := rfl
          exact Or.inr (Or.inr (Or.inr (Or.inl ⟨rfl, rfl, by simp only; omega, l1, l3, l5, l6⟩)))
        · have : aCap 4 = 6 := rfl
          exact Or.inr (Or.inr (Or.inr (Or.inr (Or.inr (Or.inl ⟨rfl, rfl, by simp only; omega, l1, l3, l5, l6⟩)))))
  · rw [if_neg h0] at hs
    obtain ⟨h1, h2, h3, h4, h5⟩ := id h
    obtain ⟨r, hr, hr7, hrl, -, -⟩ := aIv_get h h0
    rw [hr] at hs
    simp only at hs
    split at hs
    · rename_i hc
      cases hs
      have hv := aAdd_v (r := r) (n := ch - 48) h1 (by omega)
      have hl := aAdd_l s.2.2 r (ch - 48)
      have l0 := hl 0
      have l1 := hl 1
      have l2 := hl 2
      have l3 := hl 3
      have l4 := hl 4
      have l5 := hl 5
      have l6 := hl 6
      refine ⟨hv, ?_⟩
      simp only
      rcases h5 with h5 | h5 | h5 | h5 | h5 | h5 | h5 | h5
      · exact absurd h5.1 h0
      all_goals
        rw [h5.1, h5.2.1] at hr ⊢
        cases hr
        simp [aRk] at l0 l1 l2 l3 l4 l5 l6 ⊢
        rw [l0, l1, l2, l3, l4, l5, l6]
        simp [aCap] at hrl
        omega
    · cases hs
theorem aIv_0 : aIv (0, 0, fun _ => []) := ⟨fun f _ v hv => by simp at hv, by decide, by decide, by decide, Or.inl ⟨rfl, rfl, rfl, rfl, rfl⟩⟩
theorem aRun_iv : ∀ (cs : List Nat) (s : aS3) (i : Nat), aIv s → ∀ rows, aRun cs s i = (-9, rows) → aIv (0, 0, rows)
  | [], s, i, h, rows, hr => by
    simp only [aRun] at hr
    injection hr with e1 e2
    by_cases h0 : s.1 = 0
    · have l := aIv_eq h h0
      obtain ⟨h1, h2, h3, h4, -⟩ := h
      rw [e2] at h1 h2 h3 h4 l
      exact ⟨h1, h2, h3, h4, Or.inl ⟨rfl, l⟩⟩
    · rw [if_neg h0] at e1; omega
  | c :: cs, s, i, h, rows, hr => by
    simp only [aRun] at hr
    cases hst : aStp c s with
    | none => rw [hst] at hr; injection hr with e1 e2; omega
    | some s' => rw [hst] at hr; exact aRun_iv cs s' (i + 1) (aStp_iv h hst) rows hr
theorem aFault_iv {T : List Nat} {rows : Nat → List Nat} (h : aFault T = (-9, rows)) : aIv (0, 0, rows) := by
  unfold aFault at h
  split at h
  · injection h with e1 e2; omega
  · split at h
    · exact aRun_iv _ _ _ aIv_0 _ h
    · injection h with e1 e2; omega
theorem aIv_port {rows : Nat → List Nat} (h : aIv (0, 0, rows)) : aPok (aPort rows) := by
  have h9 := h
  obtain ⟨h1, h2, h3, h4, h5⟩ := h
  simp only at h1 h2 h3 h4 h5
  have hm : ∀ f i, i < (rows f).length → (rows f).getD i 0 ∈ rows f := fun f i hi => mem_getD hi
  have l := aIv_eq h9 rfl
  refine ⟨h2, h3, h4, fun i hi => ?_, fun i hi => ?_, fun i hi => ?_⟩
  · have a := h1 0 (by decide) _ (hm 0 i hi)
    have b := h1 1 (by decide) _ (hm 1 i (by rw [l.1]; exact hi))
    simp [aLo, aHi] at a b
    exact ⟨a.1, a.2, b⟩
  · have a := h1 2 (by decide) _ (hm 2 i hi)
    have b := h1 3 (by decide) _ (hm 3 i (by rw [l.2.1]; exact hi))
    simp [aLo, aHi] at a b
    exact ⟨a.1, a.2, b⟩
  · have a := h1 4 (by decide) _ (hm 4 i hi)
    have b := h1 5 (by decide) _ (hm 5 i (by rw [l.2.2.1]; exact hi))
    have c := h1 6 (by decide) _ (hm 6 i (by rw [l.2.2.2]; exact hi))
    simp [aLo, aHi] at a b c
    exact ⟨a.1, a.2, b, c⟩
def wrows (M : wM) (p : Nat) (rows : Nat → List Nat) : Prop := ∀ f, f < 7 → M (p + 1 + 2 * f) 3 = (rows f).length ∧ ∀ i : Nat, i < (rows f).length → M (p + 2 + 2 * f) i = ((rows f).getD i 0 : Nat)
theorem wrows_port {M : wM} {p : Nat} {rows : Nat → List Nat} (h : wrows M p rows) (hv : aIv (0, 0, rows)) : wport M p (aPort rows) := by
  have h9 := hv
  have l := aIv_eq h9 rfl
  obtain ⟨l1, l3, l5, l6⟩ := l
  have r0 := h 0 (by decide)
  have r1 := h 1 (by decide)
  have r2 := h 2 (by decide)
  have r3 := h 3 (by decide)
  have r4 := h 4 (by decide)
  have r5 := h 5 (by decide)
  have r6 := h 6 (by decide)
  rw [l1] at r1
  rw [l3] at r3
  rw [l5] at r5
  rw [l6] at r6
  exact ⟨⟨r0.1, r1.1, r2.1, r3.1, r4.1, r5.1, r6.1⟩, r0.2, r1.2, r2.2, r3.2, r4.2, r5.2, r6.2⟩
theorem wportS_row {p f : Nat} (h : wportS p) (hf : f < 7) : wrow (p + 1 + 2 * f) (aCap f) (aLo f) (aHi f) := by
  obtain ⟨q0, q1, q2, q3, q4, q5, q6, qc, j0, j1, j2, j3, j4, j5, j6, qlt⟩ := h
  rcases (show f = 0 ∨ f = 1 ∨ f = 2 ∨ f = 3 ∨ f = 4 ∨ f = 5 ∨ f = 6 by omega) with rfl | rfl | rfl | rfl | rfl | rfl | rfl
  · exact j0
  · exact j1
  · exact j2
  · exact j3
  · exact j4
  · exact j5
  · exact j6
theorem drop_g {l : List Nat} {k : Nat} (h : k < l.length) : l.drop k = l.getD k 0 :: l.drop (k + 1) := by
  rw [List.drop_eq_getElem_cons h, List.getD_eq_getElem?_getD, List.getElem?_eq_getElem h]; rfl
section S21
variable {x : wC} {M : wM} {Q : Option Value → wC → wM → Prop} {p : Nat} {T : List Nat}
theorem s_19 {pt fg : Nat} (hp : wportS p) (hpt : pt < 256) (hfg : fg < 100) (hQ0 : aRk pt fg = none → Q (some .null) x M) (hQ1 : ∀ r, aRk pt fg = some r → Q (some (.ref (p + 1 + 2 * r))) x M) : yG x M 19 0 [.ref p, .int (iI (pt : Int)), .int (iI (fg : Int))] [] Q := by
  obtain ⟨q0, q1, q2, q3, q4, q5, q6, qc, j0, j1, j2, j3, j4, j5, j6, qlt⟩ := hp
  refine y_il1 c_19_0 ?_
  by_cases hd_1 : pt = 71 ∨ pt = 83 ∨ pt = 89
  rotate_left
  · refine y_lk (off := 122) 123 c_19_1 (by omega) (by rw [Op.lookupswitch.offset_cons, if_neg (by omega), Op.lookupswitch.offset_cons, if_neg (by omega), Op.lookupswitch.offset_cons, if_neg (by omega)]; rfl) rfl ?_
    have e : aRk pt fg = none := by unfold aRk; rw [if_neg (by omega), if_neg (by omega), if_neg (by omega)]
    refine y_nul c_19_123 ?_
    refine y_nret c_19_124 rfl ?_
    exact hQ0 e
  rcases hd_1 with rfl | rfl | rfl
  · refine y_lk 36 c_19_1 (by omega) rfl rfl ?_
    refine y_il2 c_19_36 ?_
    refine y_iz_ne c_19_37 (by omega) (fun h1 => ?_) (fun h1 => ?_)
    · refine y_il2 c_19_47 ?_
      refine y_ic c_19_48 ?_
      refine y_ic_ne c_19_49 (by omega) (by omega) (fun h2 => ?_) (fun h2 => ?_)
      · refine y_nul c_19_59 ?_
        refine y_nret c_19_60 rfl ?_
        exact hQ0 (by unfold aRk; first | rw [if_neg (by decide), if_neg (by decide), if_pos rfl, if_neg (by omega), if_neg (by omega), if_neg (by omega)] | rw [if_neg (by decide), if_pos rfl, if_neg (by omega), if_neg (by omega)] | rw [if_pos rfl, if_neg (by omega), if_neg (by omega)])
      · obtain rfl : fg = 1 := by omega
        refine y_al0 c_19_52 ?_
        refine y_gr (p + 3) c_19_53 q1 (by omega) ?_
        refine y_goto c_19_56 ?_
        refine y_aret c_19_60 rfl ?_
        exact hQ1 1 rfl
    · obtain rfl : fg = 0 := by omega
      refine y_al0 c_19_40 ?_
      refine y_gr (p + 1) c_19_41 q0 (by omega) ?_
      refine y_goto c_19_44 ?_
      refine y_aret c_19_60 rfl ?_
      exact hQ1 0 rfl
  · refine y_lk 61 c_19_1 (by omega) rfl rfl ?_
    refine y_il2 c_19_61 ?_
    refine y_iz_ne c_19_62 (by omega) (fun h1 => ?_) (fun h1 => ?_)
    · refine y_il2 c_19_72 ?_
      refine y_ic c_19_73 ?_
      refine y_ic_ne c_19_74 (by omega) (by omega) (fun h2 => ?_) (fun h2 => ?_)
      · refine y_nul c_19_84 ?_
        refine y_nret c_19_85 rfl ?_
        exact hQ0 (by unfold aRk; first | rw [if_neg (by decide), if_neg (by decide), if_pos rfl, if_neg (by omega), if_neg (by omega), if_neg (by omega)] | rw [if_neg (by decide), if_pos rfl, if_neg (by omega), if_neg (by omega)] | rw [if_pos rfl, if_neg (by omega), if_neg (by omega)])
      · obtain rfl : fg = 1 := by omega
        refine y_al0 c_19_77 ?_
        refine y_gr (p + 7) c_19_78 q3 (by omega) ?_
        refine y_goto c_19_81 ?_
        refine y_aret c_19_85 rfl ?_
        exact hQ1 3 rfl
    · obtain rfl : fg = 0 := by omega
      refine y_al0 c_19_65 ?_
      refine y_gr (p + 5) c_19_66 q2 (by omega) ?_
      refine y_goto c_19_69 ?_
      refine y_aret c_19_85 rfl ?_
      exact hQ1 2 rfl
  · refine y_lk 86 c_19_1 (by omega) rfl rfl ?_
    refine y_il2 c_19_86 ?_
    refine y_iz_ne c_19_87 (by omega) (fun h1 => ?_) (fun h1 => ?_)
    · refine y_il2 c_19_97 ?_
      refine y_ic c_19_98 ?_
      refine y_ic_ne c_19_99 (by omega) (by omega) (fun h2 => ?_) (fun h2 => ?_)
      · refine y_il2 c_19_109 ?_
        refine y_ic c_19_110 ?_
        refine y_ic_ne c_19_111 (by omega) (by omega) (fun h3 => ?_) (fun h3 => ?_)
        · refine y_nul c_19_121 ?_
          refine y_nret c_19_122 rfl ?_
          exact hQ0 (by unfold aRk; first | rw [if_neg (by decide), if_neg (by decide), if_pos rfl, if_neg (by omega), if_neg (by omega), if_neg (by omega)] | rw [if_neg (by decide), if_pos rfl, if_neg (by omega), if_neg (by omega)] | rw [if_pos rfl, if_neg (by omega), if_neg (by omega)])
        · obtain rfl : fg = 2 := by omega
          refine y_al0 c_19_114 ?_
          refine y_gr (p + 13) c_19_115 q6 (by omega) ?_
          refine y_goto c_19_118 ?_
          refine y_aret c_19_122 rfl ?_
          exact hQ1 6 rfl
      · obtain rfl : fg = 1 := by omega
        refine y_al0 c_19_102 ?_
        refine y_gr (p + 11) c_19_103 q5 (by omega) ?_
        refine y_goto c_19_106 ?_
        refine y_aret c_19_122 rfl ?_
        exact hQ1 5 rfl
    · obtain rfl : fg = 0 := by omega
      refine y_al0 c_19_90 ?_
      refine y_gr (p + 9) c_19_91 q4 (by omega) ?_
      refine y_goto c_19_94 ?_
      refine y_aret c_19_122 rfl ?_
      exact hQ1 4 rfl
theorem s_18 (hp : wportS p) (hp3 : 3 ≤ p) (hT : M 1 3 = T.length ∧ ∀ i : Nat, i < T.length → M 2 i = (T.getD i 0 : Nat)) (hTl : T.length ≤ 56) (hTc : ∀ c ∈ T, c < 256) (hQ : ∀ M', wfr M M' p (p + 14) → (∀ rows, aFault T = (-9, rows) → wport M' p (aPort rows)) → Q (some (.int (iI (aFault T).1))) x M') : yG x M 18 0 [.ref p, .ref 1, zU, zU, zU, zU, zU] [] Q := by
  obtain ⟨q0, q1, q2, q3, q4, q5, q6, qc, j0, j1, j2, j3, j4, j5, j6, qlt⟩ := id hp
  have key : ∀ tl : List Nat, T = 69 :: tl → ∀ d k : Nat, T.length < k + d → 1 ≤ k → k ≤ T.length → ∀ (M1 : wM) (pt fg : Nat) (rows : Nat → List Nat) (w5 w6 : Value), aIv (pt, fg, rows) → fg ≤ 3 → wrows M1 p rows → wfr M M1 p (p + 14) → aRun (T.drop k) (pt, fg, rows) k = aFault T → yG x M1 18 23 [.ref p, .ref 1, .int (iI (pt : Int)), .int (iI (fg : Int)), .int (iI (k : Int)), w5, w6] [] Q := by
    intro tl htl d
    induction d with
    | zero => intro k g1 g2 g3; omega
    | succ d ih =>
      intro k g1 g2 g3 M1 pt fg rows w5 w6 hiv hfg hrw hf1 hrun
      have hpt0 : pt < 256 := aIv_lt hiv
      have fin : ∀ f rows2, aRun (T.drop k) (pt, fg, rows) k = (f, rows2) → (f = -9 → rows2 = rows) → Q (some (.int (iI f))) x M1 := fun f rows2 e e2 => by
        rw [e] at hrun
        have h9 := hQ M1 hf1 (fun rows3 h3 => by
          rw [← hrun] at h3
          injection h3 with h4 h5
          have := e2 h4
          subst this
          subst h5
          exact wrows_port hrw (aFault_iv (by rw [← hrun, h4])))
        rw [← hrun] at h9
        exact h9
      refine y_il4 c_18_23 ?_
      refine y_al1 c_18_25 ?_
      refine k_32 c_18_26 rfl rfl (Nat.le_of_ble_eq_true rfl) ?_
      refine s_32 wrow_1 ?_
      rw [hf1 1 (by omega), hT.1]
      refine y_ic_ge c_18_29 (by omega) (by omega) (fun h_29 => ?_) (fun h_29 => ?_)
      · have hk : k = T.length := by omega
        subst hk
        rw [List.drop_length] at fin
        simp only [aRun] at fin
        refine y_il2 c_18_140 ?_
        refine y_iz_ne c_18_141 (by omega) (fun h1 => ?_) (fun h1 => ?_)
        · refine y_al1 c_18_149 ?_
          refine k_32 c_18_150 rfl rfl (Nat.le_of_ble_eq_true rfl) ?_
          refine s_32 wrow_1 ?_
          rw [hf1 1 (by omega), hT.1]
          rw [if_neg (by omega)] at fin
          refine y_ret c_18_153 rfl ?_
          exact fin _ _ rfl (fun _ => rfl)
        · refine y_bi c_18_144 (by decide) ?_
          refine y_goto c_18_146 ?_
          rw [if_pos (by omega)] at fin
          refine y_ret c_18_153 rfl ?_
          exact fin _ _ rfl (fun _ => rfl)
      · have hk : k < T.length := by omega
        have hcl := hTc _ (mem_getD hk)
        have hdr := drop_g hk
        rw [hdr] at fin hrun
        generalize hch : T.getD k 0 = ch at fin hrun hcl
        refine y_al1 c_18_32 ?_
        refine y_il4 c_18_33 ?_
        refine k_36 c_18_35 rfl rfl (Nat.le_of_ble_eq_true rfl) ?_
        refine s_36i wrow_1 (by omega) (by rw [hf1 1 (by omega), hT.1]; omega) (by omega) (v := (ch : Int)) (by rw [hf1 (1 + 1) (by omega)]; show M 2 k = _; rw [hT.2 k hk, hch]) ?_
        refine y_is5 c_18_38 rfl ?_
        refine y_il2 c_18_40 ?_
        refine y_iz_ne c_18_41 (by omega) (fun hpt => ?_) (fun hpt => ?_)
        · obtain ⟨r, hrk, hr7, hrl, hfg2, hptl⟩ := aIv_get hiv (by simp only; omega)
          simp only at hrk hrl hfg2 hptl
          have hro := wportS_row hp hr7
          have hrr := hrw r hr7
          have hlo : aLo r ≤ 1 := by unfold aLo; split <;> omega
          have hhi : aHi r ≤ 9 := by unfold aHi; split <;> (try split) <;> omega
          have hst : aStp ch (pt, fg, rows) = if aLo r + 48 ≤ ch ∧ ch ≤ aHi r + 48 then some (if (aRk pt (fg + 1)).isNone = true then 0 else pt, fg + 1, aAdd rows r (ch - 48)) else none := by
            unfold aStp
            rw [if_neg (by simp only; omega), hrk]
          refine y_al0 c_18_77 ?_
          refine y_il2 c_18_78 ?_
          refine y_il3 c_18_79 ?_
          refine k_19 c_18_80 rfl qc (Nat.le_of_ble_eq_true rfl) ?_
          refine s_19 hp hptl (by omega) (fun h => by rw [hrk] at h; cases h) (fun r2 hr2 => ?_)
          obtain rfl : r = r2 := by rw [hrk] at hr2; injection hr2
          refine y_as6 c_18_83 rfl ?_
          refine y_al6 c_18_85 ?_
          refine y_nul_r c_18_87 ?_
          refine y_al6 c_18_90 ?_
          refine y_il5 c_18_92 ?_
          refine y_bi c_18_94 (by decide) ?_
          refine y_sub c_18_96 ?_
          refine k_34 c_18_97 rfl (wrow_cl hro) (Nat.le_of_ble_eq_true rfl) ?_
          refine s_34 hro (by omega) ?_
          refine y_pz_ne c_18_100 (fun h2 => ?_) (fun h2 => ?_)
          · rw [if_pos (by omega)] at hst
            refine y_al6 c_18_106 ?_
            refine y_il5 c_18_108 ?_
            refine y_bi c_18_110 (by decide) ?_
            refine y_sub c_18_112 ?_
            refine k_37 c_18_113 rfl (wrow_cl hro) (Nat.le_of_ble_eq_true rfl) ?_
            refine s_37 hro (by omega) (by rw [hrr.1]; omega) (by rw [hrr.1]; omega) ?_
            rw [hrr.1]
            obtain ⟨M2, hM2⟩ : ∃ M2 : wM, M2 = wup (wup M1 (p + 1 + 2 * r + 1) ((rows r).length : Int) ((ch : Int) - 48)) (p + 1 + 2 * r) 3 (((rows r).length : Int) + 1) := ⟨_, rfl⟩
            rw [← hM2]
            have hf2 : wfr M M2 p (p + 14) := fun b hb => by rw [hM2, wup_f _ _ _ (by omega), wup_f _ _ _ (by omega)]; exact hf1 b hb
            have hrw2 : wrows M2 p (aAdd rows r (ch - 48)) := by
              intro f hf
              rw [aAdd_l]
              by_cases hfr : f = r
              · subst hfr
                rw [if_pos rfl, hM2]
                refine ⟨by rw [wup_s]; omega, fun i hi => ?_⟩
                rw [wup_a _ _ _ _ (by omega), show p + 1 + 2 * f + 1 = p + 2 + 2 * f by omega]
                unfold aAdd
                rw [if_pos rfl, getD_app]
                by_cases hik : i = (rows f).length
                · subst hik; rw [wup_s, if_neg (by omega), if_pos rfl]; omega
                · rw [wup_k _ _ (by omega), if_pos (by omega)]; exact hrr.2 i (by omega)
              · rw [if_neg hfr, hM2]
                have h7 := hrw f hf
                refine ⟨by rw [wup_a _ _ _ _ (by omega), wup_a _ _ _ _ (by omega), h7.1]; rfl, fun i hi => ?_⟩
                rw [wup_a _ _ _ _ (by omega), wup_a _ _ _ _ (by omega)]
                unfold aAdd
                rw [if_neg hfr]
                exact h7.2 i (by omega)
            refine y_inc3 c_18_116 rfl ?_
            refine y_al0 c_18_119 ?_
            refine y_il2 c_18_120 ?_
            refine y_il3 c_18_121 ?_
            refine k_19 c_18_122 rfl qc (Nat.le_of_ble_eq_true rfl) ?_
            rw [show ((fg : Int) + 1) = ((fg + 1 : Nat) : Int) by omega]
            refine s_19 hp hptl (by omega) (fun hr2 => ?_) (fun r2 hr2 => ?_)
            · rw [hr2] at hst
              refine y_nn_n c_18_125 ?_
              refine y_ic c_18_128 ?_
              refine y_goto c_18_129 ?_
              refine y_is2 c_18_133 rfl ?_
              refine y_inc4 c_18_134 rfl ?_
              refine y_goto c_18_137 ?_
              exact ih (k + 1) (by omega) (by omega) (by omega) M2 0 (fg + 1) _ _ _ (aStp_iv hiv hst) (by omega) hrw2 hf2 (by rw [← hrun]; simp only [aRun, hst]; rfl)
            · rw [hr2] at hst
              refine y_nn_r c_18_125 ?_
              refine y_il2 c_18_132 ?_
              refine y_is2 c_18_133 rfl ?_
              refine y_inc4 c_18_134 rfl ?_
              refine y_goto c_18_137 ?_
              exact ih (k + 1) (by omega) (by omega) (by omega) M2 pt (fg + 1) _ _ _ (aStp_iv hiv hst) (by omega) hrw2 hf2 (by rw [← hrun]; simp only [aRun, hst]; rfl)
          · rw [if_neg (by omega)] at hst
            refine y_il4 c_18_103 ?_
            refine y_ret c_18_105 rfl ?_
            exact fin _ rows (by simp only [aRun, hst]) (fun _ => rfl)
        · obtain rfl : pt = 0 := by omega
          refine y_al0 c_18_44 ?_
          refine y_il5 c_18_45 ?_
          refine y_ic c_18_47 ?_
          refine k_19 c_18_48 rfl qc (Nat.le_of_ble_eq_true rfl) ?_
          refine s_19 (fg := 0) hp hcl (by decide) (fun hrk => ?_) (fun r hrk => ?_)
          · have hst : aStp ch (0, fg, rows) = none := by unfold aStp; rw [if_pos rfl, hrk]
            refine y_ns6 c_18_51 rfl ?_
            refine y_nl6 c_18_53 ?_
            refine y_nul_n c_18_55 ?_
            refine y_il4 c_18_66 ?_
            refine y_ret c_18_68 rfl ?_
            exact fin _ rows (by simp only [aRun, hst]) (fun _ => rfl)
          · have hr3 := aRk_0 hrk
            have hr7 : r < 7 := by omega
            have hro := wportS_row hp hr7
            have hrr := hrw r hr7
            have hst : aStp ch (0, fg, rows) = if aCap r ≤ (rows r).length then none else some (ch, 0, rows) := by unfold aStp; rw [if_pos rfl, hrk]
            refine y_as6 c_18_51 rfl ?_
            refine y_al6 c_18_53 ?_
            refine y_nul_r c_18_55 ?_
            refine y_al6 c_18_58 ?_
            refine k_33 c_18_60 rfl (wrow_cl hro) (Nat.le_of_ble_eq_true rfl) ?_
            refine s_33 hro ?_
            rw [hrr.1]
            refine y_pz_eq c_18_63 (fun h2 => ?_) (fun h2 => ?_)
            · rw [if_neg (by omega)] at hst
              refine y_il5 c_18_69 ?_
              refine y_is2 c_18_71 rfl ?_
              refine y_ic c_18_72 ?_
              refine y_is3 c_18_73 rfl ?_
              refine y_goto c_18_74 ?_
              refine y_inc4 c_18_134 rfl ?_
              refine y_goto c_18_137 ?_
              exact ih (k + 1) (by omega) (by omega) (by omega) M1 ch 0 rows _ _ (aStp_iv hiv hst) (by omega) hrw hf1 (by rw [← hrun]; simp only [aRun, hst])
            · rw [if_pos (by omega)] at hst
              refine y_il4 c_18_66 ?_
              refine y_ret c_18_68 rfl ?_
              exact fin _ rows (by simp only [aRun, hst]) (fun _ => rfl)
  refine y_al0 c_18_0 ?_
  refine k_20 c_18_1 rfl qc (Nat.le_of_ble_eq_true rfl) ?_
  refine s_20 hp ?_
  obtain ⟨M1, hM1⟩ : ∃ M1 : wM, M1 = wup (wup (wup (wup (wup (wup (wup M (p + 1) 3 0) (p + 3) 3 0) (p + 5) 3 0) (p + 7) 3 0) (p + 9) 3 0) (p + 11) 3 0) (p + 13) 3 0 := ⟨_, rfl⟩
  rw [← hM1]
  have hf1 : wfr M M1 p (p + 14) := fun b hb => by
    rw [hM1, wup_f _ _ _ (by omega), wup_f _ _ _ (by omega), wup_f _ _ _ (by omega), wup_f _ _ _ (by omega), wup_f _ _ _ (by omega), wup_f _ _ _ (by omega), wup_f _ _ _ (by omega)]
  have hrw : wrows M1 p (fun _ => []) := by
    intro f hf
    refine ⟨?_, fun i hi => by simp at hi⟩
    rcases (show f = 0 ∨ f = 1 ∨ f = 2 ∨ f = 3 ∨ f = 4 ∨ f = 5 ∨ f = 6 by omega) with rfl | rfl | rfl | rfl | rfl | rfl | rfl <;> simp [hM1, wup]
  refine y_al1 c_18_4 ?_
  refine y_ic c_18_5 ?_
  refine k_36 c_18_6 rfl rfl (Nat.le_of_ble_eq_true rfl) ?_
  refine s_36 wrow_1 (by decide) ?_
  rw [hf1 1 (by omega), hf1 (1 + 1) (by omega)]
  cases T with
  | nil =>
    rw [if_neg (by rw [hT.1]; simp)]
    refine y_bi c_18_9 (by decide) ?_
    refine y_ic_eq c_18_11 (by omega) (by omega) (fun h_11 => absurd h_11 (by omega)) (fun h_11 => ?_)
    refine y_ic c_18_14 ?_
    refine y_ret c_18_15 rfl ?_
    exact hQ M1 hf1 (fun rows h => by injection h with h1 h2; omega)
  | cons c0 tl =>
  rw [if_pos ⟨by decide, by rw [hT.1, List.length_cons]; omega, by decide⟩]
  have hc0 : M (1 + 1) 0 = c0 := hT.2 0 (by simp)
  rw [hc0]
  have hcl := hTc c0 List.mem_cons_self
  refine y_bi c_18_9 (by decide) ?_
  refine y_ic_eq c_18_11 (by omega) (by omega) (fun h1 => ?_) (fun h1 => ?_)
  · refine y_ic c_18_16 ?_
    refine y_is2 c_18_17 rfl ?_
    refine y_ic c_18_18 ?_
    refine y_is3 c_18_19 rfl ?_
    refine y_ic c_18_20 ?_
    refine y_is4 c_18_21 rfl ?_
    obtain rfl : c0 = 69 := by omega
    exact key tl rfl ((69 :: tl).length + 1) 1 (by omega) (by omega) (by simp) M1 0 0 _ _ _ aIv_0 (by omega) hrw hf1 (by simp [aFault])
  · refine y_ic c_18_14 ?_
    refine y_ret c_18_15 rfl ?_
    have e : aFault (c0 :: tl) = (0, fun _ => []) := if_neg (by omega)
    rw [e] at hQ
    exact hQ M1 hf1 (fun rows h => by injection h with h1 h2; omega)
end S21
