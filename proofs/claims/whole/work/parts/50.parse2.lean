/-! ===== the model reads the text ===== -/
def mr (M : wM) (a st off : Nat) (l : List Nat) : Prop := ∀ i : Nat, i < l.length → M a ((st * i + off : Nat) : Int) = (l.getD i 0 : Nat)
theorem mr_f {M M' : wM} {a st off : Nat} {l : List Nat} (h : mr M a st off l) (e : M' a = M a) : mr M' a st off l := fun i hi => by rw [e]; exact h i hi
theorem mr_up {M : wM} {a st off : Nat} {l : List Nat} {k v : Int} (h : mr M a st off l) (hk : ∀ i : Nat, i < l.length → ((st * i + off : Nat) : Int) ≠ k) : mr (wup M a k v) a st off l := fun i hi => by rw [wup_k _ _ (hk i hi)]; exact h i hi
theorem mr_put {M : wM} {a st off n v : Nat} {l : List Nat} {k : Int} (h : mr M a st off l) (hn : l.length = n) (hk : k = ((st * n + off : Nat) : Int)) (hs : 0 < st) : mr (wup M a k (v : Int)) a st off (l ++ [v]) := fun i hi => by
  rw [List.length_append, List.length_singleton] at hi
  rw [getD_app]
  by_cases e : i < l.length
  · rw [if_pos e, wup_k]
    · exact h i e
    · rw [hk]
      have := Nat.mul_lt_mul_of_pos_left (show i < n by omega) hs
      omega
  · obtain rfl : i = n := by omega
    rw [if_neg e, if_pos hn.symm, hk, wup_s]
def mrows (M : wM) (rows : Nat → List Nat) : Prop := (M 106 10 = (rows 0).length ∧ M 106 12 = (rows 2).length ∧ M 106 14 = (rows 4).length) ∧ (mr M 111 2 0 (rows 0) ∧ mr M 111 2 1 (rows 1)) ∧ (mr M 112 2 0 (rows 2) ∧ mr M 112 2 1 (rows 3)) ∧ mr M 113 3 0 (rows 4) ∧ mr M 113 3 1 (rows 5) ∧ mr M 113 3 2 (rows 6)
theorem mrows_f {M M' : wM} {rows : Nat → List Nat} (h : mrows M rows) (h0 : M' 106 10 = M 106 10) (h2 : M' 106 12 = M 106 12) (h4 : M' 106 14 = M 106 14) (e1 : M' 111 = M 111) (e2 : M' 112 = M 112) (e3 : M' 113 = M 113) : mrows M' rows := by
  obtain ⟨⟨a, b, c⟩, ⟨d, e⟩, ⟨f, g⟩, i, j, k⟩ := h
  exact ⟨⟨by rw [h0]; exact a, by rw [h2]; exact b, by rw [h4]; exact c⟩, ⟨mr_f d e1, mr_f e e1⟩, ⟨mr_f f e2, mr_f g e2⟩, mr_f i e3, mr_f j e3, mr_f k e3⟩
theorem mrows_G {M : wM} {rows : Nat → List Nat} {n v1 v2 : Nat} (h : mrows M rows) (hl : (rows 0).length = n) (hl1 : (rows 1).length = n) : mrows (wup (wup (wup M 111 (2 * (n : Int)) v1) 111 (2 * (n : Int) + 1) v2) 106 10 ((n : Int) + 1)) (aAdd (aAdd rows 0 v1) 1 v2) := by
  obtain ⟨⟨a, b, c⟩, ⟨d, e⟩, ⟨f, g⟩, i, j, k⟩ := h
  refine ⟨⟨?_, ?_, ?_⟩, ⟨?_, ?_⟩, ⟨?_, ?_⟩, ?_, ?_, ?_⟩
  · rw [wup_s]; show _ = (((rows 0 ++ [v1]).length : Nat) : Int); simp [hl]
  · rw [wup_k _ _ (by decide)]; exact b
  · rw [wup_k _ _ (by decide)]; exact c
  · exact mr_f (mr_up (l := rows 0 ++ [v1]) (mr_put d hl (by omega) (by decide)) (fun i hi => by simp at hi; omega)) (wup_f _ _ _ (by decide))
  · exact mr_f (mr_put (l := rows 1) (mr_up e (fun i hi => by omega)) hl1 (by omega) (by decide)) (wup_f _ _ _ (by decide))
  · exact mr_f f rfl
  · exact mr_f g rfl
  · exact mr_f i rfl
  · exact mr_f j rfl
  · exact mr_f k rfl
theorem mrows_S {M : wM} {rows : Nat → List Nat} {n v1 v2 : Nat} (h : mrows M rows) (hl : (rows 2).length = n) (hl1 : (rows 3).length = n) : mrows (wup (wup (wup M 112 (2 * (n : Int)) v1) 112 (2 * (n : Int) + 1) v2) 106 12 ((n : Int) + 1)) (aAdd (aAdd rows 2 v1) 3 v2) := by
  obtain ⟨⟨a, b, c⟩, ⟨d, e⟩, ⟨f, g⟩, i, j, k⟩ := h
  refine ⟨⟨?_, ?_, ?_⟩, ⟨?_, ?_⟩, ⟨?_, ?_⟩, ?_, ?_, ?_⟩
  · rw [wup_k _ _ (by decide)]; exact a
  · rw [wup_s]; show _ = (((rows 2 ++ [v1]).length : Nat) : Int); simp [hl]
  · rw [wup_k _ _ (by decide)]; exact c
  · exact mr_f d rfl
  · exact mr_f e rfl
  · exact mr_f (mr_up (l := rows 2 ++ [v1]) (mr_put f hl (by omega) (by decide)) (fun i hi => by simp at hi; omega)) (wup_f _ _ _ (by decide))
  · exact mr_f (mr_put (l := rows 3) (mr_up g (fun i hi => by omega)) hl1 (by omega) (by decide)) (wup_f _ _ _ (by decide))
  · exact mr_f i rfl
  · exact mr_f j rfl
  · exact mr_f k rfl
theorem mrows_Y {M : wM} {rows : Nat → List Nat} {n v1 v2 v3 : Nat} (h : mrows M rows) (hl : (rows 4).length = n) (hl1 : (rows 5).length = n) (hl2 : (rows 6).length = n) : mrows (wup (wup (wup (wup M 113 (3 * (n : Int)) v1) 113 (3 * (n : Int) + 1) v2) 113 (3 * (n : Int) + 2) v3) 106 14 ((n : Int) + 1)) (aAdd (aAdd (aAdd rows 4 v1) 5 v2) 6 v3) := by
  obtain ⟨⟨a, b, c⟩, ⟨d, e⟩, ⟨f, g⟩, i, j, k⟩ := h
  refine ⟨⟨?_, ?_, ?_⟩, ⟨?_, ?_⟩, ⟨?_, ?_⟩, ?_, ?_, ?_⟩
  · rw [wup_k _ _ (by decide)]; exact a
  · rw [wup_k _ _ (by decide)]; exact b
  · rw [wup_s]; show _ = (((rows 4 ++ [v1]).length : Nat) : Int); simp [hl]
  · exact mr_f d rfl
  · exact mr_f e rfl
  · exact mr_f f rfl
  · exact mr_f g rfl
  · exact mr_f (mr_up (l := rows 4 ++ [v1]) (mr_up (l := rows 4 ++ [v1]) (mr_put i hl (by omega) (by decide)) (fun i hi => by simp at hi; omega)) (fun i hi => by simp at hi; omega)) (wup_f _ _ _ (by decide))
  · exact mr_f (mr_up (l := rows 5 ++ [v2]) (mr_put (l := rows 5) (mr_up j (fun i hi => by omega)) hl1 (by omega) (by decide)) (fun i hi => by simp at hi; omega)) (wup_f _ _ _ (by decide))
  · exact mr_f (mr_put (l := rows 6) (mr_up (mr_up k (fun i hi => by omega)) (fun i hi => by omega)) hl2 (by omega) (by decide)) (wup_f _ _ _ (by decide))
def mfr5 (M M' : wM) : Prop := (∀ b, b ≠ 106 → b ≠ 111 → b ≠ 112 → b ≠ 113 → M' b = M b) ∧ ∀ j : Int, j ≠ 3 → j ≠ 10 → j ≠ 12 → j ≠ 14 → M' 106 j = M 106 j
theorem mfr5_r (M : wM) : mfr5 M M := ⟨fun _ _ _ _ _ => rfl, fun _ _ _ _ _ => rfl⟩
theorem mfr5_t {M M1 M2 : wM} (h : mfr5 M M1) (h' : mfr5 M1 M2) : mfr5 M M2 := ⟨fun b p q r s => (h'.1 b p q r s).trans (h.1 b p q r s), fun j p q r s => (h'.2 j p q r s).trans (h.2 j p q r s)⟩
theorem mfr5_6 {M M1 : wM} (h : mfr5 M M1) {k : Int} (v : Int) (hk : k = 3 ∨ k = 10 ∨ k = 12 ∨ k = 14) : mfr5 M (wup M1 106 k v) := ⟨fun b p q r s => by rw [wup_f _ _ _ p]; exact h.1 b p q r s, fun j p q r s => by rw [wup_k _ _ (by omega)]; exact h.2 j p q r s⟩
theorem mfr5_a {M M1 : wM} (h : mfr5 M M1) {a : Nat} (k v : Int) (ha : a = 111 ∨ a = 112 ∨ a = 113) : mfr5 M (wup M1 a k v) := ⟨fun b p q r s => by rw [wup_f _ _ _ (by omega)]; exact h.1 b p q r s, fun j p q r s => by rw [wup_a _ _ _ _ (by omega)]; exact h.2 j p q r s⟩
def mtx (M : wM) (T : List Nat) : Prop := M 106 2 = T.length ∧ ∀ i : Nat, i < T.length → M 107 i = (T.getD i 0 : Nat)
theorem mtx_f {M M' : wM} {T : List Nat} (h : mtx M T) (hf : mfr5 M M') : mtx M' T := by
  unfold mtx
  rw [hf.2 2 (by decide) (by decide) (by decide) (by decide), hf.1 107 (by decide) (by decide) (by decide) (by decide)]
  exact h
theorem MI_fr5 {x : wC} {M M' : wM} {T : List Nat} {P : aP} {R : aR} {L : aA} {Tm : aT} {sd : Int64} {K : Nat → Option aR} (h : MI x M T P R L Tm sd K) (hf : mfr5 M M') : MI x M' T P R L Tm sd K :=
  MI_of h ⟨fun j hj => hf.2 j (by omega) (by omega) (by omega) (by omega), fun b hb => hf.1 b (by omega) (by omega) (by omega) (by omega)⟩
theorem aRun_fg (cs : List Nat) (f i : Nat) (rows : Nat → List Nat) : aRun cs (0, f, rows) i = aRun cs (0, 0, rows) i := by
  cases cs <;> rfl
theorem aIv_fg {f : Nat} {rows : Nat → List Nat} (h : aIv (0, f, rows)) : aIv (0, 0, rows) := by
  have e := aIv_eq h rfl
  obtain ⟨a, b, c, d, -⟩ := h
  exact ⟨a, b, c, d, Or.inl ⟨rfl, e⟩⟩
theorem aFig_y {pt fg r j v : Nat} {T : List Nat} {rows : Nat → List Nat} (hpt : pt ≠ 0) (hr : aRk pt fg = some r) (hj : j < T.length) (hv : T.getD j 0 = v + 48) (h1 : aLo r ≤ v) (h2 : v ≤ aHi r) : aRun (T.drop j) (pt, fg, rows) j = aRun (T.drop (j + 1)) (if (aRk pt (fg + 1)).isNone = true then 0 else pt, fg + 1, aAdd rows r v) (j + 1) ∧ (aIv (pt, fg, rows) → aIv (if (aRk pt (fg + 1)).isNone = true then 0 else pt, fg + 1, aAdd rows r v)) := by
  have hs : aStp (v + 48) (pt, fg, rows) = some (if (aRk pt (fg + 1)).isNone = true then 0 else pt, fg + 1, aAdd rows r v) := by
    unfold aStp
    rw [if_neg hpt]
    simp only [hr]
    rw [if_pos (by omega), show v + 48 - 48 = v by omega]
  refine ⟨?_, fun h => aStp_iv h hs⟩
  rw [drop_g hj, hv]
  simp only [aRun]
  rw [hs]
theorem aFig_n {pt fg r j : Nat} {T : List Nat} {rows : Nat → List Nat} (hpt : pt ≠ 0) (hr : aRk pt fg = some r) (hj : j ≤ T.length) (hn : ¬ (j < T.length ∧ aLo r + 48 ≤ T.getD j 0 ∧ T.getD j 0 ≤ aHi r + 48)) : aRun (T.drop j) (pt, fg, rows) j = ((j : Int), rows) := by
  by_cases e : j < T.length
  · rw [drop_g e]
    have hs : aStp (T.getD j 0) (pt, fg, rows) = none := by
      unfold aStp
      rw [if_neg hpt]
      simp only [hr]
      rw [if_neg (fun h => hn ⟨e, h⟩)]
    simp only [aRun]
    rw [hs]
  · obtain rfl : j = T.length := by omega
    rw [List.drop_length]
    simp only [aRun]
    rw [if_neg hpt]
section S38
variable {x : wC} {M : wM} {Q : Option Value → wC → wM → Prop} {T : List Nat} {P : aP} {R : aR} {L : aA} {Tm : aT} {sd : Int64} {K : Nat → Option aR}
variable {rows : Nat → List Nat}
theorem s_126 {j lo hi : Nat} (hT : mtx M T) (ht56 : T.length ≤ 56) (ht256 : ∀ c ∈ T, c < 256) (hpl : M 106 3 = j) (hj : j ≤ T.length) (hlh : hi ≤ 9 ∧ lo ≤ 9)
    (hQ0 : ¬ (j < T.length ∧ lo + 48 ≤ T.getD j 0 ∧ T.getD j 0 ≤ hi + 48) → Q (some (.int (iI (-9)))) x M) (hQ1 : ∀ v : Nat, j < T.length → T.getD j 0 = v + 48 → lo ≤ v → v ≤ hi → Q (some (.int (iI (v : Int)))) x (wup M 106 3 ((j + 1 : Nat) : Int))) : yG x M 126 0 [.ref 106, .int (iI (lo : Int)), .int (iI (hi : Int))] [] Q := by
  refine y_al0 c_126_0 ?_
  refine y_gi (j := 3) (z := (j : Int)) c_126_1 rfl rfl hpl (fun r_1 => ?_)
  refine y_al0 c_126_4 ?_
  refine y_gi (j := 2) (z := (T.length : Int)) c_126_5 rfl rfl hT.1 (fun r_5 => ?_)
  refine y_ic_eq c_126_8 (by omega) (by omega) (fun he => ?_) (fun he => ?_)
  · refine y_bi c_126_34 (by decide) ?_
    refine y_ret c_126_36 rfl ?_
    exact hQ0 (by omega)
  · have hjl : j < T.length := by omega
    have hc := ht256 _ (mem_getD hjl)
    refine y_al0 c_126_11 ?_
    refine y_gr 107 c_126_12 rfl (by omega) ?_
    refine y_al0 c_126_15 ?_
    refine y_gi (j := 3) (z := (j : Int)) c_126_16 rfl rfl hpl (fun r_16 => ?_)
    refine y_ald (n := 56) (u := ((T.getD j 0 : Nat) : Int)) c_126_19 rfl (by omega) (by omega) (by omega) (hT.2 j hjl) (fun r_19 => ?_)
    refine y_bi c_126_20 (by decide) ?_
    refine y_sub c_126_22 ?_
    refine y_i2l c_126_23 (by omega) ?_
    refine y_il1 c_126_24 ?_
    refine y_i2l c_126_25 (by omega) ?_
    refine y_il2 c_126_26 ?_
    refine y_i2l c_126_27 (by omega) ?_
    refine k_117 c_126_28 rfl (Nat.le_of_ble_eq_true rfl) ?_
    refine s_117 (by omega) (by omega) (by omega) ?_
    refine y_pz_ne c_126_31 (fun h1 => ?_) (fun h1 => ?_)
    · refine y_al0 c_126_37 ?_
      refine y_dup c_126_38 rfl ?_
      refine y_gi (j := 3) (z := (j : Int)) c_126_39 rfl rfl hpl (fun r_39 => ?_)
      refine y_ic c_126_42 ?_
      refine y_add c_126_43 ?_
      rw [show ((j : Int) + 1) = ((j + 1 : Nat) : Int) by omega]
      refine y_pi (j := 3) c_126_44 rfl rfl rfl (by omega) ?_
      refine y_al0 c_126_47 ?_
      refine y_gr 107 c_126_48 rfl (by omega) ?_
      refine y_al0 c_126_51 ?_
      refine y_gi (j := 3) (z := ((j + 1 : Nat) : Int)) c_126_52 rfl rfl (by rw [wup_s]) (fun r_52 => ?_)
      refine y_ic c_126_55 ?_
      refine y_sub c_126_56 ?_
      rw [show (((j + 1 : Nat) : Int) - 1) = (j : Int) by omega]
      refine y_ald (n := 56) (u := ((T.getD j 0 : Nat) : Int)) c_126_57 rfl (by omega) (by omega) (by omega) ((congrFun (wup_f _ _ _ (by decide)) _).trans (hT.2 j hjl)) (fun r_57 => ?_)
      refine y_bi c_126_58 (by decide) ?_
      refine y_sub c_126_60 ?_
      refine y_ret c_126_61 rfl ?_
      rw [show (((T.getD j 0 : Nat) : Int) - 48) = ((T.getD j 0 - 48 : Nat) : Int) by omega]
      exact hQ1 _ hjl (by omega) (by omega) (by omega)
    · refine y_bi c_126_34 (by decide) ?_
      refine y_ret c_126_36 rfl ?_
      exact hQ0 (by omega)
theorem s_127 {j : Nat} (hT : mtx M T) (ht56 : T.length ≤ 56) (ht256 : ∀ c ∈ T, c < 256) (hpl : M 106 3 = j) (hj : j ≤ T.length) (hr : mrows M rows) (hi : aIv (0, 0, rows)) (hl : (rows 0).length < 4)
    (hQ0 : ∀ (M' : wM) (j' : Nat), (aRun (T.drop j) (71, 0, rows) j).1 = j' → M' 106 3 = j' → mfr5 M M' → Q (some (.int (iI 0))) x M')
    (hQ1 : ∀ (M' : wM) (rows' : Nat → List Nat) (j' : Nat), aRun (T.drop j) (71, 0, rows) j = aRun (T.drop j') (0, 0, rows') j' → M' 106 3 = j' → j < j' → j' ≤ T.length → mrows M' rows' → aIv (0, 0, rows') → mfr5 M M' → Q (some (.int (iI 1))) x M') : yG x M 127 0 [.ref 106, zU, zU] [] Q := by
  have hi0 : aIv (71, 0, rows) := aStp_iv (ch := 71) hi (by
    unfold aStp
    rw [if_pos rfl]
    show (if aCap 0 ≤ (rows 0).length then none else some _) = _
    rw [if_neg (by show ¬ 4 ≤ _; omega)])
  obtain ⟨le1, le2, le3, le4⟩ := aIv_eq hi rfl
  simp only at le1 le2 le3 le4
  obtain ⟨n, hn⟩ : ∃ n, n = (rows 0).length := ⟨_, rfl⟩
  rw [← hn] at hl
  refine y_al0 c_127_0 ?_
  refine y_ic c_127_1 ?_
  refine y_bi c_127_2 (by decide) ?_
  refine k_126 c_127_4 rfl rfl (Nat.le_of_ble_eq_true rfl) ?_
  refine s_126 (j := j) (lo := 1) (hi := 9) hT ht56 ht256 hpl hj (by decide) (fun hno => ?_) (fun v1 h1 e1 a1 b1 => ?_)
  · refine y_is1 c_127_7 rfl ?_
    refine y_il1 c_127_8 ?_
    refine y_bi c_127_9 (by decide) ?_
    refine y_ic_ne c_127_11 (by omega) (by omega) (fun h_11 => absurd h_11 (by decide)) (fun h_11 => ?_)
    refine y_bi c_127_14 (by decide) ?_
    refine y_goto c_127_16 ?_
    refine y_is2 c_127_25 rfl ?_
    refine y_il2 c_127_26 ?_
    refine y_bi c_127_27 (by decide) ?_
    refine y_ic_ne c_127_29 (by omega) (by omega) (fun h_29 => absurd h_29 (by decide)) (fun h_29 => ?_)
    refine y_ic c_127_32 ?_
    refine y_zret c_127_33 rfl (by omega) ?_
    exact hQ0 _ j (by rw [aFig_n (show 71 ≠ 0 by decide) (show aRk 71 0 = some 0 from rfl) hj hno]) hpl (mfr5_r M)
  have hf1 : mfr5 M (wup M 106 3 ((j + 1 : Nat) : Int)) := mfr5_6 (mfr5_r M) _ (Or.inl rfl)
  have hpl1 : (wup M 106 3 ((j + 1 : Nat) : Int)) 106 3 = ((j + 1 : Nat) : Int) := wup_s _ _ _ _
  have hr1 : mrows (wup M 106 3 ((j + 1 : Nat) : Int)) rows := mrows_f hr (wup_k _ _ (by decide)) (wup_k _ _ (by decide)) (wup_k _ _ (by decide)) rfl rfl rfl
  generalize wup M 106 3 ((j + 1 : Nat) : Int) = M1 at hf1 hpl1 hr1 ⊢
  obtain ⟨er1, ei1⟩ := aFig_y (rows := rows) (show 71 ≠ 0 by decide) (show aRk 71 0 = some 0 from rfl) h1 e1 (show aLo 0 ≤ v1 from a1) (show v1 ≤ aHi 0 from b1)
  have hi1 : aIv (71, 1, aAdd rows 0 v1) := ei1 hi0
  have er1 : aRun (T.drop j) (71, 0, rows) j = aRun (T.drop (j + 1)) (71, 1, aAdd rows 0 v1) (j + 1) := er1
  refine y_is1 c_127_7 rfl ?_
  refine y_il1 c_127_8 ?_
  refine y_bi c_127_9 (by decide) ?_
  refine y_ic_ne c_127_11 (by omega) (by omega) (fun h_11 => ?_) (fun h_11 => absurd h_11 (by omega))
  refine y_al0 c_127_19 ?_
  refine y_ic c_127_20 ?_
  refine y_ic c_127_21 ?_
  refine k_126 c_127_22 rfl rfl (Nat.le_of_ble_eq_true rfl) ?_
  refine s_126 (j := j + 1) (lo := 0) (hi := 3) (mtx_f hT hf1) ht56 ht256 hpl1 (by omega) (by decide) (fun hno => ?_) (fun v2 h2 e2 a2 b2 => ?_)
  · refine y_is2 c_127_25 rfl ?_
    refine y_il2 c_127_26 ?_
    refine y_bi c_127_27 (by decide) ?_
    refine y_ic_ne c_127_29 (by omega) (by omega) (fun h_29 => absurd h_29 (by decide)) (fun h_29 => ?_)
    refine y_ic c_127_32 ?_
    refine y_zret c_127_33 rfl (by omega) ?_
    exact hQ0 _ (j + 1) (by rw [er1, aFig_n (show 71 ≠ 0 by decide) (show aRk 71 1 = some 1 from rfl) (by omega) hno]) hpl1 hf1
  have hf2 : mfr5 M (wup M1 106 3 ((j + 1 + 1 : Nat) : Int)) := mfr5_6 hf1 _ (Or.inl rfl)
  have hpl2 : (wup M1 106 3 ((j + 1 + 1 : Nat) : Int)) 106 3 = ((j + 1 + 1 : Nat) : Int) := wup_s _ _ _ _
  have hr2 : mrows (wup M1 106 3 ((j + 1 + 1 : Nat) : Int)) rows := mrows_f hr1 (wup_k _ _ (by decide)) (wup_k _ _ (by decide)) (wup_k _ _ (by decide)) rfl rfl rfl
  generalize wup M1 106 3 ((j + 1 + 1 : Nat) : Int) = M2 at hf2 hpl2 hr2 ⊢
  obtain ⟨er2, ei2⟩ := aFig_y (rows := (aAdd rows 0 v1)) (show 71 ≠ 0 by decide) (show aRk 71 1 = some 1 from rfl) h2 e2 (show aLo 1 ≤ v2 from a2) (show v2 ≤ aHi 1 from b2)
  have hi2 : aIv (0, 2, (aAdd (aAdd rows 0 v1) 1 v2)) := ei2 hi1
  have er2 : aRun (T.drop (j + 1)) (71, 1, (aAdd rows 0 v1)) (j + 1) = aRun (T.drop (j + 1 + 1)) (0, 2, (aAdd (aAdd rows 0 v1) 1 v2)) (j + 1 + 1) := er2
  have c0 : M2 106 10 = (n : Int) := by rw [hn]; exact hr2.1.1
  refine y_is2 c_127_25 rfl ?_
  refine y_il2 c_127_26 ?_
  refine y_bi c_127_27 (by decide) ?_
  refine y_ic_ne c_127_29 (by omega) (by omega) (fun h_29 => ?_) (fun h_29 => absurd h_29 (by omega))
  refine y_al0 c_127_34 ?_
  refine y_gr 111 c_127_35 rfl (by omega) ?_
  refine y_ic c_127_38 ?_
  refine y_al0 c_127_39 ?_
  refine y_gi (j := 10) (z := (n : Int)) c_127_40 rfl rfl c0 (fun r_40 => ?_)
  refine y_mul c_127_43 ?_
  refine y_il1 c_127_44 ?_
  refine y_ast (n := 8) c_127_45 rfl (by omega) (by omega) (by omega) (by omega) ?_
  refine y_al0 c_127_46 ?_
  refine y_gr 111 c_127_47 rfl (by omega) ?_
  refine y_ic c_127_50 ?_
  refine y_al0 c_127_51 ?_
  refine y_gi (j := 10) (z := (n : Int)) c_127_52 rfl rfl ((wup_a _ _ _ _ (by decide)).trans c0) (fun r_52 => ?_)
  refine y_mul c_127_55 ?_
  refine y_ic c_127_56 ?_
  refine y_add c_127_57 ?_
  refine y_il2 c_127_58 ?_
  refine y_ast (n := 8) c_127_59 rfl (by omega) (by omega) (by omega) (by omega) ?_
  refine y_al0 c_127_60 ?_
  refine y_dup c_127_61 rfl ?_
  refine y_gi (j := 10) (z := (n : Int)) c_127_62 rfl rfl (((wup_a _ _ _ _ (by decide)).trans (wup_a _ _ _ _ (by decide))).trans c0) (fun r_62 => ?_)
  refine y_ic c_127_65 ?_
  refine y_add c_127_66 ?_
  refine y_pi (j := 10) c_127_67 rfl rfl rfl (by omega) ?_
  refine y_ic c_127_70 ?_
  refine y_zret c_127_71 rfl (by omega) ?_
  refine hQ1 _ (aAdd (aAdd rows 0 v1) 1 v2) (j + 2) (by rw [er1, er2, aRun_fg]) ?_ (by omega) (by omega) (mrows_G hr2 hn.symm (by omega)) (aIv_fg hi2) ?_
  · rw [wup_k _ _ (by decide), wup_a _ _ _ _ (by decide), wup_a _ _ _ _ (by decide)]; exact hpl2
  · exact mfr5_6 (mfr5_a (mfr5_a hf2 _ _ (by decide)) _ _ (by decide)) _ (by decide)
theorem s_128 {j : Nat} (hT : mtx M T) (ht56 : T.length ≤ 56) (ht256 : ∀ c ∈ T, c < 256) (hpl : M 106 3 = j) (hj : j ≤ T.length) (hr : mrows M rows) (hi : aIv (0, 0, rows)) (hl : (rows 2).length < 4)
    (hQ0 : ∀ (M' : wM) (j' : Nat), (aRun (T.drop j) (83, 0, rows) j).1 = j' → M' 106 3 = j' → mfr5 M M' → Q (some (.int (iI 0))) x M')
    (hQ1 : ∀ (M' : wM) (rows' : Nat → List Nat) (j' : Nat), aRun (T.drop j) (83, 0, rows) j = aRun (T.drop j') (0, 0, rows') j' → M' 106 3 = j' → j < j' → j' ≤ T.length → mrows M' rows' → aIv (0, 0, rows') → mfr5 M M' → Q (some (.int (iI 1))) x M') : yG x M 128 0 [.ref 106, zU, zU] [] Q := by
  have hi0 : aIv (83, 0, rows) := aStp_iv (ch := 83) hi (by
    unfold aStp
    rw [if_pos rfl]
    show (if aCap 2 ≤ (rows 2).length then none else some _) = _
    rw [if_neg (by show ¬ 4 ≤ _; omega)])
  obtain ⟨le1, le2, le3, le4⟩ := aIv_eq hi rfl
  simp only at le1 le2 le3 le4
  obtain ⟨n, hn⟩ : ∃ n, n = (rows 2).length := ⟨_, rfl⟩
  rw [← hn] at hl
  refine y_al0 c_128_0 ?_
  refine y_ic c_128_1 ?_
  refine y_ic c_128_2 ?_
  refine k_126 c_128_3 rfl rfl (Nat.le_of_ble_eq_true rfl) ?_
  refine s_126 (j := j) (lo := 1) (hi := 4) hT ht56 ht256 hpl hj (by decide) (fun hno => ?_) (fun v1 h1 e1 a1 b1 => ?_)
  · refine y_is1 c_128_6 rfl ?_
    refine y_il1 c_128_7 ?_
    refine y_bi c_128_8 (by decide) ?_
    refine y_ic_ne c_128_10 (by omega) (by omega) (fun h_10 => absurd h_10 (by decide)) (fun h_10 => ?_)
    refine y_bi c_128_13 (by decide) ?_
    refine y_goto c_128_15 ?_
    refine y_is2 c_128_24 rfl ?_
    refine y_il2 c_128_25 ?_
    refine y_bi c_128_26 (by decide) ?_
    refine y_ic_ne c_128_28 (by omega) (by omega) (fun h_28 => absurd h_28 (by decide)) (fun h_28 => ?_)
    refine y_ic c_128_31 ?_
    refine y_zret c_128_32 rfl (by omega) ?_
    exact hQ0 _ j (by rw [aFig_n (show 83 ≠ 0 by decide) (show aRk 83 0 = some 2 from rfl) hj hno]) hpl (mfr5_r M)
  have hf1 : mfr5 M (wup M 106 3 ((j + 1 : Nat) : Int)) := mfr5_6 (mfr5_r M) _ (Or.inl rfl)
  have hpl1 : (wup M 106 3 ((j + 1 : Nat) : Int)) 106 3 = ((j + 1 : Nat) : Int) := wup_s _ _ _ _
  have hr1 : mrows (wup M 106 3 ((j + 1 : Nat) : Int)) rows := mrows_f hr (wup_k _ _ (by decide)) (wup_k _ _ (by decide)) (wup_k _ _ (by decide)) rfl rfl rfl
  generalize wup M 106 3 ((j + 1 : Nat) : Int) = M1 at hf1 hpl1 hr1 ⊢
  obtain ⟨er1, ei1⟩ := aFig_y (rows := rows) (show 83 ≠ 0 by decide) (show aRk 83 0 = some 2 from rfl) h1 e1 (show aLo 2 ≤ v1 from a1) (show v1 ≤ aHi 2 from b1)
  have hi1 : aIv (83, 1, aAdd rows 2 v1) := ei1 hi0
  have er1 : aRun (T.drop j) (83, 0, rows) j = aRun (T.drop (j + 1)) (83, 1, aAdd rows 2 v1) (j + 1) := er1
  refine y_is1 c_128_6 rfl ?_
  refine y_il1 c_128_7 ?_
  refine y_bi c_128_8 (by decide) ?_
  refine y_ic_ne c_128_10 (by omega) (by omega) (fun h_10 => ?_) (fun h_10 => absurd h_10 (by omega))
  refine y_al0 c_128_18 ?_
  refine y_ic c_128_19 ?_
  refine y_ic c_128_20 ?_
  refine k_126 c_128_21 rfl rfl (Nat.le_of_ble_eq_true rfl) ?_
  refine s_126 (j := j + 1) (lo := 0) (hi := 3) (mtx_f hT hf1) ht56 ht256 hpl1 (by omega) (by decide) (fun hno => ?_) (fun v2 h2 e2 a2 b2 => ?_)
  · refine y_is2 c_128_24 rfl ?_
    refine y_il2 c_128_25 ?_
    refine y_bi c_128_26 (by decide) ?_
    refine y_ic_ne c_128_28 (by omega) (by omega) (fun h_28 => absurd h_28 (by decide)) (fun h_28 => ?_)
    refine y_ic c_128_31 ?_
    refine y_zret c_128_32 rfl (by omega) ?_
    exact hQ0 _ (j + 1) (by rw [er1, aFig_n (show 83 ≠ 0 by decide) (show aRk 83 1 = some 3 from rfl) (by omega) hno]) hpl1 hf1
  have hf2 : mfr5 M (wup M1 106 3 ((j + 1 + 1 : Nat) : Int)) := mfr5_6 hf1 _ (Or.inl rfl)
  have hpl2 : (wup M1 106 3 ((j + 1 + 1 : Nat) : Int)) 106 3 = ((j + 1 + 1 : Nat) : Int) := wup_s _ _ _ _
  have hr2 : mrows (wup M1 106 3 ((j + 1 + 1 : Nat) : Int)) rows := mrows_f hr1 (wup_k _ _ (by decide)) (wup_k _ _ (by decide)) (wup_k _ _ (by decide)) rfl rfl rfl
  generalize wup M1 106 3 ((j + 1 + 1 : Nat) : Int) = M2 at hf2 hpl2 hr2 ⊢
  obtain ⟨er2, ei2⟩ := aFig_y (rows := (aAdd rows 2 v1)) (show 83 ≠ 0 by decide) (show aRk 83 1 = some 3 from rfl) h2 e2 (show aLo 3 ≤ v2 from a2) (show v2 ≤ aHi 3 from b2)
  have hi2 : aIv (0, 2, (aAdd (aAdd rows 2 v1) 3 v2)) := ei2 hi1
  have er2 : aRun (T.drop (j + 1)) (83, 1, (aAdd rows 2 v1)) (j + 1) = aRun (T.drop (j + 1 + 1)) (0, 2, (aAdd (aAdd rows 2 v1) 3 v2)) (j + 1 + 1) := er2
  have c0 : M2 106 12 = (n : Int) := by rw [hn]; exact hr2.1.2.1
  refine y_is2 c_128_24 rfl ?_
  refine y_il2 c_128_25 ?_
  refine y_bi c_128_26 (by decide) ?_
  refine y_ic_ne c_128_28 (by omega) (by omega) (fun h_28 => ?_) (fun h_28 => absurd h_28 (by omega))
  refine y_al0 c_128_33 ?_
  refine y_gr 112 c_128_34 rfl (by omega) ?_
  refine y_ic c_128_37 ?_
  refine y_al0 c_128_38 ?_
  refine y_gi (j := 12) (z := (n : Int)) c_128_39 rfl rfl c0 (fun r_39 => ?_)
  refine y_mul c_128_42 ?_
  refine y_il1 c_128_43 ?_
  refine y_ast (n := 8) c_128_44 rfl (by omega) (by omega) (by omega) (by omega) ?_
  refine y_al0 c_128_45 ?_
  refine y_gr 112 c_128_46 rfl (by omega) ?_
  refine y_ic c_128_49 ?_
  refine y_al0 c_128_50 ?_
  refine y_gi (j := 12) (z := (n : Int)) c_128_51 rfl rfl ((wup_a _ _ _ _ (by decide)).trans c0) (fun r_51 => ?_)
  refine y_mul c_128_54 ?_
  refine y_ic c_128_55 ?_
  refine y_add c_128_56 ?_
  refine y_il2 c_128_57 ?_
  refine y_ast (n := 8) c_128_58 rfl (by omega) (by omega) (by omega) (by omega) ?_
  refine y_al0 c_128_59 ?_
  refine y_dup c_128_60 rfl ?_
  refine y_gi (j := 12) (z := (n : Int)) c_128_61 rfl rfl (((wup_a _ _ _ _ (by decide)).trans (wup_a _ _ _ _ (by decide))).trans c0) (fun r_61 => ?_)
  refine y_ic c_128_64 ?_
  refine y_add c_128_65 ?_
  refine y_pi (j := 12) c_128_66 rfl rfl rfl (by omega) ?_
  refine y_ic c_128_69 ?_
  refine y_zret c_128_70 rfl (by omega) ?_
  refine hQ1 _ (aAdd (aAdd rows 2 v1) 3 v2) (j + 2) (by rw [er1, er2, aRun_fg]) ?_ (by omega) (by omega) (mrows_S hr2 hn.symm (by omega)) (aIv_fg hi2) ?_
  · rw [wup_k _ _ (by decide), wup_a _ _ _ _ (by decide), wup_a _ _ _ _ (by decide)]; exact hpl2
  · exact mfr5_6 (mfr5_a (mfr5_a hf2 _ _ (by decide)) _ _ (by decide)) _ (by decide)
theorem s_129 {j : Nat} (hT : mtx M T) (ht56 : T.length ≤ 56) (ht256 : ∀ c ∈ T, c < 256) (hpl : M 106 3 = j) (hj : j ≤ T.length) (hr : mrows M rows) (hi : aIv (0, 0, rows)) (hl : (rows 4).length < 6)
    (hQ0 : ∀ (M' : wM) (j' : Nat), (aRun (T.drop j) (89, 0, rows) j).1 = j' → M' 106 3 = j' → mfr5 M M' → Q (some (.int (iI 0))) x M')
    (hQ1 : ∀ (M' : wM) (rows' : Nat → List Nat) (j' : Nat), aRun (T.drop j) (89, 0, rows) j = aRun (T.drop j') (0, 0, rows') j' → M' 106 3 = j' → j < j' → j' ≤ T.length → mrows M' rows' → aIv (0, 0, rows') → mfr5 M M' → Q (some (.int (iI 1))) x M') : yG x M 129 0 [.ref 106, zU, zU, zU] [] Q := by
  have hi0 : aIv (89, 0, rows) := aStp_iv (ch := 89) hi (by
    unfold aStp
    rw [if_pos rfl]
    show (if aCap 4 ≤ (rows 4).length then none else some _) = _
    rw [if_neg (by show ¬ 6 ≤ _; omega)])
  obtain ⟨le1, le2, le3, le4⟩ := aIv_eq hi rfl
  simp only at le1 le2 le3 le4
  obtain ⟨n, hn⟩ : ∃ n, n = (rows 4).length := ⟨_, rfl⟩
  rw [← hn] at hl
  refine y_al0 c_129_0 ?_
  refine y_ic c_129_1 ?_
  refine y_bi c_129_2 (by decide) ?_
  refine k_126 c_129_4 rfl rfl (Nat.le_of_ble_eq_true rfl) ?_
  refine s_126 (j := j) (lo := 1) (hi := 9) hT ht56 ht256 hpl hj (by decide) (fun hno => ?_) (fun v1 h1 e1 a1 b1 => ?_)
  · refine y_is1 c_129_7 rfl ?_
    refine y_il1 c_129_8 ?_
    refine y_bi c_129_9 (by decide) ?_
    refine y_ic_ne c_129_11 (by omega) (by omega) (fun h_11 => absurd h_11 (by decide)) (fun h_11 => ?_)
    refine y_bi c_129_14 (by decide) ?_
    refine y_goto c_129_16 ?_
    refine y_is2 c_129_26 rfl ?_
    refine y_il2 c_129_27 ?_
    refine y_bi c_129_28 (by decide) ?_
    refine y_ic_ne c_129_30 (by omega) (by omega) (fun h_30 => absurd h_30 (by decide)) (fun h_30 => ?_)
    refine y_bi c_129_33 (by decide) ?_
    refine y_goto c_129_35 ?_
    refine y_is3 c_129_44 rfl ?_
    refine y_il3 c_129_45 ?_
    refine y_bi c_129_46 (by decide) ?_
    refine y_ic_ne c_129_48 (by omega) (by omega) (fun h_48 => absurd h_48 (by decide)) (fun h_48 => ?_)
    refine y_ic c_129_51 ?_
    refine y_zret c_129_52 rfl (by omega) ?_
    exact hQ0 _ j (by rw [aFig_n (show 89 ≠ 0 by decide) (show aRk 89 0 = some 4 from rfl) hj hno]) hpl (mfr5_r M)
  have hf1 : mfr5 M (wup M 106 3 ((j + 1 : Nat) : Int)) := mfr5_6 (mfr5_r M) _ (Or.inl rfl)
  have hpl1 : (wup M 106 3 ((j + 1 : Nat) : Int)) 106 3 = ((j + 1 : Nat) : Int) := wup_s _ _ _ _
  have hr1 : mrows (wup M 106 3 ((j + 1 : Nat) : Int)) rows := mrows_f hr (wup_k _ _ (by decide)) (wup_k _ _ (by decide)) (wup_k _ _ (by decide)) rfl rfl rfl
  generalize wup M 106 3 ((j + 1 : Nat) : Int) = M1 at hf1 hpl1 hr1 ⊢
  obtain ⟨er1, ei1⟩ := aFig_y (rows := rows) (show 89 ≠ 0 by decide) (show aRk 89 0 = some 4 from rfl) h1 e1 (show aLo 4 ≤ v1 from a1) (show v1 ≤ aHi 4 from b1)
  have hi1 : aIv (89, 1, aAdd rows 4 v1) := ei1 hi0
  have er1 : aRun (T.drop j) (89, 0, rows) j = aRun (T.drop (j + 1)) (89, 1, aAdd rows 4 v1) (j + 1) := er1
  refine y_is1 c_129_7 rfl ?_
  refine y_il1 c_129_8 ?_
  refine y_bi c_129_9 (by decide) ?_
  refine y_ic_ne c_129_11 (by omega) (by omega) (fun h_11 => ?_) (fun h_11 => absurd h_11 (by omega))
  refine y_al0 c_129_19 ?_
  refine y_ic c_129_20 ?_
  refine y_bi c_129_21 (by decide) ?_
  refine k_126 c_129_23 rfl rfl (Nat.le_of_ble_eq_true rfl) ?_
  refine s_126 (j := j + 1) (lo := 0) (hi := 9) (mtx_f hT hf1) ht56 ht256 hpl1 (by omega) (by decide) (fun hno => ?_) (fun v2 h2 e2 a2 b2 => ?_)
  · refine y_is2 c_129_26 rfl ?_
    refine y_il2 c_129_27 ?_
    refine y_bi c_129_28 (by decide) ?_
    refine y_ic_ne c_129_30 (by omega) (by omega) (fun h_30 => absurd h_30 (by decide)) (fun h_30 => ?_)
    refine y_bi c_129_33 (by decide) ?_
    refine y_goto c_129_35 ?_
    refine y_is3 c_129_44 rfl ?_
    refine y_il3 c_129_45 ?_
    refine y_bi c_129_46 (by decide) ?_
    refine y_ic_ne c_129_48 (by omega) (by omega) (fun h_48 => absurd h_48 (by decide)) (fun h_48 => ?_)
    refine y_ic c_129_51 ?_
    refine y_zret c_129_52 rfl (by omega) ?_
    exact hQ0 _ (j + 1) (by rw [er1, aFig_n (show 89 ≠ 0 by decide) (show aRk 89 1 = some 5 from rfl) (by omega) hno]) hpl1 hf1
  have hf2 : mfr5 M (wup M1 106 3 ((j + 1 + 1 : Nat) : Int)) := mfr5_6 hf1 _ (Or.inl rfl)
  have hpl2 : (wup M1 106 3 ((j + 1 + 1 : Nat) : Int)) 106 3 = ((j + 1 + 1 : Nat) : Int) := wup_s _ _ _ _
  have hr2 : mrows (wup M1 106 3 ((j + 1 + 1 : Nat) : Int)) rows := mrows_f hr1 (wup_k _ _ (by decide)) (wup_k _ _ (by decide)) (wup_k _ _ (by decide)) rfl rfl rfl
  generalize wup M1 106 3 ((j + 1 + 1 : Nat) : Int) = M2 at hf2 hpl2 hr2 ⊢
  obtain ⟨er2, ei2⟩ := aFig_y (rows := (aAdd rows 4 v1)) (show 89 ≠ 0 by decide) (show aRk 89 1 = some 5 from rfl) h2 e2 (show aLo 5 ≤ v2 from a2) (show v2 ≤ aHi 5 from b2)
  have hi2 : aIv (89, 2, (aAdd (aAdd rows 4 v1) 5 v2)) := ei2 hi1
  have er2 : aRun (T.drop (j + 1)) (89, 1, (aAdd rows 4 v1)) (j + 1) = aRun (T.drop (j + 1 + 1)) (89, 2, (aAdd (aAdd rows 4 v1) 5 v2)) (j + 1 + 1) := er2
  refine y_is2 c_129_26 rfl ?_
  refine y_il2 c_129_27 ?_
  refine y_bi c_129_28 (by decide) ?_
  refine y_ic_ne c_129_30 (by omega) (by omega) (fun h_30 => ?_) (fun h_30 => absurd h_30 (by omega))
  refine y_al0 c_129_38 ?_
  refine y_ic c_129_39 ?_
  refine y_ic c_129_40 ?_
  refine k_126 c_129_41 rfl rfl (Nat.le_of_ble_eq_true rfl) ?_
  refine s_126 (j := j + 2) (lo := 0) (hi := 3) (mtx_f hT hf2) ht56 ht256 hpl2 (by omega) (by decide) (fun hno => ?_) (fun v3 h3 e3 a3 b3 => ?_)
  · refine y_is3 c_129_44 rfl ?_
    refine y_il3 c_129_45 ?_
    refine y_bi c_129_46 (by decide) ?_
    refine y_ic_ne c_129_48 (by omega) (by omega) (fun h_48 => absurd h_48 (by decide)) (fun h_48 => ?_)
    refine y_ic c_129_51 ?_
    refine y_zret c_129_52 rfl (by omega) ?_
    exact hQ0 _ (j + 2) (by rw [er1, er2, aFig_n (show 89 ≠ 0 by decide) (show aRk 89 2 = some 6 from rfl) (by omega) hno]) hpl2 hf2
  have hf3 : mfr5 M (wup M2 106 3 ((j + 2 + 1 : Nat) : Int)) := mfr5_6 hf2 _ (Or.inl rfl)
  have hpl3 : (wup M2 106 3 ((j + 2 + 1 : Nat) : Int)) 106 3 = ((j + 2 + 1 : Nat) : Int) := wup_s _ _ _ _
  have hr3 : mrows (wup M2 106 3 ((j + 2 + 1 : Nat) : Int)) rows := mrows_f hr2 (wup_k _ _ (by decide)) (wup_k _ _ (by decide)) (wup_k _ _ (by decide)) rfl rfl rfl
  generalize wup M2 106 3 ((j + 2 + 1 : Nat) : Int) = M3 at hf3 hpl3 hr3 ⊢
  obtain ⟨er3, ei3⟩ := aFig_y (rows := (aAdd (aAdd rows 4 v1) 5 v2)) (show 89 ≠ 0 by decide) (show aRk 89 2 = some 6 from rfl) h3 e3 (show aLo 6 ≤ v3 from a3) (show v3 ≤ aHi 6 from b3)
  have hi3 : aIv (0, 3, (aAdd (aAdd (aAdd rows 4 v1) 5 v2) 6 v3)) := ei3 hi2
  have er3 : aRun (T.drop (j + 2)) (89, 2, (aAdd (aAdd rows 4 v1) 5 v2)) (j + 2) = aRun (T.drop (j + 2 + 1)) (0, 3, (aAdd (aAdd (aAdd rows 4 v1) 5 v2) 6 v3)) (j + 2 + 1) := er3
  have c0 : M3 106 14 = (n : Int) := by rw [hn]; exact hr3.1.2.2
  refine y_is3 c_129_44 rfl ?_
  refine y_il3 c_129_45 ?_
  refine y_bi c_129_46 (by decide) ?_
  refine y_ic_ne c_129_48 (by omega) (by omega) (fun h_48 => ?_) (fun h_48 => absurd h_48 (by omega))
  refine y_al0 c_129_53 ?_
  refine y_gr 113 c_129_54 rfl (by omega) ?_
  refine y_ic c_129_57 ?_
  refine y_al0 c_129_58 ?_
  refine y_gi (j := 14) (z := (n : Int)) c_129_59 rfl rfl c0 (fun r_59 => ?_)
  refine y_mul c_129_62 ?_
  refine y_il1 c_129_63 ?_
  refine y_ast (n := 18) c_129_64 rfl (by omega) (by omega) (by omega) (by omega) ?_
  refine y_al0 c_129_65 ?_
  refine y_gr 113 c_129_66 rfl (by omega) ?_
  refine y_ic c_129_69 ?_
  refine y_al0 c_129_70 ?_
  refine y_gi (j := 14) (z := (n : Int)) c_129_71 rfl rfl ((wup_a _ _ _ _ (by decide)).trans c0) (fun r_71 => ?_)
  refine y_mul c_129_74 ?_
  refine y_ic c_129_75 ?_
  refine y_add c_129_76 ?_
  refine y_il2 c_129_77 ?_
  refine y_ast (n := 18) c_129_78 rfl (by omega) (by omega) (by omega) (by omega) ?_
  refine y_al0 c_129_79 ?_
  refine y_gr 113 c_129_80 rfl (by omega) ?_
  refine y_ic c_129_83 ?_
  refine y_al0 c_129_84 ?_
  refine y_gi (j := 14) (z := (n : Int)) c_129_85 rfl rfl (((wup_a _ _ _ _ (by decide)).trans (wup_a _ _ _ _ (by decide))).trans c0) (fun r_85 => ?_)
  refine y_mul c_129_88 ?_
  refine y_ic c_129_89 ?_
  refine y_add c_129_90 ?_
  refine y_il3 c_129_91 ?_
  refine y_ast (n := 18) c_129_92 rfl (by omega) (by omega) (by omega) (by omega) ?_
  refine y_al0 c_129_93 ?_
  refine y_dup c_129_94 rfl ?_
  refine y_gi (j := 14) (z := (n : Int)) c_129_95 rfl rfl ((((wup_a _ _ _ _ (by decide)).trans (wup_a _ _ _ _ (by decide))).trans (wup_a _ _ _ _ (by decide))).trans c0) (fun r_95 => ?_)
  refine y_ic c_129_98 ?_
  refine y_add c_129_99 ?_
  refine y_pi (j := 14) c_129_100 rfl rfl rfl (by omega) ?_
  refine y_ic c_129_103 ?_
  refine y_zret c_129_104 rfl (by omega) ?_
  refine hQ1 _ (aAdd (aAdd (aAdd rows 4 v1) 5 v2) 6 v3) (j + 3) (by rw [er1, er2, er3, aRun_fg]) ?_ (by omega) (by omega) (mrows_Y hr3 hn.symm (by omega) (by omega)) (aIv_fg hi3) ?_
  · rw [wup_k _ _ (by decide), wup_a _ _ _ _ (by decide), wup_a _ _ _ _ (by decide), wup_a _ _ _ _ (by decide)]; exact hpl3
  · exact mfr5_6 (mfr5_a (mfr5_a (mfr5_a hf3 _ _ (by decide)) _ _ (by decide)) _ _ (by decide)) _ (by decide)
theorem aStp_no {ch : Nat} {rows : Nat → List Nat} (h1 : ch = 71 → 4 ≤ (rows 0).length) (h2 : ch = 83 → 4 ≤ (rows 2).length) (h3 : ch = 89 → 6 ≤ (rows 4).length) : aStp ch (0, 0, rows) = none := by
  unfold aStp
  rw [if_pos rfl]
  by_cases e1 : ch = 71
  · subst e1
    show (if aCap 0 ≤ (rows 0).length then none else some _) = _
    rw [if_pos (by show 4 ≤ _; exact h1 rfl)]
  by_cases e2 : ch = 83
  · subst e2
    show (if aCap 2 ≤ (rows 2).length then none else some _) = _
    rw [if_pos (by show 4 ≤ _; exact h2 rfl)]
  by_cases e3 : ch = 89
  · subst e3
    show (if aCap 4 ≤ (rows 4).length then none else some _) = _
    rw [if_pos (by show 6 ≤ _; exact h3 rfl)]
  have : aRk ch 0 = none := by unfold aRk; rw [if_neg e1, if_neg e2, if_neg e3]
  rw [this]
theorem s_130 {i : Nat} (hT : mtx M T) (ht56 : T.length ≤ 56) (ht256 : ∀ c ∈ T, c < 256) (hpl : M 106 3 = i) (hi1 : i < T.length) (hr : mrows M rows) (hi : aIv (0, 0, rows))
    (hQ0 : ∀ (M' : wM) (j' : Nat), (aRun (T.drop i) (0, 0, rows) i).1 = j' → M' 106 3 = j' → mfr5 M M' → Q (some (.int (iI 0))) x M')
    (hQ1 : ∀ (M' : wM) (rows' : Nat → List Nat) (j' : Nat), aRun (T.drop i) (0, 0, rows) i = aRun (T.drop j') (0, 0, rows') j' → M' 106 3 = j' → i < j' → j' ≤ T.length → mrows M' rows' → aIv (0, 0, rows') → mfr5 M M' → Q (some (.int (iI 1))) x M') : yG x M 130 0 [.ref 106, zU] [] Q := by
  have hc := ht256 _ (mem_getD hi1)
  obtain ⟨-, li1, li2, li3, -⟩ := id hi
  simp only at li1 li2 li3
  refine y_al0 c_130_0 ?_
  refine y_gr 107 c_130_1 rfl (by omega) ?_
  refine y_al0 c_130_4 ?_
  refine y_gi (j := 3) (z := (i : Int)) c_130_5 rfl rfl hpl (fun r_5 => ?_)
  refine y_ald (n := 56) (u := ((T.getD i 0 : Nat) : Int)) c_130_8 rfl (by omega) (by omega) (by omega) (hT.2 i hi1) (fun r_8 => ?_)
  refine y_is1 c_130_9 rfl ?_
  refine y_al0 c_130_10 ?_
  refine y_dup c_130_11 rfl ?_
  refine y_gi (j := 3) (z := (i : Int)) c_130_12 rfl rfl hpl (fun r_12 => ?_)
  refine y_ic c_130_15 ?_
  refine y_add c_130_16 ?_
  refine y_pi (j := 3) c_130_17 rfl rfl rfl (by omega) ?_
  rw [show ((i : Int) + 1) = ((i + 1 : Nat) : Int) by omega]
  have hf1 : mfr5 M (wup M 106 3 ((i + 1 : Nat) : Int)) := mfr5_6 (mfr5_r M) _ (Or.inl rfl)
  have hpl1 : (wup M 106 3 ((i + 1 : Nat) : Int)) 106 3 = ((i + 1 : Nat) : Int) := wup_s _ _ _ _
  have hr1 : mrows (wup M 106 3 ((i + 1 : Nat) : Int)) rows := mrows_f hr (wup_k _ _ (by decide)) (wup_k _ _ (by decide)) (wup_k _ _ (by decide)) rfl rfl rfl
  have hT1 := mtx_f hT hf1
  generalize wup M 106 3 ((i + 1 : Nat) : Int) = M1 at hf1 hpl1 hr1 hT1 ⊢
  obtain ⟨n0, n2, n4⟩ := hr1.1
  refine y_il1 c_130_20 ?_
  refine y_bi c_130_21 (by decide) ?_
  refine y_ic_ne c_130_23 (by omega) (by omega) (fun h_23 => ?_) (fun h_23 => ?_)
  · refine y_il1 c_130_39 ?_
    refine y_bi c_130_40 (by decide) ?_
    refine y_ic_ne c_130_42 (by omega) (by omega) (fun h_42 => ?_) (fun h_42 => ?_)
    · refine y_il1 c_130_58 ?_
      refine y_bi c_130_59 (by decide) ?_
      refine y_ic_ne c_130_61 (by omega) (by omega) (fun h_61 => ?_) (fun h_61 => ?_)
      · refine y_al0 c_130_78 ?_
        refine y_dup c_130_79 rfl ?_
        refine y_gi (j := 3) (z := ((i + 1 : Nat) : Int)) c_130_80 rfl rfl hpl1 (fun r_80 => ?_)
        refine y_ic c_130_83 ?_
        refine y_sub c_130_84 ?_
        rw [show (((i + 1 : Nat) : Int) - 1) = (i : Int) by omega]
        refine y_pi (j := 3) c_130_85 rfl rfl rfl (by omega) ?_
        refine y_ic c_130_88 ?_
        refine y_zret c_130_89 rfl (by decide) ?_
        exact hQ0 _ i (by
          rw [drop_g hi1]
          simp only [aRun]
          rw [aStp_no (by omega) (by omega) (by omega)]) (by rw [wup_s]) (mfr5_6 hf1 _ (Or.inl rfl))
      · refine y_al0 c_130_64 ?_
        refine y_gi (j := 14) (z := ((rows 4).length : Int)) c_130_65 rfl rfl n4 (fun r_65 => ?_)
        refine y_bi c_130_68 (by decide) ?_
        refine y_ic_ge c_130_70 (by omega) (by omega) (fun h_70 => ?_) (fun h_70 => ?_)
        · refine y_al0 c_130_78 ?_
          refine y_dup c_130_79 rfl ?_
          refine y_gi (j := 3) (z := ((i + 1 : Nat) : Int)) c_130_80 rfl rfl hpl1 (fun r_80 => ?_)
          refine y_ic c_130_83 ?_
          refine y_sub c_130_84 ?_
          rw [show (((i + 1 : Nat) : Int) - 1) = (i : Int) by omega]
          refine y_pi (j := 3) c_130_85 rfl rfl rfl (by omega) ?_
          refine y_ic c_130_88 ?_
          refine y_zret c_130_89 rfl (by decide) ?_
          exact hQ0 _ i (by
            rw [drop_g hi1]
            simp only [aRun]
            rw [aStp_no (by omega) (by omega) (by omega)]) (by rw [wup_s]) (mfr5_6 hf1 _ (Or.inl rfl))
        · refine y_al0 c_130_73 ?_
          obtain hcL : T.getD i 0 = 89 := by omega
          refine k_129 c_130_74 rfl rfl (Nat.le_of_ble_eq_true rfl) ?_
          have hrun : aRun (T.drop i) (0, 0, rows) i = aRun (T.drop (i + 1)) (89, 0, rows) (i + 1) := by
            rw [drop_g hi1, hcL]
            simp only [aRun]
            rw [show aStp 89 (0, 0, rows) = some (89, 0, rows) by
              unfold aStp
              rw [if_pos rfl]
              show (if aCap 4 ≤ (rows 4).length then none else some _) = _
              rw [if_neg (by show ¬ 6 ≤ _; omega)]]
          refine s_129 hT1 ht56 ht256 hpl1 (by omega) hr1 hi (by omega) (fun M2 j' e1 e2 e3 => ?_) (fun M2 rows' j' e1 e2 e3 e4 e5 e6 e7 => ?_)
          · refine y_zret c_130_77 rfl (by decide) ?_
            exact hQ0 M2 j' (by rw [hrun]; exact e1) e2 (mfr5_t hf1 e3)
          · refine y_zret c_130_77 rfl (by decide) ?_
            exact hQ1 M2 rows' j' (by rw [hrun]; exact e1) e2 (by omega) e4 e5 e6 (mfr5_t hf1 e7)
    · refine y_al0 c_130_45 ?_
      refine y_gi (j := 12) (z := ((rows 2).length : Int)) c_130_46 rfl rfl n2 (fun r_46 => ?_)
      refine y_ic c_130_49 ?_
      refine y_ic_ge c_130_50 (by omega) (by omega) (fun h_50 => ?_) (fun h_50 => ?_)
      · refine y_il1 c_130_58 ?_
        refine y_bi c_130_59 (by decide) ?_
        refine y_ic_ne c_130_61 (by omega) (by omega) (fun h_61 => ?_) (fun h_61 => ?_)
        · refine y_al0 c_130_78 ?_
          refine y_dup c_130_79 rfl ?_
          refine y_gi (j := 3) (z := ((i + 1 : Nat) : Int)) c_130_80 rfl rfl hpl1 (fun r_80 => ?_)
          refine y_ic c_130_83 ?_
          refine y_sub c_130_84 ?_
          rw [show (((i + 1 : Nat) : Int) - 1) = (i : Int) by omega]
          refine y_pi (j := 3) c_130_85 rfl rfl rfl (by omega) ?_
          refine y_ic c_130_88 ?_
          refine y_zret c_130_89 rfl (by decide) ?_
          exact hQ0 _ i (by
            rw [drop_g hi1]
            simp only [aRun]
            rw [aStp_no (by omega) (by omega) (by omega)]) (by rw [wup_s]) (mfr5_6 hf1 _ (Or.inl rfl))
        · refine y_al0 c_130_64 ?_
          refine y_gi (j := 14) (z := ((rows 4).length : Int)) c_130_65 rfl rfl n4 (fun r_65 => ?_)
          refine y_bi c_130_68 (by decide) ?_
          refine y_ic_ge c_130_70 (by omega) (by omega) (fun h_70 => ?_) (fun h_70 => ?_)
          · refine y_al0 c_130_78 ?_
            refine y_dup c_130_79 rfl ?_
            refine y_gi (j := 3) (z := ((i + 1 : Nat) : Int)) c_130_80 rfl rfl hpl1 (fun r_80 => ?_)
            refine y_ic c_130_83 ?_
            refine y_sub c_130_84 ?_
            rw [show (((i + 1 : Nat) : Int) - 1) = (i : Int) by omega]
            refine y_pi (j := 3) c_130_85 rfl rfl rfl (by omega) ?_
            refine y_ic c_130_88 ?_
            refine y_zret c_130_89 rfl (by decide) ?_
            exact hQ0 _ i (by
              rw [drop_g hi1]
              simp only [aRun]
              rw [aStp_no (by omega) (by omega) (by omega)]) (by rw [wup_s]) (mfr5_6 hf1 _ (Or.inl rfl))
          · refine y_al0 c_130_73 ?_
            obtain hcL : T.getD i 0 = 89 := by omega
            refine k_129 c_130_74 rfl rfl (Nat.le_of_ble_eq_true rfl) ?_
            have hrun : aRun (T.drop i) (0, 0, rows) i = aRun (T.drop (i + 1)) (89, 0, rows) (i + 1) := by
              rw [drop_g hi1, hcL]
              simp only [aRun]
              rw [show aStp 89 (0, 0, rows) = some (89, 0, rows) by
                unfold aStp
                rw [if_pos rfl]
                show (if aCap 4 ≤ (rows 4).length then none else some _) = _
                rw [if_neg (by show ¬ 6 ≤ _; omega)]]
            refine s_129 hT1 ht56 ht256 hpl1 (by omega) hr1 hi (by omega) (fun M2 j' e1 e2 e3 => ?_) (fun M2 rows' j' e1 e2 e3 e4 e5 e6 e7 => ?_)
            · refine y_zret c_130_77 rfl (by decide) ?_
              exact hQ0 M2 j' (by rw [hrun]; exact e1) e2 (mfr5_t hf1 e3)
            · refine y_zret c_130_77 rfl (by decide) ?_
              exact hQ1 M2 rows' j' (by rw [hrun]; exact e1) e2 (by omega) e4 e5 e6 (mfr5_t hf1 e7)
      · refine y_al0 c_130_53 ?_
        obtain hcL : T.getD i 0 = 83 := by omega
        refine k_128 c_130_54 rfl rfl (Nat.le_of_ble_eq_true rfl) ?_
        have hrun : aRun (T.drop i) (0, 0, rows) i = aRun (T.drop (i + 1)) (83, 0, rows) (i + 1) := by
          rw [drop_g hi1, hcL]
          simp only [aRun]
          rw [show aStp 83 (0, 0, rows) = some (83, 0, rows) by
            unfold aStp
            rw [if_pos rfl]
            show (if aCap 2 ≤ (rows 2).length then none else some _) = _
            rw [if_neg (by show ¬ 4 ≤ _; omega)]]
        refine s_128 hT1 ht56 ht256 hpl1 (by omega) hr1 hi (by omega) (fun M2 j' e1 e2 e3 => ?_) (fun M2 rows' j' e1 e2 e3 e4 e5 e6 e7 => ?_)
        · refine y_zret c_130_57 rfl (by decide) ?_
          exact hQ0 M2 j' (by rw [hrun]; exact e1) e2 (mfr5_t hf1 e3)
        · refine y_zret c_130_57 rfl (by decide) ?_
          exact hQ1 M2 rows' j' (by rw [hrun]; exact e1) e2 (by omega) e4 e5 e6 (mfr5_t hf1 e7)
  · refine y_al0 c_130_26 ?_
    refine y_gi (j := 10) (z := ((rows 0).length : Int)) c_130_27 rfl rfl n0 (fun r_27 => ?_)
    refine y_ic c_130_30 ?_
    refine y_ic_ge c_130_31 (by omega) (by omega) (fun h_31 => ?_) (fun h_31 => ?_)
    · refine y_il1 c_130_39 ?_
      refine y_bi c_130_40 (by decide) ?_
      refine y_ic_ne c_130_42 (by omega) (by omega) (fun h_42 => ?_) (fun h_42 => ?_)
      · refine y_il1 c_130_58 ?_
        refine y_bi c_130_59 (by decide) ?_
        refine y_ic_ne c_130_61 (by omega) (by omega) (fun h_61 => ?_) (fun h_61 => ?_)
        · refine y_al0 c_130_78 ?_
          refine y_dup c_130_79 rfl ?_
          refine y_gi (j := 3) (z := ((i + 1 : Nat) : Int)) c_130_80 rfl rfl hpl1 (fun r_80 => ?_)
          refine y_ic c_130_83 ?_
          refine y_sub c_130_84 ?_
          rw [show (((i + 1 : Nat) : Int) - 1) = (i : Int) by omega]
          refine y_pi (j := 3) c_130_85 rfl rfl rfl (by omega) ?_
          refine y_ic c_130_88 ?_
          refine y_zret c_130_89 rfl (by decide) ?_
          exact hQ0 _ i (by
            rw [drop_g hi1]
            simp only [aRun]
            rw [aStp_no (by omega) (by omega) (by omega)]) (by rw [wup_s]) (mfr5_6 hf1 _ (Or.inl rfl))
        · refine y_al0 c_130_64 ?_
          refine y_gi (j := 14) (z := ((rows 4).length : Int)) c_130_65 rfl rfl n4 (fun r_65 => ?_)
          refine y_bi c_130_68 (by decide) ?_
          refine y_ic_ge c_130_70 (by omega) (by omega) (fun h_70 => ?_) (fun h_70 => ?_)
          · refine y_al0 c_130_78 ?_
            refine y_dup c_130_79 rfl ?_
            refine y_gi (j := 3) (z := ((i + 1 : Nat) : Int)) c_130_80 rfl rfl hpl1 (fun r_80 => ?_)
            refine y_ic c_130_83 ?_
            refine y_sub c_130_84 ?_
            rw [show (((i + 1 : Nat) : Int) - 1) = (i : Int) by omega]
            refine y_pi (j := 3) c_130_85 rfl rfl rfl (by omega) ?_
            refine y_ic c_130_88 ?_
            refine y_zret c_130_89 rfl (by decide) ?_
            exact hQ0 _ i (by
              rw [drop_g hi1]
              simp only [aRun]
              rw [aStp_no (by omega) (by omega) (by omega)]) (by rw [wup_s]) (mfr5_6 hf1 _ (Or.inl rfl))
          · refine y_al0 c_130_73 ?_
            obtain hcL : T.getD i 0 = 89 := by omega
            refine k_129 c_130_74 rfl rfl (Nat.le_of_ble_eq_true rfl) ?_
            have hrun : aRun (T.drop i) (0, 0, rows) i = aRun (T.drop (i + 1)) (89, 0, rows) (i + 1) := by
              rw [drop_g hi1, hcL]
              simp only [aRun]
              rw [show aStp 89 (0, 0, rows) = some (89, 0, rows) by
                unfold aStp
                rw [if_pos rfl]
                show (if aCap 4 ≤ (rows 4).length then none else some _) = _
                rw [if_neg (by show ¬ 6 ≤ _; omega)]]
            refine s_129 hT1 ht56 ht256 hpl1 (by omega) hr1 hi (by omega) (fun M2 j' e1 e2 e3 => ?_) (fun M2 rows' j' e1 e2 e3 e4 e5 e6 e7 => ?_)
            · refine y_zret c_130_77 rfl (by decide) ?_
              exact hQ0 M2 j' (by rw [hrun]; exact e1) e2 (mfr5_t hf1 e3)
            · refine y_zret c_130_77 rfl (by decide) ?_
              exact hQ1 M2 rows' j' (by rw [hrun]; exact e1) e2 (by omega) e4 e5 e6 (mfr5_t hf1 e7)
      · refine y_al0 c_130_45 ?_
        refine y_gi (j := 12) (z := ((rows 2).length : Int)) c_130_46 rfl rfl n2 (fun r_46 => ?_)
        refine y_ic c_130_49 ?_
        refine y_ic_ge c_130_50 (by omega) (by omega) (fun h_50 => ?_) (fun h_50 => ?_)
        · refine y_il1 c_130_58 ?_
          refine y_bi c_130_59 (by decide) ?_
          refine y_ic_ne c_130_61 (by omega) (by omega) (fun h_61 => ?_) (fun h_61 => ?_)
          · refine y_al0 c_130_78 ?_
            refine y_dup c_130_79 rfl ?_
            refine y_gi (j := 3) (z := ((i + 1 : Nat) : Int)) c_130_80 rfl rfl hpl1 (fun r_80 => ?_)
            refine y_ic c_130_83 ?_
            refine y_sub c_130_84 ?_
            rw [show (((i + 1 : Nat) : Int) - 1) = (i : Int) by omega]
            refine y_pi (j := 3) c_130_85 rfl rfl rfl (by omega) ?_
            refine y_ic c_130_88 ?_
            refine y_zret c_130_89 rfl (by decide) ?_
            exact hQ0 _ i (by
              rw [drop_g hi1]
              simp only [aRun]
              rw [aStp_no (by omega) (by omega) (by omega)]) (by rw [wup_s]) (mfr5_6 hf1 _ (Or.inl rfl))
          · refine y_al0 c_130_64 ?_
            refine y_gi (j := 14) (z := ((rows 4).length : Int)) c_130_65 rfl rfl n4 (fun r_65 => ?_)
            refine y_bi c_130_68 (by decide) ?_
            refine y_ic_ge c_130_70 (by omega) (by omega) (fun h_70 => ?_) (fun h_70 => ?_)
            · refine y_al0 c_130_78 ?_
              refine y_dup c_130_79 rfl ?_
              refine y_gi (j := 3) (z := ((i + 1 : Nat) : Int)) c_130_80 rfl rfl hpl1 (fun r_80 => ?_)
              refine y_ic c_130_83 ?_
              refine y_sub c_130_84 ?_
              rw [show (((i + 1 : Nat) : Int) - 1) = (i : Int) by omega]
              refine y_pi (j := 3) c_130_85 rfl rfl rfl (by omega) ?_
              refine y_ic c_130_88 ?_
              refine y_zret c_130_89 rfl (by decide) ?_
              exact hQ0 _ i (by
                rw [drop_g hi1]
                simp only [aRun]
                rw [aStp_no (by omega) (by omega) (by omega)]) (by rw [wup_s]) (mfr5_6 hf1 _ (Or.inl rfl))
            · refine y_al0 c_130_73 ?_
              obtain hcL : T.getD i 0 = 89 := by omega
              refine k_129 c_130_74 rfl rfl (Nat.le_of_ble_eq_true rfl) ?_
              have hrun : aRun (T.drop i) (0, 0, rows) i = aRun (T.drop (i + 1)) (89, 0, rows) (i + 1) := by
                rw [drop_g hi1, hcL]
                simp only [aRun]
                rw [show aStp 89 (0, 0, rows) = some (89, 0, rows) by
                  unfold aStp
                  rw [if_pos rfl]
                  show (if aCap 4 ≤ (rows 4).length then none else some _) = _
                  rw [if_neg (by show ¬ 6 ≤ _; omega)]]
              refine s_129 hT1 ht56 ht256 hpl1 (by omega) hr1 hi (by omega) (fun M2 j' e1 e2 e3 => ?_) (fun M2 rows' j' e1 e2 e3 e4 e5 e6 e7 => ?_)
              · refine y_zret c_130_77 rfl (by decide) ?_
                exact hQ0 M2 j' (by rw [hrun]; exact e1) e2 (mfr5_t hf1 e3)
              · refine y_zret c_130_77 rfl (by decide) ?_
                exact hQ1 M2 rows' j' (by rw [hrun]; exact e1) e2 (by omega) e4 e5 e6 (mfr5_t hf1 e7)
        · refine y_al0 c_130_53 ?_
          obtain hcL : T.getD i 0 = 83 := by omega
          refine k_128 c_130_54 rfl rfl (Nat.le_of_ble_eq_true rfl) ?_
          have hrun : aRun (T.drop i) (0, 0, rows) i = aRun (T.drop (i + 1)) (83, 0, rows) (i + 1) := by
            rw [drop_g hi1, hcL]
            simp only [aRun]
            rw [show aStp 83 (0, 0, rows) = some (83, 0, rows) by
              unfold aStp
              rw [if_pos rfl]
              show (if aCap 2 ≤ (rows 2).length then none else some _) = _
              rw [if_neg (by show ¬ 4 ≤ _; omega)]]
          refine s_128 hT1 ht56 ht256 hpl1 (by omega) hr1 hi (by omega) (fun M2 j' e1 e2 e3 => ?_) (fun M2 rows' j' e1 e2 e3 e4 e5 e6 e7 => ?_)
          · refine y_zret c_130_57 rfl (by decide) ?_
            exact hQ0 M2 j' (by rw [hrun]; exact e1) e2 (mfr5_t hf1 e3)
          · refine y_zret c_130_57 rfl (by decide) ?_
            exact hQ1 M2 rows' j' (by rw [hrun]; exact e1) e2 (by omega) e4 e5 e6 (mfr5_t hf1 e7)
    · refine y_al0 c_130_34 ?_
      obtain hcL : T.getD i 0 = 71 := by omega
      refine k_127 c_130_35 rfl rfl (Nat.le_of_ble_eq_true rfl) ?_
      have hrun : aRun (T.drop i) (0, 0, rows) i = aRun (T.drop (i + 1)) (71, 0, rows) (i + 1) := by
        rw [drop_g hi1, hcL]
        simp only [aRun]
        rw [show aStp 71 (0, 0, rows) = some (71, 0, rows) by
          unfold aStp
          rw [if_pos rfl]
          show (if aCap 0 ≤ (rows 0).length then none else some _) = _
          rw [if_neg (by show ¬ 4 ≤ _; omega)]]
      refine s_127 hT1 ht56 ht256 hpl1 (by omega) hr1 hi (by omega) (fun M2 j' e1 e2 e3 => ?_) (fun M2 rows' j' e1 e2 e3 e4 e5 e6 e7 => ?_)
      · refine y_zret c_130_38 rfl (by decide) ?_
        exact hQ0 M2 j' (by rw [hrun]; exact e1) e2 (mfr5_t hf1 e3)
      · refine y_zret c_130_38 rfl (by decide) ?_
        exact hQ1 M2 rows' j' (by rw [hrun]; exact e1) e2 (by omega) e4 e5 e6 (mfr5_t hf1 e7)
theorem s_131 (hT : mtx M T) (ht56 : T.length ≤ 56) (ht256 : ∀ c ∈ T, c < 256) (hQ : ∀ M', (∀ rows, aFault T = (-9, rows) → mrows M' rows ∧ aIv (0, 0, rows)) → mfr5 M M' → Q (some (.int (iI (aFault T).1))) x M') : yG x M 131 0 [.ref 106] [] Q := by
  have key : ∀ d i : Nat, T.length < i + d → i ≤ T.length → ∀ (M1 : wM) (rows : Nat → List Nat), mfr5 M M1 → M1 106 3 = i → mrows M1 rows → aIv (0, 0, rows) → aFault T = aRun (T.drop i) (0, 0, rows) i → yG x M1 131 45 [.ref 106] [] Q := by
    intro d
    induction d with
    | zero => intro i g1 g2; omega
    | succ d ih =>
      intro i g1 g2 M1 rows hf1 hpl hr hi hF
      have hT1 := mtx_f hT hf1
      refine y_al0 c_131_45 ?_
      refine y_gi (j := 3) (z := (i : Int)) c_131_46 rfl rfl hpl (fun r_46 => ?_)
      refine y_al0 c_131_49 ?_
      refine y_gi (j := 2) (z := (T.length : Int)) c_131_50 rfl rfl hT1.1 (fun r_50 => ?_)
      refine y_ic_ge c_131_53 (by omega) (by omega) (fun h_53 => ?_) (fun h_53 => ?_)
      · obtain rfl : i = T.length := by omega
        rw [List.drop_length] at hF
        have hF : aFault T = (-9, rows) := hF
        refine y_bi c_131_68 (by decide) ?_
        refine y_ret c_131_70 rfl ?_
        rw [show (-9 : Int) = (aFault T).1 by rw [hF]]
        exact hQ M1 (fun rows' h => by
          rw [hF] at h
          injection h with _ h
          subst h
          exact ⟨hr, hi⟩) hf1
      · refine y_al0 c_131_56 ?_
        refine k_130 c_131_57 rfl rfl (Nat.le_of_ble_eq_true rfl) ?_
        refine s_130 hT1 ht56 ht256 hpl (by omega) hr hi (fun M2 j' e1 e2 e3 => ?_) (fun M2 rows' j' e1 e2 e3 e4 e5 e6 e7 => ?_)
        · refine y_iz_ne c_131_60 (by decide) (fun h => absurd rfl h) (fun _ => ?_)
          refine y_al0 c_131_63 ?_
          refine y_gi (j := 3) (z := (j' : Int)) c_131_64 rfl rfl e2 (fun r_64 => ?_)
          refine y_ret c_131_67 rfl ?_
          rw [← hF] at e1
          rw [← e1]
          exact hQ M2 (fun rows' h => by rw [h] at e1; have e1 : (-9 : Int) = j' := e1; omega) (mfr5_t hf1 e3)
        · refine y_iz_ne c_131_60 (by decide) (fun _ => ?_) (fun h => absurd h (by decide))
          exact ih j' (by omega) e4 M2 rows' (mfr5_t hf1 e7) e2 e5 e6 (by rw [hF, e1])
  refine y_al0 c_131_0 ?_
  refine y_ic c_131_1 ?_
  refine y_pi (j := 3) c_131_2 rfl rfl rfl (by decide) ?_
  refine y_al0 c_131_5 ?_
  refine y_ic c_131_6 ?_
  refine y_pi (j := 10) c_131_7 rfl rfl rfl (by decide) ?_
  refine y_al0 c_131_10 ?_
  refine y_ic c_131_11 ?_
  refine y_pi (j := 12) c_131_12 rfl rfl rfl (by decide) ?_
  refine y_al0 c_131_15 ?_
  refine y_ic c_131_16 ?_
  refine y_pi (j := 14) c_131_17 rfl rfl rfl (by decide) ?_
  have hf1 : mfr5 M (wup (wup (wup (wup M 106 3 0) 106 10 0) 106 12 0) 106 14 0) := mfr5_6 (mfr5_6 (mfr5_6 (mfr5_6 (mfr5_r M) _ (by decide)) _ (by decide)) _ (by decide)) _ (by decide)
  have hr1 : mrows (wup (wup (wup (wup M 106 3 0) 106 10 0) 106 12 0) 106 14 0) (fun _ => []) := by
    refine ⟨⟨?_, ?_, ?_⟩, ⟨?_, ?_⟩, ⟨?_, ?_⟩, ?_, ?_, ?_⟩
    · rw [wup_k _ _ (by decide), wup_k _ _ (by decide), wup_s]; rfl
    · rw [wup_k _ _ (by decide), wup_s]; rfl
    · rw [wup_s]; rfl
    all_goals exact fun i hi => absurd hi (Nat.not_lt_zero _)
  generalize wup (wup (wup (wup M 106 3 0) 106 10 0) 106 12 0) 106 14 0 = M1 at hf1 hr1 ⊢
  have hT1 := mtx_f hT hf1
  refine y_al0 c_131_20 ?_
  refine y_gi (j := 2) (z := (T.length : Int)) c_131_21 rfl rfl hT1.1 (fun r_21 => ?_)
  refine y_iz_eq c_131_24 (by omega) (fun hl0 => ?_) (fun hl0 => ?_)
  · have hF0 : aFault T = (0, fun _ => []) := by
      cases T with
      | nil => rfl
      | cons c cs => simp only [List.length_cons] at hl0; omega
    refine y_ic c_131_38 ?_
    refine y_ret c_131_39 rfl ?_
    rw [show (0 : Int) = (aFault T).1 by rw [hF0]]
    exact hQ M1 (fun rows' h => by
      rw [hF0] at h
      injection h with h _
      exact absurd h (by decide)) hf1
  · obtain ⟨c, cs, hcs⟩ : ∃ c cs, T = c :: cs := by
      cases T with
      | nil => simp at hl0
      | cons c cs => exact ⟨c, cs, rfl⟩
    have hT0 := hT1.2 0 (by omega)
    have hc := ht256 c (by rw [hcs]; exact List.mem_cons_self)
    rw [show T.getD 0 0 = c by rw [hcs]; rfl] at hT0
    refine y_al0 c_131_27 ?_
    refine y_gr 107 c_131_28 rfl (by omega) ?_
    refine y_ic c_131_31 ?_
    refine y_ald (n := 56) (u := (c : Int)) c_131_32 rfl (by omega) (by omega) (by omega) hT0 (fun r_32 => ?_)
    refine y_bi c_131_33 (by decide) ?_
    refine y_ic_eq c_131_35 (by omega) (by omega) (fun hc69 => ?_) (fun hc69 => ?_)
    · obtain rfl : c = 69 := by omega
      refine y_al0 c_131_40 ?_
      refine y_ic c_131_41 ?_
      refine y_pi (j := 3) c_131_42 rfl rfl rfl (by decide) ?_
      exact key (T.length + 1) 1 (by omega) (by omega) _ _ (mfr5_6 hf1 _ (Or.inl rfl)) (wup_s _ _ _ _) (mrows_f hr1 (wup_k _ _ (by decide)) (wup_k _ _ (by decide)) (wup_k _ _ (by decide)) rfl rfl rfl) aIv_0 (by rw [hcs]; rfl)
    · have hF0 : aFault T = (0, fun _ => []) := by
        rw [hcs]
        unfold aFault
        exact if_neg (by omega)
      refine y_ic c_131_38 ?_
      refine y_ret c_131_39 rfl ?_
      rw [show (0 : Int) = (aFault T).1 by rw [hF0]]
      exact hQ M1 (fun rows' h => by
        rw [hF0] at h
        injection h with h _
        exact absurd h (by decide)) hf1
theorem s_132 (hC : MI x M T P R L Tm sd K) (hA : AOK T P R L Tm K) (hQ : ∀ M', MI x M' T P R L Tm sd K → (∀ b, b < 106 → M' b = M b) → Q (some (.int (iI (aFault T).1))) x M') : yG x M 132 0 [.ref 106] [] Q := by
  obtain ⟨⟨ht56, ht256⟩, hok, hRk, ⟨hl14, hLk⟩, hTk, hKk⟩ := id hA
  obtain ⟨z1, z2, z3, z4, z5⟩ := aRok_len hok hRk
  have z6 : ∀ y ∈ R.2.2.2, y < 6 := fun y hy => by have := z3 y hy; have := hok.2.2.1; omega
  have hb1 := hok.1
  have hb2 := hok.2.1
  have hb3 := hok.2.2.1
  refine y_al0 c_132_0 ?_
  refine y_ic c_132_1 ?_
  refine y_pi (j := 0) c_132_2 rfl rfl rfl (by decide) ?_
  have hC0 := MI_thr hC
  have hF0 : ∀ b, b < 106 → (wup M 106 0 0) b = M b := fun b hb => wup_f _ _ _ (by omega)
  generalize (wup M 106 0 0) = M0 at hC0 hF0 ⊢
  obtain ⟨hsd, hT, hM, hR, hL, hTm, hK⟩ := id hC0
  obtain ⟨m4, m6, m8, v1, v2, v3⟩ := id hM
  obtain ⟨a0, a1, a2, a3, a4⟩ := id hR
  refine y_al0 c_132_5 ?_
  refine k_131 c_132_6 rfl rfl (Nat.le_of_ble_eq_true rfl) ?_
  refine s_131 hT ht56 ht256 (fun M1 _ hf1 => ?_)
  refine y_ret c_132_9 rfl ?_
  exact hQ _ (MI_fr5 hC0 hf1) (fun b hb => by rw [hf1.1 b (by omega) (by omega) (by omega) (by omega), hF0 b hb])
theorem mr_cp {M M' : wM} {a b st off n : Nat} {l : List Nat} (h : mr M a st off l) (hc : ∀ i : Nat, i < n → M' b i = M a i) (hl : ∀ i : Nat, i < l.length → st * i + off < n) : mr M' b st off l := fun i hi => by rw [hc _ (hl i hi)]; exact h i hi
theorem s_134 (hC : MI x M T P R L Tm sd K) (hA : AOK T P R L Tm K)
    (hQ0 : ∀ M', (aFault T).1 ≠ -9 → MI x M' T P R L Tm sd K → (∀ b, b < 106 → M' b = M b) → Q (some (.int (iI (-3)))) x M')
    (hQ1 : ∀ rows M', aFault T = (-9, rows) → MI x M' T (aPort rows) aR0 (0, L.2) Tm sd (fun _ => none) → (∀ b, b < 106 → M' b = M b) → Q (some (.int (iI (100 * ((aPort rows).2.1 : Int) + 10 * ((aPort rows).2.2.1 : Int) + ((aPort rows).2.2.2 : Int))))) x M') : yG x M 134 0 [.ref 106, zU] [] Q := by
  obtain ⟨⟨ht56, ht256⟩, hok, hRk, ⟨hl14, hLk⟩, hTk, hKk⟩ := id hA
  obtain ⟨z1, z2, z3, z4, z5⟩ := aRok_len hok hRk
  have z6 : ∀ y ∈ R.2.2.2, y < 6 := fun y hy => by have := z3 y hy; have := hok.2.2.1; omega
  have hb1 := hok.1
  have hb2 := hok.2.1
  have hb3 := hok.2.2.1
  have fin : ∀ (rows : Nat → List Nat) (M1 : wM), aFault T = (-9, rows) → aIv (0, 0, rows) → (∀ b, b < 106 → M1 b = M b) → x.1 106 = sd → mtx M1 T → mport M1 (aPort rows) → (M1 106 22 = Tm.1 ∧ ∀ i : Nat, i < Tm.1 → M1 119 i = Tm.2 0 i ∧ M1 120 i = Tm.2 1 i ∧ M1 121 i = Tm.2 2 i ∧ M1 122 i = Tm.2 3 i) → ∀ d k : Nat, 10 < k + d → k ≤ 10 → ∀ M2 : wM, (∀ b, b ≠ 114 → M2 b = M1 b) → (∀ i : Nat, i < k → M2 114 i = if i < 2 then -9 else 0) → yG x M2 134 82 [.ref 106, .int (iI (k : Int))] [] Q := by
    intro rows M1 hF hi hF1 hsd hT1 hp1 hTm1 d
    induction d with
    | zero => intro k g1 g2; omega
    | succ d ih =>
      intro k g1 g2 M2 hf2 hv
      have hpk := aIv_port hi
      have hp2 : mport M2 (aPort rows) := mport_pg (a := 114) (by decide) hp1 hf2
      have q1 := hpk.1
      have q2 := hpk.2.1
      have q3 := hpk.2.2.1
      refine y_il1 c_134_82 ?_
      refine y_bi c_134_83 (by decide) ?_
      refine y_ic_ge c_134_85 (by omega) (by omega) (fun h_85 => ?_) (fun h_85 => ?_)
      · obtain rfl : k = 10 := by omega
        refine y_al0 c_134_111 ?_
        refine y_ic c_134_112 ?_
        refine y_pi (j := 19) c_134_113 rfl rfl rfl (by decide) ?_
        refine y_al0 c_134_116 ?_
        refine y_gr 118 c_134_117 rfl (by omega) ?_
        refine y_ic c_134_120 ?_
        refine y_ic c_134_121 ?_
        refine y_bst (n := 2) c_134_122 rfl (by decide) (by decide) (by decide) (by decide) ?_
        refine y_al0 c_134_123 ?_
        refine y_gr 118 c_134_124 rfl (by omega) ?_
        refine y_ic c_134_127 ?_
        refine y_ic c_134_128 ?_
        refine y_bst (n := 2) c_134_129 rfl (by decide) (by decide) (by decide) (by decide) ?_
        refine y_bi c_134_130 (by decide) ?_
        refine y_al0 c_134_132 ?_
        refine y_gi (j := 4) (z := ((aPort rows).2.1 : Int)) c_134_133 rfl rfl hp2.1 (fun r_133 => ?_)
        refine y_mul c_134_136 ?_
        refine y_bi c_134_137 (by decide) ?_
        refine y_al0 c_134_139 ?_
        refine y_gi (j := 6) (z := ((aPort rows).2.2.1 : Int)) c_134_140 rfl rfl hp2.2.1 (fun r_140 => ?_)
        refine y_mul c_134_143 ?_
        refine y_add c_134_144 ?_
        refine y_al0 c_134_145 ?_
        refine y_gi (j := 8) (z := ((aPort rows).2.2.2 : Int)) c_134_146 rfl rfl hp2.2.2.1 (fun r_146 => ?_)
        refine y_add c_134_149 ?_
        refine y_ret c_134_150 rfl ?_
        obtain ⟨M3, hM3⟩ : ∃ M3 : wM, M3 = wup (wup (wup M2 106 19 0) 118 0 0) 118 1 0 := ⟨_, rfl⟩
        rw [← hM3]
        have hf3 : ∀ b, b ≠ 106 → b ≠ 118 → M3 b = M2 b := fun b h1 h2 => by rw [hM3, wup_f _ _ _ h2, wup_f _ _ _ h2, wup_f _ _ _ h1]
        have hj3 : ∀ j : Int, j ≠ 19 → M3 106 j = M2 106 j := fun j hj => by rw [hM3, wup_f _ _ _ (by decide), wup_f _ _ _ (by decide), wup_k _ _ hj]
        refine hQ1 rows M3 hF ⟨hsd, ?_, ?_, ?_, ⟨?_, fun k hk => absurd hk (Nat.not_lt_zero _)⟩, ?_, fun k hk => ⟨?_, fun R' h => by simp at h⟩⟩ (fun b hb => by rw [hf3 b (by omega) (by omega), hf2 b (by omega), hF1 b hb])
        · show M3 106 2 = _ ∧ ∀ i : Nat, i < T.length → M3 107 i = _
          rw [hj3 2 (by decide), hf3 107 (by decide) (by decide), hf2 106 (by decide), hf2 107 (by decide)]; exact hT1
        · exact mport_of hp2 (hj3 4 (by decide)) (hj3 6 (by decide)) (hj3 8 (by decide)) (hf3 108 (by decide) (by decide)) (hf3 109 (by decide) (by decide)) (hf3 110 (by decide) (by decide))
        · refine wpage_of ?_ (hf3 114 (by decide) (by decide))
          exact ⟨hv 0 (by decide), hv 1 (by decide), hv 2 (by decide), hv 3 (by decide), fun i hi => absurd hi (Nat.not_lt_zero _)⟩
        · rw [hM3, wup_f _ _ _ (by decide), wup_f _ _ _ (by decide), wup_s]; rfl
        · rw [hj3 22 (by decide), hf3 119 (by decide) (by decide), hf3 120 (by decide) (by decide), hf3 121 (by decide) (by decide), hf3 122 (by decide) (by decide), hf2 106 (by decide), hf2 119 (by decide), hf2 120 (by decide), hf2 121 (by decide), hf2 122 (by decide)]; exact hTm1
        · rw [hM3]
          rcases (show k = 0 ∨ k = 1 by omega) with rfl | rfl
          · exact (wup_k _ _ (by decide)).trans (wup_s _ _ _ _)
          · exact wup_s _ _ _ _
      · refine y_al0 c_134_88 ?_
        refine y_gr 114 c_134_89 rfl (by omega) ?_
        refine y_il1 c_134_92 ?_
        refine y_il1 c_134_93 ?_
        refine y_ic c_134_94 ?_
        refine y_ic_ge c_134_95 (by omega) (by omega) (fun h_95 => ?_) (fun h_95 => ?_)
        · refine y_ic c_134_103 ?_
          refine y_ast (n := 10) c_134_104 rfl (by omega) (by omega) (by omega) (by omega) ?_
          refine y_inc1 c_134_105 rfl ?_
          refine y_goto c_134_108 ?_
          refine ih (k + 1) (by omega) (by omega) _ (fun b hb => by rw [wup_f _ _ _ hb]; exact hf2 b hb) (fun i hi => ?_)
          by_cases e : i = k
          · subst e
            rw [wup_s]
            split <;> omega
          · rw [wup_k _ _ (by omega)]; exact hv i (by omega)
        · refine y_bi c_134_98 (by decide) ?_
          refine y_goto c_134_100 ?_
          refine y_ast (n := 10) c_134_104 rfl (by omega) (by omega) (by omega) (by omega) ?_
          refine y_inc1 c_134_105 rfl ?_
          refine y_goto c_134_108 ?_
          refine ih (k + 1) (by omega) (by omega) _ (fun b hb => by rw [wup_f _ _ _ hb]; exact hf2 b hb) (fun i hi => ?_)
          by_cases e : i = k
          · subst e
            rw [wup_s]
            split <;> omega
          · rw [wup_k _ _ (by omega)]; exact hv i (by omega)
  refine y_al0 c_134_0 ?_
  refine y_ic c_134_1 ?_
  refine y_pi (j := 0) c_134_2 rfl rfl rfl (by decide) ?_
  have hC0 := MI_thr hC
  have hF0 : ∀ b, b < 106 → (wup M 106 0 0) b = M b := fun b hb => wup_f _ _ _ (by omega)
  generalize (wup M 106 0 0) = M0 at hC0 hF0 ⊢
  obtain ⟨hsd, hT, hM, hR, hL, hTm, hK⟩ := id hC0
  obtain ⟨m4, m6, m8, v1, v2, v3⟩ := id hM
  obtain ⟨a0, a1, a2, a3, a4⟩ := id hR
  refine y_al0 c_134_5 ?_
  refine k_131 c_134_6 rfl rfl (Nat.le_of_ble_eq_true rfl) ?_
  refine s_131 hT ht56 ht256 (fun M1 hm1 hf1 => ?_)
  have hC1 := MI_fr5 hC0 hf1
  have hF1 : ∀ b, b < 106 → M1 b = M b := fun b hb => by rw [hf1.1 b (by omega) (by omega) (by omega) (by omega), hF0 b hb]
  have hfb := aFault_b ht56
  refine y_bi c_134_9 (by decide) ?_
  refine y_ic_eq c_134_11 (by omega) (by omega) (fun h9 => ?_) (fun h9 => ?_)
  · obtain ⟨rows, hFr⟩ : ∃ rows, aFault T = (-9, rows) := ⟨(aFault T).2, by rw [← h9]⟩
    obtain ⟨hr1, hi1⟩ := hm1 rows hFr
    obtain ⟨-, li1, li2, li3, -⟩ := id hi1
    simp only at li1 li2 li3
    obtain ⟨le1, le2, le3, le4⟩ := aIv_eq hi1 rfl
    simp only at le1 le2 le3 le4
    obtain ⟨⟨n0, n2, n4⟩, ⟨d1, d2⟩, ⟨d3, d4⟩, d5, d6, d7⟩ := hr1
    refine y_al0 c_134_17 ?_
    refine y_al0 c_134_18 ?_
    refine y_gi (j := 10) (z := ((rows 0).length : Int)) c_134_19 rfl rfl n0 (fun r_19 => ?_)
    refine y_pi (j := 4) c_134_22 rfl rfl rfl (by omega) ?_
    refine y_al0 c_134_25 ?_
    refine y_al0 c_134_26 ?_
    refine y_gi (j := 12) (z := ((rows 2).length : Int)) c_134_27 rfl rfl ((wup_k _ _ (by decide)).trans n2) (fun r_27 => ?_)
    refine y_pi (j := 6) c_134_30 rfl rfl rfl (by omega) ?_
    refine y_al0 c_134_33 ?_
    refine y_al0 c_134_34 ?_
    refine y_gi (j := 14) (z := ((rows 4).length : Int)) c_134_35 rfl rfl (((wup_k _ _ (by decide)).trans (wup_k _ _ (by decide))).trans n4) (fun r_35 => ?_)
    refine y_pi (j := 8) c_134_38 rfl rfl rfl (by omega) ?_
    have hM2 : ∀ b, b ≠ 106 → (wup (wup (wup M1 106 4 ((rows 0).length : Int)) 106 6 ((rows 2).length : Int)) 106 8 ((rows 4).length : Int)) b = M1 b := fun b hb => by rw [wup_f _ _ _ hb, wup_f _ _ _ hb, wup_f _ _ _ hb]
    have hj2 : ∀ j : Int, j ≠ 4 → j ≠ 6 → j ≠ 8 → (wup (wup (wup M1 106 4 ((rows 0).length : Int)) 106 6 ((rows 2).length : Int)) 106 8 ((rows 4).length : Int)) 106 j = M1 106 j := fun j a b c => by rw [wup_k _ _ c, wup_k _ _ b, wup_k _ _ a]
    have p4 : (wup (wup (wup M1 106 4 ((rows 0).length : Int)) 106 6 ((rows 2).length : Int)) 106 8 ((rows 4).length : Int)) 106 4 = ((rows 0).length : Int) := by rw [wup_k _ _ (by decide), wup_k _ _ (by decide), wup_s]
    have p6 : (wup (wup (wup M1 106 4 ((rows 0).length : Int)) 106 6 ((rows 2).length : Int)) 106 8 ((rows 4).length : Int)) 106 6 = ((rows 2).length : Int) := by rw [wup_k _ _ (by decide), wup_s]
    have p8 : (wup (wup (wup M1 106 4 ((rows 0).length : Int)) 106 6 ((rows 2).length : Int)) 106 8 ((rows 4).length : Int)) 106 8 = ((rows 4).length : Int) := wup_s _ _ _ _
    generalize wup (wup (wup M1 106 4 ((rows 0).length : Int)) 106 6 ((rows 2).length : Int)) 106 8 ((rows 4).length : Int) = M2 at hM2 hj2 p4 p6 p8 ⊢
    refine y_al0 c_134_41 ?_
    refine y_gr 111 c_134_42 rfl (by omega) ?_
    refine y_al0 c_134_45 ?_
    refine y_gr 108 c_134_46 rfl (by omega) ?_
    refine y_bi c_134_49 (by decide) ?_
    refine k_133 c_134_51 rfl (Nat.le_of_ble_eq_true rfl) ?_
    refine s_133 (a := 111) (b := 108) (na := 8) (nb := 8) (n := 8) rfl rfl (by decide) (by decide) (by decide) (by decide) (by decide) (fun M3 hv3 hf3 => ?_)
    refine y_al0 c_134_54 ?_
    refine y_gr 112 c_134_55 rfl (by omega) ?_
    refine y_al0 c_134_58 ?_
    refine y_gr 109 c_134_59 rfl (by omega) ?_
    refine y_bi c_134_62 (by decide) ?_
    refine k_133 c_134_64 rfl (Nat.le_of_ble_eq_true rfl) ?_
    refine s_133 (a := 112) (b := 109) (na := 8) (nb := 8) (n := 8) rfl rfl (by decide) (by decide) (by decide) (by decide) (by decide) (fun M4 hv4 hf4 => ?_)
    refine y_al0 c_134_67 ?_
    refine y_gr 113 c_134_68 rfl (by omega) ?_
    refine y_al0 c_134_71 ?_
    refine y_gr 110 c_134_72 rfl (by omega) ?_
    refine y_bi c_134_75 (by decide) ?_
    refine k_133 c_134_77 rfl (Nat.le_of_ble_eq_true rfl) ?_
    refine s_133 (a := 113) (b := 110) (na := 18) (nb := 18) (n := 18) rfl rfl (by decide) (by decide) (by decide) (by decide) (by decide) (fun M5 hv5 hf5 => ?_)
    refine y_ic c_134_80 ?_
    refine y_is1 c_134_81 rfl ?_
    have hf : ∀ b, b ≠ 106 → b ≠ 108 → b ≠ 109 → b ≠ 110 → M5 b = M1 b := fun b h1 h2 h3 h4 => by rw [hf5 b h4, hf4 b h3, hf3 b h2, hM2 b h1]
    have hj : ∀ j : Int, j ≠ 4 → j ≠ 6 → j ≠ 8 → M5 106 j = M1 106 j := fun j a b c => by rw [hf5 106 (by decide), hf4 106 (by decide), hf3 106 (by decide), hj2 j a b c]
    have g1 : mr M5 108 2 0 (rows 0) ∧ mr M5 108 2 1 (rows 1) := by
      have hcp : ∀ i : Nat, i < 8 → M5 108 i = M1 111 i := fun i hi => by rw [hf5 108 (by decide), hf4 108 (by decide), hv3 i hi, hM2 111 (by decide)]
      exact ⟨mr_cp d1 hcp (fun i hi => by omega), mr_cp d2 hcp (fun i hi => by omega)⟩
    have g2 : mr M5 109 2 0 (rows 2) ∧ mr M5 109 2 1 (rows 3) := by
      have hcp : ∀ i : Nat, i < 8 → M5 109 i = M1 112 i := fun i hi => by rw [hf5 109 (by decide), hv4 i hi, hf3 112 (by decide), hM2 112 (by decide)]
      exact ⟨mr_cp d3 hcp (fun i hi => by omega), mr_cp d4 hcp (fun i hi => by omega)⟩
    have g3 : mr M5 110 3 0 (rows 4) ∧ mr M5 110 3 1 (rows 5) ∧ mr M5 110 3 2 (rows 6) := by
      have hcp : ∀ i : Nat, i < 18 → M5 110 i = M1 113 i := fun i hi => by rw [hv5 i hi, hf4 113 (by decide), hf3 113 (by decide), hM2 113 (by decide)]
      exact ⟨mr_cp d5 hcp (fun i hi => by omega), mr_cp d6 hcp (fun i hi => by omega), mr_cp d7 hcp (fun i hi => by omega)⟩
    have hp5 : mport M5 (aPort rows) := by
      refine ⟨?_, ?_, ?_, fun i hi => ?_, fun i hi => ?_, fun i hi => ?_⟩
      · rw [hf5 106 (by decide), hf4 106 (by decide), hf3 106 (by decide)]; exact p4
      · rw [hf5 106 (by decide), hf4 106 (by decide), hf3 106 (by decide)]; exact p6
      · rw [hf5 106 (by decide), hf4 106 (by decide), hf3 106 (by decide)]; exact p8
      · have hi : i < (rows 0).length := hi
        exact ⟨by rw [show (2 * (i : Int)) = ((2 * i + 0 : Nat) : Int) by omega]; exact g1.1 i hi, by rw [show (2 * (i : Int) + 1) = ((2 * i + 1 : Nat) : Int) by omega]; exact g1.2 i (by omega)⟩
      · have hi : i < (rows 2).length := hi
        exact ⟨by rw [show (2 * (i : Int)) = ((2 * i + 0 : Nat) : Int) by omega]; exact g2.1 i hi, by rw [show (2 * (i : Int) + 1) = ((2 * i + 1 : Nat) : Int) by omega]; exact g2.2 i (by omega)⟩
      · have hi : i < (rows 4).length := hi
        exact ⟨by rw [show (3 * (i : Int)) = ((3 * i + 0 : Nat) : Int) by omega]; exact g3.1 i hi, by rw [show (3 * (i : Int) + 1) = ((3 * i + 1 : Nat) : Int) by omega]; exact g3.2.1 i (by omega), by rw [show (3 * (i : Int) + 2) = ((3 * i + 2 : Nat) : Int) by omega]; exact g3.2.2 i (by omega)⟩
    obtain ⟨hsd1, hT1, -, -, -, hTm1, -⟩ := id hC1
    exact fin rows M5 hFr hi1 (fun b hb => by rw [hf b (by omega) (by omega) (by omega) (by omega), hF1 b hb]) hsd1 (by
      unfold mtx
      rw [hj 2 (by decide) (by decide) (by decide), hf 107 (by decide) (by decide) (by decide) (by decide)]
      exact hT1) hp5 (by
      rw [hj 22 (by decide) (by decide) (by decide), hf 119 (by decide) (by decide) (by decide) (by decide), hf 120 (by decide) (by decide) (by decide) (by decide), hf 121 (by decide) (by decide) (by decide) (by decide), hf 122 (by decide) (by decide) (by decide) (by decide)]
      exact hTm1) 11 0 (by omega) (by omega) M5 (fun b hb => rfl) (fun i hi => absurd hi (Nat.not_lt_zero _))
  · refine y_bi c_134_14 (by decide) ?_
    refine y_ret c_134_16 rfl ?_
    exact hQ0 _ h9 hC1 hF1
end S38
