/-! ===== the model: shares, rests ===== -/
theorem aDec_54 {P : aP} {R : aR} {m : Nat} {q : List Nat} (hok : aPok P) (hRk : aRok P R) (h : aDec P R m q) : aWarm P q ≤ 54 := by
  rw [aDec_warm hok hRk h.1]
  have h1 := aWs_le hok (aBits q) P.2.2.2 (Nat.le_refl _)
  have h2 := hok.2.2.1
  omega
theorem aMax_54 {P : aP} {R : aR} {m v : Nat} (hok : aPok P) (hRk : aRok P R) (h : aMax P R m v) : v ≤ 54 := by
  rcases h with ⟨q, a, rfl, -⟩ | ⟨-, rfl⟩
  · exact aDec_54 hok hRk a
  · omega
theorem aMax_up {P : aP} {R : aR} {m : Nat} (hok : aPok P) (hRk : aRok P R) : ∀ (n : Nat) (q : List Nat), aDec P R m q → 54 ≤ aWarm P q + n → ∃ v, aMax P R m v
  | 0, q, h, hn => ⟨_, Or.inl ⟨q, h, rfl, fun q' h' => by have := aDec_54 hok hRk h'; omega⟩⟩
  | n + 1, q, h, hn => by
    by_cases hq : ∃ q', aDec P R m q' ∧ aWarm P q < aWarm P q'
    · obtain ⟨q', h1, h2⟩ := hq
      exact aMax_up hok hRk n q' h1 (by omega)
    · exact ⟨_, Or.inl ⟨q, h, rfl, fun q' h' => Nat.le_of_not_lt (fun h2 => hq ⟨q', h', h2⟩)⟩⟩
theorem aMax_ex {P : aP} {R : aR} (m : Nat) (hok : aPok P) (hRk : aRok P R) : ∃ v, aMax P R m v := by
  by_cases hq : ∃ q, aDec P R m q
  · obtain ⟨q, h⟩ := hq
    exact aMax_up hok hRk 54 q h (by omega)
  · exact ⟨0, Or.inr ⟨fun q h => hq ⟨q, h⟩, rfl⟩⟩
theorem aFw_X {P : aP} {R : aR} {m v : Nat} {F : aF5} (h : aFw P R m (fun _ => True) F) (he : R.2.2.2 = []) (hv : aMax P R m v) : (F.1 = -9 ∧ v = 0) ∨ (F.1 ≠ -9 ∧ F.1 = v) := by
  rcases h with ⟨a, b, c⟩ | ⟨q, -, hd, a, -, -, e⟩
  · exact Or.inl ⟨a, aMax_one hv (Or.inr ⟨fun q => c q trivial, rfl⟩)⟩
  · rw [he, show aWarm P [] = 0 from rfl] at a
    refine Or.inr ⟨by omega, ?_⟩
    rw [aMax_one hv (Or.inl ⟨q, hd, rfl, fun q' h' => by have := e q' trivial h'; unfold aBet at this; omega⟩)]
    omega
theorem aRn_ok {P : aP} {g s n : Nat} (hg : g < P.2.1) (hs : s < P.2.2.1) (hn : n ≤ 135) : aRok P ((g : Int), (s : Int), n, []) :=
  Or.inr ⟨⟨g, s, rfl, rfl, hg, hs⟩, hn, List.nodup_nil, fun y hy => by simp at hy⟩
def aG8 (v1 v2 w1 w2 : Int) (j : Nat) : Int := [2, 2, 2, w1, v1, 2, v2, w2].getD j 0
theorem aG8_at (v1 v2 w1 w2 : Int) : ∀ a b : Nat, a ≤ 1 → b ≤ 1 → aG8 v1 v2 w1 w2 (2 * (2 * a + b)) = aGn a b v1 v2 ∧ aG8 v1 v2 w1 w2 (2 * (2 * a + b) + 1) = aGn b a w1 w2 := by
  intro a b ha hb
  rcases (show a = 0 ∨ a = 1 by omega) with rfl | rfl <;> rcases (show b = 0 ∨ b = 1 by omega) with rfl | rfl <;> exact ⟨rfl, rfl⟩
def mgi (x : wC) (M Mi : wM) (T : List Nat) (P : aP) (R : aR) (L : aA) (Tm : aT) (sd : Int64) (K : Nat → Option aR) (G : Nat → Int) (n : Nat) : Prop :=
  MI x Mi T P R L Tm sd K ∧ (∀ b, b < 106 → Mi b = M b) ∧ ∀ j : Nat, j < n → Mi 125 j = G j
section S36
variable {x : wC} {M : wM} {Q : Option Value → wC → wM → Prop} {T : List Nat} {P : aP} {R : aR} {L : aA} {Tm : aT} {sd : Int64} {K : Nat → Option aR}
variable {Mi Mj : wM} {G : Nat → Int} {n : Nat}
theorem mgi_fr (h : mgi x M Mi T P R L Tm sd K G n) (hf : mfr4 Mi Mj) : mgi x M Mj T P R L Tm sd K G n :=
  ⟨MI_fr4 h.1 hf, fun b hb => by rw [hf.1 b (by omega) (by omega) (by omega) (by omega), h.2.1 b hb], fun j hj => by rw [hf.1 125 (by omega) (by omega) (by omega) (by omega)]; exact h.2.2 j hj⟩
theorem mgi_st {v : Int} (h : mgi x M Mi T P R L Tm sd K G n) (hv : v = G n) : mgi x M (wup Mi 125 (n : Int) v) T P R L Tm sd K G (n + 1) := by
  refine ⟨MI_of h.1 ⟨fun j hj => by rw [wup_f _ _ _ (by decide)], fun b hb => wup_f _ _ _ (by omega)⟩, fun b hb => by rw [wup_f _ _ _ (by omega), h.2.1 b hb], fun j hj => ?_⟩
  by_cases e : j = n
  · subst e; rw [wup_s, hv]
  · rw [wup_k _ _ (by omega)]; exact h.2.2 j (by omega)
theorem mgi_6 {k v : Int} (h : mgi x M Mi T P R L Tm sd K G n) (hk : k = 37 ∨ k = 38) : mgi x M (wup Mi 106 k v) T P R L Tm sd K G n :=
  ⟨MI_of h.1 ⟨fun j hj => wup_k _ _ (by omega), fun b hb => wup_f _ _ _ (by omega)⟩, fun b hb => by rw [wup_f _ _ _ (by omega), h.2.1 b hb], fun j hj => by rw [wup_f _ _ _ (by decide)]; exact h.2.2 j hj⟩
theorem s_176 {g s n m v : Nat} (hC : MI x M T P R L Tm sd K) (hA : AOK T P R L Tm K) (hg : g < P.2.1) (hs : s < P.2.2.1) (hn : n ≤ 135) (hm : m < 64) (hv : aMax P ((g : Int), (s : Int), n, []) m v) (hQ : ∀ M', mfr4 M M' → Q (some (.int (iI (v : Int)))) x M') : yG x M 176 0 [.ref 106, .int (iI (g : Int)), .int (iI (s : Int)), .int (iI (n : Int)), .int (iI (m : Int))] [] Q := by
  obtain ⟨⟨ht56, ht256⟩, hok, hRk, ⟨hl14, hLk⟩, hTk, hKk⟩ := id hA
  obtain ⟨z1, z2, z3, z4, z5⟩ := aRok_len hok hRk
  have z6 : ∀ y ∈ R.2.2.2, y < 6 := fun y hy => by have := z3 y hy; have := hok.2.2.1; omega
  have hb1 := hok.1
  have hb2 := hok.2.1
  have hb3 := hok.2.2.1
  have hRn : aRok P ((g : Int), (s : Int), n, []) := aRn_ok hg hs hn
  refine y_al0 c_176_0 ?_
  refine y_al0 c_176_1 ?_
  refine y_gr 115 c_176_2 rfl (by omega) ?_
  refine y_il1 c_176_5 ?_
  refine y_il2 c_176_6 ?_
  refine k_149 c_176_7 rfl rfl (Nat.le_of_ble_eq_true rfl) ?_
  refine s_149 rfl (by decide) hC.2.2.1 hok hg hs (fun M1 hR1 hf1 => ?_)
  refine y_al0 c_176_10 ?_
  refine y_gr 115 c_176_11 rfl (by omega) ?_
  refine y_ic c_176_14 ?_
  refine y_il3 c_176_15 ?_
  refine y_ast (n := 10) c_176_16 rfl (by decide) (by decide) (by decide) (by omega) ?_
  have hR2 : wpage (wup M1 115 2 (n : Int)) 115 ((g : Int), (s : Int), n, []) := by
    obtain ⟨b0, b1, b2, b3, b4⟩ := hR1
    exact ⟨by rw [wup_k _ _ (by decide)]; exact b0, by rw [wup_k _ _ (by decide)]; exact b1, wup_s _ _ _ _, by rw [wup_k _ _ (by decide)]; exact b3, fun i hi => absurd hi (Nat.not_lt_zero _)⟩
  have hf2 : ∀ b, b ≠ 115 → (wup M1 115 2 (n : Int)) b = M b := fun b hb => by rw [wup_f _ _ _ hb, hf1 b hb]
  generalize (wup M1 115 2 (n : Int)) = M2 at hR2 hf2 ⊢
  refine y_al0 c_176_17 ?_
  refine y_il4 c_176_18 ?_
  refine k_162 c_176_20 rfl rfl (Nat.le_of_ble_eq_true rfl) ?_
  refine s_162 hm (mport_pg (a := 115) (by decide) hC.2.2.1 hf2) hok hR2 hRn (by show (g : Int) ≠ -9; omega) (fun M3 F hF hFw hFs hf3 => ?_)
  have h43 : mfr4 M M3 := ⟨fun b p1 p2 p3 p4 => by rw [hf3.1 b p1 p2 p3 p4, hf2 b p2], fun j hj => by rw [hf3.2 j hj, hf2 106 (by omega)]⟩
  have hFx := aFw_X hFw rfl hv
  refine y_al0 c_176_23 ?_
  refine y_gi (j := 30) (z := F.1) c_176_24 rfl rfl hF.1 (fun r_24 => ?_)
  refine y_bi c_176_27 (by decide) ?_
  refine y_ic_ne c_176_29 (by omega) (by omega) (fun h_29 => ?_) (fun h_29 => ?_)
  · refine y_al0 c_176_36 ?_
    refine y_gi (j := 30) (z := F.1) c_176_37 rfl rfl hF.1 (fun r_37 => ?_)
    refine y_ret c_176_40 rfl ?_
    obtain he : F.1 = v := by omega
    rw [he]
    exact hQ M3 h43
  · refine y_ic c_176_32 ?_
    refine y_goto c_176_33 ?_
    refine y_ret c_176_40 rfl ?_
    obtain rfl : v = 0 := by omega
    exact hQ M3 h43
theorem s_177 {z b : Int} (hC : MI x M T P R L Tm sd K) (hA : AOK T P R L Tm K) (hz : wR z) (hb : b = 0 ∨ b = 1) (hQ : ∀ r M', aShareV P R z b r → MI x M' T P R L Tm sd K → (∀ b, b < 106 → M' b = M b) → Q (some (.int (iI r))) x M') : yG x M 177 0 [.ref 106, .int (iI z), .int (iI b), zU, zU, zU] [] Q := by
  obtain ⟨⟨ht56, ht256⟩, hok, hRk, ⟨hl14, hLk⟩, hTk, hKk⟩ := id hA
  obtain ⟨z1, z2, z3, z4, z5⟩ := aRok_len hok hRk
  have z6 : ∀ y ∈ R.2.2.2, y < 6 := fun y hy => by have := z3 y hy; have := hok.2.2.1; omega
  have hb1 := hok.1
  have hb2 := hok.2.1
  have hb3 := hok.2.2.1
  have hp2 : 2 ^ P.2.2.2 ≤ 2 ^ 6 := Nat.pow_le_pow_right (by omega) (by omega)
  have key : ∀ z0 : Nat, z0 < P.2.2.2 → ∀ (M1 : wM) (f : Nat → Nat), MI x M1 T P R L Tm sd K → (∀ b, b < 106 → M1 b = M b) → R.1 ≠ -9 → z = z0 → (∀ s : Nat, s < 64 → aMax P (aFresh P R) s (f s) ∧ f s ≤ 54) → (∀ s : Nat, s < 2 ^ P.2.2.2 → M1 126 s = f s) → ∀ d k : Nat, 2 ^ P.2.2.2 < k + d → k ≤ 2 ^ P.2.2.2 → ∀ w5 : Value, yG x M1 177 85 [.ref 106, .int (iI (z0 : Int)), .int (iI b), .int (iI (aShU f P.2.2.2 z0 k : Nat)), .int (iI (k : Int)), w5] [] Q := by
    intro z0 hz0 M1 f hC1 hF1 hrun hzz hf hfv d
    have hmono : ∀ s, s < 64 → f s ≤ f (s ||| 2 ^ z0) := fun s hs => aMax_mono hok (hf s hs).1 (hf _ (or_lt64 hs (by omega))).1 (fun y hy => or_bit.mpr (Or.inl hy))
    have hbd : ∀ k, k ≤ 64 → aShU f P.2.2.2 z0 k ≤ 4665600 * k := by
      intro k
      induction k with
      | zero => intro _; exact Nat.le_refl 0
      | succ k ih =>
        intro hk
        have h1 := ih (by omega)
        have h2 : aShU f P.2.2.2 z0 (k + 1) = aShU f P.2.2.2 z0 k + (if k / 2 ^ z0 % 2 = 1 then 0 else aFac (aPop k) * aFac (P.2.2.2 - 1 - aPop k) * (f (k ||| 2 ^ z0) - f k)) := rfl
        rw [h2]
        split
        · omega
        · have h5 := aPop_le6 k (by omega)
          have h3 := aFac_le6 (aPop k) h5 (P.2.2.2 - 1 - aPop k) (by omega)
          have h4 := (hf _ (or_lt64 (show k < 64 by omega) (show z0 < 6 by omega))).2
          have h6 : aFac (aPop k) * aFac (P.2.2.2 - 1 - aPop k) * (f (k ||| 2 ^ z0) - f k) ≤ 86400 * 54 := Nat.mul_le_mul h3 (by omega)
          omega
    induction d with
    | zero => intro k g1 g2; omega
    | succ d ih =>
      intro k g1 g2 w5
      have hbk := hbd k (by omega)
      have hM1 := hC1.2.2.1
      refine y_il4 c_177_85 ?_
      refine y_ic c_177_87 ?_
      refine y_al0 c_177_88 ?_
      refine y_gi (j := 8) (z := (P.2.2.2 : Int)) c_177_89 rfl rfl hM1.2.2.1 (fun r_89 => ?_)
      refine y_shl (x1 := 1) (x2 := P.2.2.2) c_177_92 (by omega) (by omega) ?_
      rw [Nat.one_mul]
      refine y_ic_ge c_177_93 (by omega) (by omega) (fun h_93 => ?_) (fun h_93 => ?_)
      · have hk : k = 2 ^ P.2.2.2 := by omega
        subst hk
        refine y_il3 c_177_159 ?_
        refine y_al0 c_177_160 ?_
        refine y_gi (j := 8) (z := (P.2.2.2 : Int)) c_177_161 rfl rfl hM1.2.2.1 (fun r_161 => ?_)
        refine k_173 c_177_164 rfl (Nat.le_of_ble_eq_true rfl) ?_
        refine s_173 P.2.2.2 (by omega) ?_
        refine y_il2 c_177_167 ?_
        refine k_175 c_177_168 rfl (Nat.le_of_ble_eq_true rfl) ?_
        have hf6 := aFac_pos P.2.2.2 (by omega)
        refine s_175 (by omega) (by omega) hf6.1 hb ?_
        refine y_ret c_177_171 rfl ?_
        exact hQ _ _ (Or.inr (Or.inr ⟨by omega, hrun, f, fun s hs => (hf s hs).1, by rw [hzz, Int.toNat_natCast]⟩)) hC1 hF1
      · have h2 : aShU f P.2.2.2 z0 (k + 1) = aShU f P.2.2.2 z0 k + (if k / 2 ^ z0 % 2 = 1 then 0 else aFac (aPop k) * aFac (P.2.2.2 - 1 - aPop k) * (f (k ||| 2 ^ z0) - f k)) := rfl
        refine y_il4 c_177_96 ?_
        refine y_il1 c_177_98 ?_
        refine k_118 c_177_99 rfl (Nat.le_of_ble_eq_true rfl) ?_
        refine s_118 (by omega) (by omega) ?_
        refine y_pz_ne c_177_102 (fun h1 => ?_) (fun h1 => ?_)
        · rw [if_pos h1] at h2
          refine y_inc4 c_177_153 rfl ?_
          refine y_goto c_177_156 ?_
          first
            | (rw [show aShU f P.2.2.2 z0 k = aShU f P.2.2.2 z0 (k + 1) by omega]; exact ih (k + 1) (by omega) (by omega) _)
            | exact ih (k + 1) (by omega) (by omega) _
        · rw [if_neg h1] at h2
          have hpl := aPop_lt P.2.2.2 (by omega) k (by omega) z0 hz0 h1
          obtain ⟨e2, e3⟩ := hf k (by omega)
          obtain ⟨e5, e6⟩ := hf _ (or_lt64 (show k < 64 by omega) (show z0 < 6 by omega))
          have e1 := hfv k (by omega)
          have e4 := hfv (k ||| 2 ^ z0) (or_bit_lt (by omega) hz0)
          have e7 := or_lt64 (show k < 64 by omega) (show z0 < 6 by omega)
          have hm := hmono k (by omega)
          have h3 := aFac_le (aPop k) (by omega) (P.2.2.2 - 1 - aPop k) (by omega)
          have hp3 := Nat.pow_le_pow_right (show 0 < 2 by omega) (show z0 ≤ 6 by omega)
          refine y_il4 c_177_105 ?_
          refine k_119 c_177_107 rfl (Nat.le_of_ble_eq_true rfl) ?_
          refine s_119 (by omega) ?_
          refine y_is5 c_177_110 rfl ?_
          refine y_il3 c_177_112 ?_
          refine y_il5 c_177_113 ?_
          refine k_173 c_177_115 rfl (Nat.le_of_ble_eq_true rfl) ?_
          refine s_173 (aPop k) (by omega) ?_
          refine y_al0 c_177_118 ?_
          refine y_gi (j := 8) (z := (P.2.2.2 : Int)) c_177_119 rfl rfl hM1.2.2.1 (fun r_119 => ?_)
          refine y_ic c_177_122 ?_
          refine y_sub c_177_123 ?_
          refine y_il5 c_177_124 ?_
          refine y_sub c_177_126 ?_
          rw [show ((P.2.2.2 : Int) - 1 - (aPop k : Int)) = ((P.2.2.2 - 1 - aPop k : Nat) : Int) by omega]
          refine k_173 c_177_127 rfl (Nat.le_of_ble_eq_true rfl) ?_
          refine s_173 (P.2.2.2 - 1 - aPop k) (by omega) ?_
          refine y_mul c_177_130 ?_
          refine y_al0 c_177_131 ?_
          refine y_gr 126 c_177_132 rfl (by omega) ?_
          refine y_il4 c_177_135 ?_
          refine y_ic c_177_137 ?_
          refine y_il1 c_177_138 ?_
          refine y_shl (x1 := 1) (x2 := z0) c_177_139 (by omega) (by omega) ?_
          rw [Nat.one_mul]
          refine y_ior (x1 := k) (x2 := 2 ^ z0) c_177_140 ?_
          refine y_ald (n := 64) c_177_141 rfl (by omega) (by omega) (by omega) e4 (fun r_141 => ?_)
          refine y_al0 c_177_142 ?_
          refine y_gr 126 c_177_143 rfl (by omega) ?_
          refine y_il4 c_177_146 ?_
          refine y_ald (n := 64) c_177_148 rfl (by omega) (by omega) (by omega) e1 (fun r_148 => ?_)
          refine y_sub c_177_149 ?_
          refine y_mul c_177_150 ?_
          refine y_add c_177_151 ?_
          rw [show ((aShU f P.2.2.2 z0 k : Nat) : Int) + (((aFac (aPop k) : Nat) : Int) * ((aFac (P.2.2.2 - 1 - aPop k) : Nat) : Int)) * (((f (k ||| 2 ^ z0) : Nat) : Int) - ((f k : Nat) : Int)) = ((aShU f P.2.2.2 z0 (k + 1) : Nat) : Int) by rw [h2, ← Int.natCast_sub hm, ← Int.natCast_mul, ← Int.natCast_mul, ← Int.natCast_add]]
          refine y_is3 c_177_152 rfl ?_
          refine y_inc4 c_177_153 rfl ?_
          refine y_goto c_177_156 ?_
          first
            | (rw [show aShU f P.2.2.2 z0 k = aShU f P.2.2.2 z0 (k + 1) by omega]; exact ih (k + 1) (by omega) (by omega) _)
            | exact ih (k + 1) (by omega) (by omega) _
  have key1 : ∀ z0 g s : Nat, z0 < P.2.2.2 → z = z0 → R.1 = g → R.2.1 = s → g < P.2.1 → s < P.2.2.1 → ∀ f : Nat → Nat, (∀ s : Nat, s < 64 → aMax P (aFresh P R) s (f s) ∧ f s ≤ 54) → ∀ d k : Nat, 2 ^ P.2.2.2 < k + d → k ≤ 2 ^ P.2.2.2 → ∀ M1 : wM, MI x M1 T P R L Tm sd K → (∀ b, b < 106 → M1 b = M b) → (∀ i : Nat, i < k → M1 126 i = f i) → yG x M1 177 31 [.ref 106, .int (iI (z0 : Int)), .int (iI b), .int (iI (k : Int)), zU, zU] [] Q := by
    intro z0 g s hz0 hzz eg es hgl hsl f hf d
    have hfr : aFresh P R = ((g : Int), (s : Int), aGr P g, []) := by unfold aFresh; rw [eg, es, Int.toNat_natCast]
    have hgr := aGr_le hok hgl
    induction d with
    | zero => intro k g1 g2; omega
    | succ d ih =>
      intro k g1 g2 M1 hC1 hF1 hv
      have hM1 := hC1.2.2.1
      have hR1 := hC1.2.2.2.1
      refine y_il3 c_177_31 ?_
      refine y_ic c_177_32 ?_
      refine y_al0 c_177_33 ?_
      refine y_gi (j := 8) (z := (P.2.2.2 : Int)) c_177_34 rfl rfl hM1.2.2.1 (fun r_34 => ?_)
      refine y_shl (x1 := 1) (x2 := P.2.2.2) c_177_37 (by omega) (by omega) ?_
      rw [Nat.one_mul]
      refine y_ic_ge c_177_38 (by omega) (by omega) (fun h_38 => ?_) (fun h_38 => ?_)
      · have hk : k = 2 ^ P.2.2.2 := by omega
        subst hk
        refine y_ic c_177_80 ?_
        refine y_is3 c_177_81 rfl ?_
        refine y_ic c_177_82 ?_
        refine y_is4 c_177_83 rfl ?_
        exact key z0 hz0 M1 f hC1 hF1 (by omega) hzz hf hv (2 ^ P.2.2.2 + 1) 0 (by omega) (Nat.zero_le _) _
      · refine y_al0 c_177_41 ?_
        refine y_gr 126 c_177_42 rfl (by omega) ?_
        refine y_il3 c_177_45 ?_
        refine y_al0 c_177_46 ?_
        refine y_al0 c_177_47 ?_
        refine y_gr 114 c_177_48 rfl (by omega) ?_
        refine y_ic c_177_51 ?_
        refine y_ald (n := 10) (u := (g : Int)) c_177_52 rfl (by omega) (by omega) (by omega) (hR1.1.trans eg) (fun r_52 => ?_)
        refine y_al0 c_177_53 ?_
        refine y_gr 114 c_177_54 rfl (by omega) ?_
        refine y_ic c_177_57 ?_
        refine y_ald (n := 10) (u := (s : Int)) c_177_58 rfl (by omega) (by omega) (by omega) (hR1.2.1.trans es) (fun r_58 => ?_)
        refine y_al0 c_177_59 ?_
        refine y_al0 c_177_60 ?_
        refine y_gr 114 c_177_61 rfl (by omega) ?_
        refine y_ic c_177_64 ?_
        refine y_ald (n := 10) (u := (g : Int)) c_177_65 rfl (by omega) (by omega) (by omega) (hR1.1.trans eg) (fun r_65 => ?_)
        refine k_135 c_177_66 rfl rfl (Nat.le_of_ble_eq_true rfl) ?_
        refine s_135 hM1 hok hgl ?_
        refine y_il3 c_177_69 ?_
        refine k_176 c_177_70 rfl rfl (Nat.le_of_ble_eq_true rfl) ?_
        have hmx := (hf k (by omega)).1
        rw [hfr] at hmx
        have hv54 := (hf k (by omega)).2
        refine s_176 hC1 hA hgl hsl hgr (by omega) hmx (fun M2 hf2 => ?_)
        refine y_ast (n := 64) c_177_73 rfl (by omega) (by omega) (by omega) (by omega) ?_
        refine y_inc3 c_177_74 rfl ?_
        refine y_goto c_177_77 ?_
        refine ih (k + 1) (by omega) (by omega) _ (MI_of (MI_fr4 hC1 hf2) ⟨fun j hj => by rw [wup_f _ _ _ (by decide)], fun b' hb' => wup_f _ _ _ (by omega)⟩) (fun b' hb' => by rw [wup_f _ _ _ (by omega), hf2.1 b' (by omega) (by omega) (by omega) (by omega), hF1 b' hb']) (fun i hi => ?_)
        by_cases e : i = k
        · subst e; rw [wup_s]
        · rw [wup_k _ _ (by omega), hf2.1 126 (by omega) (by omega) (by omega) (by omega)]; exact hv i (by omega)
  refine y_al0 c_177_0 ?_
  refine y_ic c_177_1 ?_
  refine y_pi (j := 0) c_177_2 rfl rfl rfl (by decide) ?_
  have hC0 := MI_thr hC
  have hF0 : ∀ b, b < 106 → (wup M 106 0 0) b = M b := fun b hb => wup_f _ _ _ (by omega)
  generalize (wup M 106 0 0) = M0 at hC0 hF0 ⊢
  obtain ⟨hsd, hT, hM, hR, hL, hTm, hK⟩ := id hC0
  obtain ⟨m4, m6, m8, v1, v2, v3⟩ := id hM
  obtain ⟨a0, a1, a2, a3, a4⟩ := id hR
  refine y_al0 c_177_5 ?_
  refine y_il1 c_177_6 ?_
  refine k_123 c_177_7 rfl rfl (Nat.le_of_ble_eq_true rfl) ?_
  refine s_123 hM hok hz ?_
  refine y_pz_eq c_177_10 (fun h1 => ?_) (fun h1 => ?_)
  · refine y_al0 c_177_15 ?_
    refine y_gr 114 c_177_16 rfl (by omega) ?_
    refine y_ic c_177_19 ?_
    refine y_ald (n := 10) (u := R.1) c_177_20 rfl (by omega) (by omega) (by omega) a0 (fun r_20 => ?_)
    refine y_bi c_177_21 (by decide) ?_
    refine y_ic_ne c_177_23 (by omega) (by omega) (fun hrun => ?_) (fun hrun => ?_)
    · obtain ⟨g, s, eg, es, hgl, hsl⟩ := aRok_run hRk hrun
      obtain ⟨z0, rfl⟩ : ∃ z0 : Nat, z = z0 := ⟨z.toNat, by omega⟩
      have hfr : aFresh P R = ((g : Int), (s : Int), aGr P g, []) := by unfold aFresh; rw [eg, es, Int.toNat_natCast]
      have hRn : aRok P (aFresh P R) := by rw [hfr]; exact aNew_ok hok hgl hsl (aGr_le hok hgl)
      refine y_ic c_177_29 ?_
      refine y_is3 c_177_30 rfl ?_
      exact key1 z0 g s (by omega) rfl eg es hgl hsl (fun s => (aMax_ex s hok hRn).choose) (fun s hs => ⟨(aMax_ex s hok hRn).choose_spec, aMax_54 hok hRn (aMax_ex s hok hRn).choose_spec⟩) (2 ^ P.2.2.2 + 1) 0 (by omega) (Nat.zero_le _) M0 hC0 hF0 (fun i hi => absurd hi (Nat.not_lt_zero _))
    · refine y_bi c_177_26 (by decide) ?_
      refine y_ret c_177_28 rfl ?_
      exact hQ _ _ (Or.inr (Or.inl ⟨by omega, hrun, rfl⟩)) hC0 hF0
  · refine y_ic c_177_13 ?_
    refine y_ret c_177_14 rfl ?_
    exact hQ _ _ (Or.inl ⟨h1, rfl⟩) hC0 hF0
theorem s_181 (hC : MI x M T P R L Tm sd K) (hA : AOK T P R L Tm K) {g s o v1 v2 w1 w2 : Nat} (eg : R.1 = g) (hgl : g < P.2.1) (hs : s < P.2.2.1) (ho : o < P.2.2.1) (hv1 : aMax P ((g : Int), (s : Int), R.2.2.1, []) 63 v1) (hv2 : aMax P ((g : Int), (s : Int), R.2.2.1 / 2, []) 63 v2) (hw1 : aMax P ((g : Int), (o : Int), R.2.2.1, []) 63 w1) (hw2 : aMax P ((g : Int), (o : Int), R.2.2.1 / 2, []) 63 w2) (hQ : ∀ M', mgi x M M' T P R L Tm sd K (aG8 v1 v2 w1 w2) 8 → Q none x M') : yG x M 181 0 [.ref 106, .int (iI (s : Int)), .int (iI (o : Int)), zU, zU, zU, zU] [] Q := by
  obtain ⟨⟨ht56, ht256⟩, hok, hRk, ⟨hl14, hLk⟩, hTk, hKk⟩ := id hA
  obtain ⟨z1, z2, z3, z4, z5⟩ := aRok_len hok hRk
  have z6 : ∀ y ∈ R.2.2.2, y < 6 := fun y hy => by have := z3 y hy; have := hok.2.2.1; omega
  have hb1 := hok.1
  have hb2 := hok.2.1
  have hb3 := hok.2.2.1
  have hR := hC.2.2.2.1
  have hI0 : mgi x M M T P R L Tm sd K (aG8 v1 v2 w1 w2) 0 := ⟨hC, fun b hb => rfl, fun j hj => absurd hj (Nat.not_lt_zero _)⟩
  refine y_al0 c_181_0 ?_
  refine y_gr 114 c_181_1 rfl (by omega) ?_
  refine y_ic c_181_4 ?_
  refine y_ald (n := 10) (u := (g : Int)) c_181_5 rfl (by omega) (by omega) (by omega) (hR.1.trans eg) (fun r_5 => ?_)
  refine y_is3 c_181_6 rfl ?_
  refine y_al0 c_181_7 ?_
  refine y_gr 114 c_181_8 rfl (by omega) ?_
  refine y_ic c_181_11 ?_
  refine y_ald (n := 10) (u := (R.2.2.1 : Int)) c_181_12 rfl (by omega) (by omega) (by omega) hR.2.2.1 (fun r_12 => ?_)
  refine y_is4 c_181_13 rfl ?_
  refine y_ic c_181_15 ?_
  refine y_is5 c_181_16 rfl ?_
  refine y_il5 c_181_18 ?_
  refine y_ic c_181_20 ?_
  refine y_ic_ge c_181_21 (by decide) (by decide) (fun h_21 => absurd h_21 (by decide)) (fun h_21 => ?_)
  refine y_il5 c_181_24 ?_
  refine y_ic c_181_26 ?_
  refine y_ic_ne c_181_27 (by decide) (by decide) (fun h_27 => ?_) (fun h_27 => absurd h_27 (by decide))
  refine y_il4 c_181_37 ?_
  refine y_is6 c_181_39 rfl ?_
  refine y_al0 c_181_41 ?_
  refine y_gr 125 c_181_42 rfl (by omega) ?_
  refine y_ic c_181_45 ?_
  refine y_il5 c_181_46 ?_
  refine y_mul c_181_48 ?_
  refine y_il5 c_181_49 ?_
  refine y_ic c_181_51 ?_
  refine y_ic_ge c_181_52 (by decide) (by decide) (fun h_52 => absurd h_52 (by decide)) (fun h_52 => ?_)
  refine y_ic c_181_55 ?_
  refine y_goto c_181_56 ?_
  refine y_ast (n := 8) c_181_69 rfl (by decide) (by decide) (by decide) (by omega) ?_
  have hI1 : mgi x M (wup M 125 (2 * 0) 2) T P R L Tm sd K (aG8 v1 v2 w1 w2) 1 := mgi_st (n := 0) hI0 rfl
  generalize wup M 125 (2 * 0) 2 = N1 at hI1 ⊢
  refine y_al0 c_181_70 ?_
  refine y_gr 125 c_181_71 rfl (by omega) ?_
  refine y_ic c_181_74 ?_
  refine y_il5 c_181_75 ?_
  refine y_mul c_181_77 ?_
  refine y_ic c_181_78 ?_
  refine y_add c_181_79 ?_
  refine y_il5 c_181_80 ?_
  refine y_ic c_181_82 ?_
  refine y_rem c_181_83 (by omega) (by omega) (by omega) (by omega) ?_
  refine y_iz_ne c_181_84 (by decide) (fun h_84 => absurd h_84 (by decide)) (fun h_84 => ?_)
  refine y_ic c_181_87 ?_
  refine y_goto c_181_88 ?_
  refine y_ast (n := 8) c_181_101 rfl (by decide) (by decide) (by decide) (by omega) ?_
  have hI2 : mgi x M (wup N1 125 (2 * 0 + 1) 2) T P R L Tm sd K (aG8 v1 v2 w1 w2) 2 := mgi_st (n := 1) hI1 rfl
  generalize wup N1 125 (2 * 0 + 1) 2 = N2 at hI2 ⊢
  refine y_inc5 c_181_102 rfl ?_
  rw [show ((0 : Int) + 1) = 1 from rfl]
  refine y_goto c_181_105 ?_
  refine y_il5 c_181_18 ?_
  refine y_ic c_181_20 ?_
  refine y_ic_ge c_181_21 (by decide) (by decide) (fun h_21 => absurd h_21 (by decide)) (fun h_21 => ?_)
  refine y_il5 c_181_24 ?_
  refine y_ic c_181_26 ?_
  refine y_ic_ne c_181_27 (by decide) (by decide) (fun h_27 => ?_) (fun h_27 => absurd h_27 (by decide))
  refine y_il4 c_181_37 ?_
  refine y_is6 c_181_39 rfl ?_
  refine y_al0 c_181_41 ?_
  refine y_gr 125 c_181_42 rfl (by omega) ?_
  refine y_ic c_181_45 ?_
  refine y_il5 c_181_46 ?_
  refine y_mul c_181_48 ?_
  refine y_il5 c_181_49 ?_
  refine y_ic c_181_51 ?_
  refine y_ic_ge c_181_52 (by decide) (by decide) (fun h_52 => absurd h_52 (by decide)) (fun h_52 => ?_)
  refine y_ic c_181_55 ?_
  refine y_goto c_181_56 ?_
  refine y_ast (n := 8) c_181_69 rfl (by decide) (by decide) (by decide) (by omega) ?_
  have hI3 : mgi x M (wup N2 125 (2 * 1) 2) T P R L Tm sd K (aG8 v1 v2 w1 w2) 3 := mgi_st (n := 2) hI2 rfl
  generalize wup N2 125 (2 * 1) 2 = N3 at hI3 ⊢
  refine y_al0 c_181_70 ?_
  refine y_gr 125 c_181_71 rfl (by omega) ?_
  refine y_ic c_181_74 ?_
  refine y_il5 c_181_75 ?_
  refine y_mul c_181_77 ?_
  refine y_ic c_181_78 ?_
  refine y_add c_181_79 ?_
  refine y_il5 c_181_80 ?_
  refine y_ic c_181_82 ?_
  refine y_rem c_181_83 (by omega) (by omega) (by omega) (by omega) ?_
  refine y_iz_ne c_181_84 (by decide) (fun h_84 => ?_) (fun h_84 => absurd h_84 (by decide))
  refine y_al0 c_181_91 ?_
  refine y_il3 c_181_92 ?_
  refine y_il2 c_181_93 ?_
  refine y_il6 c_181_94 ?_
  refine y_bi c_181_96 (by decide) ?_
  refine k_176 c_181_98 rfl rfl (Nat.le_of_ble_eq_true rfl) ?_
  refine s_176 hI3.1 hA hgl ho (by omega) (by decide) hw1 (fun N4 hf4 => ?_)
  have hI4 := mgi_fr hI3 hf4
  have hb4 := aMax_54 hok (aRn_ok hgl ho (show R.2.2.1 ≤ 135 by omega)) hw1
  refine y_ast (n := 8) c_181_101 rfl (by decide) (by decide) (by decide) (by omega) ?_
  have hI5 : mgi x M (wup N4 125 (2 * 1 + 1) (w1 : Int)) T P R L Tm sd K (aG8 v1 v2 w1 w2) 4 := mgi_st (n := 3) hI4 rfl
  generalize wup N4 125 (2 * 1 + 1) (w1 : Int) = N5 at hI5 ⊢
  refine y_inc5 c_181_102 rfl ?_
  rw [show ((1 : Int) + 1) = 2 from rfl]
  refine y_goto c_181_105 ?_
  refine y_il5 c_181_18 ?_
  refine y_ic c_181_20 ?_
  refine y_ic_ge c_181_21 (by decide) (by decide) (fun h_21 => absurd h_21 (by decide)) (fun h_21 => ?_)
  refine y_il5 c_181_24 ?_
  refine y_ic c_181_26 ?_
  refine y_ic_ne c_181_27 (by decide) (by decide) (fun h_27 => ?_) (fun h_27 => absurd h_27 (by decide))
  refine y_il4 c_181_37 ?_
  refine y_is6 c_181_39 rfl ?_
  refine y_al0 c_181_41 ?_
  refine y_gr 125 c_181_42 rfl (by omega) ?_
  refine y_ic c_181_45 ?_
  refine y_il5 c_181_46 ?_
  refine y_mul c_181_48 ?_
  refine y_il5 c_181_49 ?_
  refine y_ic c_181_51 ?_
  refine y_ic_ge c_181_52 (by decide) (by decide) (fun h_52 => ?_) (fun h_52 => absurd h_52 (by decide))
  refine y_al0 c_181_59 ?_
  refine y_il3 c_181_60 ?_
  refine y_il1 c_181_61 ?_
  refine y_il6 c_181_62 ?_
  refine y_bi c_181_64 (by decide) ?_
  refine k_176 c_181_66 rfl rfl (Nat.le_of_ble_eq_true rfl) ?_
  refine s_176 hI5.1 hA hgl hs (by omega) (by decide) hv1 (fun N6 hf6 => ?_)
  have hI6 := mgi_fr hI5 hf6
  have hb6 := aMax_54 hok (aRn_ok hgl hs (show R.2.2.1 ≤ 135 by omega)) hv1
  refine y_ast (n := 8) c_181_69 rfl (by decide) (by decide) (by decide) (by omega) ?_
  have hI7 : mgi x M (wup N6 125 (2 * 2) (v1 : Int)) T P R L Tm sd K (aG8 v1 v2 w1 w2) 5 := mgi_st (n := 4) hI6 rfl
  generalize wup N6 125 (2 * 2) (v1 : Int) = N7 at hI7 ⊢
  refine y_al0 c_181_70 ?_
  refine y_gr 125 c_181_71 rfl (by omega) ?_
  refine y_ic c_181_74 ?_
  refine y_il5 c_181_75 ?_
  refine y_mul c_181_77 ?_
  refine y_ic c_181_78 ?_
  refine y_add c_181_79 ?_
  refine y_il5 c_181_80 ?_
  refine y_ic c_181_82 ?_
  refine y_rem c_181_83 (by omega) (by omega) (by omega) (by omega) ?_
  refine y_iz_ne c_181_84 (by decide) (fun h_84 => absurd h_84 (by decide)) (fun h_84 => ?_)
  refine y_ic c_181_87 ?_
  refine y_goto c_181_88 ?_
  refine y_ast (n := 8) c_181_101 rfl (by decide) (by decide) (by decide) (by omega) ?_
  have hI8 : mgi x M (wup N7 125 (2 * 2 + 1) 2) T P R L Tm sd K (aG8 v1 v2 w1 w2) 6 := mgi_st (n := 5) hI7 rfl
  generalize wup N7 125 (2 * 2 + 1) 2 = N8 at hI8 ⊢
  refine y_inc5 c_181_102 rfl ?_
  rw [show ((2 : Int) + 1) = 3 from rfl]
  refine y_goto c_181_105 ?_
  refine y_il5 c_181_18 ?_
  refine y_ic c_181_20 ?_
  refine y_ic_ge c_181_21 (by decide) (by decide) (fun h_21 => absurd h_21 (by decide)) (fun h_21 => ?_)
  refine y_il5 c_181_24 ?_
  refine y_ic c_181_26 ?_
  refine y_ic_ne c_181_27 (by decide) (by decide) (fun h_27 => absurd h_27 (by decide)) (fun h_27 => ?_)
  refine y_il4 c_181_30 ?_
  refine y_ic c_181_32 ?_
  refine y_div c_181_33 (by omega) (by omega) (by decide) (by decide) ?_
  rw [show ((R.2.2.1 : Int) / 2) = ((R.2.2.1 / 2 : Nat) : Int) by omega]
  refine y_goto c_181_34 ?_
  refine y_is6 c_181_39 rfl ?_
  refine y_al0 c_181_41 ?_
  refine y_gr 125 c_181_42 rfl (by omega) ?_
  refine y_ic c_181_45 ?_
  refine y_il5 c_181_46 ?_
  refine y_mul c_181_48 ?_
  refine y_il5 c_181_49 ?_
  refine y_ic c_181_51 ?_
  refine y_ic_ge c_181_52 (by decide) (by decide) (fun h_52 => ?_) (fun h_52 => absurd h_52 (by decide))
  refine y_al0 c_181_59 ?_
  refine y_il3 c_181_60 ?_
  refine y_il1 c_181_61 ?_
  refine y_il6 c_181_62 ?_
  refine y_bi c_181_64 (by decide) ?_
  refine k_176 c_181_66 rfl rfl (Nat.le_of_ble_eq_true rfl) ?_
  refine s_176 hI8.1 hA hgl hs (by omega) (by decide) hv2 (fun N9 hf9 => ?_)
  have hI9 := mgi_fr hI8 hf9
  have hb9 := aMax_54 hok (aRn_ok hgl hs (show R.2.2.1 / 2 ≤ 135 by omega)) hv2
  refine y_ast (n := 8) c_181_69 rfl (by decide) (by decide) (by decide) (by omega) ?_
  have hI10 : mgi x M (wup N9 125 (2 * 3) (v2 : Int)) T P R L Tm sd K (aG8 v1 v2 w1 w2) 7 := mgi_st (n := 6) hI9 rfl
  generalize wup N9 125 (2 * 3) (v2 : Int) = N10 at hI10 ⊢
  refine y_al0 c_181_70 ?_
  refine y_gr 125 c_181_71 rfl (by omega) ?_
  refine y_ic c_181_74 ?_
  refine y_il5 c_181_75 ?_
  refine y_mul c_181_77 ?_
  refine y_ic c_181_78 ?_
  refine y_add c_181_79 ?_
  refine y_il5 c_181_80 ?_
  refine y_ic c_181_82 ?_
  refine y_rem c_181_83 (by omega) (by omega) (by omega) (by omega) ?_
  refine y_iz_ne c_181_84 (by decide) (fun h_84 => ?_) (fun h_84 => absurd h_84 (by decide))
  refine y_al0 c_181_91 ?_
  refine y_il3 c_181_92 ?_
  refine y_il2 c_181_93 ?_
  refine y_il6 c_181_94 ?_
  refine y_bi c_181_96 (by decide) ?_
  refine k_176 c_181_98 rfl rfl (Nat.le_of_ble_eq_true rfl) ?_
  refine s_176 hI10.1 hA hgl ho (by omega) (by decide) hw2 (fun N11 hf11 => ?_)
  have hI11 := mgi_fr hI10 hf11
  have hb11 := aMax_54 hok (aRn_ok hgl ho (show R.2.2.1 / 2 ≤ 135 by omega)) hw2
  refine y_ast (n := 8) c_181_101 rfl (by decide) (by decide) (by decide) (by omega) ?_
  have hI12 : mgi x M (wup N11 125 (2 * 3 + 1) (w2 : Int)) T P R L Tm sd K (aG8 v1 v2 w1 w2) 8 := mgi_st (n := 7) hI11 rfl
  generalize wup N11 125 (2 * 3 + 1) (w2 : Int) = N12 at hI12 ⊢
  refine y_inc5 c_181_102 rfl ?_
  rw [show ((3 : Int) + 1) = 4 from rfl]
  refine y_goto c_181_105 ?_
  refine y_il5 c_181_18 ?_
  refine y_ic c_181_20 ?_
  refine y_ic_ge c_181_21 (by decide) (by decide) (fun h_21 => ?_) (fun h_21 => absurd h_21 (by decide))
  refine y_vret c_181_108 rfl ?_
  exact hQ _ hI12
theorem s_182 {s o z : Int} (hC : MI x M T P R L Tm sd K) (hA : AOK T P R L Tm K) (hs : wR s) (ho : wR o) (hz : wR z) (hQ : ∀ r M', aRestsV P R s o z r → MI x M' T P R L Tm sd K → (∀ b, b < 106 → M' b = M b) → Q (some (.int (iI r))) x M') : yG x M 182 0 [.ref 106, .int (iI s), .int (iI o), .int (iI z), zU, zU] [] Q := by
  obtain ⟨⟨ht56, ht256⟩, hok, hRk, ⟨hl14, hLk⟩, hTk, hKk⟩ := id hA
  obtain ⟨z1, z2, z3, z4, z5⟩ := aRok_len hok hRk
  have z6 : ∀ y ∈ R.2.2.2, y < 6 := fun y hy => by have := z3 y hy; have := hok.2.2.1; omega
  have hb1 := hok.1
  have hb2 := hok.2.1
  have hb3 := hok.2.2.1
  have it : ∀ (v1 v2 w1 w2 : Nat), v1 ≤ 54 → v2 ≤ 54 → w1 ≤ 54 → w2 ≤ 54 → ∀ a b : Nat, a ≤ 1 → b ≤ 1 → ∀ (t : Int × Int) (Mi : wM) (w5 : Value), mgi x M Mi T P R L Tm sd K (aG8 v1 v2 w1 w2) 8 → Mi 106 37 = t.1 → Mi 106 38 = t.2 → (0 ≤ t.1 ∧ t.1 ≤ (2 * a + b : Nat) ∧ -9 ≤ t.2 ∧ t.2 ≤ 11) → (t.1 = 0 ↔ t.2 = -9) →
      (∀ (Mj : wM) (w5 : Value), mgi x M Mj T P R L Tm sd K (aG8 v1 v2 w1 w2) 8 → Mj 106 37 = (aSt4 (aOk4 v1 v2 w1 w2) a b t).1 → Mj 106 38 = (aSt4 (aOk4 v1 v2 w1 w2) a b t).2 → ((aSt4 (aOk4 v1 v2 w1 w2) a b t).1 = 0 ↔ (aSt4 (aOk4 v1 v2 w1 w2) a b t).2 = -9) → yG x Mj 182 75 [.ref 106, .int (iI s), .int (iI o), .int (iI z), .int (iI ((2 * a + b + 1 : Nat) : Int)), w5] [] Q) → yG x Mi 182 75 [.ref 106, .int (iI s), .int (iI o), .int (iI z), .int (iI ((2 * a + b : Nat) : Int)), w5] [] Q := by
    intro v1 v2 w1 w2 l1 l2 l3 l4 a b ha hb t Mi w5 hI h37 h38 hbd hiff hk
    have x2 : (2 * a + b) ^^^ 2 = 2 * (1 - a) + b := by
      rcases (show a = 0 ∨ a = 1 by omega) with rfl | rfl <;> rcases (show b = 0 ∨ b = 1 by omega) with rfl | rfl <;> rfl
    have x1 : (2 * a + b) ^^^ 1 = 2 * a + (1 - b) := by
      rcases (show a = 0 ∨ a = 1 by omega) with rfl | rfl <;> rcases (show b = 0 ∨ b = 1 by omega) with rfl | rfl <;> rfl
    obtain ⟨p1, p2⟩ := aG8_at v1 v2 w1 w2 a b ha hb
    obtain ⟨p3, -⟩ := aG8_at v1 v2 w1 w2 (1 - a) b (by omega) hb
    obtain ⟨-, p4⟩ := aG8_at v1 v2 w1 w2 a (1 - b) ha (by omega)
    have r1 := (hI.2.2 _ (show 2 * (2 * a + b) < 8 by omega)).trans p1
    have r2 := (hI.2.2 _ (show 2 * (2 * a + b) + 1 < 8 by omega)).trans p2
    have r3 := (hI.2.2 _ (show 2 * (2 * (1 - a) + b) < 8 by omega)).trans p3
    have r4 := (hI.2.2 _ (show 2 * (2 * a + (1 - b)) + 1 < 8 by omega)).trans p4
    rw [show ((1 - a : Nat) : Int) = 1 - (a : Int) by omega] at r3
    rw [show ((1 - b : Nat) : Int) = 1 - (b : Int) by omega] at r4
    rw [show ((2 * (2 * a + b) : Nat) : Int) = 2 * ((2 * a + b : Nat) : Int) by omega] at r1
    rw [show ((2 * (2 * a + b) + 1 : Nat) : Int) = 2 * ((2 * a + b : Nat) : Int) + 1 by omega] at r2
    rw [show ((2 * (2 * (1 - a) + b) : Nat) : Int) = 2 * ((2 * (1 - a) + b : Nat) : Int) by omega] at r3
    rw [show ((2 * (2 * a + (1 - b)) + 1 : Nat) : Int) = 2 * ((2 * a + (1 - b) : Nat) : Int) + 1 by omega] at r4
    have hdec : (aOk4 v1 v2 w1 w2 a b = true) ↔ (aGn (1 - (a : Int)) b v1 v2 ≤ aGn a b v1 v2 ∧ aGn (1 - (b : Int)) a w1 w2 ≤ aGn b a w1 w2) := by
      unfold aOk4
      rw [Bool.and_eq_true, decide_eq_true_iff, decide_eq_true_iff]
    have hst : aSt4 (aOk4 v1 v2 w1 w2) a b t = (t.1 + (if aOk4 v1 v2 w1 w2 a b = true then 1 else 0), if aOk4 v1 v2 w1 w2 a b = true ∧ t.2 = -9 then 10 * (a : Int) + b else t.2) := rfl
    rw [hst] at hk
    have cont : ∀ e : Int, ((e = 1 ∧ aOk4 v1 v2 w1 w2 a b = true) ∨ (e = 0 ∧ ¬ aOk4 v1 v2 w1 w2 a b = true)) → yG x Mi 182 136 [.ref 106, .int (iI s), .int (iI o), .int (iI z), .int (iI ((2 * a + b : Nat) : Int)), w5] [.int (iI e)] Q := by
      intro e he
      have fin : ∀ u : Int, (u = if aOk4 v1 v2 w1 w2 a b = true ∧ t.2 = -9 then 10 * (a : Int) + b else t.2) → -9 ≤ u → u ≤ 11 → yG x Mi 182 170 [.ref 106, .int (iI s), .int (iI o), .int (iI z), .int (iI ((2 * a + b : Nat) : Int)), .int (iI e)] [.int (iI u), .ref 106] Q := by
        intro u hu hu1 hu2
        have hI1 := mgi_6 (k := 38) (v := u) hI (Or.inr rfl)
        have hI2 := mgi_6 (k := 37) (v := t.1 + e) hI1 (Or.inl rfl)
        have hfx : yG x (wup (wup Mi 106 38 u) 106 37 (t.1 + e)) 182 75 [.ref 106, .int (iI s), .int (iI o), .int (iI z), .int (iI ((2 * a + b + 1 : Nat) : Int)), .int (iI e)] [] Q := by
          refine hk _ _ hI2 ?_ ?_ ?_
          · rw [wup_s]
            rcases he with ⟨rfl, he⟩ | ⟨rfl, he⟩
            · rw [if_pos he]
            · rw [if_neg he]
          · rw [wup_k _ _ (by decide), wup_s]; exact hu
          · show (t.1 + _ = 0 ↔ _ = -9)
            rw [← hu]
            rcases he with ⟨rfl, he⟩ | ⟨rfl, he⟩
            · rw [if_pos he]
              by_cases h9 : t.2 = -9
              · rw [if_pos ⟨he, h9⟩] at hu; omega
              · rw [if_neg (fun h => h9 h.2)] at hu; omega
            · rw [if_neg he]
              rw [if_neg (fun h => he h.1)] at hu; omega
        refine y_pi (j := 38) c_182_170 rfl rfl rfl (by omega) ?_
        refine y_al0 c_182_173 ?_
        refine y_dup c_182_174 rfl ?_
        refine y_gi (j := 37) (z := t.1) c_182_175 rfl rfl (by rw [wup_k _ _ (by decide)]; exact h37) (fun r_175 => ?_)
        refine y_il5 c_182_178 ?_
        refine y_iz_eq c_182_180 (by omega) (fun he0 => ?_) (fun he0 => ?_)
        · have e0 : e = 0 := he0
          refine y_ic c_182_187 ?_
          refine y_add c_182_188 ?_
          rw [show t.1 + 0 = t.1 + e by omega]
          refine y_pi (j := 37) c_182_189 rfl rfl rfl (by omega) ?_
          refine y_inc4 c_182_192 rfl ?_
          refine y_goto c_182_195 ?_
          exact hfx
        · have e1 : e = 1 := by omega
          refine y_ic c_182_183 ?_
          refine y_goto c_182_184 ?_
          refine y_add c_182_188 ?_
          rw [show t.1 + 1 = t.1 + e by omega]
          refine y_pi (j := 37) c_182_189 rfl rfl rfl (by omega) ?_
          refine y_inc4 c_182_192 rfl ?_
          refine y_goto c_182_195 ?_
          exact hfx
      have hor : e = 0 ∨ e = 1 := by omega
      refine y_is5 c_182_136 rfl ?_
      refine y_al0 c_182_138 ?_
      refine y_il5 c_182_139 ?_
      refine y_iz_eq c_182_141 (by omega) (fun he0 => ?_) (fun he0 => ?_)
      · refine y_al0 c_182_166 ?_
        refine y_gi (j := 38) (z := t.2) c_182_167 rfl rfl h38 (fun r_167 => ?_)
        refine fin _ ?_ (by omega) (by omega)
        rcases he with ⟨rfl, he⟩ | ⟨rfl, he⟩
        · by_cases h9 : t.2 = -9
          · first
            | exact absurd he0 (by decide)
            | (rw [if_pos ⟨he, h9⟩]; done)
            | omega
          · rw [if_neg (fun h => h9 h.2)]
            all_goals omega
        · rw [if_neg (fun h => he h.1)]
          all_goals omega
      · refine y_al0 c_182_144 ?_
        refine y_gi (j := 37) (z := t.1) c_182_145 rfl rfl h37 (fun r_145 => ?_)
        refine y_iz_ne c_182_148 (by omega) (fun ht0 => ?_) (fun ht0 => ?_)
        · refine y_al0 c_182_166 ?_
          refine y_gi (j := 38) (z := t.2) c_182_167 rfl rfl h38 (fun r_167 => ?_)
          refine fin _ ?_ (by omega) (by omega)
          rcases he with ⟨rfl, he⟩ | ⟨rfl, he⟩
          · by_cases h9 : t.2 = -9
            · first
              | exact absurd he0 (by decide)
              | (rw [if_pos ⟨he, h9⟩]; done)
              | omega
            · rw [if_neg (fun h => h9 h.2)]
              all_goals omega
          · rw [if_neg (fun h => he h.1)]
            all_goals omega
        · refine y_bi c_182_151 (by decide) ?_
          refine y_il4 c_182_153 ?_
          refine y_ic c_182_155 ?_
          refine y_div c_182_156 (by omega) (by omega) (by decide) (by decide) ?_
          rw [show (((2 * a + b : Nat) : Int) / 2) = (a : Int) by omega]
          refine y_mul c_182_157 ?_
          refine y_il4 c_182_158 ?_
          refine y_ic c_182_160 ?_
          refine y_rem c_182_161 (by omega) (by omega) (by decide) (by decide) ?_
          rw [show (((2 * a + b : Nat) : Int) % 2) = (b : Int) by omega]
          refine y_add c_182_162 ?_
          refine y_goto c_182_163 ?_
          refine fin _ ?_ (by omega) (by omega)
          rcases he with ⟨rfl, he⟩ | ⟨rfl, he⟩
          · by_cases h9 : t.2 = -9
            · first
              | exact absurd he0 (by decide)
              | (rw [if_pos ⟨he, h9⟩]; done)
              | omega
            · rw [if_neg (fun h => h9 h.2)]
              all_goals omega
          · rw [if_neg (fun h => he h.1)]
            all_goals omega
    refine y_il4 c_182_75 ?_
    refine y_ic c_182_77 ?_
    refine y_ic_ge c_182_78 (by omega) (by omega) (fun h_78 => absurd h_78 (by omega)) (fun h_78 => ?_)
    refine y_al0 c_182_81 ?_
    refine y_gr 125 c_182_82 rfl (by omega) ?_
    refine y_ic c_182_85 ?_
    refine y_il4 c_182_86 ?_
    refine y_ic c_182_88 ?_
    refine y_ixor (x1 := 2 * a + b) (x2 := 2) c_182_89 ?_
    rw [x2]
    refine y_mul c_182_90 ?_
    refine y_ald (n := 8) c_182_91 rfl (by omega) (by omega) (by omega) r3 (fun r_91 => ?_)
    refine y_al0 c_182_92 ?_
    refine y_gr 125 c_182_93 rfl (by omega) ?_
    refine y_ic c_182_96 ?_
    refine y_il4 c_182_97 ?_
    refine y_mul c_182_99 ?_
    refine y_ald (n := 8) c_182_100 rfl (by omega) (by omega) (by omega) r1 (fun r_100 => ?_)
    refine y_ic_gt c_182_101 (by omega) (by omega) (fun c1 => ?_) (fun c1 => ?_)
    · refine y_ic c_182_135 ?_
      first
        | exact cont 0 (Or.inr ⟨rfl, fun h => by have := hdec.mp h; omega⟩)
        | exact cont 1 (Or.inl ⟨rfl, hdec.mpr ⟨c1, c2⟩⟩)
    · refine y_al0 c_182_104 ?_
      refine y_gr 125 c_182_105 rfl (by omega) ?_
      refine y_ic c_182_108 ?_
      refine y_il4 c_182_109 ?_
      refine y_ic c_182_111 ?_
      refine y_ixor (x1 := 2 * a + b) (x2 := 1) c_182_112 ?_
      rw [x1]
      refine y_mul c_182_113 ?_
      refine y_ic c_182_114 ?_
      refine y_add c_182_115 ?_
      refine y_ald (n := 8) c_182_116 rfl (by omega) (by omega) (by omega) r4 (fun r_116 => ?_)
      refine y_al0 c_182_117 ?_
      refine y_gr 125 c_182_118 rfl (by omega) ?_
      refine y_ic c_182_121 ?_
      refine y_il4 c_182_122 ?_
      refine y_mul c_182_124 ?_
      refine y_ic c_182_125 ?_
      refine y_add c_182_126 ?_
      refine y_ald (n := 8) c_182_127 rfl (by omega) (by omega) (by omega) r2 (fun r_127 => ?_)
      refine y_ic_gt c_182_128 (by omega) (by omega) (fun c2 => ?_) (fun c2 => ?_)
      · refine y_ic c_182_135 ?_
        first
          | exact cont 0 (Or.inr ⟨rfl, fun h => by have := hdec.mp h; omega⟩)
          | exact cont 1 (Or.inl ⟨rfl, hdec.mpr ⟨c1, c2⟩⟩)
      · refine y_ic c_182_131 ?_
        refine y_goto c_182_132 ?_
        first
          | exact cont 0 (Or.inr ⟨rfl, fun h => by have := hdec.mp h; omega⟩)
          | exact cont 1 (Or.inl ⟨rfl, hdec.mpr ⟨c1, c2⟩⟩)
  refine y_al0 c_182_0 ?_
  refine y_ic c_182_1 ?_
  refine y_pi (j := 0) c_182_2 rfl rfl rfl (by decide) ?_
  have hC0 := MI_thr hC
  have hF0 : ∀ b, b < 106 → (wup M 106 0 0) b = M b := fun b hb => wup_f _ _ _ (by omega)
  generalize (wup M 106 0 0) = M0 at hC0 hF0 ⊢
  obtain ⟨hsd, hT, hM, hR, hL, hTm, hK⟩ := id hC0
  obtain ⟨m4, m6, m8, v1, v2, v3⟩ := id hM
  obtain ⟨a0, a1, a2, a3, a4⟩ := id hR
  refine y_al0 c_182_5 ?_
  refine y_il1 c_182_6 ?_
  refine k_122 c_182_7 rfl rfl (Nat.le_of_ble_eq_true rfl) ?_
  refine s_122 hM hok hs ?_
  refine y_pz_ne c_182_10 (fun h1 => ?_) (fun h1 => ?_)
  · refine y_ic c_182_21 ?_
    refine y_ret c_182_22 rfl ?_
    exact hQ _ _ (Or.inl ⟨by omega, rfl⟩) hC0 hF0
  · refine y_al0 c_182_13 ?_
    refine y_il2 c_182_14 ?_
    refine k_122 c_182_15 rfl rfl (Nat.le_of_ble_eq_true rfl) ?_
    refine s_122 hM hok ho ?_
    refine y_pz_eq c_182_18 (fun h2 => ?_) (fun h2 => ?_)
    · refine y_il1 c_182_23 ?_
      refine y_il2 c_182_24 ?_
      refine y_ic_eq c_182_25 (by omega) (by omega) (fun h3 => ?_) (fun h3 => ?_)
      · refine y_bi c_182_38 (by decide) ?_
        refine y_ret c_182_40 rfl ?_
        exact hQ _ _ (Or.inr (Or.inl ⟨by omega, by omega, rfl⟩)) hC0 hF0
      · refine y_il3 c_182_28 ?_
        refine y_i2l c_182_29 (by omega) ?_
        refine y_lc (z := 0) c_182_30 rfl ?_
        refine y_lc (z := 1) c_182_31 rfl ?_
        refine k_117 c_182_32 rfl (Nat.le_of_ble_eq_true rfl) ?_
        refine s_117 hz (by decide) (by decide) ?_
        refine y_pz_ne c_182_35 (fun h4 => ?_) (fun h4 => ?_)
        · refine y_al0 c_182_41 ?_
          refine y_gr 114 c_182_42 rfl (by omega) ?_
          refine y_ic c_182_45 ?_
          refine y_ald (n := 10) (u := R.1) c_182_46 rfl (by omega) (by omega) (by omega) a0 (fun r_46 => ?_)
          refine y_bi c_182_47 (by decide) ?_
          refine y_ic_ne c_182_49 (by omega) (by omega) (fun hrun => ?_) (fun hrun => ?_)
          · obtain ⟨g, s', eg, es, hgl, hsl⟩ := aRok_run hRk hrun
            obtain ⟨s, rfl⟩ : ∃ i : Nat, s = i := ⟨s.toNat, by omega⟩
            obtain ⟨o, rfl⟩ : ∃ i : Nat, o = i := ⟨o.toNat, by omega⟩
            have hsl1 : s < P.2.2.1 := by omega
            have hol1 : o < P.2.2.1 := by omega
            obtain ⟨v1, hv1⟩ := aMax_ex 63 hok (aRn_ok hgl hsl1 (show R.2.2.1 ≤ 135 by omega))
            obtain ⟨v2, hv2⟩ := aMax_ex 63 hok (aRn_ok hgl hsl1 (show R.2.2.1 / 2 ≤ 135 by omega))
            obtain ⟨w1, hw1⟩ := aMax_ex 63 hok (aRn_ok hgl hol1 (show R.2.2.1 ≤ 135 by omega))
            obtain ⟨w2, hw2⟩ := aMax_ex 63 hok (aRn_ok hgl hol1 (show R.2.2.1 / 2 ≤ 135 by omega))
            have l1 := aMax_54 hok (aRn_ok hgl hsl1 (show R.2.2.1 ≤ 135 by omega)) hv1
            have l2 := aMax_54 hok (aRn_ok hgl hsl1 (show R.2.2.1 / 2 ≤ 135 by omega)) hv2
            have l3 := aMax_54 hok (aRn_ok hgl hol1 (show R.2.2.1 ≤ 135 by omega)) hw1
            have l4 := aMax_54 hok (aRn_ok hgl hol1 (show R.2.2.1 / 2 ≤ 135 by omega)) hw2
            refine y_al0 c_182_55 ?_
            refine y_il1 c_182_56 ?_
            refine y_il2 c_182_57 ?_
            refine k_181 c_182_58 rfl rfl (Nat.le_of_ble_eq_true rfl) ?_
            refine s_181 hC0 hA eg hgl hsl1 hol1 hv1 hv2 hw1 hw2 (fun M1 hI1 => ?_)
            have hI1 : mgi x M M1 T P R L Tm sd K (aG8 v1 v2 w1 w2) 8 := ⟨hI1.1, fun b hb => by rw [hI1.2.1 b hb, hF0 b hb], hI1.2.2⟩
            refine y_al0 c_182_61 ?_
            refine y_ic c_182_62 ?_
            refine y_pi (j := 37) c_182_63 rfl rfl rfl (by decide) ?_
            have hI2 := mgi_6 (k := 37) (v := 0) hI1 (Or.inl rfl)
            refine y_al0 c_182_66 ?_
            refine y_bi c_182_67 (by decide) ?_
            refine y_pi (j := 38) c_182_69 rfl rfl rfl (by decide) ?_
            have hI3 := mgi_6 (k := 38) (v := -9) hI2 (Or.inr rfl)
            have h37 : (wup (wup M1 106 37 0) 106 38 (-9)) 106 37 = 0 := by rw [wup_k _ _ (by decide), wup_s]
            have h38 : (wup (wup M1 106 37 0) 106 38 (-9)) 106 38 = -9 := wup_s _ _ _ _
            generalize (wup (wup M1 106 37 0) 106 38 (-9)) = M3 at hI3 h37 h38 ⊢
            refine y_ic c_182_72 ?_
            refine y_is4 c_182_73 rfl ?_
            have c1 := aSt4_b (aOk4 v1 v2 w1 w2) 0 0 (by omega) (by omega) (0, -9) 0 (by simp)
            have c2 := aSt4_b (aOk4 v1 v2 w1 w2) 0 1 (by omega) (by omega) _ 1 c1
            have c3 := aSt4_b (aOk4 v1 v2 w1 w2) 1 0 (by omega) (by omega) _ 2 c2
            have c4 := aSt4_b (aOk4 v1 v2 w1 w2) 1 1 (by omega) (by omega) _ 3 c3
            refine it v1 v2 w1 w2 l1 l2 l3 l4 0 0 (by omega) (by omega) (0, -9) M3 _ hI3 h37 h38 (by simp) (by simp) (fun M4 w5 hI4 e1 e2 e3 => ?_)
            refine it v1 v2 w1 w2 l1 l2 l3 l4 0 1 (by omega) (by omega) _ M4 _ hI4 e1 e2 c1 e3 (fun M5 w5 hI5 e4 e5 e6 => ?_)
            refine it v1 v2 w1 w2 l1 l2 l3 l4 1 0 (by omega) (by omega) _ M5 _ hI5 e4 e5 c2 e6 (fun M6 w5 hI6 e7 e8 e9 => ?_)
            refine it v1 v2 w1 w2 l1 l2 l3 l4 1 1 (by omega) (by omega) _ M6 _ hI6 e7 e8 c3 e9 (fun M7 w5 hI7 f1 f2 f3 => ?_)
            refine y_il4 c_182_75 ?_
            refine y_ic c_182_77 ?_
            refine y_ic_ge c_182_78 (by decide) (by decide) (fun h_78 => ?_) (fun h_78 => absurd h_78 (by decide))
            refine y_il3 c_182_198 ?_
            refine y_iz_ne c_182_199 (by omega) (fun hz0 => ?_) (fun hz0 => ?_)
            · refine y_al0 c_182_209 ?_
              refine y_gi (j := 38) c_182_210 rfl rfl f2 (fun r_210 => ?_)
              refine y_ret c_182_213 rfl ?_
              refine hQ _ _ (Or.inr (Or.inr (Or.inr ⟨by omega, by omega, hrun, v1, v2, w1, w2, by rw [eg]; exact hv1, by rw [eg]; exact hv2, by rw [eg]; exact hw1, by rw [eg]; exact hw2, ?_⟩))) hI7.1 hI7.2.1
              first
                | (rw [if_pos hz0]; rfl)
                | (rw [if_neg hz0]; rfl)
            · refine y_al0 c_182_202 ?_
              refine y_gi (j := 37) c_182_203 rfl rfl f1 (fun r_203 => ?_)
              refine y_goto c_182_206 ?_
              refine y_ret c_182_213 rfl ?_
              refine hQ _ _ (Or.inr (Or.inr (Or.inr ⟨by omega, by omega, hrun, v1, v2, w1, w2, by rw [eg]; exact hv1, by rw [eg]; exact hv2, by rw [eg]; exact hw1, by rw [eg]; exact hw2, ?_⟩))) hI7.1 hI7.2.1
              first
                | (rw [if_pos hz0]; rfl)
                | (rw [if_neg hz0]; rfl)
          · refine y_bi c_182_52 (by decide) ?_
            refine y_ret c_182_54 rfl ?_
            exact hQ _ _ (Or.inr (Or.inr (Or.inl ⟨by omega, by omega, hrun, rfl⟩))) hC0 hF0
        · refine y_bi c_182_38 (by decide) ?_
          refine y_ret c_182_40 rfl ?_
          exact hQ _ _ (Or.inr (Or.inl ⟨by omega, by omega, rfl⟩)) hC0 hF0
    · refine y_ic c_182_21 ?_
      refine y_ret c_182_22 rfl ?_
      exact hQ _ _ (Or.inl ⟨by omega, rfl⟩) hC0 hF0
end S36
