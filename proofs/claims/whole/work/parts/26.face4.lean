/-! ===== LoveGlass: matched ===== -/
theorem aBm_congr {C C' : Nat → Prop} {n v : Nat} (h : aBm C n v) (hc : ∀ k, k < n → (C k ↔ C' k)) : aBm C' n v := ⟨h.1, fun k hk => (h.2 k hk).trans (hc k hk)⟩
theorem aBm_or {C : Nat → Prop} {n v j : Nat} (h : aBm C n v) (hj : j < n) : aBm (fun k => C k ∨ k = j) n (v ||| 2 ^ j) := ⟨or_bit_lt h.1 hj, fun k hk => by rw [or_bit, h.2 k hk]⟩
def aPm (P : aP) (s g k : Nat) : Prop := (k / 4 < s ∧ k % 4 < P.2.1 ∨ k / 4 = s ∧ k % 4 < g) ∧ aCanD P (k / 4) (k % 4)
theorem aPm_y {P : aP} {s g v : Nat} (h : aBm (aPm P s g) 16 v) (hs : s < 4) (hg : g < 4) (hc : aCanD P s g) : aBm (aPm P s (g + 1)) 16 (v ||| 2 ^ (4 * s + g)) := by
  refine aBm_congr (aBm_or h (show 4 * s + g < 16 by omega)) (fun k hk => ?_)
  unfold aPm
  constructor
  · rintro (⟨h1, h2⟩ | rfl)
    · exact ⟨by omega, h2⟩
    · rw [show (4 * s + g) / 4 = s by omega, show (4 * s + g) % 4 = g by omega]; exact ⟨by omega, hc⟩
  · rintro ⟨h1, h2⟩
    by_cases e : k = 4 * s + g
    · exact Or.inr e
    · exact Or.inl ⟨by omega, h2⟩
theorem aPm_n {P : aP} {s g v : Nat} (h : aBm (aPm P s g) 16 v) (hg : g < 4) (hc : ¬ aCanD P s g) : aBm (aPm P s (g + 1)) 16 v := by
  refine aBm_congr h (fun k hk => ?_)
  unfold aPm
  constructor
  · rintro ⟨h1, h2⟩; exact ⟨by omega, h2⟩
  · rintro ⟨h1, h2⟩
    refine ⟨?_, h2⟩
    rcases h1 with h1 | ⟨h1, h3⟩
    · exact Or.inl h1
    · by_cases e : k % 4 = g
      · rw [h1, e] at h2; exact absurd h2 hc
      · exact Or.inr ⟨h1, by omega⟩
theorem aPm_s {P : aP} {s v : Nat} (h : aBm (aPm P s P.2.1) 16 v) : aBm (aPm P (s + 1) 0) 16 v := by
  refine aBm_congr h (fun k hk => ?_)
  unfold aPm
  exact ⟨fun h => ⟨by omega, h.2⟩, fun h => ⟨by omega, h.2⟩⟩
theorem aDg_0 (w ns s : Nat) : aDg w ns 0 s = 0 := by unfold aDg; rw [Nat.zero_div, Nat.zero_mod]
theorem aMcnt_0 (c : Nat → Nat → Bool) (w ns : Nat) : ∀ n, aMcnt c (aDg w ns 0) n = 0
  | 0 => rfl
  | n + 1 => by simp only [aMcnt]; rw [aMcnt_0 c w ns n, if_neg (fun h => h.1 (aDg_0 w ns n))]
theorem aMcnt_le (c : Nat → Nat → Bool) (d : Nat → Nat) : ∀ n, aMcnt c d n ≤ n
  | 0 => Nat.le_refl 0
  | n + 1 => by have := aMcnt_le c d n; simp only [aMcnt]; split <;> omega
section S14
variable {x : wC} {M : wM} {Q : Option Value → wC → wM → Prop} {T : List Nat} {P : aP} {R : aR} {L : aA} {Tm : aT} {sd : Int64} {K : Nat → Option aR}
theorem s_88 {z : Int} (hC : CI x M T P R L Tm sd K) (hA : AOK T P R L Tm K) (hz : z = 0 ∨ z = 1) (hQ : ∀ r M', aMatV P z r → CI x M' T P R L Tm sd K → (∀ b, 106 ≤ b → M' b = M b) → Q (some (.int (iI r))) x M') : yG x M 88 0 [.ref 0, .int (iI z), zU, zU, zU, zU, zU, zU] [] Q := by
  obtain ⟨hx, hsd, hT, hM, hR, hL, hTm, hK0, hK⟩ := id hC
  obtain ⟨⟨ht56, ht256⟩, hok, hRk, ⟨hl14, hLk⟩, hTk, hKk⟩ := id hA
  obtain ⟨hp, hp33⟩ := CI_port hx
  obtain ⟨z1, z2, z3, z4, z5⟩ := aRok_len hok hRk
  have z6 : ∀ y ∈ R.2.2.2, y < 6 := fun y hy => by have := z3 y hy; have := hok.2.2.1; omega
  have hb1 := hok.1
  have hb2 := hok.2.1
  have hb3 := hok.2.2.1
  obtain ⟨q0, q1, q2, q3, q4, q5, q6, qc, j0, j1, j2, j3, j4, j5, j6, qlt⟩ := id hp
  obtain ⟨⟨n0, n1, n2, n3, n4, n5, n6⟩, v0, v1, v2, v3, v4, v5, v6⟩ := id hM
  have hp8 : 5 ^ P.2.2.1 ≤ 5 ^ 4 := Nat.pow_le_pow_right (by omega) (by omega)
  have hp9 : 0 < 5 ^ P.2.2.1 := Nat.pow_pos (by omega)
  have key3 : ∀ (M1 : wM) (pr : Nat) (c : Nat → Nat → Bool), CI x M1 T P R L Tm sd K → (∀ b, 106 ≤ b → M1 b = M b) → pr < 2147483648 → (∀ s g, s < P.2.2.1 → g < 4 → (pr / 2 ^ (4 * s + g) % 2 = 1 ↔ c s g = true)) → (∀ s g, c s g = true → g < P.2.1) → (∀ s g, s < P.2.2.1 → g < P.2.1 → (c s g = true ↔ aCanD P s g)) → ∀ d k : Nat, 5 ^ P.2.2.1 < k + d → k ≤ 5 ^ P.2.2.1 → ∀ (m b : Nat) (w7 : Value), b < 5 ^ P.2.2.1 → b ≤ k → m = aMcnt c (aDg 5 P.2.2.1 b) P.2.2.1 → aMgd c (aDg 5 P.2.2.1 b) P.2.2.1 → (∀ r, r < k → aMgd c (aDg 5 P.2.2.1 r) P.2.2.1 → aMcnt c (aDg 5 P.2.2.1 r) P.2.2.1 < m ∨ (aMcnt c (aDg 5 P.2.2.1 r) P.2.2.1 = m ∧ b ≤ r)) → yG x M1 88 82 [.ref 0, .int (iI z), .int (iI (pr : Int)), .int (iI ((5 ^ P.2.2.1 : Nat) : Int)), .int (iI (m : Int)), .int (iI (b : Int)), .int (iI (k : Int)), w7] [] Q := by
    intro M1 pr c hC1 hF1 hpr hc4 hcg hcc d
    induction d with
    | zero => intro k g1 g2; omega
    | succ d ih =>
      intro k g1 g2 m b w7 hb hbk hm hgb hmx
      have hml := aMcnt_le c (aDg 5 P.2.2.1 b) P.2.2.1
      have hkl := aMcnt_le c (aDg 5 P.2.2.1 k) P.2.2.1
      refine y_il6 c_88_82 ?_
      refine y_il3 c_88_84 ?_
      refine y_ic_ge c_88_85 (by omega) (by omega) (fun h_85 => ?_) (fun h_85 => ?_)
      · have hk : k = 5 ^ P.2.2.1 := by omega
        subst hk
        have hfin := aMat_good (show P.2.1 < 5 by omega) (by decide) hcg hb hgb hm hmx
        refine y_il1 c_88_119 ?_
        refine y_iz_eq c_88_120 (by omega) (fun h_120 => ?_) (fun h_120 => ?_)
        · subst h_120
          refine y_il4 c_88_133 ?_
          refine y_ret c_88_135 rfl ?_
          first
            | exact hQ _ _ ⟨c, m, _, hcc, hfin, by rw [if_pos rfl]⟩ hC1 hF1
            | exact hQ _ _ ⟨c, m, _, hcc, hfin, by rw [if_neg (by decide)]⟩ hC1 hF1
        · obtain rfl : z = 1 := by omega
          refine y_al0 c_88_123 ?_
          refine y_il5 c_88_124 ?_
          refine y_il3 c_88_126 ?_
          refine k_91 c_88_127 rfl rfl (Nat.le_of_ble_eq_true rfl) ?_
          refine s_91 hC1 hA hb ?_
          refine y_goto c_88_130 ?_
          refine y_ret c_88_135 rfl ?_
          first
            | exact hQ _ _ ⟨c, m, _, hcc, hfin, by rw [if_pos rfl]⟩ hC1 hF1
            | exact hQ _ _ ⟨c, m, _, hcc, hfin, by rw [if_neg (by decide)]⟩ hC1 hF1
      · refine y_al0 c_88_88 ?_
        refine y_il6 c_88_89 ?_
        refine y_il3 c_88_91 ?_
        refine y_il2 c_88_92 ?_
        refine k_90 c_88_93 rfl rfl (Nat.le_of_ble_eq_true rfl) ?_
        refine s_90 c hC1 hA (by omega) hpr hc4 (fun hno => ?_) (fun hyes => ?_)
        · refine y_is7 c_88_96 rfl ?_
          refine y_il7 c_88_98 ?_
          refine y_il4 c_88_100 ?_
          refine y_ic_le c_88_102 (by omega) (by omega) (fun h_102 => ?_) (fun h_102 => absurd h_102 (by omega))
          refine y_inc6 c_88_113 rfl ?_
          refine y_goto c_88_116 ?_
          exact ih (k + 1) (by omega) (by omega) m b _ hb (by omega) hm hgb (fun r hr hg => by
            by_cases e : r = k
            · subst e; exact absurd hg hno
            · exact hmx r (by omega) hg)
        · refine y_is7 c_88_96 rfl ?_
          refine y_il7 c_88_98 ?_
          refine y_il4 c_88_100 ?_
          refine y_ic_le c_88_102 (by omega) (by omega) (fun h_102 => ?_) (fun h_102 => ?_)
          · refine y_inc6 c_88_113 rfl ?_
            refine y_goto c_88_116 ?_
            first
              | exact ih (k + 1) (by omega) (by omega) m b _ hb (by omega) hm hgb (fun r hr hg => by
                  by_cases e : r = k
                  · subst e; omega
                  · exact hmx r (by omega) hg)
              | exact ih (k + 1) (by omega) (by omega) _ k _ (by omega) (by omega) rfl hyes (fun r hr hg => by
                  by_cases e : r = k
                  · subst e; exact Or.inr ⟨rfl, Nat.le_refl _⟩
                  · have := hmx r (by omega) hg; omega)
          · refine y_il7 c_88_105 ?_
            refine y_is4 c_88_107 rfl ?_
            refine y_il6 c_88_109 ?_
            refine y_is5 c_88_111 rfl ?_
            refine y_inc6 c_88_113 rfl ?_
            refine y_goto c_88_116 ?_
            first
              | exact ih (k + 1) (by omega) (by omega) m b _ hb (by omega) hm hgb (fun r hr hg => by
                  by_cases e : r = k
                  · subst e; omega
                  · exact hmx r (by omega) hg)
              | exact ih (k + 1) (by omega) (by omega) _ k _ (by omega) (by omega) rfl hyes (fun r hr hg => by
                  by_cases e : r = k
                  · subst e; exact Or.inr ⟨rfl, Nat.le_refl _⟩
                  · have := hmx r (by omega) hg; omega)
  have key1 : ∀ d s : Nat, P.2.2.1 < s + d → s ≤ P.2.2.1 → ∀ (M1 : wM) (pr : Nat) (w5 w6 w7 : Value), CI x M1 T P R L Tm sd K → (∀ b, 106 ≤ b → M1 b = M b) → aBm (aPm P s 0) 16 pr → yG x M1 88 7 [.ref 0, .int (iI z), .int (iI (pr : Int)), .int (iI ((5 ^ s : Nat) : Int)), .int (iI (s : Int)), w5, w6, w7] [] Q := by
    intro d
    induction d with
    | zero => intro s g1 g2; omega
    | succ d ih =>
      intro s g1 g2 M1 pr w5 w6 w7 hC1 hF1 hpr
      obtain ⟨⟨m0, m1, m2, m3, m4, m5, m6⟩, -⟩ := id hC1.2.2.2.1
      have key2 : s < P.2.2.1 → ∀ d2 k : Nat, P.2.1 < k + d2 → k ≤ P.2.1 → ∀ (M2 : wM) (pr : Nat), CI x M2 T P R L Tm sd K → (∀ b, 106 ≤ b → M2 b = M b) → aBm (aPm P s k) 16 pr → yG x M2 88 26 [.ref 0, .int (iI z), .int (iI (pr : Int)), .int (iI ((5 ^ (s + 1) : Nat) : Int)), .int (iI (s : Int)), .int (iI (k : Int)), w6, w7] [] Q := by
        intro hsl d2
        induction d2 with
        | zero => intro k g3 g4; omega
        | succ d2 ih2 =>
          intro k g3 g4 M2 pr hC2 hF2 hpr
          obtain ⟨⟨k0, k1, k2, k3, k4, k5, k6⟩, -⟩ := id hC2.2.2.2.1
          refine y_il5 c_88_26 ?_
          refine y_al0 c_88_28 ?_
          refine y_gp c_88_29 rfl ?_
          refine k_21 c_88_32 rfl qc (Nat.le_of_ble_eq_true rfl) ?_
          refine s_21 hp ?_
          rw [k0]
          refine y_ic_ge c_88_35 (by omega) (by omega) (fun h_35 => ?_) (fun h_35 => ?_)
          · have hk : k = P.2.1 := by omega
            subst hk
            refine y_inc4 c_88_67 rfl ?_
            refine y_goto c_88_70 ?_
            exact ih (s + 1) (by omega) (by omega) M2 pr _ _ _ hC2 hF2 (aPm_s hpr)
          · refine y_al0 c_88_38 ?_
            refine y_il4 c_88_39 ?_
            refine y_il5 c_88_41 ?_
            refine k_86 c_88_43 rfl rfl (Nat.le_of_ble_eq_true rfl) ?_
            refine s_86 hC2 hA hsl (by omega) (fun M3 hno hC3 hf3 => ?_) (fun M3 hyes hC3 hf3 => ?_)
            · refine y_iz_eq c_88_46 (by decide) (fun _ => ?_) (fun h => absurd rfl h)
              refine y_inc5 c_88_61 rfl ?_
              refine y_goto c_88_64 ?_
              exact ih2 (k + 1) (by omega) (by omega) M3 pr hC3 (fun b hb => by rw [hf3 b hb, hF2 b hb]) (aPm_n hpr (by omega) hno)
            · refine y_iz_eq c_88_46 (by decide) (fun h => absurd h (by decide)) (fun _ => ?_)
              have hp2 := Nat.pow_le_pow_right (show 0 < 2 by omega) (show 4 * s + k ≤ 15 by omega)
              refine y_il2 c_88_49 ?_
              refine y_ic c_88_50 ?_
              refine y_il4 c_88_51 ?_
              refine y_il5 c_88_53 ?_
              refine k_89 c_88_55 rfl (Nat.le_of_ble_eq_true rfl) ?_
              refine s_89 ?_
              refine y_shl (x1 := 1) (x2 := 4 * s + k) c_88_58 (by omega) (by omega) ?_
              rw [Nat.one_mul]
              refine y_ior (x1 := pr) (x2 := 2 ^ (4 * s + k)) c_88_59 ?_
              refine y_is2 c_88_60 rfl ?_
              refine y_inc5 c_88_61 rfl ?_
              refine y_goto c_88_64 ?_
              exact ih2 (k + 1) (by omega) (by omega) M3 _ hC3 (fun b hb => by rw [hf3 b hb, hF2 b hb]) (aPm_y hpr (by omega) (by omega) hyes)
      refine y_il4 c_88_7 ?_
      refine y_al0 c_88_9 ?_
      refine y_gp c_88_10 rfl ?_
      refine k_22 c_88_13 rfl qc (Nat.le_of_ble_eq_true rfl) ?_
      refine s_22 hp ?_
      rw [m2]
      refine y_ic_ge c_88_16 (by omega) (by omega) (fun h_16 => ?_) (fun h_16 => ?_)
      · have hs : s = P.2.2.1 := by omega
        subst hs
        refine y_ic c_88_73 ?_
        refine y_is4 c_88_74 rfl ?_
        refine y_ic c_88_76 ?_
        refine y_is5 c_88_77 rfl ?_
        refine y_ic c_88_79 ?_
        refine y_is6 c_88_80 rfl ?_
        have hb16 : pr < 65536 := hpr.1
        have hbit : ∀ s g, s < P.2.2.1 → g < 4 → (pr / 2 ^ (4 * s + g) % 2 = 1 ↔ g < P.2.1 ∧ aCanD P s g) := fun s g hs hg => by
          rw [hpr.2 (4 * s + g) (by omega)]
          unfold aPm
          rw [show (4 * s + g) / 4 = s by omega, show (4 * s + g) % 4 = g by omega]
          exact ⟨fun h => ⟨by omega, h.2⟩, fun h => ⟨by omega, h.2⟩⟩
        exact key3 M1 pr (fun s g => decide (s < P.2.2.1 ∧ g < P.2.1 ∧ pr / 2 ^ (4 * s + g) % 2 = 1)) hC1 hF1 (by omega) (fun s g hs hg => by rw [decide_eq_true_iff]; exact ⟨fun h => ⟨hs, ((hbit s g hs hg).mp h).1, h⟩, fun h => h.2.2⟩) (fun s g h => by rw [decide_eq_true_iff] at h; exact h.2.1) (fun s g hs hg => by rw [decide_eq_true_iff, hbit s g hs (by omega)]; exact ⟨fun h => h.2.2.2, fun h => ⟨hs, hg, hg, h⟩⟩) (5 ^ P.2.2.1 + 1) 0 (by omega) (by omega) 0 0 _ hp9 (by omega) (aMcnt_0 _ _ _ _).symm ⟨fun s t _ _ h => absurd (aDg_0 _ _ _) h, fun s _ h => absurd (aDg_0 _ _ _) h⟩ (fun r hr => by omega)
      · refine y_il3 c_88_19 ?_
        refine y_ic c_88_20 ?_
        refine y_mul c_88_21 ?_
        rw [show (((5 ^ s : Nat) : Int) * 5 : Int) = ((5 ^ (s + 1) : Nat) : Int) by rw [Nat.pow_succ]; omega]
        refine y_is3 c_88_22 rfl ?_
        refine y_ic c_88_23 ?_
        refine y_is5 c_88_24 rfl ?_
        exact key2 (by omega) (P.2.1 + 1) 0 (by omega) (by omega) M1 pr hC1 hF1 hpr
  refine y_ic c_88_0 ?_
  refine y_is2 c_88_1 rfl ?_
  refine y_ic c_88_2 ?_
  refine y_is3 c_88_3 rfl ?_
  refine y_ic c_88_4 ?_
  refine y_is4 c_88_5 rfl ?_
  exact key1 (P.2.2.1 + 1) 0 (by omega) (by omega) M 0 _ _ _ hC (fun b hb => rfl) ⟨by decide, fun k hk => ⟨fun h => by simp at h, fun h => by unfold aPm at h; omega⟩⟩
end S14
