/-! ===== the model: matched ===== -/
def aMbest (c : Nat → Nat → Bool) (w ns r : Nat) (m f : Int) : Prop := (m = -9 ∧ ∀ r', r' < r → ¬ aMok (aDg w ns r') ns) ∨ ∃ b, b < r ∧ aMok (aDg w ns b) ns ∧ m = aMcnt c (aDg w ns b) ns ∧ f = aMfig (aDg w ns b) ns ∧ ∀ r', r' < r → aMok (aDg w ns r') ns → aMcnt c (aDg w ns r') ns < aMcnt c (aDg w ns b) ns ∨ (aMcnt c (aDg w ns r') ns = aMcnt c (aDg w ns b) ns ∧ b ≤ r')
theorem aMbest_no {c : Nat → Nat → Bool} {w ns r : Nat} {m f : Int} (h : aMbest c w ns r m f) (hn : ¬ aMok (aDg w ns r) ns) : aMbest c w ns (r + 1) m f := by
  rcases h with ⟨a, b⟩ | ⟨b, a1, a2, a3, a4, a5⟩
  · refine Or.inl ⟨a, fun r' hr => ?_⟩
    by_cases e : r' = r
    · rw [e]; exact hn
    · exact b r' (by omega)
  · refine Or.inr ⟨b, by omega, a2, a3, a4, fun r' hr hk => ?_⟩
    by_cases e : r' = r
    · rw [e] at hk; exact absurd hk hn
    · exact a5 r' (by omega) hk
theorem aMbest_le {c : Nat → Nat → Bool} {w ns r : Nat} {m f : Int} (h : aMbest c w ns r m f) (hn : (aMcnt c (aDg w ns r) ns : Int) ≤ m) : aMbest c w ns (r + 1) m f := by
  rcases h with ⟨a, b⟩ | ⟨b, a1, a2, a3, a4, a5⟩
  · omega
  · refine Or.inr ⟨b, by omega, a2, a3, a4, fun r' hr hk => ?_⟩
    by_cases e : r' = r
    · rw [e]; omega
    · exact a5 r' (by omega) hk
theorem aMbest_gt {c : Nat → Nat → Bool} {w ns r : Nat} {m f : Int} (h : aMbest c w ns r m f) (hn : m < (aMcnt c (aDg w ns r) ns : Int)) (ho : aMok (aDg w ns r) ns) : aMbest c w ns (r + 1) (aMcnt c (aDg w ns r) ns : Nat) (aMfig (aDg w ns r) ns : Nat) := by
  refine Or.inr ⟨r, by omega, ho, rfl, rfl, fun r' hr hk => ?_⟩
  by_cases e : r' = r
  · rw [e]; omega
  · rcases h with ⟨a, b⟩ | ⟨b, a1, a2, a3, a4, a5⟩
    · exact absurd hk (b r' (by omega))
    · have := a5 r' (by omega) hk; omega
theorem aMbest_b {c : Nat → Nat → Bool} {w ns r : Nat} {m f : Int} (h : aMbest c w ns r m f) : -9 ≤ m ∧ m ≤ ns := by
  rcases h with ⟨a, b⟩ | ⟨b, a1, a2, a3, a4, a5⟩
  · omega
  · have := aMcnt_le c (aDg w ns b) ns; omega
theorem aMbest_end {c : Nat → Nat → Bool} {w ns gl : Nat} {m f : Int} (h : aMbest c w ns (w ^ ns) m f) (hw : w = gl + 1) (hw5 : w ≤ 10) : ∃ m' f' : Nat, m = m' ∧ f = f' ∧ aMat c ns gl m' f' := by
  rcases h with ⟨a, b⟩ | ⟨b, a1, a2, a3, a4, a5⟩
  · exact absurd (fun s t _ _ h => absurd (aDg_0 _ _ _) h) (b 0 (Nat.pow_pos (by omega)))
  · exact ⟨_, _, a3, a4, aMat_rows hw hw5 a1 a2 rfl a5⟩
theorem aMok_s {d : Nat → Nat} {s : Nat} : aMok d (s + 1) ↔ aMok d s ∧ (d s = 0 ∨ ¬ ∃ t, t < s ∧ d t = d s) := by
  constructor
  · intro h
    refine ⟨fun a b h1 h2 => h a b h1 (by omega), ?_⟩
    by_cases e : d s = 0
    · exact Or.inl e
    · exact Or.inr (fun ⟨t, h1, h2⟩ => h t s h1 (by omega) (by omega) h2)
  · rintro ⟨h1, h2⟩ a b h3 h4 h5
    by_cases e : b = s
    · subst e
      rcases h2 with h2 | h2
      · omega
      · exact fun h6 => h2 ⟨a, h3, h6⟩
    · exact h1 a b h3 (by omega) h5
theorem aBm_dg {d : Nat → Nat} {s u g : Nat} (h : aBm (fun j => ∃ t, t < s ∧ d t = j) 5 u) (hg : g = d s) (h5 : g < 5) : aBm (fun j => ∃ t, t < s + 1 ∧ d t = j) 5 (u ||| 2 ^ g) := by
  refine aBm_congr (aBm_or h h5) (fun k hk => ?_)
  constructor
  · rintro (⟨t, h1, h2⟩ | rfl)
    · exact ⟨t, by omega, h2⟩
    · exact ⟨s, by omega, hg.symm⟩
  · rintro ⟨t, h1, h2⟩
    by_cases e : t = s
    · subst e; exact Or.inr (by omega)
    · exact Or.inl ⟨t, by omega, h2⟩
theorem aMfig_lt {d : Nat → Nat} (h : ∀ s, d s < 10) : ∀ n, aMfig d n < 2 * 10 ^ n
  | 0 => by simp [aMfig]
  | n + 1 => by have := aMfig_lt h n; have := h n; simp only [aMfig]; rw [Nat.pow_succ]; omega
section S35
variable {x : wC} {M : wM} {Q : Option Value → wC → wM → Prop} {T : List Nat} {P : aP} {R : aR} {L : aA} {Tm : aT} {sd : Int64} {K : Nat → Option aR}
theorem s_169 (hC : MI x M T P R L Tm sd K) (hA : AOK T P R L Tm K) (hQ : ∀ (M' : wM) (c : Nat → Nat → Bool) (m f : Nat), (∀ s g, s < P.2.2.1 → g < P.2.1 → (c s g = true ↔ aCanD P s g)) → aMat c P.2.2.1 P.2.1 m f → M' 106 35 = (m : Int) → M' 106 36 = (f : Int) → MI x M' T P R L Tm sd K → (∀ b, b < 106 → M' b = M b) → Q none x M') : yG x M 169 0 [.ref 106, zU, zU, zU, zU, zU, zU, zU, zU] [] Q := by
  obtain ⟨⟨ht56, ht256⟩, hok, hRk, ⟨hl14, hLk⟩, hTk, hKk⟩ := id hA
  obtain ⟨z1, z2, z3, z4, z5⟩ := aRok_len hok hRk
  have z6 : ∀ y ∈ R.2.2.2, y < 6 := fun y hy => by have := z3 y hy; have := hok.2.2.1; omega
  have hb1 := hok.1
  have hb2 := hok.2.1
  have hb3 := hok.2.2.1
  have hng : P.2.2.1 * P.2.1 ≤ 4 * 4 := Nat.mul_le_mul hb2 hb1
  have key2 : ∀ (M1 : wM) (c : Nat → Nat → Bool), MI x M1 T P R L Tm sd K → (∀ b, b < 106 → M1 b = M b) → (∀ s g, s < P.2.2.1 → g < P.2.1 → M1 126 ((s * P.2.1 + g : Nat) : Int) = (if c s g = true then 1 else 0)) → (∀ s g, s < P.2.2.1 → g < P.2.1 → (c s g = true ↔ aCanD P s g)) → ∀ w : Nat, w = P.2.1 + 1 → ∀ d r : Nat, w ^ P.2.2.1 < r + d → r ≤ w ^ P.2.2.1 → ∀ (M2 : wM) (w3 w4 w5 w6 w7 w8 : Value), (∀ b, b ≠ 106 → M2 b = M1 b) → (∀ j : Int, j ≠ 35 → j ≠ 36 → M2 106 j = M1 106 j) → aMbest c w P.2.2.1 r (M2 106 35) (M2 106 36) → yG x M2 169 72 [.ref 106, .int (iI (w : Int)), .int (iI (r : Int)), w3, w4, w5, w6, w7, w8] [] Q := by
    intro M1 c hC1 hF1 hval hcc w hw d
    have hpw : ∀ e, e ≤ 4 → w ^ e ≤ 625 := fun e he => Nat.le_trans (Nat.pow_le_pow_left (show w ≤ 5 by omega) e) (Nat.pow_le_pow_right (n := 5) (by omega) he)
    induction d with
    | zero => intro r g1 g2; omega
    | succ d ih =>
      intro r g1 g2 M2 w3 w4 w5 w6 w7 w8 hf2 hj2 hbest
      have hC2 : MI x M2 T P R L Tm sd K := MI_of hC1 ⟨fun j hj => hj2 j (by omega) (by omega), fun b hb => hf2 b (by omega)⟩
      have hM2 := hC2.2.2.1
      have hF2 : ∀ b, b < 106 → M2 b = M b := fun b hb => by rw [hf2 b (by omega), hF1 b hb]
      have hpn := hpw P.2.2.1 hb2
      have hbb := aMbest_b hbest
      refine y_il2 c_169_72 ?_
      refine y_il1 c_169_73 ?_
      refine y_al0 c_169_74 ?_
      refine y_gi (j := 6) (z := (P.2.2.1 : Int)) c_169_75 rfl rfl hM2.2.1 (fun r_75 => ?_)
      refine k_120 c_169_78 rfl (Nat.le_of_ble_eq_true rfl) ?_
      refine s_120 (by omega) ?_
      refine y_ic_ge c_169_81 (by omega) (by omega) (fun h_81 => ?_) (fun h_81 => ?_)
      · have hr : r = w ^ P.2.2.1 := by omega
        subst hr
        obtain ⟨m, f, e1, e2, e3⟩ := aMbest_end hbest hw (by omega)
        refine y_vret c_169_238 rfl ?_
        exact hQ M2 c m f hcc e3 e1 e2 hC2 hF2
      · refine y_ic c_169_84 ?_
        refine y_is3 c_169_85 rfl ?_
        refine y_ic c_169_86 ?_
        refine y_is4 c_169_87 rfl ?_
        refine y_ic c_169_89 ?_
        refine y_is5 c_169_90 rfl ?_
        refine y_ic c_169_92 ?_
        refine y_is6 c_169_93 rfl ?_
        refine y_ic c_169_95 ?_
        refine y_is7 c_169_96 rfl ?_
        have key3 : ∀ d2 s : Nat, P.2.2.1 < s + d2 → s ≤ P.2.2.1 → ∀ (u : Nat) (z6 : Int) (w8 : Value), aBm (fun j => ∃ t, t < s ∧ aDg w P.2.2.1 r t = j) 5 u → ((z6 = 1 ∧ aMok (aDg w P.2.2.1 r) s) ∨ (z6 = 0 ∧ ¬ aMok (aDg w P.2.2.1 r) s)) → yG x M2 169 98 [.ref 106, .int (iI (w : Int)), .int (iI (r : Int)), .int (iI (u : Int)), .int (iI (aMcnt c (aDg w P.2.2.1 r) s : Nat)), .int (iI (aMfig (aDg w P.2.2.1 r) s : Nat)), .int (iI z6), .int (iI (s : Int)), w8] [] Q := by
          intro d2
          induction d2 with
          | zero => intro s g1 g2; omega
          | succ d2 ih2 =>
            intro s g1 g2 u z6 w8 hu hz6
            have hu5 : u < 32 := hu.1
            refine y_il7 c_169_98 ?_
            refine y_al0 c_169_100 ?_
            refine y_gi (j := 6) (z := (P.2.2.1 : Int)) c_169_101 rfl rfl hM2.2.1 (fun r_101 => ?_)
            refine y_ic_ge c_169_104 (by omega) (by omega) (fun h_104 => ?_) (fun h_104 => ?_)
            · have hs : s = P.2.2.1 := by omega
              subst hs
              have hcl := aMcnt_le c (aDg w P.2.2.1 r) P.2.2.1
              have hfl := @aMfig_lt (aDg w P.2.2.1 r) (fun s => by have := @aDg_lt w P.2.2.1 r s (by omega); omega) P.2.2.1
              have hfl4 : 10 ^ P.2.2.1 ≤ 10 ^ 4 := Nat.pow_le_pow_right (by omega) hb2
              rcases hz6 with ⟨rfl, hz6⟩ | ⟨rfl, hz6⟩
              · refine y_il6 c_169_206 ?_
                refine y_iz_eq c_169_208 (by omega) (fun h_208 => absurd h_208 (by decide)) (fun h_208 => ?_)
                refine y_il4 c_169_211 ?_
                refine y_al0 c_169_213 ?_
                refine y_gi (j := 35) (z := M2 106 35) c_169_214 rfl rfl rfl (fun r_214 => ?_)
                refine y_ic_le c_169_217 (by omega) (by omega) (fun h_217 => ?_) (fun h_217 => ?_)
                · refine y_inc2 c_169_232 rfl ?_
                  refine y_goto c_169_235 ?_
                  exact ih (r + 1) (by omega) (by omega) M2 _ _ _ _ _ _ hf2 hj2 (aMbest_le hbest (by omega))
                · refine y_al0 c_169_220 ?_
                  refine y_il4 c_169_221 ?_
                  refine y_pi (j := 35) c_169_223 rfl rfl rfl (by omega) ?_
                  refine y_al0 c_169_226 ?_
                  refine y_il5 c_169_227 ?_
                  refine y_pi (j := 36) c_169_229 rfl rfl rfl (by omega) ?_
                  refine y_inc2 c_169_232 rfl ?_
                  refine y_goto c_169_235 ?_
                  refine ih (r + 1) (by omega) (by omega) _ _ _ _ _ _ _ (fun b hb => by rw [wup_f _ _ _ hb, wup_f _ _ _ hb]; exact hf2 b hb) (fun j h1 h2 => by rw [wup_k _ _ h2, wup_k _ _ h1]; exact hj2 j h1 h2) ?_
                  rw [wup_s, wup_k _ _ (by decide), wup_s]
                  exact aMbest_gt hbest (by omega) hz6
              · refine y_il6 c_169_206 ?_
                refine y_iz_eq c_169_208 (by omega) (fun h_208 => ?_) (fun h_208 => absurd h_208 (by decide))
                refine y_inc2 c_169_232 rfl ?_
                refine y_goto c_169_235 ?_
                exact ih (r + 1) (by omega) (by omega) M2 _ _ _ _ _ _ hf2 hj2 (aMbest_no hbest hz6)
            · have hsl : s < P.2.2.1 := by omega
              have hpe : 0 < w ^ (P.2.2.1 - 1 - s) := Nat.pow_pos (by omega)
              have hpf := hpw (P.2.2.1 - 1 - s) (by omega)
              refine y_il2 c_169_107 ?_
              refine y_il1 c_169_108 ?_
              refine y_al0 c_169_109 ?_
              refine y_gi (j := 6) (z := (P.2.2.1 : Int)) c_169_110 rfl rfl hM2.2.1 (fun r_110 => ?_)
              refine y_ic c_169_113 ?_
              refine y_sub c_169_114 ?_
              refine y_il7 c_169_115 ?_
              refine y_sub c_169_117 ?_
              rw [show ((P.2.2.1 : Int) - 1 - (s : Int)) = ((P.2.2.1 - 1 - s : Nat) : Int) by omega]
              refine k_120 c_169_118 rfl (Nat.le_of_ble_eq_true rfl) ?_
              refine s_120 (by omega) ?_
              refine y_div c_169_121 (by omega) (by omega) (by omega) (by omega) ?_
              rw [show ((r : Int) / ((w ^ (P.2.2.1 - 1 - s) : Nat) : Int)) = ((r / w ^ (P.2.2.1 - 1 - s) : Nat) : Int) by omega]
              have hqr := Nat.div_le_self r (w ^ (P.2.2.1 - 1 - s))
              obtain ⟨qt, hqt⟩ : ∃ qt, qt = r / w ^ (P.2.2.1 - 1 - s) := ⟨_, rfl⟩
              rw [← hqt] at hqr ⊢
              refine y_il1 c_169_122 ?_
              refine y_rem c_169_123 (by omega) (by omega) (by omega) (by omega) ?_
              rw [show ((qt : Int) % (w : Int)) = ((aDg w P.2.2.1 r s : Nat) : Int) by unfold aDg; rw [← hqt]; omega]
              have hdl := @aDg_lt w P.2.2.1 r s (by omega)
              obtain ⟨gd, hgd⟩ : ∃ gd, gd = aDg w P.2.2.1 r s := ⟨_, rfl⟩
              rw [← hgd] at hdl ⊢
              refine y_is8 c_169_124 rfl ?_
              have cont : ∀ z6' : Int, ((z6' = 1 ∧ aMok (aDg w P.2.2.1 r) (s + 1)) ∨ (z6' = 0 ∧ ¬ aMok (aDg w P.2.2.1 r) (s + 1))) → yG x M2 169 150 [.ref 106, .int (iI (w : Int)), .int (iI (r : Int)), .int (iI (u : Int)), .int (iI (aMcnt c (aDg w P.2.2.1 r) s : Nat)), .int (iI (aMfig (aDg w P.2.2.1 r) s : Nat)), .int (iI z6), .int (iI (s : Int)), .int (iI (gd : Int))] [.int (iI z6')] Q := by
                intro z6' hz6'
                have hcn : aMcnt c (aDg w P.2.2.1 r) (s + 1) = aMcnt c (aDg w P.2.2.1 r) s + if gd ≠ 0 ∧ c s (gd - 1) = true then 1 else 0 := by rw [hgd]; rfl
                have hfn : aMfig (aDg w P.2.2.1 r) (s + 1) = 10 * aMfig (aDg w P.2.2.1 r) s + gd := by rw [hgd]; rfl
                have hp2 := Nat.pow_le_pow_right (show 0 < 2 by omega) (show gd ≤ 5 by omega)
                refine y_is6 c_169_150 rfl ?_
                refine y_il3 c_169_152 ?_
                refine y_ic c_169_153 ?_
                refine y_il8 c_169_154 ?_
                refine y_shl (x1 := 1) (x2 := gd) c_169_156 (by omega) (by omega) ?_
                rw [Nat.one_mul]
                refine y_ior (x1 := u) (x2 := 2 ^ gd) c_169_157 ?_
                refine y_is3 c_169_158 rfl ?_
                refine y_il4 c_169_159 ?_
                refine y_il8 c_169_161 ?_
                refine y_iz_ne c_169_163 (by omega) (fun hg0 => ?_) (fun hg0 => ?_)
                · have hsg := Nat.mul_le_mul_right P.2.1 (show s + 1 ≤ P.2.2.1 by omega)
                  have hse : (s + 1) * P.2.1 = s * P.2.1 + P.2.1 := Nat.succ_mul s P.2.1
                  have hrd := hval s (gd - 1) (by omega) (by omega)
                  rw [← hf2 126 (by decide)] at hrd
                  refine y_al0 c_169_170 ?_
                  refine y_gr 126 c_169_171 rfl (by omega) ?_
                  refine y_il7 c_169_174 ?_
                  refine y_al0 c_169_176 ?_
                  refine y_gi (j := 4) (z := (P.2.1 : Int)) c_169_177 rfl rfl hM2.1 (fun r_177 => ?_)
                  refine y_mul c_169_180 ?_
                  refine y_il8 c_169_181 ?_
                  refine y_add c_169_183 ?_
                  refine y_ic c_169_184 ?_
                  refine y_sub c_169_185 ?_
                  rw [show ((s : Int) * (P.2.1 : Int) + (gd : Int) - 1) = ((s * P.2.1 + (gd - 1) : Nat) : Int) by rw [Int.natCast_add, Int.natCast_mul]; omega]
                  refine y_ald (n := 64) c_169_186 rfl (by omega) (by omega) (by omega) hrd (fun r_186 => ?_)
                  refine y_add c_169_187 ?_
                  rw [show ((aMcnt c (aDg w P.2.2.1 r) s : Nat) : Int) + (if c s (gd - 1) = true then 1 else 0 : Int) = ((aMcnt c (aDg w P.2.2.1 r) (s + 1) : Nat) : Int) by rw [hcn]; by_cases hcb : c s (gd - 1) = true <;> simp [hcb, show ¬ gd = 0 by omega]]
                  refine y_is4 c_169_188 rfl ?_
                  refine y_bi c_169_190 (by decide) ?_
                  refine y_il5 c_169_192 ?_
                  refine y_mul c_169_194 ?_
                  refine y_il8 c_169_195 ?_
                  refine y_add c_169_197 ?_
                  rw [show (10 : Int) * ((aMfig (aDg w P.2.2.1 r) s : Nat) : Int) + (gd : Int) = ((aMfig (aDg w P.2.2.1 r) (s + 1) : Nat) : Int) by rw [hfn]; omega]
                  refine y_is5 c_169_198 rfl ?_
                  refine y_inc7 c_169_200 rfl ?_
                  refine y_goto c_169_203 ?_
                  exact ih2 (s + 1) (by omega) (by omega) _ z6' _ (aBm_dg hu hgd (by omega)) hz6' 
                · rw [if_neg (fun h => h.1 (by omega))] at hcn
                  refine y_ic c_169_166 ?_
                  refine y_goto c_169_167 ?_
                  refine y_add c_169_187 ?_
                  rw [show ((aMcnt c (aDg w P.2.2.1 r) s : Nat) : Int) + 0 = ((aMcnt c (aDg w P.2.2.1 r) (s + 1) : Nat) : Int) by rw [hcn]; omega]
                  refine y_is4 c_169_188 rfl ?_
                  refine y_bi c_169_190 (by decide) ?_
                  refine y_il5 c_169_192 ?_
                  refine y_mul c_169_194 ?_
                  refine y_il8 c_169_195 ?_
                  refine y_add c_169_197 ?_
                  rw [show (10 : Int) * ((aMfig (aDg w P.2.2.1 r) s : Nat) : Int) + (gd : Int) = ((aMfig (aDg w P.2.2.1 r) (s + 1) : Nat) : Int) by rw [hfn]; omega]
                  refine y_is5 c_169_198 rfl ?_
                  refine y_inc7 c_169_200 rfl ?_
                  refine y_goto c_169_203 ?_
                  exact ih2 (s + 1) (by omega) (by omega) _ z6' _ (aBm_dg hu hgd (by omega)) hz6' 
              have hok1 := @aMok_s (aDg w P.2.2.1 r) s
              rw [← hgd] at hok1
              have hbit := hu.2 gd (by omega)
              rcases hz6 with ⟨rfl, hz6⟩ | ⟨rfl, hz6⟩
              · refine y_il6 c_169_126 ?_
                refine y_iz_eq c_169_128 (by omega) (fun h_128 => absurd h_128 (by decide)) (fun h_128 => ?_)
                refine y_il8 c_169_131 ?_
                refine y_iz_eq c_169_133 (by omega) (fun hg0 => ?_) (fun hg0 => ?_)
                · refine y_ic c_169_145 ?_
                  refine y_goto c_169_146 ?_
                  exact cont 1 (Or.inl ⟨rfl, hok1.mpr ⟨hz6, Or.inl (by omega)⟩⟩)
                · refine y_il3 c_169_136 ?_
                  refine y_il8 c_169_137 ?_
                  refine k_118 c_169_139 rfl (Nat.le_of_ble_eq_true rfl) ?_
                  refine s_118 (by omega) (by omega) ?_
                  refine y_pz_ne c_169_142 (fun hhs => ?_) (fun hhs => ?_)
                  · refine y_ic c_169_149 ?_
                    exact cont 0 (Or.inr ⟨rfl, fun h => (hok1.mp h).2.elim (fun h9 => by omega) (fun h => h (hbit.mp hhs))⟩)
                  · refine y_ic c_169_145 ?_
                    refine y_goto c_169_146 ?_
                    exact cont 1 (Or.inl ⟨rfl, hok1.mpr ⟨hz6, Or.inr (fun h => hhs (hbit.mpr h))⟩⟩)
              · refine y_il6 c_169_126 ?_
                refine y_iz_eq c_169_128 (by omega) (fun h_128 => ?_) (fun h_128 => absurd h_128 (by decide))
                refine y_ic c_169_149 ?_
                exact cont 0 (Or.inr ⟨rfl, fun h => hz6 (hok1.mp h).1⟩)
        exact key3 (P.2.2.1 + 1) 0 (by omega) (Nat.zero_le _) 0 1 _ ⟨by decide, fun k hk => ⟨fun h => by simp at h, fun ⟨t, h, _⟩ => absurd h (Nat.not_lt_zero _)⟩⟩ (Or.inl ⟨rfl, fun s t _ h => absurd h (Nat.not_lt_zero _)⟩)
  have key1 : ∀ d k : Nat, P.2.2.1 * P.2.1 < k + d → k ≤ P.2.2.1 * P.2.1 → ∀ (M1 : wM), MI x M1 T P R L Tm sd K → (∀ b, b < 106 → M1 b = M b) → (∀ i : Nat, i < k → (M1 126 i = 1 ∧ aCanD P (i / P.2.1) (i % P.2.1)) ∨ (M1 126 i = 0 ∧ ¬ aCanD P (i / P.2.1) (i % P.2.1))) → yG x M1 169 2 [.ref 106, .int (iI (k : Int)), zU, zU, zU, zU, zU, zU, zU] [] Q := by
    intro d
    induction d with
    | zero => intro k g1 g2; omega
    | succ d ih =>
      intro k g1 g2 M1 hC1 hF1 hv
      have hM1 := hC1.2.2.1
      refine y_il1 c_169_2 ?_
      refine y_al0 c_169_3 ?_
      refine y_gi (j := 6) (z := (P.2.2.1 : Int)) c_169_4 rfl rfl hM1.2.1 (fun r_4 => ?_)
      refine y_al0 c_169_7 ?_
      refine y_gi (j := 4) (z := (P.2.1 : Int)) c_169_8 rfl rfl hM1.1 (fun r_8 => ?_)
      refine y_mul c_169_11 ?_
      rw [show ((P.2.2.1 : Int) * (P.2.1 : Int)) = ((P.2.2.1 * P.2.1 : Nat) : Int) by rw [Int.natCast_mul]]
      refine y_ic_ge c_169_12 (by omega) (by omega) (fun h_12 => ?_) (fun h_12 => ?_)
      · have hk : k = P.2.2.1 * P.2.1 := by omega
        subst hk
        refine y_al0 c_169_51 ?_
        refine y_bi c_169_52 (by decide) ?_
        refine y_pi (j := 35) c_169_54 rfl rfl rfl (by decide) ?_
        refine y_al0 c_169_57 ?_
        refine y_bi c_169_58 (by decide) ?_
        refine y_pi (j := 36) c_169_60 rfl rfl rfl (by decide) ?_
        have hjv : ∀ j : Int, j ≠ 35 → j ≠ 36 → (wup (wup M1 106 35 (-9)) 106 36 (-9)) 106 j = M1 106 j := fun j h1 h2 => by rw [wup_k _ _ h2, wup_k _ _ h1]
        have hbv : ∀ b, b ≠ 106 → (wup (wup M1 106 35 (-9)) 106 36 (-9)) b = M1 b := fun b hb => by rw [wup_f _ _ _ hb, wup_f _ _ _ hb]
        have h35 : (wup (wup M1 106 35 (-9)) 106 36 (-9)) 106 35 = -9 := by rw [wup_k _ _ (by decide), wup_s]
        generalize (wup (wup M1 106 35 (-9)) 106 36 (-9)) = M3 at hjv hbv h35 ⊢
        refine y_al0 c_169_63 ?_
        refine y_gi (j := 4) (z := (P.2.1 : Int)) c_169_64 rfl rfl (by rw [hjv 4 (by decide) (by decide)]; exact hM1.1) (fun r_64 => ?_)
        refine y_ic c_169_67 ?_
        refine y_add c_169_68 ?_
        rw [show ((P.2.1 : Int) + 1) = ((P.2.1 + 1 : Nat) : Int) by omega]
        refine y_is1 c_169_69 rfl ?_
        refine y_ic c_169_70 ?_
        refine y_is2 c_169_71 rfl ?_
        refine key2 M1 (fun s g => decide (M1 126 ((s * P.2.1 + g : Nat) : Int) = 1)) hC1 hF1 (fun s g hs hg => ?_) (fun s g hs hg => ?_) _ rfl ((P.2.1 + 1) ^ P.2.2.1 + 1) 0 (by omega) (Nat.zero_le _) M3 _ _ _ _ _ _ hbv hjv (Or.inl ⟨h35, fun r' hr => absurd hr (Nat.not_lt_zero _)⟩)
        · have hsg := Nat.mul_le_mul_right P.2.1 (show s + 1 ≤ P.2.2.1 by omega)
          have hse : (s + 1) * P.2.1 = s * P.2.1 + P.2.1 := Nat.succ_mul s P.2.1
          show M1 126 _ = if decide (M1 126 ((s * P.2.1 + g : Nat) : Int) = 1) = true then 1 else 0
          rcases hv (s * P.2.1 + g) (by omega) with ⟨h1, -⟩ | ⟨h1, -⟩
          · rw [h1]; rfl
          · rw [h1]; rfl
        · have hsg := Nat.mul_le_mul_right P.2.1 (show s + 1 ≤ P.2.2.1 by omega)
          have hse : (s + 1) * P.2.1 = s * P.2.1 + P.2.1 := Nat.succ_mul s P.2.1
          have hdv : (s * P.2.1 + g) / P.2.1 = s := by rw [Nat.mul_comm, Nat.mul_add_div (by omega), Nat.div_eq_of_lt hg, Nat.add_zero]
          have hmv : (s * P.2.1 + g) % P.2.1 = g := by rw [Nat.mul_comm, Nat.mul_add_mod, Nat.mod_eq_of_lt hg]
          have h2 := hv (s * P.2.1 + g) (by omega)
          rw [hdv, hmv] at h2
          rw [decide_eq_true_iff]
          rcases h2 with ⟨h1, h3⟩ | ⟨h1, h3⟩
          · exact ⟨fun _ => h3, fun _ => h1⟩
          · exact ⟨fun h => by omega, fun h => absurd h h3⟩
      · have hgl0 : 0 < P.2.1 := by
          rcases Nat.eq_zero_or_pos P.2.1 with h | h
          · rw [h, Nat.mul_zero] at h_12; omega
          · exact h
        have hkd : k / P.2.1 < P.2.2.1 := Nat.div_lt_of_lt_mul (by rw [Nat.mul_comm]; omega)
        have hkm := Nat.mod_lt k hgl0
        refine y_al0 c_169_15 ?_
        refine y_gr 126 c_169_16 rfl (by omega) ?_
        refine y_il1 c_169_19 ?_
        refine y_al0 c_169_20 ?_
        refine y_il1 c_169_21 ?_
        refine y_al0 c_169_22 ?_
        refine y_gi (j := 4) (z := (P.2.1 : Int)) c_169_23 rfl rfl hM1.1 (fun r_23 => ?_)
        refine y_div c_169_26 (by omega) (by omega) (by omega) (by omega) ?_
        rw [show ((k : Int) / (P.2.1 : Int)) = ((k / P.2.1 : Nat) : Int) by omega]
        refine y_il1 c_169_27 ?_
        refine y_al0 c_169_28 ?_
        refine y_gi (j := 4) (z := (P.2.1 : Int)) c_169_29 rfl rfl hM1.1 (fun r_29 => ?_)
        refine y_rem c_169_32 (by omega) (by omega) (by omega) (by omega) ?_
        rw [show ((k : Int) % (P.2.1 : Int)) = ((k % P.2.1 : Nat) : Int) by omega]
        refine k_166 c_169_33 rfl rfl (Nat.le_of_ble_eq_true rfl) ?_
        have nx : ∀ (M2 : wM) (b : Int), mfr4 M1 M2 → ((b = 1 ∧ aCanD P (k / P.2.1) (k % P.2.1)) ∨ (b = 0 ∧ ¬ aCanD P (k / P.2.1) (k % P.2.1))) → yG x M2 169 44 [.ref 106, .int (iI (k : Int)), zU, zU, zU, zU, zU, zU, zU] [.int (iI b), .int (iI (k : Int)), .ref 126] Q := by
          intro M2 b hf2 hb
          have hC2 := MI_fr4 hC1 hf2
          refine y_ast (n := 64) c_169_44 rfl (by omega) (by omega) (by omega) (by omega) ?_
          refine y_inc1 c_169_45 rfl ?_
          refine y_goto c_169_48 ?_
          refine ih (k + 1) (by omega) (by omega) _ (MI_of hC2 ⟨fun j hj => by rw [wup_f _ _ _ (by decide)], fun b' hb' => wup_f _ _ _ (by omega)⟩) (fun b' hb' => by rw [wup_f _ _ _ (by omega), hf2.1 b' (by omega) (by omega) (by omega) (by omega), hF1 b' hb']) (fun i hi => ?_)
          by_cases e : i = k
          · subst e; rw [wup_s]; exact hb
          · rw [wup_k _ _ (by omega), hf2.1 126 (by omega) (by omega) (by omega) (by omega)]; exact hv i (by omega)
        refine s_166 hC1 hA hkd hkm (fun M2 hno hf2 _ _ => ?_) (fun M2 hyes hf2 _ _ => ?_)
        · refine y_iz_eq c_169_36 (by decide) (fun _ => ?_) (fun h => absurd rfl h)
          refine y_ic c_169_43 ?_
          exact nx M2 0 hf2 (Or.inr ⟨rfl, hno⟩)
        · refine y_iz_eq c_169_36 (by decide) (fun h => absurd h (by decide)) (fun _ => ?_)
          refine y_ic c_169_39 ?_
          refine y_goto c_169_40 ?_
          exact nx M2 1 hf2 (Or.inl ⟨rfl, hyes⟩)
  refine y_ic c_169_0 ?_
  refine y_is1 c_169_1 rfl ?_
  exact key1 (P.2.2.1 * P.2.1 + 1) 0 (by omega) (Nat.zero_le _) M hC (fun b hb => rfl) (fun i hi => absurd hi (Nat.not_lt_zero _))
theorem s_170 {z : Int} (hC : MI x M T P R L Tm sd K) (hA : AOK T P R L Tm K) (hz : z = 0 ∨ z = 1) (hQ : ∀ r M', aMatV P z r → MI x M' T P R L Tm sd K → (∀ b, b < 106 → M' b = M b) → Q (some (.int (iI r))) x M') : yG x M 170 0 [.ref 106, .int (iI z)] [] Q := by
  obtain ⟨⟨ht56, ht256⟩, hok, hRk, ⟨hl14, hLk⟩, hTk, hKk⟩ := id hA
  obtain ⟨z1, z2, z3, z4, z5⟩ := aRok_len hok hRk
  have z6 : ∀ y ∈ R.2.2.2, y < 6 := fun y hy => by have := z3 y hy; have := hok.2.2.1; omega
  have hb1 := hok.1
  have hb2 := hok.2.1
  have hb3 := hok.2.2.1
  refine y_al0 c_170_0 ?_
  refine y_ic c_170_1 ?_
  refine y_pi (j := 0) c_170_2 rfl rfl rfl (by decide) ?_
  have hC0 := MI_thr hC
  have hF0 : ∀ b, b < 106 → (wup M 106 0 0) b = M b := fun b hb => wup_f _ _ _ (by omega)
  generalize (wup M 106 0 0) = M0 at hC0 hF0 ⊢
  obtain ⟨hsd, hT, hM, hR, hL, hTm, hK⟩ := id hC0
  obtain ⟨m4, m6, m8, v1, v2, v3⟩ := id hM
  obtain ⟨a0, a1, a2, a3, a4⟩ := id hR
  refine y_al0 c_170_5 ?_
  refine k_169 c_170_6 rfl rfl (Nat.le_of_ble_eq_true rfl) ?_
  refine s_169 hC0 hA (fun M1 c m f hcc hm h35 h36 hC1 hf1 => ?_)
  refine y_il1 c_170_9 ?_
  refine y_iz_eq c_170_10 (by omega) (fun h_10 => ?_) (fun h_10 => ?_)
  · subst h_10
    refine y_al0 c_170_20 ?_
    refine y_gi (j := 35) c_170_21 rfl rfl h35 (fun r_21 => ?_)
    refine y_ret c_170_24 rfl ?_
    first
      | exact hQ _ _ ⟨c, m, f, hcc, hm, by rw [if_pos rfl]⟩ hC1 (fun b hb => by rw [hf1 b hb, hF0 b hb])
      | exact hQ _ _ ⟨c, m, f, hcc, hm, by rw [if_neg (by decide)]⟩ hC1 (fun b hb => by rw [hf1 b hb, hF0 b hb])
  · obtain rfl : z = 1 := by omega
    refine y_al0 c_170_13 ?_
    refine y_gi (j := 36) c_170_14 rfl rfl h36 (fun r_14 => ?_)
    refine y_goto c_170_17 ?_
    refine y_ret c_170_24 rfl ?_
    first
      | exact hQ _ _ ⟨c, m, f, hcc, hm, by rw [if_pos rfl]⟩ hC1 (fun b hb => by rw [hf1 b hb, hF0 b hb])
      | exact hQ _ _ ⟨c, m, f, hcc, hm, by rw [if_neg (by decide)]⟩ hC1 (fun b hb => by rw [hf1 b hb, hF0 b hb])
end S35
