/-! ===== the search ===== -/
def aRq (P : aP) (R : aR) (q : List Nat) : aR := (R.1, R.2.1, R.2.2.1 - aS P R q, R.2.2.2 ++ q)
theorem aRq_nil (P : aP) (R : aR) : aRq P R [] = R := by
  unfold aRq
  rw [List.append_nil]
  rfl
theorem aRq_take (P : aP) (R : aR) (q : List Nat) (y : Nat) : aTake P (aRq P R q) y = aCost P y R.2.1.toNat R.1.toNat (R.2.2.2.length + q.length) := by
  unfold aTake aRq
  rw [List.length_append]
theorem aRq_say (P : aP) (R : aR) (q : List Nat) (y : Nat) : aSay P (aRq P R q) y = aRq P R (q ++ [y]) := by
  unfold aSay
  rw [aRq_take]
  unfold aRq
  simp only [List.append_assoc]
  rw [show aS P R (q ++ [y]) = aS P R q + aCost P y R.2.1.toNat R.1.toNat (R.2.2.2.length + q.length) from aSp_app _ _ _ _ _ _, Nat.sub_add_eq]
theorem aRq_ok {P : aP} {R : aR} {m : Nat} {q : List Nat} (hRk : aRok P R) (h : aCnd P R m q) : aRok P (aRq P R q) := by
  rcases hRk with rfl | ⟨h1, h2, h3, h4⟩
  · exact absurd rfl h.1
  · refine Or.inr ⟨h1, by show R.2.2.1 - _ ≤ 135; omega, h.2.1, fun y hy => ?_⟩
    rcases List.mem_append.mp hy with hy | hy
    · exact h4 y hy
    · exact (h.2.2.1 y hy).1
theorem aRq_can {P : aP} {R : aR} {m y : Nat} {q : List Nat} (h : aCnd P R m q) (hy : y < P.2.2.2) (hm : m / 2 ^ y % 2 = 1) : aCan P (aRq P R q) y ↔ aCnd P R m (q ++ [y]) := by
  unfold aCan
  rw [aRq_take]
  have hs : aS P R q ≤ R.2.2.1 := h.2.2.2
  constructor
  · rintro ⟨h1, h2, h3⟩
    exact aCnd_ext h hy hm h2 (by have h3' : _ ≤ R.2.2.1 - aS P R q := h3; omega)
  · intro h2
    obtain ⟨h3, h4, h5, h6⟩ := aCnd_last h2
    exact ⟨h.1, h5, by show _ ≤ R.2.2.1 - aS P R q; omega⟩
theorem aCnd_take {P : aP} {R : aR} {m : Nat} {q1 : List Nat} : ∀ (n : Nat) (r : List Nat), r.length = n → aCnd P R m (q1 ++ r) → aCnd P R m q1
  | 0, r, hn, h => by
    have : r = [] := List.length_eq_zero_iff.mp hn
    subst this; rw [List.append_nil] at h; exact h
  | n + 1, r, hn, h => by
    obtain ⟨r1, y, rfl⟩ := snoc_of (q := r) (fun e => by subst e; simp at hn)
    rw [← List.append_assoc] at h
    exact aCnd_take n r1 (by simpa using hn) (aCnd_pre h)
def mfr4 (M M' : wM) : Prop := (∀ b, b ≠ 106 → b ≠ 115 → b ≠ 123 → b ≠ 124 → M' b = M b) ∧ ∀ j : Int, (j < 30 ∨ 34 < j) → M' 106 j = M 106 j
section S33
variable {x : wC} {M : wM} {Q : Option Value → wC → wM → Prop} {T : List Nat} {P : aP} {R : aR} {L : aA} {Tm : aT} {sd : Int64} {K : Nat → Option aR}
theorem s_162 {m : Nat} (hm : m < 64) (hM : mport M P) (hok : aPok P) (hR : wpage M 115 R) (hRk : aRok P R) (hrun : R.1 ≠ -9)
    (hQ : ∀ M' F, mfnd M' F → aFw P R m (fun _ => True) F → aFs P R m (fun _ => True) F → mfr4 M M' → Q none x M') : yG x M 162 0 [.ref 106, .int (iI (m : Int)), zU, zU, zU, zU] [] Q := by
  obtain ⟨z1, z2, z3, z4, z5⟩ := aRok_len hok hRk
  have hb3 := hok.2.2.1
  have key : ∀ d : Nat, ∀ (q : List Nat) (c : Nat), smu 7 q c < d → aCnd P R m q → c ≤ P.2.2.2 → ∀ (M1 : wM) (F : aF5) (w5 : Value), wpage M1 115 (aRq P R q) → (∀ i : Nat, i < q.length → M1 123 i = ((q.getD i 0 + 1 : Nat) : Int) ∧ M1 124 i = (aCost P (q.getD i 0) R.2.1.toNat R.1.toNat (R.2.2.2.length + i) : Nat)) → M1 123 (q.length : Int) = c → mfnd M1 F → aFw P R m (seen q c) F → aFs P R m (seen q c) F → mfr4 M M1 → yG x M1 162 54 [.ref 106, .int (iI (m : Int)), .int (iI (q.length : Int)), .int (iI (aFig q : Nat)), .int (iI (R.2.2.1 : Int)), w5] [] Q := by
    intro d
    induction d with
    | zero => intro q c g1; omega
    | succ d ih =>
      intro q c g1 hq hc M1 F w5 hpg hst hcc hF hFw hFs hfr
      obtain ⟨y1, y2, y3, y4, y5, y6, y7⟩ := aCnd_lt hok hRk hq
      have hM1 : mport M1 P := mport_of hM (hfr.2 4 (by omega)) (hfr.2 6 (by omega)) (hfr.2 8 (by omega)) (hfr.1 108 (by omega) (by omega) (by omega) (by omega)) (hfr.1 109 (by omega) (by omega) (by omega) (by omega)) (hfr.1 110 (by omega) (by omega) (by omega) (by omega))
      have hRq := aRq_ok hRk hq
      have hdec : ∀ q', aDec P R m q' → ∀ y ∈ q', y < P.2.2.2 := fun q' h y hy => (h.1.2.2.1 y hy).1
      refine y_il2 c_162_54 ?_
      refine y_iz_lt c_162_55 (by omega) (fun h_55 => absurd h_55 (by omega)) (fun h_55 => ?_)
      refine y_al0 c_162_58 ?_
      refine y_gr 123 c_162_59 rfl (by omega) ?_
      refine y_il2 c_162_62 ?_
      refine y_ald (n := 8) (u := (c : Int)) c_162_63 rfl (by omega) (by omega) (by omega) hcc (fun r_63 => ?_)
      refine y_is5 c_162_64 rfl ?_
      refine y_il5 c_162_66 ?_
      refine y_al0 c_162_68 ?_
      refine y_gi (j := 8) (z := (P.2.2.2 : Int)) c_162_69 rfl rfl hM1.2.2.1 (fun r_69 => ?_)
      refine y_ic_ne c_162_72 (by omega) (by omega) (fun h1 => ?_) (fun h1 => ?_)
      · have hcY : c < P.2.2.2 := by omega
        refine y_al0 c_162_115 ?_
        refine y_gr 123 c_162_116 rfl (by omega) ?_
        refine y_il2 c_162_119 ?_
        refine y_dup2 c_162_120 rfl rfl ?_
        refine y_ald (n := 8) (u := (c : Int)) c_162_121 rfl (by omega) (by omega) (by omega) hcc (fun r_121 => ?_)
        refine y_ic c_162_122 ?_
        refine y_add c_162_123 ?_
        refine y_ast (n := 8) c_162_124 rfl (by omega) (by omega) (by omega) (by omega) ?_
        obtain ⟨M2, hM2e⟩ : ∃ M2 : wM, M2 = wup M1 123 (q.length : Int) ((c : Int) + 1) := ⟨_, rfl⟩
        rw [← hM2e]
        have hf2 : ∀ b, b ≠ 123 → M2 b = M1 b := fun b hb => by rw [hM2e, wup_f _ _ _ hb]
        have hM2 : mport M2 P := mport_pg (a := 123) (by decide) hM1 hf2
        have hpg2 : wpage M2 115 (aRq P R q) := wpage_of hpg (hf2 115 (by omega))
        have hst2 : ∀ i : Nat, i < q.length → M2 123 i = ((q.getD i 0 + 1 : Nat) : Int) ∧ M2 124 i = (aCost P (q.getD i 0) R.2.1.toNat R.1.toNat (R.2.2.2.length + i) : Nat) := fun i hi => ⟨by rw [hM2e, wup_k _ _ (by omega)]; exact (hst i hi).1, by rw [hf2 124 (by omega)]; exact (hst i hi).2⟩
        have hc2 : M2 123 (q.length : Int) = ((c + 1 : Nat) : Int) := by rw [hM2e, wup_s]; omega
        have hF2 : mfnd M2 F := by unfold mfnd at *; rw [hf2 106 (by omega)]; exact hF
        have hfr2 : mfr4 M M2 := ⟨fun b p1 p2 p3 p4 => by rw [hf2 b p3]; exact hfr.1 b p1 p2 p3 p4, fun j hj => by rw [hf2 106 (by omega)]; exact hfr.2 j hj⟩
        have hskip : ¬ aCnd P R m (q ++ [c]) → True → yG x M2 162 207 [.ref 106, .int (iI (m : Int)), .int (iI (q.length : Int)), .int (iI (aFig q : Nat)), .int (iI (R.2.2.1 : Int)), .int (iI (c : Int))] [] Q := by
          intro hno _
          refine y_goto c_162_207 ?_
          have hv : ∀ q', aDec P R m q' → (seen q c q' ↔ seen q (c + 1) q') := fun q' hd => by
            rw [seen_skip]
            refine ⟨Or.inl, fun h => h.elim id (fun ⟨r, e⟩ => absurd ?_ hno)⟩
            subst e
            exact aCnd_take r.length r rfl (by rw [List.append_assoc]; exact hd.1)
          exact ih q (c + 1) (by have := smu_skip (c := c) (by omega) q 7; omega) hq (by omega) M2 F _ hpg2 hst2 hc2 hF2 (aFw_iff hFw hv) (aFs_iff hFs hv) hfr2
        refine y_il1 c_162_125 ?_
        refine y_il5 c_162_126 ?_
        refine k_118 c_162_128 rfl (Nat.le_of_ble_eq_true rfl) ?_
        refine s_118 (by omega) (by omega) ?_
        refine y_pz_eq c_162_131 (fun h2 => ?_) (fun h2 => ?_)
        · have hno : ¬ aCnd P R m (q ++ [c]) := fun h => h2 (aCnd_last h).2.1
          exact hskip hno trivial
        · have hcan := aRq_can hq hcY h2
          refine y_al0 c_162_134 ?_
          refine y_al0 c_162_135 ?_
          refine y_gr 115 c_162_136 rfl (by omega) ?_
          refine y_il5 c_162_139 ?_
          refine k_151 c_162_141 rfl rfl (Nat.le_of_ble_eq_true rfl) ?_
          refine s_151 rfl (by decide) hM2 hok hpg2 hRq hcY (fun hno => ?_) (fun hyes => ?_)
          · refine y_iz_eq c_162_144 (by decide) (fun _ => ?_) (fun h => absurd rfl h)
            exact hskip (fun h => hno (hcan.mpr h)) trivial
          · refine y_iz_eq c_162_144 (by decide) (fun h => absurd h (by decide)) (fun _ => ?_)
            have hqc := hcan.mp hyes
            have hlt6 : q.length < 6 := by have := (aCnd_lt hok hRk hqc).2.2.2.2.2.2; simp at this; omega
            have htk := aTake_le hok hRq hcY hyes.1
            refine y_al0 c_162_147 ?_
            refine y_gr 124 c_162_148 rfl (by omega) ?_
            refine y_il2 c_162_151 ?_
            refine y_al0 c_162_152 ?_
            refine y_al0 c_162_153 ?_
            refine y_gr 115 c_162_154 rfl (by omega) ?_
            refine y_il5 c_162_157 ?_
            refine k_144 c_162_159 rfl rfl (Nat.le_of_ble_eq_true rfl) ?_
            refine s_144 rfl hM2 hok hpg2 hRq hyes.1 hcY ?_
            rw [aRq_take] at htk ⊢
            refine y_ast (n := 8) c_162_162 rfl (by omega) (by omega) (by omega) (by omega) ?_
            obtain ⟨M3, hM3e⟩ : ∃ M3 : wM, M3 = wup M2 124 (q.length : Int) ((aCost P c R.2.1.toNat R.1.toNat (R.2.2.2.length + q.length) : Nat) : Int) := ⟨_, rfl⟩
            rw [← hM3e]
            have hf3 : ∀ b, b ≠ 124 → M3 b = M2 b := fun b hb => by rw [hM3e, wup_f _ _ _ hb]
            have hM3 : mport M3 P := mport_pg (a := 124) (by decide) hM2 hf3
            have hpg3 : wpage M3 115 (aRq P R q) := wpage_of hpg2 (hf3 115 (by omega))
            refine y_al0 c_162_163 ?_
            refine y_al0 c_162_164 ?_
            refine y_gr 115 c_162_165 rfl (by omega) ?_
            refine y_il5 c_162_168 ?_
            refine k_152 c_162_170 rfl rfl (Nat.le_of_ble_eq_true rfl) ?_
            refine s_152 rfl (by decide) hM3 hok hpg3 hRq hcY hyes (fun M4 hR4 hf4 => ?_)
            rw [aRq_say] at hR4
            refine y_bi c_162_173 (by decide) ?_
            refine y_il3 c_162_175 ?_
            refine y_mul c_162_176 ?_
            refine y_il5 c_162_177 ?_
            refine y_add c_162_179 ?_
            refine y_ic c_162_180 ?_
            refine y_add c_162_181 ?_
            rw [show ((10 : Int) * ((aFig q : Nat) : Int) + (c : Int) + 1) = ((aFig (q ++ [c]) : Nat) : Int) by rw [aFig_app]; omega]
            refine y_is3 c_162_182 rfl ?_
            refine y_inc2 c_162_183 rfl ?_
            refine y_al0 c_162_186 ?_
            refine y_gr 123 c_162_187 rfl (by omega) ?_
            refine y_il2 c_162_190 ?_
            refine y_ic c_162_191 ?_
            refine y_ast (n := 8) c_162_192 rfl (by omega) (by omega) (by omega) (by omega) ?_
            obtain ⟨M5, hM5e⟩ : ∃ M5 : wM, M5 = wup M4 123 ((q.length : Int) + 1) 0 := ⟨_, rfl⟩
            rw [← hM5e]
            have hf5 : ∀ b, b ≠ 123 → M5 b = M4 b := fun b hb => by rw [hM5e, wup_f _ _ _ hb]
            have hR5 : wpage M5 115 (aRq P R (q ++ [c])) := wpage_of hR4 (hf5 115 (by omega))
            have hM5 : mport M5 P := mport_pg (a := 123) (by decide) (mport_pg (a := 115) (by decide) hM3 hf4) hf5
            have hF5 : mfnd M5 F := by unfold mfnd at *; rw [hf5 106 (by omega), hf4 106 (by omega), hf3 106 (by omega)]; exact hF2
            have hle : aS P R (q ++ [c]) ≤ R.2.2.1 := hqc.2.2.2
            refine y_al0 c_162_193 ?_
            refine y_il4 c_162_194 ?_
            refine y_al0 c_162_196 ?_
            refine y_gr 115 c_162_197 rfl (by omega) ?_
            refine y_ic c_162_200 ?_
            refine y_ald (n := 10) (u := ((R.2.2.1 - aS P R (q ++ [c]) : Nat) : Int)) c_162_201 rfl (by omega) (by omega) (by omega) hR5.2.2.1 (fun r_201 => ?_)
            refine y_sub c_162_202 ?_
            rw [show ((R.2.2.1 : Int) - ((R.2.2.1 - aS P R (q ++ [c]) : Nat) : Int)) = ((aS P R (q ++ [c]) : Nat) : Int) by omega]
            refine y_il3 c_162_203 ?_
            refine k_161 c_162_204 rfl rfl (Nat.le_of_ble_eq_true rfl) ?_
            refine s_161 hM5 hok hR5 (aRq_ok hRk hqc) hF5 (by have := (aCnd_lt hok hRk hqc).2.2.2.2.2.1; omega) (by have := (aCnd_lt hok hRk hqc).2.2.2.2.1; omega) (fun M6 hF6 hf6 => ?_)
            refine y_goto c_162_207 ?_
            rw [show ((q.length : Int) + 1) = (((q ++ [c]).length : Nat) : Int) by simp]
            have hl1 : (q ++ [c]).length = q.length + 1 := by simp
            have hmu := smu_push (c := c) (by omega) q 7 (by omega)
            have hvp : ∀ q', (seen q c q' ∨ q' = q ++ [c]) ↔ seen (q ++ [c]) 0 q' := fun q' => (seen_push q q').symm
            refine ih (q ++ [c]) 0 (by omega) hqc (by omega) M6 _ _ (wpage_of hR5 (hf6.1 115 (by omega))) (fun i hi => ?_) ?_ hF6 ?_ ?_ ⟨fun b p1 p2 p3 p4 => by rw [hf6.1 b p1, hf5 b p3, hf4 b p2, hf3 b p4]; exact hfr2.1 b p1 p2 p3 p4, fun j hj => by rw [hf6.2 j hj, hf5 106 (by omega), hf4 106 (by omega), hf3 106 (by omega)]; exact hfr2.2 j hj⟩
            · rw [hf6.1 123 (by omega), hf6.1 124 (by omega), hf5 124 (by omega), hf4 124 (by omega), hM5e, wup_k _ _ (by omega), hf4 123 (by omega), hf3 123 (by omega), getD_app]
              by_cases hiq : i = q.length
              · subst hiq
                rw [if_neg (by omega), if_pos rfl]
                exact ⟨hc2, by rw [hM3e, wup_s]⟩
              · rw [if_pos (by omega)]
                exact ⟨(hst2 i (by omega)).1, by rw [hM3e, wup_k _ _ (by omega)]; exact (hst2 i (by omega)).2⟩
            · rw [hf6.1 123 (by omega), hM5e, hl1, show ((q.length + 1 : Nat) : Int) = (q.length : Int) + 1 by omega, wup_s]; rfl
            · by_cases h3 : aStage P (aRq P R (q ++ [c])).2.2.2 = 3
              · rw [if_pos h3]; exact aFw_iff (aFw_look hFw ⟨hqc, h3⟩) (fun q' _ => hvp q')
              · rw [if_neg h3]; exact aFw_iff hFw (fun q' hd => (aF_no (fun h => h3 h.2) q' hd).trans (hvp q'))
            · by_cases h3 : aStage P (aRq P R (q ++ [c])).2.2.2 = 3
              · rw [if_pos h3]; exact aFs_iff (aFs_look hFs ⟨hqc, h3⟩) (fun q' _ => hvp q')
              · rw [if_neg h3]; exact aFs_iff hFs (fun q' hd => (aF_no (fun h => h3 h.2) q' hd).trans (hvp q'))
      · obtain rfl : c = P.2.2.2 := by omega
        rcases List.eq_nil_or_concat q with rfl | ⟨q1, xl, hqe⟩
        · refine y_inc2 c_162_75 rfl ?_
          refine y_il2 c_162_78 ?_
          refine y_iz_lt c_162_79 (by decide) (fun _ => ?_) (fun h => absurd h (by decide))
          refine y_goto c_162_207 ?_
          refine y_il2 c_162_54 ?_
          refine y_iz_lt c_162_55 (by decide) (fun _ => ?_) (fun h => absurd h (by decide))
          refine y_vret c_162_210 rfl ?_
          exact hQ M1 F hF (aFw_iff hFw (fun q' h => ⟨fun _ => trivial, fun _ => seen_all (hdec q' h)⟩)) (aFs_iff hFs (fun q' h => ⟨fun _ => trivial, fun _ => seen_all (hdec q' h)⟩)) hfr
        rw [List.concat_eq_append] at hqe
        subst hqe
        have hl1 : (q1 ++ [xl]).length = q1.length + 1 := by simp
        have hq1 := aCnd_pre hq
        have hxl := y1 xl (List.mem_append_right _ List.mem_cons_self)
        have hxY := (hq.2.2.1 xl (List.mem_append_right _ List.mem_cons_self)).1
        have hgl : (q1 ++ [xl]).getD q1.length 0 = xl := by rw [getD_app, if_neg (by omega), if_pos rfl]
        have hgi : ∀ i, i < q1.length → (q1 ++ [xl]).getD i 0 = q1.getD i 0 := fun i hi => by rw [getD_app, if_pos hi]
        obtain ⟨s1, s2⟩ := hst q1.length (by omega)
        rw [hgl] at s1 s2
        obtain ⟨b0, b1, b2, b3, b4⟩ := hpg
        have hsum : aS P R (q1 ++ [xl]) = aS P R q1 + aCost P xl R.2.1.toNat R.1.toNat (R.2.2.2.length + q1.length) := aSp_app _ _ _ _ _ _
        have hle : aS P R (q1 ++ [xl]) ≤ R.2.2.1 := hq.2.2.2
        refine y_inc2 c_162_75 rfl ?_
        rw [show (((q1 ++ [xl]).length : Int) + -1) = (q1.length : Int) by omega]
        refine y_il2 c_162_78 ?_
        refine y_iz_lt c_162_79 (by omega) (fun h_79 => absurd h_79 (by omega)) (fun h_79 => ?_)
        refine y_al0 c_162_82 ?_
        refine y_gr 115 c_162_83 rfl (by omega) ?_
        refine y_ic c_162_86 ?_
        refine y_dup2 c_162_87 rfl rfl ?_
        refine y_ald (n := 10) (u := ((R.2.2.2.length + q1.length + 1 : Nat) : Int)) c_162_88 rfl (by omega) (by omega) (by omega) (by rw [b3]; simp [aRq]; omega) (fun r_88 => ?_)
        refine y_ic c_162_89 ?_
        refine y_sub c_162_90 ?_
        refine y_ast (n := 10) c_162_91 rfl (by omega) (by omega) (by omega) (by omega) ?_
        refine y_al0 c_162_92 ?_
        refine y_gr 115 c_162_93 rfl (by omega) ?_
        refine y_ic c_162_96 ?_
        refine y_dup2 c_162_97 rfl rfl ?_
        refine y_ald (n := 10) (u := ((R.2.2.1 - aS P R (q1 ++ [xl]) : Nat) : Int)) c_162_98 rfl (by omega) (by omega) (by omega) (by rw [wup_k _ _ (by decide)]; exact b2) (fun r_98 => ?_)
        refine y_al0 c_162_99 ?_
        refine y_gr 124 c_162_100 rfl (by omega) ?_
        refine y_il2 c_162_103 ?_
        refine y_ald (n := 8) (u := (aCost P xl R.2.1.toNat R.1.toNat (R.2.2.2.length + q1.length) : Int)) c_162_104 rfl (by omega) (by omega) (by omega) (by rw [wup_a _ _ _ _ (by decide)]; exact s2) (fun r_104 => ?_)
        refine y_add c_162_105 ?_
        refine y_ast (n := 10) c_162_106 rfl (by omega) (by omega) (by omega) (by omega) ?_
        refine y_il3 c_162_107 ?_
        refine y_bi c_162_108 (by decide) ?_
        refine y_div c_162_110 (by omega) (by omega) (by omega) (by omega) ?_
        rw [show (((aFig (q1 ++ [xl]) : Nat) : Int) / 10) = ((aFig q1 : Nat) : Int) by rw [aFig_app]; omega]
        refine y_is3 c_162_111 rfl ?_
        refine y_goto c_162_112 ?_
        refine y_goto c_162_207 ?_
        have hv : ∀ q', aDec P R m q' → (seen (q1 ++ [xl]) P.2.2.2 q' ↔ seen q1 (xl + 1) q') := fun q' hd => seen_pop q1 q' (hdec q' hd)
        refine ih q1 (xl + 1) (by have := smu_pop (Y := P.2.2.2) (x := xl) (by omega) q1 7; omega) hq1 (by omega) _ F _ ⟨by rw [wup_k _ _ (by decide), wup_k _ _ (by decide)]; exact b0, by rw [wup_k _ _ (by decide), wup_k _ _ (by decide)]; exact b1, ?_, ?_, fun i hi => ?_⟩ (fun i hi => ?_) ?_ ?_ (aFw_iff hFw hv) (aFs_iff hFs hv) ⟨fun b p1 p2 p3 p4 => by rw [wup_f _ _ _ p2, wup_f _ _ _ p2]; exact hfr.1 b p1 p2 p3 p4, fun j hj => by rw [wup_a _ _ _ _ (by decide), wup_a _ _ _ _ (by decide)]; exact hfr.2 j hj⟩
        · rw [wup_s]; show _ = ((R.2.2.1 - aS P R q1 : Nat) : Int); omega
        · rw [wup_k _ _ (by decide), wup_s]; show _ = (((R.2.2.2 ++ q1).length : Nat) : Int); rw [List.length_append]; omega
        · have hi' : i < (R.2.2.2 ++ q1).length := hi
          have hb := b4 i (by show i < (R.2.2.2 ++ (q1 ++ [xl])).length; rw [← List.append_assoc, List.length_append]; omega)
          rw [wup_k _ _ (by omega), wup_k _ _ (by omega), hb]
          show (((R.2.2.2 ++ (q1 ++ [xl])).getD i 0 : Nat) : Int) = ((R.2.2.2 ++ q1).getD i 0 : Nat)
          rw [← List.append_assoc, getD_app, if_pos hi']
        · rw [wup_a _ _ _ _ (by decide), wup_a _ _ _ _ (by decide), wup_a _ _ _ _ (by decide), wup_a _ _ _ _ (by decide), ← hgi i hi]
          exact hst i (by omega)
        · rw [wup_a _ _ _ _ (by decide), wup_a _ _ _ _ (by decide)]; exact s1
        · unfold mfnd at *
          rw [wup_f _ _ _ (by decide), wup_f _ _ _ (by decide)]; exact hF
  refine y_al0 c_162_0 ?_
  refine y_bi c_162_1 (by decide) ?_
  refine y_pi (j := 30) c_162_3 rfl rfl rfl (by decide) ?_
  refine y_al0 c_162_6 ?_
  refine y_ic c_162_7 ?_
  refine y_pi (j := 31) c_162_8 rfl rfl rfl (by decide) ?_
  refine y_al0 c_162_11 ?_
  refine y_bi c_162_12 (by decide) ?_
  refine y_pi (j := 32) c_162_14 rfl rfl rfl (by decide) ?_
  refine y_al0 c_162_17 ?_
  refine y_bi c_162_18 (by decide) ?_
  refine y_pi (j := 33) c_162_20 rfl rfl rfl (by decide) ?_
  refine y_al0 c_162_23 ?_
  refine y_bi c_162_24 (by decide) ?_
  refine y_pi (j := 34) c_162_26 rfl rfl rfl (by decide) ?_
  obtain ⟨Ma, hMa⟩ : ∃ Ma : wM, Ma = wup (wup (wup (wup (wup M 106 30 (-9)) 106 31 0) 106 32 (-9)) 106 33 (-9)) 106 34 (-9) := ⟨_, rfl⟩
  rw [← hMa]
  have hf0 : ∀ b, b ≠ 106 → ∀ j, Ma b j = M b j := fun b hb j => by rw [hMa, wup_f _ _ _ hb, wup_f _ _ _ hb, wup_f _ _ _ hb, wup_f _ _ _ hb, wup_f _ _ _ hb]
  refine y_ic c_162_29 ?_
  refine y_is2 c_162_30 rfl ?_
  refine y_ic c_162_31 ?_
  refine y_is3 c_162_32 rfl ?_
  refine y_al0 c_162_33 ?_
  refine y_gr 115 c_162_34 rfl (by omega) ?_
  refine y_ic c_162_37 ?_
  refine y_ald (n := 10) (u := (R.2.2.1 : Int)) c_162_38 rfl (by omega) (by omega) (by omega) ((hf0 115 (by omega) 2).trans hR.2.2.1) (fun r_38 => ?_)
  refine y_is4 c_162_39 rfl ?_
  refine y_al0 c_162_41 ?_
  refine y_gr 123 c_162_42 rfl (by omega) ?_
  refine y_ic c_162_45 ?_
  refine y_ic c_162_46 ?_
  refine y_ast (n := 8) c_162_47 rfl (by omega) (by omega) (by omega) (by omega) ?_
  obtain ⟨M0, hM0e⟩ : ∃ M0 : wM, M0 = wup Ma 123 0 0 := ⟨_, rfl⟩
  rw [← hM0e]
  have hfb : ∀ b, b ≠ 106 → b ≠ 123 → M0 b = M b := fun b h1 h2 => by rw [hM0e, wup_f _ _ _ h2]; exact funext (hf0 b h1)
  have hfj : ∀ j : Int, (j < 30 ∨ 34 < j) → M0 106 j = M 106 j := fun j hj => by
    rw [hM0e, wup_a _ _ _ _ (by decide), hMa, wup_k _ _ (by omega), wup_k _ _ (by omega), wup_k _ _ (by omega), wup_k _ _ (by omega), wup_k _ _ (by omega)]
  have hM0 : mport M0 P := mport_of hM (hfj 4 (by omega)) (hfj 6 (by omega)) (hfj 8 (by omega)) (hfb 108 (by omega) (by omega)) (hfb 109 (by omega) (by omega)) (hfb 110 (by omega) (by omega))
  have hR0 : wpage M0 115 R := wpage_of hR (hfb 115 (by omega) (by omega))
  have hF0 : mfnd M0 (-9, 0, -9, -9, -9) := by
    unfold mfnd
    simp [hM0e, hMa, wup]
  refine y_al0 c_162_48 ?_
  refine y_ic c_162_49 ?_
  refine y_ic c_162_50 ?_
  refine k_161 c_162_51 rfl rfl (Nat.le_of_ble_eq_true rfl) ?_
  refine s_161 hM0 hok hR0 hRk hF0 (by decide) (by decide) (fun M6 hF6 hf6 => ?_)
  have hq0 : aCnd P R m [] := ⟨hrun, by rw [List.append_nil]; exact z5, fun y hy => by simp at hy, Nat.zero_le _⟩
  have hw0 : aFw P R m (fun _ => False) (-9, 0, -9, -9, -9) := Or.inl ⟨rfl, rfl, fun q h => h.elim⟩
  have hs0 : aFs P R m (fun _ => False) (-9, 0, -9, -9, -9) := Or.inl ⟨rfl, rfl, fun q h => h.elim⟩
  have hv0 : ∀ q', (False ∨ q' = []) ↔ seen [] 0 q' := fun q' => by rw [seen_0]; simp
  have hd0 : aStage P R.2.2.2 = 3 ↔ aStage P (R.2.2.2 ++ []) = 3 := by rw [List.append_nil]
  refine key (smu 7 [] 0 + 1) [] 0 (by omega) hq0 (by omega) M6 _ _ (by rw [aRq_nil]; exact wpage_of hR0 (hf6.1 115 (by omega))) (fun i hi => absurd hi (by simp)) (by rw [hf6.1 123 (by omega), hM0e]; exact wup_s _ _ _ _) hF6 ?_ ?_ ⟨fun b p1 p2 p3 p4 => by rw [hf6.1 b p1, hfb b p1 p3], fun j hj => by rw [hf6.2 j hj, hfj j hj]⟩
  · by_cases h3 : aStage P R.2.2.2 = 3
    · rw [if_pos h3]
      have h9 := aFw_look hw0 (qn := []) ⟨hq0, hd0.mp h3⟩
      rw [List.append_nil] at h9
      exact aFw_iff h9 (fun q' _ => hv0 q')
    · rw [if_neg h3]; exact aFw_iff hw0 (fun q' hd => (aF_no (V := fun _ => False) (fun h => h3 (hd0.mpr h.2)) q' hd).trans (hv0 q'))
  · by_cases h3 : aStage P R.2.2.2 = 3
    · rw [if_pos h3]; exact aFs_iff (aFs_look hs0 (qn := []) ⟨hq0, hd0.mp h3⟩) (fun q' _ => hv0 q')
    · rw [if_neg h3]; exact aFs_iff hs0 (fun q' hd => (aF_no (V := fun _ => False) (fun h => h3 (hd0.mpr h.2)) q' hd).trans (hv0 q'))
end S33
