theorem zsz_set : ∀ {h : List zE} {o : Nat} {e0 e : zE}, h[o]? = some e0 → zsz1 e = zsz1 e0 → zsz (h.set o e) = zsz h
  | [], o, e0, e, h0, _ => by simp at h0
  | x :: t, 0, e0, e, h0, hs => by
    simp only [List.getElem?_cons_zero, Option.some.injEq] at h0
    subst h0
    simp [zsz, hs]
  | x :: t, o + 1, e0, e, h0, hs => by
    have h1 : t[o]? = some e0 := by simpa using h0
    have h2 : (List.map zsz1 (t.set o e)).sum = (List.map zsz1 t).sum := zsz_set h1 hs
    show (List.map zsz1 ((x :: t).set (o + 1) e)).sum = (List.map zsz1 (x :: t)).sum
    rw [List.set_cons_succ, List.map_cons, List.map_cons, List.sum_cons, List.sum_cons, h2]
theorem zsz_push (h : List zE) (e : zE) : zsz (h ++ [e]) = zsz h + zsz1 e := by simp [zsz]
set_option maxHeartbeats 4000000 in
theorem zst_mono {i : Instr} {a b pc : Nat} {h h1 : List zE} {pc1 : Nat} {l l1 st st1 : List Value} (hz : zst i a b pc h l st = some (h1, pc1, l1, st1)) :
    (h1.length = h.length ∧ zsz h1 = zsz h) ∨ (h1.length = h.length + 1 ∧ zsz h ≤ zsz h1 ∧ (zsz h1 = zsz h → True)) := by
  cases i with
  | putfield idx =>
    simp only [zst] at hz
    repeat' split at hz
    all_goals first | (cases hz; done) | skip
    rename_i hc _
    cases hz
    exact Or.inl ⟨List.length_set .., zsz_set (by assumption) (by simp [zsz1])⟩
  | _ =>
    simp only [zst] at hz
    repeat' split at hz
    all_goals first
      | (cases hz; done)
      | (cases hz; exact Or.inl ⟨rfl, rfl⟩)
      | (cases hz; exact Or.inl ⟨List.length_set .., zsz_set (by assumption) (by simp [zsz1])⟩)
      | (cases hz; exact Or.inr ⟨by simp, by rw [zsz_push]; omega, fun _ => trivial⟩)
theorem zend_h {mi : Nat} {i : Instr} {st : List Value} {v : Option Value} (hz : zend mi i st = some v) : st = v.toList := by
  unfold zend at hz
  repeat' split at hz
  all_goals first
    | (cases hz; done)
    | (cases hz; rfl)
theorem zrun_mono : ∀ (n mi : Nat) (h : List zE) (pc : Nat) (l st : List Value) (v : Option Value) (h' : List zE), zrun n mi h pc l st = some (v, h') → h.length ≤ h'.length ∧ zsz h ≤ zsz h'
  | 0, mi, h, pc, l, st, v, h', hz => by simp [zrun] at hz
  | n + 1, mi, h, pc, l, st, v, h', hz => by
    simp only [zrun] at hz
    split at hz
    · cases hz
    · split at hz
      · split at hz
        · cases hz
        · rename_i h1 pc1 l1 st1 hs
          have h2 := zrun_mono n _ _ _ _ _ _ _ hz
          rcases zst_mono hs with h3 | h3 <;> omega
      · split at hz
        · split at hz
          · cases hz
          · rename_i v1 h1 hc
            have h2 := zrun_mono n _ _ _ _ _ _ _ hz
            have h3 := zrun_mono n _ _ _ _ _ _ _ hc
            omega
        · cases hz
      · split at hz
        · cases hz
        · cases hz
          exact ⟨Nat.le_refl _, Nat.le_refl _⟩
section ZN
variable {p : Program} {lN : Launch} {e : Env} {R : Room} {s : State} {m : MethodId} {args : Array Value} {below : List Frame} {meth : Method} {c : Code} {Q : State → Prop} {D : va_G} {cI cZ cR b cells slots mi : Nat}
/-- one step that makes a cell -/
theorem znew {i : Instr} {ln a bb w pc : Nat} {h h1 : List zE} {pc1 : Nat} {l l1 st st1 : List Value} (X : zX p s m args meth c D cI cZ cR b mi) (hdg : decode (zbs mi) pc = .ok (i, ln)) (hln : zsw i = false → ln = zlen i) (hok : zokI mi pc i a bb w = true)
    (hz : zst i a bb pc h l st = some (h1, pc1, l1, st1)) (hlen : h1.length = h.length + 1) (heq : s.heap.size + cells = b + h.length) (hcells : cells + 1 ≤ R.cells) (hslots : slots + (zsz h1 - zsz h) ≤ R.slots)
    (k : zGo p lN e R s m args below meth c Q D cI cZ cR b (zml mi) (cells + 1) (slots + (zsz h1 - zsz h)) h1 pc1 l1 st1) : zGo p lN e R s m args below meth c Q D cI cZ cR b (zml mi) cells slots h pc l st := by
  obtain ⟨hx, hb, hml, hown, hts, hnw, hao, hK, hbs, hnm⟩ := X
  intro H locs ls hP hS hl
  have hD := zW_D b cI cZ cR h
  have hA : ∀ q : Nat, s.heap.size ≤ q → (fun q : Nat => b ≤ q) q := fun q hq => Nat.le_trans hbs hq
  have hne : ∀ q : List zE, ¬ q.length = q.length + 1 := fun q => by omega
  have hns : ∀ (q : List zE) (k : Nat) (x : zE), ¬ (q.set k x).length = q.length + 1 := fun q k x => by rw [List.length_set]; omega
  cases i with
  | new idx =>
    obtain rfl := hln rfl
    simp only [zst] at hz
    cases hz
    simp only [zokI, Bool.and_eq_true, Nat.ble_eq] at hok
    obtain ⟨ha, hw⟩ := hok
    obtain ⟨hi1, hi2, hi3⟩ := zcd_ins ha
    obtain ⟨hd1, hd2⟩ := zdf_ok ha b
    have hsz : zsz (h ++ [.inr (.inr (a, zdf a))]) - zsz h = (zcd a).2.2 := by rw [zsz_push]; simp only [zsz1]; omega
    rw [hsz] at hslots k
    refine va_new (D := D) (C := (zcd a).1) (T := (zcd a).2.1) (N := (zcd a).2.2) (fs := zdf a) hx hb hts (zcd_in ha) (zcY a) (zcd_ty ha) hown (hts _ (zwd_mem hw)) (hts _ hi1) (hts _ hi2) hK hP hD hS hA (zcd_get ha) hd2 hcells hslots hdg (fun q H1 hP1 hD1 hS1 => ?_)
    refine zW_size (fun hsz1 => ?_)
    obtain rfl := zlast hP1 hD1 (by omega)
    refine k H1 locs ls ?_ hS1 hl
    rw [← zW_push]
    show va_P D zt_cl (zW b cI cZ cR h ++ [(b + h.length, .inr (a, (zdf a).map (shV b)))]) H1
    rw [hd1]
    exact hP1
  | newarray t =>
    obtain rfl := hln rfl
    simp only [zst] at hz
    split at hz
    · split at hz
      · rename_i hc
        cases hz
        rename_i x r
        simp only [zokI, Bool.or_eq_true, Bool.and_eq_true, decide_eq_true_eq, Nat.beq_eq] at hok
        have hsz : zsz (h ++ [.inl (a, x.toNatClampNeg, fun _ => 0)]) - zsz h = x.toNatClampNeg := by rw [zsz_push]; simp only [zsz1]; omega
        rw [hsz] at hslots k
        rcases hok with ⟨⟨rfl, rfl⟩, hw⟩ | ⟨⟨rfl, rfl⟩, hw⟩
        · refine va_newa (D := D) (atype := .int) (ty := .int) (a0 := (x.toNatClampNeg, .inl (fun _ => 0))) hx hb (hts _ (zwd_mem hw)) rfl hK hP hD hS hA (fun cA => rfl) hc.1 rfl (by have := hc.2; show _ * 4 ≤ _; omega) hcells hslots hdg (fun q cA H1 hK1 hP1 hD1 hS1 => ?_)
          have e1 : cA = cI := Option.some.inj (((hK1.2 3 _ rfl).2 : s.vm.findClass _ = some cA).symm.trans ((hK.2 0 _ rfl).2 : s.vm.findClass _ = some cI))
          subst e1
          refine zW_size (fun hsz1 => ?_)
          obtain rfl := zlast hP1 hD1 (by omega)
          exact k H1 locs ls (by rw [← zW_push]; exact hP1) hS1 hl
        · refine va_newa (D := D) (atype := .boolean) (ty := .boolean) (a0 := (x.toNatClampNeg, .inl (fun _ => 0))) hx hb (hts _ (zwd_mem hw)) rfl hK hP hD hS hA (fun cA => rfl) hc.1 rfl (by have := hc.2; show _ * 1 ≤ _; omega) hcells hslots hdg (fun q cA H1 hK1 hP1 hD1 hS1 => ?_)
          have e1 : cA = cZ := Option.some.inj (((hK1.2 3 _ rfl).2 : s.vm.findClass _ = some cA).symm.trans ((hK.2 1 _ rfl).2 : s.vm.findClass _ = some cZ))
          subst e1
          refine zW_size (fun hsz1 => ?_)
          obtain rfl := zlast hP1 hD1 (by omega)
          exact k H1 locs ls (by rw [← zW_push]; exact hP1) hS1 hl
      · cases hz
    · cases hz
  | anewarray idx =>
    obtain rfl := hln rfl
    simp only [zst] at hz
    split at hz
    · split at hz
      · rename_i hc
        cases hz
        rename_i x r
        have hsz : zsz (h ++ [.inr (.inl (x.toNatClampNeg, fun _ => none))]) - zsz h = x.toNatClampNeg := by rw [zsz_push]; simp only [zsz1]; omega
        rw [hsz] at hslots k
        refine va_newq (D := D) (C := "LoveGlass$Run") hx hb hown (hts _ (zwd_mem hok)) hao hK hP hD hS hA hc.1 rfl (by have := hc.2; omega) hcells hslots hdg (fun q cA H1 hK1 hP1 hD1 hS1 => ?_)
        obtain ⟨_, _, -, -, -, n1⟩ := (hK1.2 3 _ rfl).2
        obtain ⟨_, _, -, -, -, n2⟩ := (hK.2 2 _ rfl).2
        have e1 : cA = cR := Option.some.inj (n1.symm.trans n2)
        subst e1
        refine zW_size (fun hsz1 => ?_)
        obtain rfl := zlast hP1 hD1 (by omega)
        exact k H1 locs ls (by rw [← zW_push]; exact hP1) hS1 hl
      · cases hz
    · cases hz
  | _ =>
    simp only [zst] at hz
    repeat' split at hz
    all_goals first
      | (cases hz; done)
      | (cases hz; exact absurd hlen (hne _))
      | (cases hz; exact absurd hlen (hns _ _ _))
end ZN
/-! ===== a whole run is the machine's ===== -/
theorem zlk_in : ∀ {l : List (Nat × zI)} {q : Nat} {e : zI}, zlk l q = some e → (q, e) ∈ l
  | [], q, e, h => by simp [zlk] at h
  | (p, x) :: t, q, e, h => by
    simp only [zlk] at h
    cases hb : Nat.beq p q
    · rw [hb] at h
      exact List.mem_cons_of_mem _ (zlk_in h)
    · rw [hb] at h
      simp only [cond_true, Option.some.injEq] at h
      rw [Nat.eq_of_beq_eq_true hb, h]
      exact List.mem_cons_self
theorem zcode_ok {mi pc : Nat} {i : Instr} {ln a b w : Nat} (hmi : mi < 191) (h : zcode mi pc = some (i, ln, a, b, w)) : decode (zbs mi) pc = .ok (i, ln) ∧ (zsw i = false → ln = zlen i) ∧ zokI mi pc i a b w = true := by
  have h1 := zlk_in h
  have h2 := zok hmi
  simp only [zokA, Bool.and_eq_true] at h2
  have h3 := List.all_eq_true.mp h2.2 _ h1
  simp only [zokE, Bool.and_eq_true, decide_eq_true_eq] at h3
  have h4 := List.all_eq_true.mp zlens mi (List.mem_range.mpr (by omega))
  have h5 := List.all_eq_true.mp h4 _ h1
  simp only [Bool.or_eq_true] at h5
  refine ⟨h3.1, fun hs => ?_, h3.2⟩
  rcases h5 with h5 | h5
  · rw [hs] at h5; cases h5
  · exact Nat.eq_of_beq_eq_true h5
def zQ (b : Nat) (D : va_G) (cI cZ cR : Nat) (v : Option Value) (h' : List zE) : Array Value → State → Outcome → State → Prop := fun _ st o t =>
  o = .returned (v.map (shV b)) ∧ va_P D zt_cl (zW b cI cZ cR h') t.heap ∧ va_F (fun q : Nat => b ≤ q) st t
def zws (mi : Nat) : List Jvm.Cond := Jvm.Cond.code (zy mi) (zbs mi) (zml mi) (zrt mi) :: zt_w0
def zPc (b : Nat) (D : va_G) (cI cZ cR : Nat) (h : List zE) (av : List Value) : Array Value → State → Prop :=
  va_Pc (av.map (shV b)) (fun U => va_P D zt_cl (zW b cI cZ cR h) U.heap ∧ va_K D zt_cl (zTY cI cZ cR) U ∧ (∀ w ∈ zt_w1, va_Nw w U) ∧ va_AO "LoveGlass$Run" U ∧ b + h.length = U.heap.size)
theorem zargs_sl (b : Nat) : ∀ (av : List Value), (lg_sl (av.map (shV b))).length = (zargs av).length ∧ ∀ (i : Nat) (v : Value), (zargs av)[i]? = some v → v ≠ zU → (lg_sl (av.map (shV b)))[i]? = some (.val (shV b v))
  | [] => ⟨rfl, fun i v h => by simp [zargs] at h⟩
  | a :: t => by
    obtain ⟨h1, h2⟩ := zargs_sl b t
    by_cases hc : a.category = 2
    · have e1 : zargs (a :: t) = a :: zU :: zargs t := by simp [zargs, hc]
      have e2 : lg_sl ((a :: t).map (shV b)) = .val (shV b a) :: .second :: lg_sl (t.map (shV b)) := by simp [lg_sl, shV_cat, hc]
      rw [e1, e2]
      refine ⟨by simp [h1], fun i v hv hu => ?_⟩
      match i, hv with
      | 0, hv =>
        simp only [List.getElem?_cons_zero, Option.some.injEq] at hv
        subst hv
        rfl
      | 1, hv =>
        simp only [List.getElem?_cons_succ, List.getElem?_cons_zero, Option.some.injEq] at hv
        exact absurd hv.symm hu
      | i + 2, hv =>
        simp only [List.getElem?_cons_succ] at hv ⊢
        exact h2 i v hv hu
    · have e1 : zargs (a :: t) = a :: zargs t := by simp [zargs, hc]
      have e2 : lg_sl ((a :: t).map (shV b)) = .val (shV b a) :: lg_sl (t.map (shV b)) := by simp [lg_sl, shV_cat, hc]
      rw [e1, e2]
      refine ⟨by simp [h1], fun i v hv hu => ?_⟩
      match i, hv with
      | 0, hv =>
        simp only [List.getElem?_cons_zero, Option.some.injEq] at hv
        subst hv
        rfl
      | i + 1, hv =>
        simp only [List.getElem?_cons_succ] at hv ⊢
        exact h2 i v hv hu
/-- the entry's local variables -/
theorem zent_LH {b n : Nat} {av : List Value} (hn : (zargs av).length ≤ n) : ∃ ls : Array Slot, (∀ m, entryFrame m (av.map (shV b)).toArray n = F0 m 0 ls []) ∧ zLH b ls n (zpad n (zargs av)) := by
  obtain ⟨h1, h2⟩ := zargs_sl b av
  refine ⟨_, fun m => lg_entry_eq m _ n, ?_⟩
  have h3 := lv_entry (av.map (shV b)) (n := n) (by omega)
  refine ⟨h3.1, h3.2.1, by simp [zpad]; omega, fun i v hv hu => ?_⟩
  unfold zpad at hv
  by_cases hi : i < (zargs av).length
  · rw [List.getElem?_append_left hi] at hv
    have h4 := h2 i v hv hu
    rw [List.getElem?_toArray, List.getElem?_append_left (by omega)]
    exact h4
  · rw [List.getElem?_append_right (by omega)] at hv
    rw [List.getElem?_replicate] at hv
    split at hv
    · exact absurd (Option.some.inj hv).symm hu
    · cases hv
theorem zpu_map (b : Nat) (v : Option Value) (r : List Value) : (zpu v r).map (shV b) = (v.map (shV b)).toList ++ r.map (shV b) := by cases v <;> rfl
theorem zgood {ws : List Jvm.Cond} (h : ∀ w ∈ ws, w ∈ zt_w0) : GoodIn zt_w0 ws := fun w hw => ⟨h w hw, good_of_word (List.mem_filter.mp (h w hw)).2⟩
theorem zN_onT {w : Jvm.Cond} (h : w ∈ zt_w1) : w.onTables = true := by
  have h1 := (List.mem_filter.mp h).2
  cases w <;> first | rfl | cases h1
theorem zN_warm {w : Jvm.Cond} (h : w ∈ zt_w1) {s U : State} (hW : s.WarmedH U.vm) (hz : va_Nw w s) : va_Nw w U := by
  have h1 := (List.mem_filter.mp h).2
  cases w <;> first | exact va_Nw.warmM hW hz | cases h1
theorem zPc_blind (b : Nat) (D : va_G) (cI cZ cR : Nat) (h : List zE) (av : List Value) : FrameBlind (zPc b D cI cZ cR h av) := by
  intro a U g mk q
  obtain ⟨q0, q1, q2, q3, q4, q5⟩ := q
  exact ⟨q0, q1, va_K.moved (u := U) (U := U.calling g mk a) (Vm.Alike.refl U.vm) q2, fun w hw => va_Nw.same (zN_onT hw) (u := U) (U := U.calling g mk a) rfl (q3 w hw), va_AO.moved (u := U) (U := U.calling g mk a) (Vm.Alike.refl U.vm) q4, q5⟩
theorem zok_M {mi : Nat} (hmi : mi < 191) : plainName (zy mi).cls = true ∧ ((zy mi).cls ≠ "java/lang/invoke/MethodHandle" ∧ (zy mi).cls ≠ "java/lang/invoke/VarHandle") ∧
    Jvm.Cond.code (zy mi) (zbs mi) (zml mi) (zrt mi) ∈ zt_w0 ∧ Jvm.Cond.initialized (zy mi).cls ∈ zt_w0 ∧ (parseMethodDescriptor (zy mi).desc).map (fun d => d.parameters.length) = some (bif zsta mi then znp mi else znp mi - 1) ∧
    (zsta mi = true → Jvm.Cond.static (zy mi) ∈ zt_w0) ∧ (zsta mi = false → Jvm.Cond.instanceMethod (zy mi) ∈ zt_w0 ∧ 1 ≤ znp mi ∧ zmc mi < 9 ∧ (zcd (zmc mi)).1 = (zy mi).cls ∧ (¬ (zy mi).name = "<init>" → Jvm.Cond.selects (zy mi).cls (zy mi) (zy mi) ∈ zt_w0)) ∧
    (zrk mi = 0 → zrt mi = none) ∧ (zrk mi = 1 → zrt mi = some .int) ∧ (zrk mi = 2 → zrt mi = some .boolean) ∧ (zrk mi = 3 → zrt mi = some .long) ∧ (zrk mi = 4 → ∃ C, zrt mi = some (.object C)) := by
  have h2 := zok hmi
  simp only [zokA, zokM, Bool.and_eq_true, decide_eq_true_eq] at h2
  obtain ⟨⟨⟨⟨⟨⟨⟨⟨h1, h3⟩, h4⟩, h5⟩, h6⟩, h7⟩, h8⟩, h9⟩, -⟩ := h2
  refine ⟨h1, ⟨h3, h4⟩, zwd_mem h5, zwd_mem h6, h7, fun hs => ?_, fun hs => ?_, ?_⟩
  · rw [hs] at h8
    exact zwd_mem h8
  · rw [hs] at h8
    simp only [cond_false, Bool.and_eq_true, decide_eq_true_eq, Nat.ble_eq, Bool.or_eq_true] at h8
    obtain ⟨⟨⟨⟨g1, g2⟩, g3⟩, g4⟩, g5⟩ := h8
    exact ⟨zwd_mem g1, g2, g3, g4, fun hn => zwd_mem (g5.resolve_left hn)⟩
  · split at h9 <;> first | (cases h9; done) | (simp_all; done) | (have h10 := Nat.eq_of_beq_eq_true h9; simp_all)
section ZC
variable {p : Program} {lN : Launch} {e : Env} {R : Room} {s : State} {m : MethodId} {args : Array Value} {below : List Frame} {meth : Method} {c : Code} {Q : State → Prop} {D : va_G} {cI cZ cR b cells slots mi : Nat}
theorem zcallW {mc ms pc : Nat} {ls : Array Slot} {st0 rest : List Value} {a : Array Value} {H : Heap} {locs : List Loc} {v1 : Option Value} {h1 : List zE}
    (hr : va_Run p lN e R s m args below meth c H locs cells slots mc ms (F0 m pc ls st0) rest (zQ b D cI cZ cR v1 h1 a) (fun q => b ≤ q)) (hS : va_S (fun q : Nat => b ≤ q) s.heap H locs)
    (k : ∀ (H1 : Heap) (locs1 : List Loc), va_P D zt_cl (zW b cI cZ cR h1) H1 → va_S (fun q : Nat => b ≤ q) s.heap H1 locs1 → W p lN e R s m args below meth c H1 locs1 (cells + mc) (slots + ms) Q (F0 m (pc + 3) ls ((v1.map (shV b)).toList ++ rest))) :
    W p lN e R s m args below meth c H locs cells slots Q (F0 m pc ls st0) := by
  intro T hT X
  obtain ⟨v, st₀, t, T', L, h0, X', hL, e1, e2, ⟨hv, hP1, hz, hk⟩, st⟩ := hr T hT X
  cases hv
  rw [h0] at hz hk
  obtain ⟨t2, a1, b1⟩ := k T'.heap (locs ++ L) (by rw [e1]; exact hP1)
    ⟨Nat.le_trans hS.1 (by rw [e1]; exact hz), fun q h1 h2 => by rw [e1, hk q (Nat.lt_of_lt_of_le h1 hS.1) h2]; exact hS.2.1 q h1 h2, fun q hq => by
      rcases List.mem_append.mp hq with h | h
      · exact hS.2.2 q h
      · exact hL q h⟩ T' rfl X'
  exact ⟨t2, st t2 a1, b1⟩
theorem zsize {H : Heap} {locs : List Loc} {h : List zE} (hP : va_P D zt_cl (zW b cI cZ cR h) H) (hS : va_S (fun q : Nat => b ≤ q) s.heap H locs) (heq : s.heap.size + cells = b + h.length) (hbs : b ≤ s.heap.size) (hsz : H.size ≤ s.heap.size + cells) : b + h.length = H.size := by
  have h1 := hS.1
  rcases Nat.eq_zero_or_pos h.length with h0 | h0
  · omega
  · have h2 := (hP _ _ (zW_get (List.getElem?_eq_getElem (show h.length - 1 < h.length by omega)))).lt
    simp only at h2
    omega
end ZC
/-- what a run tells of the machine -/
def zSnd (lN : Launch) (n : Nat) : Prop := ∀ (mi : Nat), mi < 191 → ∀ (h : List zE) (pc : Nat) (l st : List Value) (v : Option Value) (h' : List zE), zrun n mi h pc l st = some (v, h') →
  ∀ {p : Program} {e : Env} {R : Room} {s : State} {m : MethodId} {args : Array Value} {below : List Frame} {meth : Method} {c : Code} {D : va_G} {cI cZ cR b : Nat}, zX p s m args meth c D cI cZ cR b mi → meth.sig.returnType = zrt mi → meth.locks = false → zfr mi ≤ R.frames → zlo mi ≤ R.locals →
  ∀ cells slots : Nat, s.heap.size + cells = b + h.length → cells + (h'.length - h.length) ≤ R.cells → slots + (zsz h' - zsz h) ≤ R.slots →
  zGo p lN e R s m args below meth c (MQ below (zQ b D cI cZ cR v h') args s (cells + (h'.length - h.length)) (slots + (zsz h' - zsz h)) (fun q => b ≤ q)) D cI cZ cR b (zml mi) cells slots h pc l st
theorem zmet {lN : Launch} {n : Nat} (ih : zSnd lN n) {a : Nat} (ha : a < 191) {h h1 : List zE} {av : List Value} {v1 : Option Value} (hc : zrun n a h 0 (zent a av) [] = some (v1, h1)) (hn : (zargs av).length ≤ zml a) (D : va_G) (cI cZ cR b : Nat) :
    Met lN (zy a) (zws a) { frames := zfr a, cells := h1.length - h.length, slots := zsz h1 - zsz h, locals := zlo a } (zPc b D cI cZ cR h av) (zQ b D cI cZ cR v1 h1) (h1.length - h.length) (zsz h1 - zsz h) (fun q => b ≤ q) := by
  obtain ⟨hpl, -⟩ := zok_M ha
  refine Met.ofW (cc := zbs a) (maxL := zml a) (ret := zrt a) hpl rfl ?_
  intro p e s m args below meth c s₁ B hml hv
  obtain ⟨rfl, hP, hK, hnw, hao, hsz⟩ := hv
  have hts := atoms_spec (ws := zws a) B.pre
  obtain ⟨ls, he, hl⟩ := zent_LH (b := b) hn
  rw [he]
  have X : zX p s m (av.map (shV b)).toArray meth c D cI cZ cR b a := ⟨B.exec, B.bytes, hml, findClass_of_methodNamed B.named, fun w hw => hts w (List.mem_cons_of_mem _ hw), hnw, hao, hK, by omega, (name_of_methodNamed B.named B.method).1⟩
  have k := ih a ha h 0 (zent a av) [] v1 h1 hc (e := e) (R := (headSpec (zws a) { frames := zfr a, cells := h1.length - h.length, slots := zsz h1 - zsz h, locals := zlo a }).room) (below := below) X B.returns B.notSynchronized (Nat.le_refl _) (Nat.le_refl _) 0 0 (by omega) (by show 0 + _ ≤ _; rw [Nat.zero_add]; exact Nat.le_refl _) (by show 0 + _ ≤ _; rw [Nat.zero_add]; exact Nat.le_refl _) s.heap [] ls hP va_S.rf hl
  rw [Nat.zero_add, Nat.zero_add] at k
  exact k
