def zsw : Instr → Bool
  | .tableswitch _ _ _ _ => true
  | .lookupswitch _ _ => true
  | _ => false
def zlen : Instr → Nat
  | .bipush _ => 2
  | .sipush _ => 3
  | .ldc_w _ => 3
  | .ldc2_w _ => 3
  | .iload _ => 2
  | .lload _ => 2
  | .aload _ => 2
  | .istore _ => 2
  | .astore _ => 2
  | .iinc _ _ => 3
  | .goto _ => 3
  | .if_icmp _ _ => 3
  | .ifCond _ _ => 3
  | .ifnull _ => 3
  | .ifnonnull _ => 3
  | .getfield _ => 3
  | .putfield _ => 3
  | .new _ => 3
  | .anewarray _ => 3
  | .newarray _ => 2
  | .invokestatic _ => 3
  | .invokevirtual _ => 3
  | .invokespecial _ => 3
  | _ => 1
def zlenM (mi : Nat) : Bool := (zt_cs.getD mi []).all fun x => zsw x.2.1 || Nat.beq x.2.2.1 (zlen x.2.1)
set_option maxRecDepth 100000 in
theorem zlens : (List.range 192).all zlenM = true := by decide +kernel
section ZT
variable {p : Program} {lN : Launch} {e : Env} {R : Room} {s : State} {m : MethodId} {args : Array Value} {below : List Frame} {meth : Method} {c : Code} {Q : State → Prop} {D : va_G} {cI cZ cR b cells slots mi : Nat}
theorem zcjmp {pc t : Nat} {off : Int} (h : zjmp pc off = some t) : (pc : Int) + off = (t : Int) := by
  unfold zjmp at h
  split at h
  · rename_i hc
    cases h
    omega
  · cases h

set_option maxHeartbeats 4000000 in
/-- one step that is no call and no end, and makes nothing -/
theorem zstep {i : Instr} {ln a bb w pc : Nat} {h h1 : List zE} {pc1 : Nat} {l l1 st st1 : List Value} (X : zX p s m args meth c D cI cZ cR b mi) (hdg : decode (zbs mi) pc = .ok (i, ln)) (hln : zsw i = false → ln = zlen i) (hok : zokI mi pc i a bb w = true) (hkd : zkd i bb = 0)
    (hfr : zfr mi ≤ R.frames) (hlo : zlo mi ≤ R.locals) (hcells : cells ≤ R.cells) (hslots : slots ≤ R.slots)
    (hz : zst i a bb pc h l st = some (h1, pc1, l1, st1)) (hlen : h1.length = h.length)
    (k : zGo p lN e R s m args below meth c Q D cI cZ cR b (zml mi) cells slots h1 pc1 l1 st1) : zGo p lN e R s m args below meth c Q D cI cZ cR b (zml mi) cells slots h pc l st := by
  obtain ⟨hx, hb, hml, hown, hts, hnw, hao, hK, hbs, hnm⟩ := X
  intro H locs ls hP hS hl
  have hD := zW_D b cI cZ cR h
  cases i with
  | iconst q =>
    obtain rfl := hln rfl
    simp only [zst] at hz
    cases hz
    exact lv_iconst hx hb hdg rfl (k H locs ls hP hS hl)
  | bipush q =>
    obtain rfl := hln rfl
    simp only [zst] at hz
    cases hz
    exact lv_bipush hx hb hdg rfl (k H locs ls hP hS hl)
  | sipush q =>
    obtain rfl := hln rfl
    simp only [zst] at hz
    cases hz
    exact lv_sipush hx hb hdg rfl (k H locs ls hP hS hl)
  | lconst q =>
    obtain rfl := hln rfl
    simp only [zst] at hz
    cases hz
    exact lv_lconst hx hb hdg rfl (k H locs ls hP hS hl)
  | aconst_null =>
    obtain rfl := hln rfl
    simp only [zst] at hz
    cases hz
    exact lv_null hx hb hdg (k H locs ls hP hS hl)
  | ldc_w q =>
    obtain rfl := hln rfl
    simp only [zst] at hz
    cases hz
    exact lv_ldcw hx hb hown (hts _ (zwd_mem hok)) hdg (k H locs ls hP hS hl)
  | ldc2_w q =>
    obtain rfl := hln rfl
    simp only [zst] at hz
    cases hz
    exact lv_ldc2 hx hb hown (hts _ (zwd_mem hok)) hdg (k H locs ls hP hS hl)
  | iload_n q =>
    obtain rfl := hln rfl
    simp only [zst] at hz
    split at hz
    · rename_i x hx1
      cases hz
      exact lv_iload_n hx hb hdg rfl (hl.at hx1 (by simp)) (k H locs ls hP hS hl)
    · cases hz
  | iload q =>
    obtain rfl := hln rfl
    simp only [zst] at hz
    split at hz
    · rename_i x hx1
      cases hz
      exact lv_iload hx hb hdg (hl.at hx1 (by simp)) (k H locs ls hP hS hl)
    · cases hz
  | lload_n q =>
    obtain rfl := hln rfl
    simp only [zst] at hz
    split at hz
    · rename_i x hx1
      cases hz
      exact lv_lload_n hx hb hdg rfl (hl.at hx1 (by simp)) (k H locs ls hP hS hl)
    · cases hz
  | lload q =>
    obtain rfl := hln rfl
    simp only [zst] at hz
    split at hz
    · rename_i x hx1
      cases hz
      exact lv_lload hx hb hdg (hl.at hx1 (by simp)) (k H locs ls hP hS hl)
    · cases hz
  | aload_n q =>
    obtain rfl := hln rfl
    simp only [zst] at hz
    split at hz
    · rename_i x hx1
      cases hz
      exact lv_aload_n hx hb hdg rfl (hl.at hx1 (by simp)) (k H locs ls hP hS hl)
    · rename_i hx1
      cases hz
      exact lv_aload_nN hx hb hdg rfl (hl.at hx1 (by simp)) (k H locs ls hP hS hl)
    · cases hz
  | aload q =>
    obtain rfl := hln rfl
    simp only [zst] at hz
    split at hz
    · rename_i x hx1
      cases hz
      exact lv_aload hx hb hdg (hl.at hx1 (by simp)) (k H locs ls hP hS hl)
    · rename_i hx1
      cases hz
      exact lv_aloadN hx hb hdg (hl.at hx1 (by simp)) (k H locs ls hP hS hl)
    · cases hz
  | istore_n q =>
    obtain rfl := hln rfl
    simp only [zst] at hz
    split at hz
    · split at hz
      · rename_i l2 hs
        cases hz
        exact lv_istore_n (nL := zml mi) hx hb hdg rfl (zLH.has hl) (Nat.lt_of_lt_of_le (zsto1_lt hs) hl.2.2.1) rfl (fun ls2 h2 => k H locs ls2 hP hS (zsto1_LH hs hl.2.2.1 h2))
      · cases hz
    · cases hz
  | istore q =>
    obtain rfl := hln rfl
    simp only [zst] at hz
    split at hz
    · split at hz
      · rename_i l2 hs
        cases hz
        exact lv_istore (nL := zml mi) hx hb hdg (zLH.has hl) (Nat.lt_of_lt_of_le (zsto1_lt hs) hl.2.2.1) rfl (fun ls2 h2 => k H locs ls2 hP hS (zsto1_LH hs hl.2.2.1 h2))
      · cases hz
    · cases hz
  | lstore_n q =>
    obtain rfl := hln rfl
    simp only [zst] at hz
    split at hz
    · split at hz
      · rename_i l2 hs
        cases hz
        exact lv_lstore_n (nL := zml mi) hx hb hdg rfl (zLH.has hl) (Nat.lt_of_lt_of_le (zsto2_lt hs) hl.2.2.1) rfl (fun ls2 h2 => k H locs ls2 hP hS (zsto2_LH hs hl.2.2.1 h2))
      · cases hz
    · cases hz
  | astore_n q =>
    obtain rfl := hln rfl
    simp only [zst] at hz
    split at hz
    · split at hz
      · rename_i l2 hs
        cases hz
        exact lv_astore_n (nL := zml mi) hx hb hdg rfl (zLH.has hl) (Nat.lt_of_lt_of_le (zsto1_lt hs) hl.2.2.1) rfl (fun ls2 h2 => k H locs ls2 hP hS (zsto1_LH hs hl.2.2.1 h2))
      · cases hz
    · split at hz
      · rename_i l2 hs
        cases hz
        exact lv_astore_nN (nL := zml mi) hx hb hdg rfl (zLH.has hl) (Nat.lt_of_lt_of_le (zsto1_lt hs) hl.2.2.1) rfl (fun ls2 h2 => k H locs ls2 hP hS (zsto1_LH hs hl.2.2.1 h2))
      · cases hz
    · cases hz
  | astore q =>
    obtain rfl := hln rfl
    simp only [zst] at hz
    split at hz
    · split at hz
      · rename_i l2 hs
        cases hz
        exact lv_astore (nL := zml mi) hx hb hdg (zLH.has hl) (Nat.lt_of_lt_of_le (zsto1_lt hs) hl.2.2.1) rfl (fun ls2 h2 => k H locs ls2 hP hS (zsto1_LH hs hl.2.2.1 h2))
      · cases hz
    · split at hz
      · rename_i l2 hs
        cases hz
        exact lv_astoreN (nL := zml mi) hx hb hdg (zLH.has hl) (Nat.lt_of_lt_of_le (zsto1_lt hs) hl.2.2.1) rfl (fun ls2 h2 => k H locs ls2 hP hS (zsto1_LH hs hl.2.2.1 h2))
      · cases hz
    · cases hz
  | iinc q nn =>
    obtain rfl := hln rfl
    simp only [zst] at hz
    split at hz
    · rename_i x hx1
      split at hz
      · rename_i l2 hs
        cases hz
        obtain ⟨j, hj⟩ := List.getElem?_of_mem (zpr_mem (b := b) hx1 (by simp))
        exact lv_iinc (nL := zml mi) hx hb hdg (zLH.has hl) hj rfl (Nat.lt_of_lt_of_le (zsto1_lt hs) hl.2.2.1) rfl (fun ls2 h2 => k H locs ls2 hP hS (zsto1_LH hs hl.2.2.1 h2))
      · cases hz
    · cases hz
  | iadd =>
    obtain rfl := hln rfl
    simp only [zst] at hz
    split at hz
    · cases hz
      exact lv_iadd hx hb hdg (k H locs ls hP hS hl)
    · cases hz
  | isub =>
    obtain rfl := hln rfl
    simp only [zst] at hz
    split at hz
    · cases hz
      exact lv_isub hx hb hdg (k H locs ls hP hS hl)
    · cases hz
  | imul =>
    obtain rfl := hln rfl
    simp only [zst] at hz
    split at hz
    · cases hz
      exact lv_imul hx hb hdg (k H locs ls hP hS hl)
    · cases hz
  | ineg =>
    obtain rfl := hln rfl
    simp only [zst] at hz
    split at hz
    · cases hz
      exact lv_ineg hx hb hdg (k H locs ls hP hS hl)
    · cases hz
  | ior =>
    obtain rfl := hln rfl
    simp only [zst] at hz
    split at hz
    · cases hz
      exact lv_ior hx hb hdg (k H locs ls hP hS hl)
    · cases hz
  | iand =>
    obtain rfl := hln rfl
    simp only [zst] at hz
    split at hz
    · cases hz
      exact lv_iand hx hb hdg (k H locs ls hP hS hl)
    · cases hz
  | ixor =>
    obtain rfl := hln rfl
    simp only [zst] at hz
    split at hz
    · cases hz
      exact lv_ixor hx hb hdg (k H locs ls hP hS hl)
    · cases hz
  | ishl =>
    obtain rfl := hln rfl
    simp only [zst] at hz
    split at hz
    · cases hz
      exact lv_ishl hx hb hdg (k H locs ls hP hS hl)
    · cases hz
  | ishr =>
    obtain rfl := hln rfl
    simp only [zst] at hz
    split at hz
    · cases hz
      exact lv_ishr hx hb hdg (k H locs ls hP hS hl)
    · cases hz
  | land =>
    obtain rfl := hln rfl
    simp only [zst] at hz
    split at hz
    · cases hz
      exact lv_land hx hb hdg (k H locs ls hP hS hl)
    · cases hz
  | lor =>
    obtain rfl := hln rfl
    simp only [zst] at hz
    split at hz
    · cases hz
      exact lv_lor hx hb hdg (k H locs ls hP hS hl)
    · cases hz
  | lmul =>
    obtain rfl := hln rfl
    simp only [zst] at hz
    split at hz
    · cases hz
      exact lv_lmul hx hb hdg (k H locs ls hP hS hl)
    · cases hz
  | ladd =>
    obtain rfl := hln rfl
    simp only [zst] at hz
    split at hz
    · cases hz
      exact lv_ladd hx hb hdg (k H locs ls hP hS hl)
    · cases hz
  | iushr =>
    obtain rfl := hln rfl
    simp only [zst] at hz
    split at hz
    · cases hz
      exact lv_iushr hx hb hdg rfl (k H locs ls hP hS hl)
    · cases hz
  | lushr =>
    obtain rfl := hln rfl
    simp only [zst] at hz
    split at hz
    · cases hz
      exact lv_lushr hx hb hdg rfl (k H locs ls hP hS hl)
    · cases hz
  | lshl =>
    obtain rfl := hln rfl
    simp only [zst] at hz
    split at hz
    · cases hz
      exact lv_lshl hx hb hdg rfl (k H locs ls hP hS hl)
    · cases hz
  | i2l =>
    obtain rfl := hln rfl
    simp only [zst] at hz
    split at hz
    · cases hz
      exact lv_i2l hx hb hdg rfl (k H locs ls hP hS hl)
    · cases hz
  | l2i =>
    obtain rfl := hln rfl
    simp only [zst] at hz
    split at hz
    · cases hz
      exact lv_l2i hx hb hdg rfl (k H locs ls hP hS hl)
    · cases hz
  | idiv =>
    obtain rfl := hln rfl
    simp only [zst] at hz
    split at hz
    · split at hz
      · cases hz
      · rename_i hne
        cases hz
        exact lv_idiv hx hb hdg hne (k H locs ls hP hS hl)
    · cases hz
  | irem =>
    obtain rfl := hln rfl
    simp only [zst] at hz
    split at hz
    · split at hz
      · cases hz
      · rename_i hne
        cases hz
        exact lv_irem hx hb hdg hne (k H locs ls hP hS hl)
    · cases hz
  | lrem =>
    obtain rfl := hln rfl
    simp only [zst] at hz
    split at hz
    · split at hz
      · cases hz
      · rename_i hne
        cases hz
        exact lv_lrem hx hb hdg hne (k H locs ls hP hS hl)
    · cases hz
  | lcmp =>
    obtain rfl := hln rfl
    simp only [zst] at hz
    split at hz
    · cases hz
      exact W.lcmp hx hb hdg (k H locs ls hP hS hl)
    · cases hz
  | dup =>
    obtain rfl := hln rfl
    simp only [zst] at hz
    split at hz
    · split at hz
      · rename_i hc
        cases hz
        exact lv_dup hx hb hdg (by rw [shV_cat]; exact hc) (k H locs ls hP hS hl)
      · cases hz
    · cases hz
  | dup2 =>
    obtain rfl := hln rfl
    simp only [zst] at hz
    split at hz
    · split at hz
      · rename_i hc
        cases hz
        exact lv_dup2_11 hx hb hdg (by rw [shV_cat]; exact hc.1) (by rw [shV_cat]; exact hc.2) (k H locs ls hP hS hl)
      · cases hz
    · cases hz
  | pop =>
    obtain rfl := hln rfl
    simp only [zst] at hz
    split at hz
    · split at hz
      · rename_i hc
        cases hz
        exact lv_pop hx hb hdg (by rw [shV_cat]; exact hc) (k H locs ls hP hS hl)
      · cases hz
    · cases hz
  | goto off =>
    obtain rfl := hln rfl
    simp only [zst] at hz
    cases hz
    simp only [zokI, decide_eq_true_eq] at hok
    exact lv_goto hx hb hdg hok (k H locs ls hP hS hl)
  | if_icmp q off =>
    obtain rfl := hln rfl
    simp only [zst] at hz
    simp only [zokI, decide_eq_true_eq] at hok
    split at hz
    · cases hz
      rename_i y x
      cases q with
      | eq => exact lv_icmp_eq hx hb hdg hok (fun hc => by
          have hq : zcnd .eq x y = true := by simp [zcnd, hc]
          rw [if_pos hq] at k
          exact k H locs ls hP hS hl) (fun hc => by
          have hq : ¬ zcnd .eq x y = true := by simp [zcnd, hc]
          rw [if_neg hq] at k
          exact k H locs ls hP hS hl)
      | ne => exact lv_icmp_ne hx hb hdg hok (fun hc => by
          have hq : zcnd .ne x y = true := by simp [zcnd, hc]
          rw [if_pos hq] at k
          exact k H locs ls hP hS hl) (fun hc => by
          have hq : ¬ zcnd .ne x y = true := by simp [zcnd, hc]
          rw [if_neg hq] at k
          exact k H locs ls hP hS hl)
      | lt => exact lv_icmp_lt hx hb hdg hok (fun hc => by
          have hq : zcnd .lt x y = true := by simp [zcnd, hc]
          rw [if_pos hq] at k
          exact k H locs ls hP hS hl) (fun hc => by
          have hq : ¬ zcnd .lt x y = true := by simp [zcnd, hc]
          rw [if_neg hq] at k
          exact k H locs ls hP hS hl)
      | ge => exact lv_icmp_ge hx hb hdg hok (fun hc => by
          have hq : zcnd .ge x y = true := by simp [zcnd, hc]
          rw [if_pos hq] at k
          exact k H locs ls hP hS hl) (fun hc => by
          have hq : ¬ zcnd .ge x y = true := by simp [zcnd, hc]
          rw [if_neg hq] at k
          exact k H locs ls hP hS hl)
      | gt => exact lv_icmp_gt hx hb hdg hok (fun hc => by
          have hq : zcnd .gt x y = true := by simp [zcnd, hc]
          rw [if_pos hq] at k
          exact k H locs ls hP hS hl) (fun hc => by
          have hq : ¬ zcnd .gt x y = true := by simp [zcnd, hc]
          rw [if_neg hq] at k
          exact k H locs ls hP hS hl)
      | le => exact lv_icmp_le hx hb hdg hok (fun hc => by
          have hq : zcnd .le x y = true := by simp [zcnd, hc]
          rw [if_pos hq] at k
          exact k H locs ls hP hS hl) (fun hc => by
          have hq : ¬ zcnd .le x y = true := by simp [zcnd, hc]
          rw [if_neg hq] at k
          exact k H locs ls hP hS hl)
    · cases hz
  | ifCond q off =>
    obtain rfl := hln rfl
    simp only [zst] at hz
    simp only [zokI, decide_eq_true_eq] at hok
    split at hz
    · cases hz
      rename_i x
      cases q with
      | eq => exact lv_if_eq hx hb hdg hok (fun hc => by
          have hq : zcnd .eq x 0 = true := by simp [zcnd, hc]
          rw [if_pos hq] at k
          exact k H locs ls hP hS hl) (fun hc => by
          have hq : ¬ zcnd .eq x 0 = true := by simp [zcnd, hc]
          rw [if_neg hq] at k
          exact k H locs ls hP hS hl)
      | ne => exact lv_if_ne hx hb hdg hok (fun hc => by
          have hq : zcnd .ne x 0 = true := by simp [zcnd, hc]
          rw [if_pos hq] at k
          exact k H locs ls hP hS hl) (fun hc => by
          have hq : ¬ zcnd .ne x 0 = true := by simp [zcnd, hc]
          rw [if_neg hq] at k
          exact k H locs ls hP hS hl)
      | lt => exact lv_if_lt hx hb hdg hok (fun hc => by
          have hq : zcnd .lt x 0 = true := by simp [zcnd, hc]
          rw [if_pos hq] at k
          exact k H locs ls hP hS hl) (fun hc => by
          have hq : ¬ zcnd .lt x 0 = true := by simp [zcnd, hc]
          rw [if_neg hq] at k
          exact k H locs ls hP hS hl)
      | ge => exact lv_if_ge hx hb hdg hok (fun hc => by
          have hq : zcnd .ge x 0 = true := by simp [zcnd, hc]
          rw [if_pos hq] at k
          exact k H locs ls hP hS hl) (fun hc => by
          have hq : ¬ zcnd .ge x 0 = true := by simp [zcnd, hc]
          rw [if_neg hq] at k
          exact k H locs ls hP hS hl)
      | gt => exact lv_if_gt hx hb hdg hok (fun hc => by
          have hq : zcnd .gt x 0 = true := by simp [zcnd, hc]
          rw [if_pos hq] at k
          exact k H locs ls hP hS hl) (fun hc => by
          have hq : ¬ zcnd .gt x 0 = true := by simp [zcnd, hc]
          rw [if_neg hq] at k
          exact k H locs ls hP hS hl)
      | le => exact lv_if_le hx hb hdg hok (fun hc => by
          have hq : zcnd .le x 0 = true := by simp [zcnd, hc]
          rw [if_pos hq] at k
          exact k H locs ls hP hS hl) (fun hc => by
          have hq : ¬ zcnd .le x 0 = true := by simp [zcnd, hc]
          rw [if_neg hq] at k
          exact k H locs ls hP hS hl)
    · cases hz
  | ifnull off =>
    obtain rfl := hln rfl
    simp only [zst] at hz
    simp only [zokI, decide_eq_true_eq] at hok
    split at hz
    · cases hz
      exact lv_ifnull hx hb hdg (k H locs ls hP hS hl)
    · cases hz
      exact lv_ifnullN hx hb hdg hok (k H locs ls hP hS hl)
    · cases hz
  | ifnonnull off =>
    obtain rfl := hln rfl
    simp only [zst] at hz
    simp only [zokI, decide_eq_true_eq] at hok
    split at hz
    · cases hz
      exact lv_ifnonnull hx hb hdg hok (k H locs ls hP hS hl)
    · cases hz
      exact lv_ifnonnullN hx hb hdg (k H locs ls hP hS hl)
    · cases hz
  | tableswitch d lo hi offs =>
    simp only [zst] at hz
    split at hz
    · split at hz
      · rename_i hc
        split at hz
        · rename_i t ht
          cases hz
          exact lv_tableOut hx hb hdg hc (zcjmp ht) (k H locs ls hP hS hl)
        · cases hz
      · rename_i hc
        split at hz
        · rename_i o ho
          split at hz
          · rename_i t ht
            cases hz
            exact lv_tableIn hx hb hdg (fun q => hc (Or.inl q)) (fun q => hc (Or.inr q)) ho (zcjmp ht) (k H locs ls hP hS hl)
          · cases hz
        · cases hz
    · cases hz
  | lookupswitch d ps =>
    simp only [zst] at hz
    split at hz
    · split at hz
      · rename_i t ht
        cases hz
        exact lv_lookup hx hb hdg hok rfl (zcjmp ht) (k H locs ls hP hS hl)
      · cases hz
    · cases hz
  | getfield idx =>
    obtain rfl := hln rfl
    simp only [zst] at hz
    simp only [zokI, Bool.and_eq_true, decide_eq_true_eq, Nat.ble_eq] at hok
    obtain ⟨⟨⟨ha, hbN⟩, hw⟩, hsame⟩ := hok
    split at hz
    · split at hz
      · rename_i ci fs hcell
        split at hz
        · rename_i hca
          subst hca
          split at hz
          · rename_i v hv
            cases hz
            exact va_get (D := D) (C := (zcd ci).1) (T := (zcd ci).2.1) (N := (zcd ci).2.2) hx hb hts (zcd_in ha) hown hK hP _ (zW_get hcell) (zcd_get ha) bb hbN (hts _ (zwd_mem hw)) (fun x hx => by rw [hsame] at hx; exact hx) (by rw [List.getElem?_map, hv]; rfl) hdg (k H locs ls hP hS hl)
          · cases hz
        · cases hz
      · cases hz
    · cases hz
  | putfield idx =>
    obtain rfl := hln rfl
    simp only [zst] at hz
    simp only [zokI, Bool.and_eq_true, decide_eq_true_eq, Nat.ble_eq, Bool.or_eq_true, Bool.not_eq_true'] at hok
    obtain ⟨⟨⟨⟨ha, hbN⟩, hw⟩, hsame⟩, hfin⟩ := hok
    split at hz
    · split at hz
      · rename_i ci fs hcell
        split at hz
        · rename_i hc
          obtain ⟨hca, hbl, hnar, hfit⟩ := hc
          subst hca
          cases hz
          rename_i v o r
          have hset : (zW b cI cZ cR h).set o (b + o, .inr (ci, (fs.map (shV b)).set bb (shV b v))) = zW b cI cZ cR (h.set o (.inr (.inr (ci, fs.set bb v)))) := by
            rw [← List.map_set]
            exact zW_set o (.inr (.inr (ci, fs.set bb v)))
          by_cases hq : ((zcd ci).2.1 bb).2.2.2 = false
          · refine va_put (D := D) (C := (zcd ci).1) (T := (zcd ci).2.1) (N := (zcd ci).2.2) (ty := zcY ci bb) hx hb hts (zcd_in ha) (zcY ci) (zcd_ty ha) (zcd_nm ha) hown hK hP hD hS _ (zW_get hcell) (zcd_get ha) bb hbN (hts _ (zwd_mem hw)) (fun x hx => by rw [hsame] at hx; exact hx) hq (zcd_ty ha bb hbN) (shV_nar hnar) (shV_fit hfit) (by rw [List.length_map]; exact hbl) hdg (fun H1 locs1 hP1 hD1 hS1 => ?_)
            exact k H1 locs1 ls (by rw [← hset]; exact hP1) hS1 hl
          · have hf := hfin.resolve_left hq
            have hq2 : ((zcd ci).2.1 bb).2.2.2 = true := by simpa using hq
            refine va_putF (D := D) (C := (zcd ci).1) (T := (zcd ci).2.1) (N := (zcd ci).2.2) (ty := zcY ci bb) hx hb hts (zcd_in ha) (zcY ci) (zcd_ty ha) (zcd_nm ha) hown hK hP hD hS _ (zW_get hcell) (zcd_get ha) bb hbN (hts _ (zwd_mem hw)) (fun x hx => by rw [hsame] at hx; exact hx) hq2 (hnm.trans hf.1) (hsame.trans hf.2) (zcd_ty ha bb hbN) (shV_nar hnar) (shV_fit hfit) (by rw [List.length_map]; exact hbl) hdg (fun H1 locs1 hP1 hD1 hS1 => ?_)
            exact k H1 locs1 ls (by rw [← hset]; exact hP1) hS1 hl
        · cases hz
      · cases hz
    · cases hz
  | arraylength =>
    obtain rfl := hln rfl
    simp only [zst] at hz
    split at hz
    · split at hz
      · rename_i t nn f hcell
        cases hz
        by_cases ht : t = 0
        · subst ht
          exact va_alen (D := D) (ty := .int) hx hb hK hP _ 0 (zW_get hcell) rfl rfl hdg (k H locs ls hP hS hl)
        · exact va_alen (D := D) (ty := .boolean) hx hb hK hP _ 1 (zW_get hcell) (by simp only [if_neg ht]; rfl) rfl hdg (k H locs ls hP hS hl)
      · rename_i nn f hcell
        cases hz
        exact va_alen (D := D) hx hb hK hP _ 2 (zW_get hcell) rfl rfl hdg (k H locs ls hP hS hl)
      · cases hz
    · cases hz
  | iaload =>
    obtain rfl := hln rfl
    simp only [zst] at hz
    split at hz
    · split at hz
      · rename_i nn f hcell
        split at hz
        · rename_i hc
          cases hz
          exact va_iald (D := D) hx hb hK hP _ 0 (zW_get hcell) rfl (zin_vp hc) hdg (k H locs ls hP hS hl)
        · cases hz
      · cases hz
    · cases hz
  | baload =>
    obtain rfl := hln rfl
    simp only [zst] at hz
    split at hz
    · split at hz
      · rename_i nn f hcell
        split at hz
        · rename_i hc
          cases hz
          exact va_zald (D := D) hx hb hK hP _ 1 (zW_get hcell) rfl (zin_vp hc) hdg (k H locs ls hP hS hl)
        · cases hz
      · cases hz
    · cases hz
  | aaload =>
    obtain rfl := hln rfl
    simp only [zst] at hz
    split at hz
    · split at hz
      · rename_i nn f hcell
        split at hz
        · rename_i hc
          cases hz
          refine va_aldq (D := D) hx hb hK hP _ 2 (zW_get hcell) rfl (zin_vp hc) hdg ?_
          have k2 := k H locs ls hP hS hl
          rw [List.map_cons, shV_rf] at k2
          exact k2
        · cases hz
      · cases hz
    · cases hz
  | iastore =>
    obtain rfl := hln rfl
    simp only [zst] at hz
    split at hz
    · split at hz
      · rename_i nn f hcell
        split at hz
        · rename_i hc
          cases hz
          exact va_iast (D := D) hx hb hK hP hD hS _ 0 (zW_get hcell) rfl (zin_vp hc) hdg (fun H1 locs1 hP1 hD1 hS1 => k H1 locs1 ls (by rw [← zW_set]; exact hP1) hS1 hl)
        · cases hz
      · cases hz
    · cases hz
  | bastore =>
    obtain rfl := hln rfl
    simp only [zst] at hz
    split at hz
    · split at hz
      · rename_i nn f hcell
        split at hz
        · rename_i hc
          cases hz
          exact va_zast (D := D) hx hb hK hP hD hS _ 1 (zW_get hcell) rfl (zin_vp hc) hdg (fun H1 locs1 hP1 hD1 hS1 => k H1 locs1 ls (by rw [← zW_set]; exact hP1) hS1 hl)
        · cases hz
      · cases hz
    · cases hz
  | aastore =>
    obtain rfl := hln rfl
    simp only [zst] at hz
    split at hz
    · split at hz
      · rename_i nn f hcell
        split at hz
        · rename_i vs hv
          split at hz
          · rename_i hc
            cases hz
            refine va_astq (D := D) (ci := 4) hx hb hK hP hD hS _ 2 _ (zW_get hcell) rfl (zW_get hv) (zcd_get (ci := 4) (by omega)) (zin_vp hc) hdg (fun H1 locs1 hP1 hD1 hS1 => k H1 locs1 ls ?_ hS1 hl)
            rw [← zW_set]
            rename_i v x o r _
            have e : (fun k => (va_up f x.toNatClampNeg (some v) k).map fun a => b + a) = va_up (fun k => (f k).map fun a => b + a) x.toNatClampNeg (some (b + v)) := by
              funext j
              by_cases hj : j = x.toNatClampNeg <;> simp [va_up, hj]
            show va_P D zt_cl ((zW b cI cZ cR h).set o (b + o, .inl (cR, nn, .inr (.inr (.inr (.inr (fun k => (va_up f x.toNatClampNeg (some v) k).map fun a => b + a))))))) H1
            rw [e]
            exact hP1
          · cases hz
        · cases hz
      · cases hz
    · cases hz
  | invokespecial idx =>
    obtain rfl := hln rfl
    simp only [zst] at hz
    split at hz
    · split at hz
      · rename_i hc
        cases hz
        obtain ⟨hb2, hcat⟩ := hc
        subst hb2
        simp only [zokI, Nat.beq_refl, cond_true, Bool.and_eq_true, Nat.ble_eq] at hok
        refine W.objInit hx hb hown (hts _ (zwd_mem hok.1.1)) (hts _ zob_i) (hts _ zob_c) rfl (by rw [hml]; exact hl.1) rfl hdg (Nat.le_trans hok.1.2 hfr) ?_ (k H locs ls hP hS hl)
        have h8 := lv_room (pc := pc) (ls := ls) (m := m) (rest := ([] : List Value)) (st := List.map (shV b) _) (by rw [shV_cats]; exact hcat)
        have h9 := Nat.le_trans hok.2 hlo
        exact Nat.le_trans (Nat.add_le_add_right h8 12) (by omega)
      · cases hz
    · cases hz
  | invokestatic idx =>
    obtain rfl := hln rfl
    simp only [zst] at hz
    have hb3 : Nat.ble 3 bb = true := by
      simp only [zkd] at hkd
      cases hq : Nat.ble 3 bb
      · rw [hq] at hkd; cases hkd
      · rfl
    simp only [zokI, hb3, cond_true, Bool.and_eq_true, Nat.ble_eq] at hok
    split at hz
    · split at hz
      · rename_i hcat
        cases hz
        have hcat2 := hcat
        rw [← shV_cats b] at hcat2
        by_cases b3 : bb = 3
        · subst b3
          simp only [if_pos] at k
          exact va_mmax hx hb (hml.trans hl.1.symm) hown (hts _ (zwd_mem hok.1.1)) (hts _ zmax_s) (hts _ zmm_i) (hts _ zmax_c) (Nat.le_trans hok.1.2 hfr) (Nat.le_trans (Nat.add_le_add_right hcat2 13) (Nat.le_trans hok.2 hlo)) hcells hslots hdg (k H locs ls hP hS hl)
        · have hbf : Nat.beq bb 3 = false := by
            cases hq : Nat.beq bb 3
            · rfl
            · exact absurd (Nat.eq_of_beq_eq_true hq) b3
          simp only [hbf, cond_false] at hok
          simp only [if_neg b3] at k
          exact va_mmin hx hb (hml.trans hl.1.symm) hown (hts _ (zwd_mem hok.1.1)) (hts _ zmin_s) (hts _ zmm_i) (hts _ zmin_c) (Nat.le_trans hok.1.2 hfr) (Nat.le_trans (Nat.add_le_add_right hcat2 13) (Nat.le_trans hok.2 hlo)) hcells hslots hdg (k H locs ls hP hS hl)
      · cases hz
    · cases hz
  | new idx =>
    obtain rfl := hln rfl
    simp only [zst] at hz
    cases hz
    simp at hlen
  | newarray t =>
    obtain rfl := hln rfl
    simp only [zst] at hz
    split at hz
    · split at hz
      · cases hz
        simp at hlen
      · cases hz
    · cases hz
  | anewarray idx =>
    obtain rfl := hln rfl
    simp only [zst] at hz
    split at hz
    · split at hz
      · cases hz
        simp at hlen
      · cases hz
    · cases hz
  | _ => simp [zst] at hz
end ZT
