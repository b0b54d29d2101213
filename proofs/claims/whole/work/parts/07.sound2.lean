set_option maxHeartbeats 4000000 in
theorem zrun_sound (lN : Launch) : ∀ n : Nat, zSnd lN n
  | 0 => fun mi hmi h pc l st v h' hz => by simp [zrun] at hz
  | n + 1 => by
    have ih := zrun_sound lN n
    intro mi hmi h pc l st v h' hz p e R s m args below meth c D cI cZ cR b X hrt hlk hfr hlo cells slots heq hcells hslots
    have hmono := zrun_mono _ _ _ _ _ _ _ _ hz
    simp only [zrun] at hz
    split at hz
    · cases hz
    rename_i i ln a bb w hcode
    obtain ⟨hdg, hln, hok⟩ := zcode_ok hmi hcode
    split at hz
    · rename_i hkd
      split at hz
      · cases hz
      rename_i h1 pc1 l1 st1 hs
      have hm1 := zrun_mono _ _ _ _ _ _ _ _ hz
      rcases zst_mono hs with ⟨g1, g2⟩ | ⟨g1, g2, -⟩
      · refine zstep X hdg hln hok hkd hfr hlo (by omega) (by omega) hs g1 ?_
        have k := ih mi hmi h1 pc1 l1 st1 v h' hz X hrt hlk hfr hlo (e := e) (below := below) cells slots (by omega) (by omega) (by omega)
        rw [g1, g2] at k
        exact k
      · refine znew X hdg hln hok hs g1 heq (by omega) (by omega) ?_
        have k := ih mi hmi h1 pc1 l1 st1 v h' hz X hrt hlk hfr hlo (e := e) (below := below) (cells + 1) (slots + (zsz h1 - zsz h)) (by omega) (by omega) (by omega)
        rw [show cells + 1 + (h'.length - h1.length) = cells + (h'.length - h.length) by omega, show slots + (zsz h1 - zsz h) + (zsz h' - zsz h1) = slots + (zsz h' - zsz h) by omega] at k
        exact k
    · rename_i hkd
      split at hz
      · rename_i hcan
        split at hz
        · cases hz
        rename_i v1 h1 hc
        have hm1 := zrun_mono _ _ _ _ _ _ _ _ hc
        have hm2 := zrun_mono _ _ _ _ _ _ _ _ hz
        simp only [zcan, Bool.and_eq_true, Nat.ble_eq] at hcan
        obtain ⟨⟨⟨hk1, hcat⟩, hal⟩, hrecv⟩ := hcan
        have k := ih mi hmi h1 (pc + 3) l (zpu v1 (st.drop (znp a))) v h' hz X hrt hlk hfr hlo (e := e) (below := below) (cells + (h1.length - h.length)) (slots + (zsz h1 - zsz h)) (by omega) (by omega) (by omega)
        rw [show cells + (h1.length - h.length) + (h'.length - h1.length) = cells + (h'.length - h.length) by omega, show slots + (zsz h1 - zsz h) + (zsz h' - zsz h1) = slots + (zsz h' - zsz h) by omega] at k
        have X0 := X
        obtain ⟨hx, hb, hml, hown, hts, hnw, hao, hK, hbs, hnm⟩ := X0
        intro H locs ls hP hS hl
        refine zW_size (fun hsz => ?_)
        have hsz2 := zsize hP hS heq hbs hsz
        generalize hav : (st.take (znp a)).reverse = av at hc hal hrecv
        generalize hrs : st.drop (znp a) = rs at hcat k hz
        have hst : st = av.reverse ++ rs := by rw [← hav, ← hrs, List.reverse_reverse, List.take_append_drop]
        have hlav : av.length = znp a := by rw [← hav, List.length_reverse, List.length_take]; omega
        have hW8 : 2 * (F0 m pc ls (st.map (shV b))).monitorRoom + ((rs.map (shV b)).map fun v => v.category).sum ≤ 8 := lv_room (by rw [shV_cats]; exact hcat)
        have hPc : ∀ U : State, U.heap = H → s.WarmedH U.vm → zPc b D cI cZ cR h av (av.map (shV b)).toArray U := fun U hU hW => ⟨rfl, by rw [hU]; exact hP, va_K.moved hW.alike hK, fun w hw => zN_warm hw hW (hnw w hw), va_AO.moved hW.alike hao, by rw [hU]; exact hsz2⟩
        have kk : ∀ (H1 : Heap) (locs1 : List Loc), va_P D zt_cl (zW b cI cZ cR h1) H1 → va_S (fun q : Nat => b ≤ q) s.heap H1 locs1 → W p lN e R s m args below meth c H1 locs1 (cells + (h1.length - h.length)) (slots + (zsz h1 - zsz h)) (MQ below (zQ b D cI cZ cR v h') args s (cells + (h'.length - h.length)) (slots + (zsz h' - zsz h)) (fun q => b ≤ q)) (F0 m (pc + 3) ls ((v1.map (shV b)).toList ++ rs.map (shV b))) := fun H1 locs1 hP1 hS1 => by
          have k2 := k H1 locs1 ls hP1 hS1 hl
          rw [zpu_map] at k2
          exact k2
        have hln3 : ln = 3 := by
          cases i <;> simp only [zkd] at hkd <;> first | (cases hkd; done) | exact hln rfl
        subst hln3
        have fin : ∀ (ha : a < 191) (hfrr : zfr a + 1 ≤ zfr mi) (hloo : 8 + (zml a + 11) + zlo a ≤ zlo mi) (idx : Nat), zlnk mi idx a bb w = true →
            (zsta a = true ∧ i = .invokestatic idx) ∨ (zsta a = false ∧ ((i = .invokevirtual idx ∧ ¬ (zy a).name = "<init>") ∨ (i = .invokespecial idx ∧ (zy a).name = "<init>" ∧ zrt a = none))) →
            W p lN e R s m args below meth c H locs cells slots (MQ below (zQ b D cI cZ cR v h') args s (cells + (h'.length - h.length)) (slots + (zsz h' - zsz h)) (fun q => b ≤ q)) (F0 m pc ls (st.map (shV b))) := by
          intro ha hfrr hloo idx hlnk hkind
          obtain ⟨-, hnn, hcw, hiw, hpar, hsw, hvw, -⟩ := zok_M ha
          have hM := zmet ih ha hc hal D cI cZ cR b
          have hpar2 : ∀ sig, parseMethodDescriptor (zy a).desc = some sig → (bif zsta a then znp a else znp a - 1) = sig.parameters.length := fun sig hsig => by
            rw [hsig] at hpar
            exact (Option.some.inj hpar).symm
          have hG : GoodIn zt_w0 (zws a) := zgood (fun w hw => by
            rcases List.mem_cons.mp hw with rfl | hw
            · exact hcw
            · exact hw)
          have hB6 : (h1.length - h.length = h1.length - h.length ∧ zsz h1 - zsz h = zsz h1 - zsz h ∧ zfr a + 1 ≤ R.frames ∧ 8 + (zml a + 11) + zlo a ≤ R.locals ∧ (∀ w ∈ zws a, ∀ (a' : Array Value) (U : State), s.WarmedH U.vm → w.before a' U = true) ∧ Jvm.Cond.code (zy a) (zbs a) (zml a) (zrt a) ∈ zws a) :=
            ⟨rfl, rfl, by omega, by omega, pay_in hts hG, List.mem_cons_self⟩
          have hroom : cells + (h1.length - h.length) ≤ R.cells ∧ slots + (zsz h1 - zsz h) ≤ R.slots := ⟨by omega, by omega⟩
          have SF : CallFix p m c (zbs mi) (zml mi) s args zt_w0 (zy mi).cls := ⟨hx, hb, hml, hown, hts⟩
          rcases hkind with ⟨hs, rfl⟩ | ⟨hs, hkind⟩
          · -- static
            have hstk : (F0 m pc ls (st.map (shV b))).stack = (av.map (shV b)).reverse ++ rs.map (shV b) := by show st.map (shV b) = _; rw [hst, List.map_append, List.map_reverse]
            have hnA : (av.map (shV b)).length = (bif zsta a then znp a else znp a - 1) := by rw [List.length_map, hlav, hs]; rfl
            cases hb1 : Nat.beq bb 1
            · simp only [zlnk, hb1, cond_false] at hlnk
              exact zcallW (va_runS SF hM ⟨⟨hB6.1, hB6.2.1, hB6.2.2.1, hB6.2.2.2.1, hB6.2.2.2.2.1, hB6.2.2.2.2.2, hts _ hcw, hts _ hiw, hnn, hpar2, hts _ (zwd_mem hlnk)⟩, hts _ (hsw hs)⟩ ⟨zPc_blind b D cI cZ cR h _, hPc⟩ rfl hnA hl.1 hstk hW8 hdg hroom) hS kk
            · simp only [zlnk, hb1, cond_true] at hlnk
              exact zcallW (va_runSN SF hM ⟨⟨hB6, hts _ hcw, hts _ hiw, hnn, hpar2, va_Nw.use rfl (hnw _ (zwn_mem hlnk))⟩, hts _ (hsw hs), trivial⟩ ⟨zPc_blind b D cI cZ cR h _, hPc⟩ rfl hnA hl.1 hstk hW8 hdg hroom) hS kk
          · obtain ⟨hiw2, hnp, hmc, hmcn, hsel⟩ := hvw hs
            -- the receiver
            simp only [zrecv, hs, Bool.false_or] at hrecv
            split at hrecv
            · rename_i o t
              split at hrecv
              · rename_i ci fs hcell
                have hci := Nat.eq_of_beq_eq_true hrecv
                subst hci
                have hstk : (F0 m pc ls (st.map (shV b))).stack = (t.map (shV b)).reverse ++ .ref (b + o) :: rs.map (shV b) := by
                  show st.map (shV b) = _
                  rw [hst]
                  simp [shV]
                have hnA : (t.map (shV b)).length = (bif zsta a then znp a else znp a - 1) := by
                  rw [List.length_map, hs]
                  simp only [List.length_cons] at hlav
                  show t.length = znp a - 1
                  omega
                have hrv := va_recv (q0 := o) hK hP (zcd_get hmc) (zW_get hcell)
                rw [hmcn] at hrv
                rcases hkind with ⟨rfl, hni⟩ | ⟨rfl, hni, hno⟩
                · cases hb1 : Nat.beq bb 1
                  · simp only [zlnk, hb1, cond_false] at hlnk
                    exact zcallW (va_runV (As := t.map (shV b)) SF hM ⟨⟨hB6.1, hB6.2.1, hB6.2.2.1, hB6.2.2.2.1, hB6.2.2.2.2.1, hB6.2.2.2.2.2, hts _ hcw, hts _ hiw, hnn, hpar2, hts _ (zwd_mem hlnk)⟩, hts _ hiw2, hts _ (hsel hni)⟩ ⟨zPc_blind b D cI cZ cR h _, hrv, hPc⟩ rfl hnA hl.1 hstk hW8 hdg hroom) hS kk
                  · simp only [zlnk, hb1, cond_true] at hlnk
                    exact zcallW (va_runVN (As := t.map (shV b)) SF hM ⟨⟨hB6, hts _ hcw, hts _ hiw, hnn, hpar2, va_Nw.use rfl (hnw _ (zwn_mem hlnk))⟩, hts _ hiw2, hts _ (hsel hni)⟩ ⟨zPc_blind b D cI cZ cR h _, hrv, hPc⟩ rfl hnA hl.1 hstk hW8 hdg hroom) hS kk
                · unfold zws at hM hB6
                  rw [hno] at hM hB6 hcw
                  cases hb1 : Nat.beq bb 1
                  · simp only [zlnk, hb1, cond_false] at hlnk
                    exact zcallW (va_runI (As := t.map (shV b)) SF hM ⟨⟨hB6.1, hB6.2.1, hB6.2.2.1, hB6.2.2.2.1, hB6.2.2.2.2.1, hB6.2.2.2.2.2, hts _ hcw, hts _ hiw, hnn, hpar2, hts _ (zwd_mem hlnk)⟩, hni, hts _ hiw2⟩ ⟨zPc_blind b D cI cZ cR h _, hPc⟩ rfl hnA hl.1 hstk hW8 hdg hroom) hS kk
                  · simp only [zlnk, hb1, cond_true] at hlnk
                    exact zcallW (va_runIN (As := t.map (shV b)) SF hM ⟨⟨hB6, hts _ hcw, hts _ hiw, hnn, hpar2, va_Nw.use rfl (hnw _ (zwn_mem hlnk))⟩, hni, hts _ hiw2⟩ ⟨zPc_blind b D cI cZ cR h _, hPc⟩ rfl hnA hl.1 hstk hW8 hdg hroom) hS kk
              · cases hrecv
            · cases hrecv
        cases i with
        | invokestatic idx =>
          have hb3 : Nat.ble 3 bb = false := by
            simp only [zkd] at hkd
            cases hq : Nat.ble 3 bb
            · rfl
            · rw [hq] at hkd; cases hkd
          simp only [zokI, hb3, cond_false, Bool.and_eq_true, Nat.ble_eq] at hok
          exact fin (by omega) hok.1.1.2 hok.1.2 idx hok.2 (Or.inl ⟨hok.1.1.1.2, rfl⟩)
        | invokevirtual idx =>
          simp only [zokI, Bool.and_eq_true, Nat.ble_eq, decide_eq_true_eq, Bool.not_eq_true'] at hok
          exact fin (by omega) hok.1.1.2 hok.1.2 idx hok.2 (Or.inr ⟨hok.1.1.1.1.2, Or.inl ⟨rfl, hok.1.1.1.2⟩⟩)
        | invokespecial idx =>
          have hb2 : Nat.beq bb 2 = false := by
            simp only [zkd] at hkd
            cases hq : Nat.beq bb 2
            · rfl
            · rw [hq] at hkd; cases hkd
          simp only [zokI, hb2, cond_false, Bool.and_eq_true, Nat.ble_eq, decide_eq_true_eq, Bool.not_eq_true'] at hok
          exact fin (by omega) hok.1.1.2 hok.1.2 idx hok.2 (Or.inr ⟨hok.1.1.1.1.1.2, Or.inr ⟨rfl, hok.1.1.1.1.2, hok.1.1.1.2⟩⟩)
        | _ => simp [zkd] at hkd
      · cases hz
    · split at hz
      · cases hz
      rename_i v2 hend
      cases hz
      simp only [Nat.sub_self, Nat.add_zero]
      obtain ⟨hx, hb, hml, hown, hts, hnw, hao, hK, hbs, hnm⟩ := X
      intro H locs ls hP hS hl
      obtain ⟨-, -, -, -, -, -, -, hr0, hr1, hr2, hr3, hr4⟩ := zok_M hmi
      have hq : ∀ (o : Outcome), o = .returned (v.map (shV b)) → ∀ t : State, t.heap = H → s.WarmedH t.vm → zQ b D cI cZ cR v h args s o t := fun o ho t ht hW => ⟨ho, by rw [ht]; exact hP, hS.F ht⟩
      cases i with
      | ireturn =>
        obtain rfl := hln rfl
        simp only [zend] at hend
        split at hend
        · split at hend
          · rename_i x hcase
            cases hend
            rcases hcase with g | ⟨g, gx⟩
            · exact W.iret hx hb (hrt.trans (hr1 g)) (hq _ rfl) hS.2.2 hdg hlk
            · exact W.zret (ty := .boolean) hx hb (hrt.trans (hr2 g)) (by rcases gx with rfl | rfl <;> rfl) (hq _ rfl) hS.2.2 hdg hlk
          · cases hend
        · cases hend
      | lreturn =>
        obtain rfl := hln rfl
        simp only [zend] at hend
        split at hend
        · split at hend
          · rename_i x g
            cases hend
            exact W.lret hx hb (hrt.trans (hr3 g)) (hq _ rfl) hS.2.2 hdg hlk
          · cases hend
        · cases hend
      | areturn =>
        obtain rfl := hln rfl
        simp only [zend] at hend
        split at hend
        · split at hend
          · rename_i x g
            cases hend
            obtain ⟨C, hC⟩ := hr4 g
            exact W.aret hx hb (hrt.trans hC) (Or.inl ⟨C, rfl⟩) (Or.inr ⟨_, rfl⟩) (hq _ rfl) hS.2.2 hdg hlk
          · cases hend
        · split at hend
          · rename_i g
            cases hend
            obtain ⟨C, hC⟩ := hr4 g
            exact W.aret hx hb (hrt.trans hC) (Or.inl ⟨C, rfl⟩) (Or.inl rfl) (hq _ rfl) hS.2.2 hdg hlk
          · cases hend
        · cases hend
      | return_ =>
        obtain rfl := hln rfl
        simp only [zend] at hend
        split at hend
        · split at hend
          · rename_i g
            cases hend
            exact W.vret hx hb (hrt.trans (hr0 g)) (hq _ rfl) hS.2.2 hdg hlk
          · cases hend
        · cases hend
      | _ => simp [zend] at hend
