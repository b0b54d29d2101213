/-! THE CLAIM OUT OF ONE WALK OF THE LAW'S BODY. Your part is whole_start (and what it stands on); all else here is the same for every law, but numbers. -/
def R_law : String := "LoveGlassLaw"
def lw_P (b : Addr) (xs : List Int32) (args : Array Value) (s : State) : Prop := args = #[.ref b] ∧ s.IntsAt b xs ∧ xs.length ≤ 2560 ∧ (Jvm.Cond.and given_1 narrow_1).before args s = true
def lw_Q (_ : Array Value) (s : State) (o : Outcome) (t : State) : Prop := o = .returned (some (.int 1)) ∧ Framed s o t [] 600000 7302250
def lw_Z (below : List Frame) (a : Array Value) (s : State) : State → Prop := fun t => ∃ o, t.status = .running ∧ Ended t below o ∧ lw_Q a s o t
/-- the law's own end, with 1 on the stack, nothing written that was there before, its room as the claim has it -/
theorem lw_ret {p : Program} {l : Launch} {e : Env} {s : State} {m : MethodId} {below : List Frame} {meth : Method} {c : Code} {b : Nat} (hx : p.tables.exec = Jvm.exec) (hb : c.code = code) (hr : meth.sig.returnType = ret) (hlocks : meth.locks = false) {pc : Nat} {H : Heap} {ls : Array Slot} (hdg : decode code pc = .ok (.ireturn, 1)) : W p l e room_1 s m #[Value.ref b] below meth c H [] 600000 7302250 (lw_Z below #[Value.ref b] s) (F0 m pc ls [.int 1]) := by
  intro T hT X
  obtain ⟨fs, hret, hrun, hended, hW, hframe⟩ := X.leave (v := some (.int 1)) (hlocks := hlocks) (fun h => by rw [hr] at h; cases h)
  have hmeth' : T.vm.method? m = some meth := X.method'
  refine ⟨T.setFrames fs, ?_, .returned (some (.int 1)), hrun, hended, rfl, ⟨_, rfl⟩, hW, hframe⟩
  jvm_step X.here [X.here.top, hx, hb, hdg, hmeth', hr, ret, narrow_b1]
  (try refine ⟨rfl, ?_⟩); (try refine ⟨rfl, ?_⟩)
  first | (intro acts; rw [hret _ acts rfl rfl rfl]) | rw [hret _ _ rfl rfl rfl]
  exact Steps.refl _
/-- what holds at the law's entry: the machine, the code, the tables' words (any of lw_tbl by 'hts w (by decide +kernel)'), the script of L ints xs at the cell b, what the Statement gives of the start (any of its parts by flat_of_before) -/
def lw_At (p : Program) (s : State) (m : MethodId) (meth : Method) (c : Code) (b L : Nat) (xs : Nat → Int32) : Prop :=
  p.tables.exec = Jvm.exec ∧ c.code = code ∧ meth.sig.returnType = ret ∧ c.maxLocals = 4 ∧ s.vm.findClass R_law = some m.cls ∧ (∀ w ∈ lw_tbl, w.before #[Value.ref b] s = true) ∧ va_X b L xs s s.heap ∧ b < s.heap.size ∧ meth.locks = false ∧ (Jvm.Cond.and given_1 narrow_1).before #[Value.ref b] s = true
/-! ===== the law: its rows, over the small machine's heap ===== -/
def zlawc (k : Nat) : List (Nat × zI) := ((zt_cs.getD 191 []).drop (35 * k)).take 35
set_option maxRecDepth 100000 in
theorem zlaw_0 : (zlawc 0).all (zokE 191) = true := by decide +kernel
set_option maxRecDepth 100000 in
theorem zlaw_1 : (zlawc 1).all (zokE 191) = true := by decide +kernel
set_option maxRecDepth 100000 in
theorem zlaw_2 : (zlawc 2).all (zokE 191) = true := by decide +kernel
set_option maxRecDepth 100000 in
theorem zlaw_3 : (zlawc 3).all (zokE 191) = true := by decide +kernel
set_option maxRecDepth 100000 in
theorem zlaw_4 : (zlawc 4).all (zokE 191) = true := by decide +kernel
set_option maxRecDepth 100000 in
theorem zlaw_5 : (zlawc 5).all (zokE 191) = true := by decide +kernel
set_option maxRecDepth 100000 in
theorem zlaw_6 : (zlawc 6).all (zokE 191) = true := by decide +kernel
set_option maxRecDepth 100000 in
theorem zlaw_7 : (zlawc 7).all (zokE 191) = true := by decide +kernel
set_option maxRecDepth 100000 in
theorem zlaw_8 : (zlawc 8).all (zokE 191) = true := by decide +kernel
set_option maxRecDepth 100000 in
theorem zlaw_9 : (zlawc 9).all (zokE 191) = true := by decide +kernel
set_option maxRecDepth 100000 in
theorem zlaw_10 : (zlawc 10).all (zokE 191) = true := by decide +kernel
set_option maxRecDepth 100000 in
theorem zlaw_11 : (zlawc 11).all (zokE 191) = true := by decide +kernel
set_option maxRecDepth 100000 in
theorem zlaw_12 : (zlawc 12).all (zokE 191) = true := by decide +kernel
set_option maxRecDepth 100000 in
theorem zlaw_13 : (zlawc 13).all (zokE 191) = true := by decide +kernel
set_option maxRecDepth 100000 in
theorem zlaw_14 : (zlawc 14).all (zokE 191) = true := by decide +kernel
set_option maxRecDepth 100000 in
theorem zlaw_15 : (zlawc 15).all (zokE 191) = true := by decide +kernel
set_option maxRecDepth 100000 in
theorem zlaw_16 : (zlawc 16).all (zokE 191) = true := by decide +kernel
set_option maxRecDepth 100000 in
theorem zlaw_17 : (zlawc 17).all (zokE 191) = true := by decide +kernel
set_option maxRecDepth 100000 in
theorem zlaw_18 : (zlawc 18).all (zokE 191) = true := by decide +kernel
set_option maxRecDepth 100000 in
theorem zlaw_19 : (zlawc 19).all (zokE 191) = true := by decide +kernel
set_option maxRecDepth 100000 in
theorem zlaw_len : (zt_cs.getD 191 []).length = 698 := by decide +kernel
theorem zlaw_ok {x : Nat × zI} (h : x ∈ zt_cs.getD 191 []) : zokE 191 x = true := by
  obtain ⟨j, hj⟩ := List.mem_iff_getElem?.mp h
  have hl : j < 698 := by
    have := (List.getElem?_eq_some_iff.mp hj).1
    rw [zlaw_len] at this
    exact this
  have key : ∀ k : Nat, (zlawc k).all (zokE 191) = true → 35 * k ≤ j → j < 35 * k + 35 → zokE 191 x = true := fun k hk h1 h2 => by
    refine List.all_eq_true.mp hk x (List.mem_of_getElem? (i := j - 35 * k) ?_)
    unfold zlawc
    rw [List.getElem?_take, if_pos (by omega), List.getElem?_drop, show 35 * k + (j - 35 * k) = j by omega]
    exact hj
  rcases (show (0 ≤ j ∧ j < 35) ∨ (35 ≤ j ∧ j < 70) ∨ (70 ≤ j ∧ j < 105) ∨ (105 ≤ j ∧ j < 140) ∨ (140 ≤ j ∧ j < 175) ∨ (175 ≤ j ∧ j < 210) ∨ (210 ≤ j ∧ j < 245) ∨ (245 ≤ j ∧ j < 280) ∨ (280 ≤ j ∧ j < 315) ∨ (315 ≤ j ∧ j < 350) ∨ (350 ≤ j ∧ j < 385) ∨ (385 ≤ j ∧ j < 420) ∨ (420 ≤ j ∧ j < 455) ∨ (455 ≤ j ∧ j < 490) ∨ (490 ≤ j ∧ j < 525) ∨ (525 ≤ j ∧ j < 560) ∨ (560 ≤ j ∧ j < 595) ∨ (595 ≤ j ∧ j < 630) ∨ (630 ≤ j ∧ j < 665) ∨ (665 ≤ j ∧ j < 700) by omega) with h | h | h | h | h | h | h | h | h | h | h | h | h | h | h | h | h | h | h | h
  · exact key 0 zlaw_0 (by omega) (by omega)
  · exact key 1 zlaw_1 (by omega) (by omega)
  · exact key 2 zlaw_2 (by omega) (by omega)
  · exact key 3 zlaw_3 (by omega) (by omega)
  · exact key 4 zlaw_4 (by omega) (by omega)
  · exact key 5 zlaw_5 (by omega) (by omega)
  · exact key 6 zlaw_6 (by omega) (by omega)
  · exact key 7 zlaw_7 (by omega) (by omega)
  · exact key 8 zlaw_8 (by omega) (by omega)
  · exact key 9 zlaw_9 (by omega) (by omega)
  · exact key 10 zlaw_10 (by omega) (by omega)
  · exact key 11 zlaw_11 (by omega) (by omega)
  · exact key 12 zlaw_12 (by omega) (by omega)
  · exact key 13 zlaw_13 (by omega) (by omega)
  · exact key 14 zlaw_14 (by omega) (by omega)
  · exact key 15 zlaw_15 (by omega) (by omega)
  · exact key 16 zlaw_16 (by omega) (by omega)
  · exact key 17 zlaw_17 (by omega) (by omega)
  · exact key 18 zlaw_18 (by omega) (by omega)
  · exact key 19 zlaw_19 (by omega) (by omega)
theorem zcode_law {pc : Nat} {i : Instr} {ln a b w : Nat} (h : zcode 191 pc = some (i, ln, a, b, w)) : decode (zbs 191) pc = .ok (i, ln) ∧ zokI 191 pc i a b w = true := by
  have h3 := zlaw_ok (zlk_in h)
  simp only [zokE, Bool.and_eq_true, decide_eq_true_eq] at h3
  exact h3
theorem zd {pc : Nat} {i : Instr} {ln a b w : Nat} (h : zcode 191 pc = some (i, ln, a, b, w)) : decode (zbs 191) pc = .ok (i, ln) := (zcode_law h).1
def LX (p : Program) (s : State) (m : MethodId) (meth : Method) (c : Code) (D : va_G) (cI cZ cR sb L : Nat) (xs : Nat → Int32) : Prop :=
  p.tables.exec = Jvm.exec ∧ c.code = zbs 191 ∧ c.maxLocals = zml 191 ∧ meth.sig.returnType = ret ∧ s.vm.findClass (zy 191).cls = some m.cls ∧ (∀ w ∈ zt_w0, w.before #[Value.ref sb] s = true) ∧ (∀ w ∈ zt_w1, va_Nw w s) ∧ va_AO "LoveGlass$Run" s ∧ va_K D zt_cl (zTY cI cZ cR) s ∧ va_X sb L xs s s.heap ∧ sb < s.heap.size ∧ meth.locks = false ∧ L ≤ 2560
def LW (p : Program) (l : Launch) (e : Env) (s : State) (m : MethodId) (below : List Frame) (meth : Method) (c : Code) (D : va_G) (cI cZ cR sb : Nat) (h : List zE) (lv : List (Nat × Value)) (cells slots pc : Nat) (st : List Value) : Prop :=
  ∀ (H : Heap) (locs : List Loc) (ls : Array Slot), va_P D zt_cl (zW s.heap.size cI cZ cR h) H → va_S (fun q : Nat => s.heap.size ≤ q) s.heap H locs → lv_has ls 4 lv →
    W p l e room_1 s m #[Value.ref sb] below meth c H locs cells slots (lw_Z below #[Value.ref sb] s) (F0 m pc ls (st.map (shV s.heap.size)))
def lvs (s : State) (sb : Nat) (i : Int) : List (Nat × Value) := [(0, .ref sb), (1, .ref (s.heap.size + 0)), (2, .ref (s.heap.size + 106)), (3, .int (iI i))]
section LAW
variable {p : Program} {l : Launch} {e : Env} {s : State} {m : MethodId} {below : List Frame} {meth : Method} {c : Code} {D : va_G} {cI cZ cR sb L : Nat} {xs : Nat → Int32}
variable {h : List zE} {lv : List (Nat × Value)} {cells slots pc a b w : Nat} {st : List Value} {i : Int}
theorem l_ic {n : Int} (X : LX p s m meth c D cI cZ cR sb L xs) (hc : zcode 191 pc = some (.iconst n, 1, a, b, w)) (k : LW p l e s m below meth c D cI cZ cR sb h lv cells slots (pc + 1) (.int (iI n) :: st)) : LW p l e s m below meth c D cI cZ cR sb h lv cells slots pc st := fun H locs ls hP hS hl => lv_iconst X.1 X.2.1 (zd hc) rfl (k H locs ls hP hS hl)
theorem l_bi {n : Int} (X : LX p s m meth c D cI cZ cR sb L xs) (hc : zcode 191 pc = some (.bipush n, 2, a, b, w)) (hn : (Int8.ofInt n).toInt32 = iI n) (k : LW p l e s m below meth c D cI cZ cR sb h lv cells slots (pc + 2) (.int (iI n) :: st)) : LW p l e s m below meth c D cI cZ cR sb h lv cells slots pc st := fun H locs ls hP hS hl => lv_bipush X.1 X.2.1 (zd hc) hn (k H locs ls hP hS hl)
theorem l_a1  (X : LX p s m meth c D cI cZ cR sb L xs) (hc : zcode 191 pc = some (.aload_n 1, 1, a, b, w)) (k : LW p l e s m below meth c D cI cZ cR sb h (lvs s sb i) cells slots (pc + 1) (.ref 0 :: st)) : LW p l e s m below meth c D cI cZ cR sb h (lvs s sb i) cells slots pc st := fun H locs ls hP hS hl => lv_aload_n X.1 X.2.1 (zd hc) rfl (lv_at hl 1 rfl) (k H locs ls hP hS hl)
theorem l_a2  (X : LX p s m meth c D cI cZ cR sb L xs) (hc : zcode 191 pc = some (.aload_n 2, 1, a, b, w)) (k : LW p l e s m below meth c D cI cZ cR sb h (lvs s sb i) cells slots (pc + 1) (.ref 106 :: st)) : LW p l e s m below meth c D cI cZ cR sb h (lvs s sb i) cells slots pc st := fun H locs ls hP hS hl => lv_aload_n X.1 X.2.1 (zd hc) rfl (lv_at hl 2 rfl) (k H locs ls hP hS hl)
theorem l_i3  (X : LX p s m meth c D cI cZ cR sb L xs) (hc : zcode 191 pc = some (.iload_n 3, 1, a, b, w)) (k : LW p l e s m below meth c D cI cZ cR sb h (lvs s sb i) cells slots (pc + 1) (.int (iI i) :: st)) : LW p l e s m below meth c D cI cZ cR sb h (lvs s sb i) cells slots pc st := fun H locs ls hP hS hl => lv_iload_n X.1 X.2.1 (zd hc) rfl (lv_at hl 3 rfl) (k H locs ls hP hS hl)
theorem l_add {x1 x2 : Int} (X : LX p s m meth c D cI cZ cR sb L xs) (hc : zcode 191 pc = some (.iadd, 1, a, b, w)) (k : LW p l e s m below meth c D cI cZ cR sb h lv cells slots (pc + 1) (.int (iI (x1 + x2)) :: st)) : LW p l e s m below meth c D cI cZ cR sb h lv cells slots pc (.int (iI x2) :: .int (iI x1) :: st) := fun H locs ls hP hS hl => lv_iadd X.1 X.2.1 (zd hc) (by rw [iI_add]; exact k H locs ls hP hS hl)
theorem l_sub {x1 x2 : Int} (X : LX p s m meth c D cI cZ cR sb L xs) (hc : zcode 191 pc = some (.isub, 1, a, b, w)) (k : LW p l e s m below meth c D cI cZ cR sb h lv cells slots (pc + 1) (.int (iI (x1 - x2)) :: st)) : LW p l e s m below meth c D cI cZ cR sb h lv cells slots pc (.int (iI x2) :: .int (iI x1) :: st) := fun H locs ls hP hS hl => lv_isub X.1 X.2.1 (zd hc) (by rw [iI_sub]; exact k H locs ls hP hS hl)
theorem l_and {x1 x2 : Int32} (X : LX p s m meth c D cI cZ cR sb L xs) (hc : zcode 191 pc = some (.iand, 1, a, b, w)) (k : LW p l e s m below meth c D cI cZ cR sb h lv cells slots (pc + 1) (.int (x1 &&& x2) :: st)) : LW p l e s m below meth c D cI cZ cR sb h lv cells slots pc (.int x2 :: .int x1 :: st) := fun H locs ls hP hS hl => lv_iand X.1 X.2.1 (zd hc) (k H locs ls hP hS hl)
theorem l_i2l {x1 : Int32} (X : LX p s m meth c D cI cZ cR sb L xs) (hc : zcode 191 pc = some (.i2l, 1, a, b, w)) (k : LW p l e s m below meth c D cI cZ cR sb h lv cells slots (pc + 1) (.long x1.toInt64 :: st)) : LW p l e s m below meth c D cI cZ cR sb h lv cells slots pc (.int x1 :: st) := fun H locs ls hP hS hl => lv_i2l X.1 X.2.1 (zd hc) rfl (k H locs ls hP hS hl)
theorem l_lshl {x1 : Int64} {x2 : Int32} (X : LX p s m meth c D cI cZ cR sb L xs) (hc : zcode 191 pc = some (.lshl, 1, a, b, w)) (k : LW p l e s m below meth c D cI cZ cR sb h lv cells slots (pc + 1) (.long (x1 <<< (x2.toInt64 &&& 63)) :: st)) : LW p l e s m below meth c D cI cZ cR sb h lv cells slots pc (.int x2 :: .long x1 :: st) := fun H locs ls hP hS hl => lv_lshl X.1 X.2.1 (zd hc) rfl (k H locs ls hP hS hl)
theorem l_land {x1 x2 : Int64} (X : LX p s m meth c D cI cZ cR sb L xs) (hc : zcode 191 pc = some (.land, 1, a, b, w)) (k : LW p l e s m below meth c D cI cZ cR sb h lv cells slots (pc + 1) (.long (x1 &&& x2) :: st)) : LW p l e s m below meth c D cI cZ cR sb h lv cells slots pc (.long x2 :: .long x1 :: st) := fun H locs ls hP hS hl => lv_land X.1 X.2.1 (zd hc) (k H locs ls hP hS hl)
theorem l_lor {x1 x2 : Int64} (X : LX p s m meth c D cI cZ cR sb L xs) (hc : zcode 191 pc = some (.lor, 1, a, b, w)) (k : LW p l e s m below meth c D cI cZ cR sb h lv cells slots (pc + 1) (.long (x1 ||| x2) :: st)) : LW p l e s m below meth c D cI cZ cR sb h lv cells slots pc (.long x2 :: .long x1 :: st) := fun H locs ls hP hS hl => lv_lor X.1 X.2.1 (zd hc) (k H locs ls hP hS hl)
theorem l_ldc2 {q : Nat} (X : LX p s m meth c D cI cZ cR sb L xs) (hc : zcode 191 pc = some (.ldc2_w q, 3, a, b, w)) (k : LW p l e s m below meth c D cI cZ cR sb h lv cells slots (pc + 3) (.long (Int64.ofNat a) :: st)) : LW p l e s m below meth c D cI cZ cR sb h lv cells slots pc st := fun H locs ls hP hS hl => lv_ldc2 X.1 X.2.1 X.2.2.2.2.1 (X.2.2.2.2.2.1 _ (zwd_mem (zcode_law hc).2)) (zd hc) (k H locs ls hP hS hl)
theorem l_lcmp {x1 : Int64} (X : LX p s m meth c D cI cZ cR sb L xs) (hc : zcode 191 pc = some (.lcmp, 1, a, b, w)) (k : LW p l e s m below meth c D cI cZ cR sb h lv cells slots (pc + 1) (.int (iI 0) :: st)) : LW p l e s m below meth c D cI cZ cR sb h lv cells slots pc (.long x1 :: .long x1 :: st) := fun H locs ls hP hS hl => W.lcmp X.1 X.2.1 (zd hc) (by rw [show lg_cmp x1 x1 = iI 0 by simp [lg_cmp]; rfl]; exact k H locs ls hP hS hl)
theorem l_dup {v : Value} (X : LX p s m meth c D cI cZ cR sb L xs) (hc : zcode 191 pc = some (.dup, 1, a, b, w)) (hv : v.category = 1) (k : LW p l e s m below meth c D cI cZ cR sb h lv cells slots (pc + 1) (v :: v :: st)) : LW p l e s m below meth c D cI cZ cR sb h lv cells slots pc (v :: st) := fun H locs ls hP hS hl => lv_dup X.1 X.2.1 (zd hc) (by rw [shV_cat]; exact hv) (k H locs ls hP hS hl)
theorem l_goto {off : Int} {t : Nat} (X : LX p s m meth c D cI cZ cR sb L xs) (hc : zcode 191 pc = some (.goto off, 3, a, b, w)) (ht : (pc : Int) + off = (t : Int)) (k : LW p l e s m below meth c D cI cZ cR sb h lv cells slots t st) : LW p l e s m below meth c D cI cZ cR sb h lv cells slots pc st := fun H locs ls hP hS hl => lv_goto X.1 X.2.1 (zd hc) ht (k H locs ls hP hS hl)
theorem l_eq {off : Int} {t : Nat} {x1 : Int32} (X : LX p s m meth c D cI cZ cR sb L xs) (hc : zcode 191 pc = some (.if_icmp .eq off, 3, a, b, w)) (ht : (pc : Int) + off = (t : Int)) (k : LW p l e s m below meth c D cI cZ cR sb h lv cells slots t st) : LW p l e s m below meth c D cI cZ cR sb h lv cells slots pc (.int x1 :: .int x1 :: st) := fun H locs ls hP hS hl => lv_icmp_eq X.1 X.2.1 (zd hc) ht (fun _ => k H locs ls hP hS hl) (fun h => absurd rfl h)
theorem l_z0 {off : Int} {t : Nat} (X : LX p s m meth c D cI cZ cR sb L xs) (hc : zcode 191 pc = some (.ifCond .eq off, 3, a, b, w)) (ht : (pc : Int) + off = (t : Int)) (k : LW p l e s m below meth c D cI cZ cR sb h lv cells slots t st) : LW p l e s m below meth c D cI cZ cR sb h lv cells slots pc (.int (iI 0) :: st) := fun H locs ls hP hS hl => lv_if_eq X.1 X.2.1 (zd hc) ht (fun _ => k H locs ls hP hS hl) (fun h => absurd rfl h)
theorem l_zb {off : Int} {t : Nat} {z : Int} (X : LX p s m meth c D cI cZ cR sb L xs) (hc : zcode 191 pc = some (.ifCond .eq off, 3, a, b, w)) (hz : wR z) (ht : (pc : Int) + off = (t : Int)) (k0 : z = 0 → LW p l e s m below meth c D cI cZ cR sb h lv cells slots t st) (k1 : ¬ z = 0 → LW p l e s m below meth c D cI cZ cR sb h lv cells slots (pc + 3) st) : LW p l e s m below meth c D cI cZ cR sb h lv cells slots pc (.int (iI z) :: st) := fun H locs ls hP hS hl => lv_if_eq X.1 X.2.1 (zd hc) ht (fun h => k0 ((iI_eq hz (by decide)).mp h) H locs ls hP hS hl) (fun h => k1 (fun g => h (by rw [g]; rfl)) H locs ls hP hS hl)
/-- the script at the place of local variable 3 and n more -/
theorem l_rd {n : Int} {z : Int} {a1 b1 w1 a2 b2 w2 a3 b3 w3 a4 b4 w4 : Nat} (X : LX p s m meth c D cI cZ cR sb L xs) (hc : zcode 191 pc = some (.aload_n 0, 1, a, b, w)) (hc1 : zcode 191 (pc + 1) = some (.iload_n 3, 1, a1, b1, w1)) (hc2 : zcode 191 (pc + 1 + 1) = some (.iconst n, 1, a2, b2, w2)) (hc3 : zcode 191 (pc + 1 + 1 + 1) = some (.iadd, 1, a3, b3, w3)) (hc4 : zcode 191 (pc + 1 + 1 + 1 + 1) = some (.iaload, 1, a4, b4, w4))
    (h0 : 0 ≤ i + n) (h1 : i + n < L) (hz : xs (i + n).toNat = iI z) (k : LW p l e s m below meth c D cI cZ cR sb h (lvs s sb i) cells slots (pc + 1 + 1 + 1 + 1 + 1) (.int (iI z) :: st)) : LW p l e s m below meth c D cI cZ cR sb h (lvs s sb i) cells slots pc st := fun H locs ls hP hS hl => by
  obtain ⟨hx, hb, hml, hr, hown, hts, hnw, hao, hK, hX, hbl, hlk, hL⟩ := id X
  have hR : wR (i + n) := ⟨by omega, by omega⟩
  refine lv_aload_n hx hb (zd hc) rfl (lv_at hl 0 rfl) ?_
  refine lv_iload_n hx hb (zd hc1) rfl (lv_at hl 3 rfl) ?_
  refine lv_iconst hx hb (zd hc2) rfl ?_
  refine lv_iadd hx hb (zd hc3) ?_
  rw [show iI i + Int32.ofInt n = iI (i + n) from iI_add i n]
  refine va_sld hx hb hX hbl (Nat.not_le.mpr hbl) hS (zin_vp (iI_zin h0 h1 hR)) (zd hc4) ?_
  rw [iI_clamp h0 hR, hz]
  exact k H locs ls hP hS hl
theorem l_rd0 {z : Int} {a1 b1 w1 a4 b4 w4 : Nat} (X : LX p s m meth c D cI cZ cR sb L xs) (hc : zcode 191 pc = some (.aload_n 0, 1, a, b, w)) (hc1 : zcode 191 (pc + 1) = some (.iload_n 3, 1, a1, b1, w1)) (hc4 : zcode 191 (pc + 1 + 1) = some (.iaload, 1, a4, b4, w4))
    (h0 : 0 ≤ i) (h1 : i < L) (hz : xs i.toNat = iI z) (k : LW p l e s m below meth c D cI cZ cR sb h (lvs s sb i) cells slots (pc + 1 + 1 + 1) (.int (iI z) :: st)) : LW p l e s m below meth c D cI cZ cR sb h (lvs s sb i) cells slots pc st := fun H locs ls hP hS hl => by
  obtain ⟨hx, hb, hml, hr, hown, hts, hnw, hao, hK, hX, hbl, hlk, hL⟩ := id X
  have hR : wR i := ⟨by omega, by omega⟩
  refine lv_aload_n hx hb (zd hc) rfl (lv_at hl 0 rfl) ?_
  refine lv_iload_n hx hb (zd hc1) rfl (lv_at hl 3 rfl) ?_
  refine va_sld hx hb hX hbl (Nat.not_le.mpr hbl) hS (zin_vp (iI_zin h0 h1 hR)) (zd hc4) ?_
  rw [iI_clamp h0 hR, hz]
  exact k H locs ls hP hS hl
theorem l_len {a1 b1 w1 : Nat} (X : LX p s m meth c D cI cZ cR sb L xs) (hc : zcode 191 pc = some (.aload_n 0, 1, a, b, w)) (hc1 : zcode 191 (pc + 1) = some (.arraylength, 1, a1, b1, w1)) (k : LW p l e s m below meth c D cI cZ cR sb h (lvs s sb i) cells slots (pc + 1 + 1) (.int (iI (L : Int)) :: st)) : LW p l e s m below meth c D cI cZ cR sb h (lvs s sb i) cells slots pc st := fun H locs ls hP hS hl => by
  obtain ⟨hx, hb, hml, hr, hown, hts, hnw, hao, hK, hX, hbl, hlk, hL⟩ := id X
  refine lv_aload_n hx hb (zd hc) rfl (lv_at hl 0 rfl) ?_
  refine va_slen hx hb hX hbl (Nat.not_le.mpr hbl) hS (zd hc1) ?_
  rw [show Int32.ofNat L = iI (L : Int) from (iI_nat L).symm]
  exact k H locs ls hP hS hl
/-- a boolean out of the script -/
theorem l_rdb {n z : Int} {a1 b1 w1 a2 b2 w2 a3 b3 w3 a4 b4 w4 a5 b5 w5 a6 b6 w6 a7 b7 w7 a8 b8 w8 : Nat} (X : LX p s m meth c D cI cZ cR sb L xs) (hc : zcode 191 pc = some (.aload_n 0, 1, a, b, w)) (hc1 : zcode 191 (pc + 1) = some (.iload_n 3, 1, a1, b1, w1)) (hc2 : zcode 191 (pc + 1 + 1) = some (.iconst n, 1, a2, b2, w2)) (hc3 : zcode 191 (pc + 1 + 1 + 1) = some (.iadd, 1, a3, b3, w3)) (hc4 : zcode 191 (pc + 1 + 1 + 1 + 1) = some (.iaload, 1, a4, b4, w4))
    (hc5 : zcode 191 (pc + 1 + 1 + 1 + 1 + 1) = some (.ifCond .eq 7, 3, a5, b5, w5)) (hc6 : zcode 191 (pc + 1 + 1 + 1 + 1 + 1 + 3) = some (.iconst 1, 1, a6, b6, w6)) (hc7 : zcode 191 (pc + 1 + 1 + 1 + 1 + 1 + 3 + 1) = some (.goto 4, 3, a7, b7, w7)) (hc8 : zcode 191 (pc + 12) = some (.iconst 0, 1, a8, b8, w8))
    (h0 : 0 ≤ i + n) (h1 : i + n < L) (hz : xs (i + n).toNat = iI z) (hw : wR z) (k : LW p l e s m below meth c D cI cZ cR sb h (lvs s sb i) cells slots (pc + 13) (.int (iI (if z = 0 then 0 else 1)) :: st)) : LW p l e s m below meth c D cI cZ cR sb h (lvs s sb i) cells slots pc st := by
  refine l_rd X hc hc1 hc2 hc3 hc4 h0 h1 hz ?_
  refine l_zb X (t := pc + 12) hc5 hw (by omega) (fun hz0 => ?_) (fun hz0 => ?_)
  · rw [if_pos hz0] at k
    exact l_ic X hc8 k
  · rw [if_neg hz0] at k
    refine l_ic X hc6 ?_
    exact l_goto X (t := pc + 13) hc7 (by omega) k
/-- a call out of the law -/
theorem l_call {idx n v1 : Nat} {ins : Instr} {av rest : List Value} {v : Option Value} {h1 : List zE} (X : LX p s m meth c D cI cZ cR sb L xs) (hc : zcode 191 pc = some (ins, 3, a, 0, w)) (hins : (ins = .invokevirtual idx ∧ ¬ (zy a).name = "<init>") ∨ (ins = .invokespecial idx ∧ (zy a).name = "<init>"))
    (hlen : av.length = znp a) (hal : (zargs av).length ≤ zml a) (hcat : zcats rest ≤ 8) (hrv : zrecv a h av = true) (hrun : zrun n a h 0 (zent a av) [] = some (v, h1)) (heq : s.heap.size + cells = s.heap.size + h.length) (hcells : cells + (h1.length - h.length) ≤ 600000) (hslots : slots + (zsz h1 - zsz h) ≤ 7302250)
    (k : LW p l e s m below meth c D cI cZ cR sb h1 lv (cells + (h1.length - h.length)) (slots + (zsz h1 - zsz h)) (pc + 3) (zpu v rest)) : LW p l e s m below meth c D cI cZ cR sb h lv cells slots pc (av.reverse ++ rest) := fun H locs ls hP hS hl => by
  obtain ⟨hx, hb, hml, hr, hown, hts, hnw, hao, hK, hX, hbl, hlk, hL⟩ := id X
  obtain ⟨hdg, hok⟩ := zcode_law hc
  have hok2 : a < 191 ∧ zsta a = false ∧ zfr a + 1 ≤ zfr 191 ∧ 8 + (zml a + 11) + zlo a ≤ zlo 191 ∧ zwd w (.methodLink (zy 191).cls idx (zy a)) = true ∧ ((ins = .invokespecial idx) → zrt a = none) := by
    rcases hins with ⟨rfl, hn⟩ | ⟨rfl, hn⟩
    · simp only [zokI, Bool.and_eq_true, Nat.ble_eq, decide_eq_true_eq, Bool.not_eq_true'] at hok
      exact ⟨by omega, hok.1.1.1.1.2, hok.1.1.2, hok.1.2, hok.2, fun h => by cases h⟩
    · have hb2 : Nat.beq 0 2 = false := rfl
      simp only [zokI, hb2, cond_false, Bool.and_eq_true, Nat.ble_eq, decide_eq_true_eq, Bool.not_eq_true'] at hok
      exact ⟨by omega, hok.1.1.1.1.1.2, hok.1.1.2, hok.1.2, hok.2, fun _ => hok.1.1.1.2⟩
  obtain ⟨ha, hs, hfrr, hloo, hlnk, hret⟩ := hok2
  refine zW_size (fun hsz => ?_)
  have hsz2 := zsize (b := s.heap.size) hP hS heq (Nat.le_refl _) hsz
  have hW8 : 2 * (F0 m pc ls ((av.reverse ++ rest).map (shV s.heap.size))).monitorRoom + ((rest.map (shV s.heap.size)).map fun v => v.category).sum ≤ 8 := lv_room (by rw [shV_cats]; exact hcat)
  have hPc : ∀ U : State, U.heap = H → s.WarmedH U.vm → zPc s.heap.size D cI cZ cR h av (av.map (shV s.heap.size)).toArray U := fun U hU hW => ⟨rfl, by rw [hU]; exact hP, va_K.moved hW.alike hK, fun w hw => zN_warm hw hW (hnw w hw), va_AO.moved hW.alike hao, by rw [hU]; exact hsz2⟩
  have kk : ∀ (H1 : Heap) (locs1 : List Loc), va_P D zt_cl (zW s.heap.size cI cZ cR h1) H1 → va_S (fun q : Nat => s.heap.size ≤ q) s.heap H1 locs1 → W p l e room_1 s m #[Value.ref sb] below meth c H1 locs1 (cells + (h1.length - h.length)) (slots + (zsz h1 - zsz h)) (lw_Z below #[Value.ref sb] s) (F0 m (pc + 3) ls ((v.map (shV s.heap.size)).toList ++ rest.map (shV s.heap.size))) := fun H1 locs1 hP1 hS1 => by
    have k2 := k H1 locs1 ls hP1 hS1 hl
    rw [zpu_map] at k2
    exact k2
  obtain ⟨-, hnn, hcw, hiw, hpar, hsw, hvw, -⟩ := zok_M ha
  have hM := zmet (zrun_sound l n) ha hrun hal D cI cZ cR s.heap.size
  have hpar2 : ∀ sig, parseMethodDescriptor (zy a).desc = some sig → (bif zsta a then znp a else znp a - 1) = sig.parameters.length := fun sig hsig => by
    rw [hsig] at hpar
    exact (Option.some.inj hpar).symm
  have hG : GoodIn zt_w0 (zws a) := zgood (fun w hw => by
    rcases List.mem_cons.mp hw with rfl | hw
    · exact hcw
    · exact hw)
  have hfr8 : zfr 191 ≤ room_1.frames := Nat.le_of_ble_eq_true rfl
  have hlo8 : zlo 191 ≤ room_1.locals := Nat.le_of_ble_eq_true rfl
  have hB6 : (h1.length - h.length = h1.length - h.length ∧ zsz h1 - zsz h = zsz h1 - zsz h ∧ zfr a + 1 ≤ room_1.frames ∧ 8 + (zml a + 11) + zlo a ≤ room_1.locals ∧ (∀ w ∈ zws a, ∀ (a' : Array Value) (U : State), s.WarmedH U.vm → w.before a' U = true) ∧ Jvm.Cond.code (zy a) (zbs a) (zml a) (zrt a) ∈ zws a) :=
    ⟨rfl, rfl, by omega, by omega, pay_in hts hG, List.mem_cons_self⟩
  have hroom : cells + (h1.length - h.length) ≤ room_1.cells ∧ slots + (zsz h1 - zsz h) ≤ room_1.slots := ⟨hcells, hslots⟩
  have SF : CallFix p m c (zbs 191) (zml 191) s #[Value.ref sb] zt_w0 (zy 191).cls := ⟨hx, hb, hml, hown, hts⟩
  obtain ⟨hiw2, hnp, hmc, hmcn, hsel⟩ := hvw hs
  simp only [zrecv, hs, Bool.false_or] at hrv
  split at hrv
  · rename_i o t
    split at hrv
    · rename_i ci fs hcell
      have hci := Nat.eq_of_beq_eq_true hrv
      subst hci
      have hstk : (F0 m pc ls (((Value.ref o :: t).reverse ++ rest).map (shV s.heap.size))).stack = (t.map (shV s.heap.size)).reverse ++ .ref (s.heap.size + o) :: rest.map (shV s.heap.size) := by
        show ((Value.ref o :: t).reverse ++ rest).map (shV s.heap.size) = _
        simp [shV]
      have hnA : (t.map (shV s.heap.size)).length = (bif zsta a then znp a else znp a - 1) := by
        rw [List.length_map, hs]
        simp only [List.length_cons] at hlen
        show t.length = znp a - 1
        omega
      have hrv2 := va_recv (q0 := o) hK hP (zcd_get hmc) (zW_get hcell)
      rw [hmcn] at hrv2
      rcases hins with ⟨rfl, hni⟩ | ⟨rfl, hni⟩
      · exact zcallW (va_runV (As := t.map (shV s.heap.size)) SF hM ⟨⟨hB6.1, hB6.2.1, hB6.2.2.1, hB6.2.2.2.1, hB6.2.2.2.2.1, hB6.2.2.2.2.2, hts _ hcw, hts _ hiw, hnn, hpar2, hts _ (zwd_mem hlnk)⟩, hts _ hiw2, hts _ (hsel hni)⟩ ⟨zPc_blind s.heap.size D cI cZ cR h _, hrv2, hPc⟩ rfl hnA hl.1 hstk hW8 hdg hroom) hS kk
      · have hno := hret rfl
        unfold zws at hM hB6
        rw [hno] at hM hB6 hcw
        exact zcallW (va_runI (As := t.map (shV s.heap.size)) SF hM ⟨⟨hB6.1, hB6.2.1, hB6.2.2.1, hB6.2.2.2.1, hB6.2.2.2.2.1, hB6.2.2.2.2.2, hts _ hcw, hts _ hiw, hnn, hpar2, hts _ (zwd_mem hlnk)⟩, hni, hts _ hiw2⟩ ⟨zPc_blind s.heap.size D cI cZ cR h _, hPc⟩ rfl hnA hl.1 hstk hW8 hdg hroom) hS kk
    · cases hrv
  · cases hrv
/-- new -/
theorem l_new {idx : Nat} (X : LX p s m meth c D cI cZ cR sb L xs) (hc : zcode 191 pc = some (.new idx, 3, a, b, w)) (heq : s.heap.size + cells = s.heap.size + h.length) (hcells : cells + 1 ≤ 600000) (hslots : slots + (zcd a).2.2 ≤ 7302250)
    (k : LW p l e s m below meth c D cI cZ cR sb (h ++ [.inr (.inr (a, zdf a))]) lv (cells + 1) (slots + (zcd a).2.2) (pc + 3) (.ref h.length :: st)) : LW p l e s m below meth c D cI cZ cR sb h lv cells slots pc st := fun H locs ls hP hS hl => by
  obtain ⟨hx, hb, hml, hr, hown, hts, hnw, hao, hK, hX, hbl, hlk, hL⟩ := id X
  obtain ⟨hdg, hok⟩ := zcode_law hc
  simp only [zokI, Bool.and_eq_true, Nat.ble_eq] at hok
  obtain ⟨ha, hw⟩ := hok
  obtain ⟨hi1, hi2, hi3⟩ := zcd_ins ha
  obtain ⟨hd1, hd2⟩ := zdf_ok ha s.heap.size
  refine va_new (D := D) (C := (zcd a).1) (T := (zcd a).2.1) (N := (zcd a).2.2) (fs := zdf a) hx hb hts (zcd_in ha) (zcY a) (zcd_ty ha) hown (hts _ (zwd_mem hw)) (hts _ hi1) (hts _ hi2) hK hP (zW_D s.heap.size cI cZ cR h) hS (fun q hq => hq) (zcd_get ha) hd2 hcells hslots hdg (fun q H1 hP1 hD1 hS1 => ?_)
  refine zW_size (fun hsz1 => ?_)
  obtain rfl := zlast hP1 hD1 (by omega)
  refine k H1 locs ls ?_ hS1 hl
  rw [← zW_push]
  show va_P D zt_cl (zW s.heap.size cI cZ cR h ++ [(s.heap.size + h.length, .inr (a, (zdf a).map (shV s.heap.size)))]) H1
  rw [hd1]
  exact hP1
theorem wW_len (x : wC) (M : wM) : (wW x M).length = 127 := by
  unfold wW
  rw [List.length_mapIdx]
  decide +kernel
theorem wE_sz (x : wC) (M : wM) (a : Nat) (s : Nat × Nat × List Nat) : zsz1 (wE x M a s) = if s.1 < 3 then s.2.1 else s.2.2.length := by
  obtain ⟨t, n, q⟩ := s
  match t with
  | 0 => rfl
  | 1 => rfl
  | 2 => rfl
  | t + 3 => rw [if_neg (by simp)]; simp [wE, zsz1]
theorem wW_szm (x : wC) (M : wM) : (wW x M).map zsz1 = wsh.map (fun s => if s.1 < 3 then s.2.1 else s.2.2.length) := by
  apply List.ext_getElem?
  intro j
  rw [List.getElem?_map, List.getElem?_map]
  unfold wW
  rw [List.getElem?_mapIdx, Option.map_map]
  generalize wsh[j]? = o
  cases o with
  | none => rfl
  | some q => exact congrArg some (wE_sz x M j q)
theorem wW_sz (x x' : wC) (M M' : wM) : zsz (wW x M) = zsz (wW x' M') := by
  unfold zsz
  rw [wW_szm x M, wW_szm x' M']
/-- a call of a method that the walk of its rows tells -/
theorem l_cl {idx : Nat} {x : wC} {M : wM} {av rest : List Value} (Qy : Option Value → wC → wM → Prop) (X : LX p s m meth c D cI cZ cR sb L xs) (hc : zcode 191 pc = some (.invokevirtual idx, 3, a, 0, w)) (hni : ¬ (zy a).name = "<init>")
    (hlen : av.length = znp a) (hal : (zargs av).length ≤ zml a) (hcat : zcats rest ≤ 8) (hrv : zrecv a (wW x M) av = true) (hM : wRM M) (hsl : slots ≤ 7302250) (hy : yG x M a 0 (zent a av) [] Qy)
    (k : ∀ (v : Option Value) (x' : wC) (M' : wM), wRM M' → Qy v x' M' → LW p l e s m below meth c D cI cZ cR sb (wW x' M') lv 127 slots (pc + 3) (zpu v rest)) : LW p l e s m below meth c D cI cZ cR sb (wW x M) lv 127 slots pc (av.reverse ++ rest) := by
  obtain ⟨n, v, x', M', hrun, hM', hq⟩ := hy hM
  have k2 := k v x' M' hM' hq
  have e1 : 127 + ((wW x' M').length - (wW x M).length) = 127 := by rw [wW_len, wW_len]
  have e2 : slots + (zsz (wW x' M') - zsz (wW x M)) = slots := by rw [wW_sz x' x M' M]; omega
  refine l_call (v1 := 0) X hc (Or.inl ⟨rfl, hni⟩) hlen hal hcat hrv hrun (by rw [wW_len]) (by rw [e1]; exact Nat.le_of_ble_eq_true rfl) (by rw [e2]; exact hsl) ?_
  rw [e1, e2]
  exact k2
end LAW
