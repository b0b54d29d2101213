/-! ===== a small machine over abstract cells: addresses are places in a list; what it does, the machine does (part 03) ===== -/
abbrev zU : Value := .retAddr 0
abbrev zE : Type := (Nat × Nat × (Nat → Int32)) ⊕ ((Nat × (Nat → Option Nat)) ⊕ (Nat × List Value))
def zy (mi : Nat) : MethodName := zt_ys.getD mi ⟨"", "", ""⟩
def zbs (mi : Nat) : ByteArray := zt_bs.getD mi ⟨#[]⟩
def zml (mi : Nat) : Nat := zt_ml.getD mi 0
def zrt (mi : Nat) : Option FieldType := zt_rt.getD mi none
def zrk (mi : Nat) : Nat := zt_rk.getD mi 0
def znp (mi : Nat) : Nat := zt_np.getD mi 0
def zsta (mi : Nat) : Bool := zt_st.getD mi false
def zmc (mi : Nat) : Nat := zt_mc.getD mi 100
def zfr (mi : Nat) : Nat := zt_fr.getD mi 0
def zlo (mi : Nat) : Nat := zt_lo.getD mi 0
def zcd (ci : Nat) : vw_C := zt_cl.getD ci ("", zt_T0, 0)
def zcY (ci : Nat) : Nat → FieldType := [zt_Y0, zt_Y1, zt_Y2, zt_Y3, zt_Y4, zt_Y5, zt_Y6, zt_Y7, zt_Y8].getD ci zt_Y0
def zdf (ci : Nat) : List Value := zt_df.getD ci []
def zlk : List (Nat × zI) → Nat → Option zI
  | [], _ => none
  | (p, e) :: t, q => bif Nat.beq p q then some e else zlk t q
def zcode (mi pc : Nat) : Option zI := zlk (zt_cs.getD mi []) pc
def zin (i : Int32) (n : Nat) : Bool := decide (0 ≤ i.toInt) && decide (i.toInt < n)
def zcats (st : List Value) : Nat := (st.map fun v => v.category).sum
def zargs : List Value → List Value
  | [] => []
  | v :: t => if v.category = 2 then v :: zU :: zargs t else v :: zargs t
def zpad (n : Nat) (l : List Value) : List Value := l ++ List.replicate (n - l.length) zU
def zent (mi : Nat) (av : List Value) : List Value := zpad (zml mi) (zargs av)
def zpu (v : Option Value) (st : List Value) : List Value := match v with
  | none => st
  | some v => v :: st
/-- the place before i holds no long -/
def zpre (l : List Value) (i : Nat) : Bool := match i with
  | 0 => true
  | i + 1 => match l[i]? with
    | some (.long _) => false
    | some (.double _) => false
    | _ => true
def zsto1 (l : List Value) (i : Nat) (v : Value) : Option (List Value) := if i < l.length ∧ zpre l i = true then some (l.set i v) else none
def zsto2 (l : List Value) (i : Nat) (v : Value) : Option (List Value) := if i + 1 < l.length ∧ zpre l i = true then some ((l.set i v).set (i + 1) zU) else none
def zcnd : ClassFile.Cond → Int32 → Int32 → Bool
  | .eq, x, y => decide (x = y)
  | .ne, x, y => !decide (x = y)
  | .lt, x, y => decide (x < y)
  | .ge, x, y => decide (y ≤ x)
  | .gt, x, y => decide (y < x)
  | .le, x, y => decide (x ≤ y)
def zjmp (pc : Nat) (off : Int) : Option Nat := if 0 ≤ (pc : Int) + off then some ((pc : Int) + off).toNat else none
def zst (i : Instr) (a b pc : Nat) (h : List zE) (l st : List Value) : Option (List zE × Nat × List Value × List Value) :=
  match i with
  | .iconst n => some (h, pc + 1, l, .int (Int32.ofInt n) :: st)
  | .bipush n => some (h, pc + 2, l, .int (Int8.ofInt n).toInt32 :: st)
  | .sipush n => some (h, pc + 3, l, .int (Int16.ofInt n).toInt32 :: st)
  | .lconst n => some (h, pc + 1, l, .long (Int64.ofNat (n : Nat)) :: st)
  | .ldc_w _ => some (h, pc + 3, l, .int (Int32.ofNat a) :: st)
  | .ldc2_w _ => some (h, pc + 3, l, .long (Int64.ofNat a) :: st)
  | .aconst_null => some (h, pc + 1, l, .null :: st)
  | .iload_n k => match l[(k : Nat)]? with
    | some (.int x) => some (h, pc + 1, l, .int x :: st)
    | _ => none
  | .iload k => match l[k]? with
    | some (.int x) => some (h, pc + 2, l, .int x :: st)
    | _ => none
  | .lload_n k => match l[(k : Nat)]? with
    | some (.long x) => some (h, pc + 1, l, .long x :: st)
    | _ => none
  | .lload k => match l[k]? with
    | some (.long x) => some (h, pc + 2, l, .long x :: st)
    | _ => none
  | .aload_n k => match l[(k : Nat)]? with
    | some (.ref x) => some (h, pc + 1, l, .ref x :: st)
    | some .null => some (h, pc + 1, l, .null :: st)
    | _ => none
  | .aload k => match l[k]? with
    | some (.ref x) => some (h, pc + 2, l, .ref x :: st)
    | some .null => some (h, pc + 2, l, .null :: st)
    | _ => none
  | .istore_n k => match st with
    | .int x :: r => match zsto1 l (k : Nat) (.int x) with
      | some l1 => some (h, pc + 1, l1, r)
      | none => none
    | _ => none
  | .istore k => match st with
    | .int x :: r => match zsto1 l k (.int x) with
      | some l1 => some (h, pc + 2, l1, r)
      | none => none
    | _ => none
  | .lstore_n k => match st with
    | .long x :: r => match zsto2 l (k : Nat) (.long x) with
      | some l1 => some (h, pc + 1, l1, r)
      | none => none
    | _ => none
  | .astore_n k => match st with
    | .ref x :: r => match zsto1 l (k : Nat) (.ref x) with
      | some l1 => some (h, pc + 1, l1, r)
      | none => none
    | .null :: r => match zsto1 l (k : Nat) .null with
      | some l1 => some (h, pc + 1, l1, r)
      | none => none
    | _ => none
  | .astore k => match st with
    | .ref x :: r => match zsto1 l k (.ref x) with
      | some l1 => some (h, pc + 2, l1, r)
      | none => none
    | .null :: r => match zsto1 l k .null with
      | some l1 => some (h, pc + 2, l1, r)
      | none => none
    | _ => none
  | .iinc k n => match l[k]? with
    | some (.int x) => match zsto1 l k (.int (x + Int32.ofInt n)) with
      | some l1 => some (h, pc + 3, l1, st)
      | none => none
    | _ => none
  | .iadd => match st with
    | .int y :: .int x :: r => some (h, pc + 1, l, .int (x + y) :: r)
    | _ => none
  | .isub => match st with
    | .int y :: .int x :: r => some (h, pc + 1, l, .int (x - y) :: r)
    | _ => none
  | .imul => match st with
    | .int y :: .int x :: r => some (h, pc + 1, l, .int (x * y) :: r)
    | _ => none
  | .idiv => match st with
    | .int y :: .int x :: r => if y = 0 then none else some (h, pc + 1, l, .int (x / y) :: r)
    | _ => none
  | .irem => match st with
    | .int y :: .int x :: r => if y = 0 then none else some (h, pc + 1, l, .int (x - x / y * y) :: r)
    | _ => none
  | .ineg => match st with
    | .int x :: r => some (h, pc + 1, l, .int (-x) :: r)
    | _ => none
  | .ior => match st with
    | .int y :: .int x :: r => some (h, pc + 1, l, .int (x ||| y) :: r)
    | _ => none
  | .iand => match st with
    | .int y :: .int x :: r => some (h, pc + 1, l, .int (x &&& y) :: r)
    | _ => none
  | .ixor => match st with
    | .int y :: .int x :: r => some (h, pc + 1, l, .int (x ^^^ y) :: r)
    | _ => none
  | .ishl => match st with
    | .int y :: .int x :: r => some (h, pc + 1, l, .int (x <<< (y &&& 31)) :: r)
    | _ => none
  | .ishr => match st with
    | .int y :: .int x :: r => some (h, pc + 1, l, .int (x >>> (y &&& 31)) :: r)
    | _ => none
  | .iushr => match st with
    | .int y :: .int x :: r => some (h, pc + 1, l, .int (x.toUInt32 >>> (y.toUInt32 &&& Int32.toUInt32 31)).toInt32 :: r)
    | _ => none
  | .lushr => match st with
    | .int y :: .long x :: r => some (h, pc + 1, l, .long (x.toUInt64 >>> (y.toInt64.toUInt64 &&& Int64.toUInt64 63)).toInt64 :: r)
    | _ => none
  | .lshl => match st with
    | .int y :: .long x :: r => some (h, pc + 1, l, .long (x <<< (y.toInt64 &&& 63)) :: r)
    | _ => none
  | .land => match st with
    | .long y :: .long x :: r => some (h, pc + 1, l, .long (x &&& y) :: r)
    | _ => none
  | .lor => match st with
    | .long y :: .long x :: r => some (h, pc + 1, l, .long (x ||| y) :: r)
    | _ => none
  | .lmul => match st with
    | .long y :: .long x :: r => some (h, pc + 1, l, .long (x * y) :: r)
    | _ => none
  | .ladd => match st with
    | .long y :: .long x :: r => some (h, pc + 1, l, .long (x + y) :: r)
    | _ => none
  | .lrem => match st with
    | .long y :: .long x :: r => if y = 0 then none else some (h, pc + 1, l, .long (x - x / y * y) :: r)
    | _ => none
  | .lcmp => match st with
    | .long y :: .long x :: r => some (h, pc + 1, l, .int (lg_cmp x y) :: r)
    | _ => none
  | .i2l => match st with
    | .int x :: r => some (h, pc + 1, l, .long x.toInt64 :: r)
    | _ => none
  | .l2i => match st with
    | .long x :: r => some (h, pc + 1, l, .int x.toInt32 :: r)
    | _ => none
  | .dup => match st with
    | v :: r => if v.category = 1 then some (h, pc + 1, l, v :: v :: r) else none
    | _ => none
  | .dup2 => match st with
    | v :: w :: r => if v.category = 1 ∧ w.category = 1 then some (h, pc + 1, l, v :: w :: v :: w :: r) else none
    | _ => none
  | .pop => match st with
    | v :: r => if v.category = 1 then some (h, pc + 1, l, r) else none
    | _ => none
  | .goto _ => some (h, a, l, st)
  | .if_icmp q _ => match st with
    | .int y :: .int x :: r => some (h, if zcnd q x y = true then a else pc + 3, l, r)
    | _ => none
  | .ifCond q _ => match st with
    | .int x :: r => some (h, if zcnd q x 0 = true then a else pc + 3, l, r)
    | _ => none
  | .ifnull _ => match st with
    | .ref _ :: r => some (h, pc + 3, l, r)
    | .null :: r => some (h, a, l, r)
    | _ => none
  | .ifnonnull _ => match st with
    | .ref _ :: r => some (h, a, l, r)
    | .null :: r => some (h, pc + 3, l, r)
    | _ => none
  | .tableswitch d lo hi offs => match st with
    | .int x :: r => if x.toInt < lo ∨ hi < x.toInt then
        match zjmp pc d with
        | some t => some (h, t, l, r)
        | none => none
      else match offs[(x.toInt - lo).toNat]? with
        | some o => match zjmp pc o with
          | some t => some (h, t, l, r)
          | none => none
        | none => none
    | _ => none
  | .lookupswitch d ps => match st with
    | .int x :: r => match zjmp pc (Op.lookupswitch.offset ps.toList d x.toInt) with
      | some t => some (h, t, l, r)
      | none => none
    | _ => none
  | .getfield _ => match st with
    | .ref o :: r => match h[o]? with
      | some (.inr (.inr (ci, fs))) => if ci = a then
          match fs[b]? with
          | some v => some (h, pc + 3, l, v :: r)
          | none => none
        else none
      | _ => none
    | _ => none
  | .putfield _ => match st with
    | v :: .ref o :: r => match h[o]? with
      | some (.inr (.inr (ci, fs))) => if ci = a ∧ b < fs.length ∧ narrow (zcY a b) v = v ∧ fits (zcY a b) v = true then
          some (h.set o (.inr (.inr (ci, fs.set b v))), pc + 3, l, r)
        else none
      | _ => none
    | _ => none
  | .new _ => some (h ++ [.inr (.inr (a, zdf a))], pc + 3, l, .ref h.length :: st)
  | .newarray _ => match st with
    | .int x :: r => if ¬ x < 0 ∧ x.toNatClampNeg ≤ 100000 then
        some (h ++ [.inl (a, x.toNatClampNeg, fun _ => 0)], pc + 2, l, .ref h.length :: r)
      else none
    | _ => none
  | .anewarray _ => match st with
    | .int x :: r => if ¬ x < 0 ∧ x.toNatClampNeg ≤ 100000 then
        some (h ++ [.inr (.inl (x.toNatClampNeg, fun _ => none))], pc + 3, l, .ref h.length :: r)
      else none
    | _ => none
  | .arraylength => match st with
    | .ref o :: r => match h[o]? with
      | some (.inl (_, n, _)) => some (h, pc + 1, l, .int (Int32.ofNat n) :: r)
      | some (.inr (.inl (n, _))) => some (h, pc + 1, l, .int (Int32.ofNat n) :: r)
      | _ => none
    | _ => none
  | .iaload => match st with
    | .int x :: .ref o :: r => match h[o]? with
      | some (.inl (0, n, f)) => if zin x n = true then some (h, pc + 1, l, .int (f x.toNatClampNeg) :: r) else none
      | _ => none
    | _ => none
  | .baload => match st with
    | .int x :: .ref o :: r => match h[o]? with
      | some (.inl (1, n, f)) => if zin x n = true then some (h, pc + 1, l, .int (f x.toNatClampNeg) :: r) else none
      | _ => none
    | _ => none
  | .iastore => match st with
    | .int v :: .int x :: .ref o :: r => match h[o]? with
      | some (.inl (0, n, f)) => if zin x n = true then some (h.set o (.inl (0, n, upd f x.toNatClampNeg v)), pc + 1, l, r) else none
      | _ => none
    | _ => none
  | .bastore => match st with
    | .int v :: .int x :: .ref o :: r => match h[o]? with
      | some (.inl (1, n, f)) => if zin x n = true then some (h.set o (.inl (1, n, upd f x.toNatClampNeg (vp_nar .boolean v))), pc + 1, l, r) else none
      | _ => none
    | _ => none
  | .aaload => match st with
    | .int x :: .ref o :: r => match h[o]? with
      | some (.inr (.inl (n, f))) => if zin x n = true then some (h, pc + 1, l, va_rf (f x.toNatClampNeg) :: r) else none
      | _ => none
    | _ => none
  | .aastore => match st with
    | .ref v :: .int x :: .ref o :: r => match h[o]? with
      | some (.inr (.inl (n, f))) => match h[v]? with
        | some (.inr (.inr (4, _))) => if zin x n = true then some (h.set o (.inr (.inl (n, va_up f x.toNatClampNeg (some v)))), pc + 1, l, r) else none
        | _ => none
      | _ => none
    | _ => none
  | .invokespecial _ => match st with
    | .ref _ :: r => if b = 2 ∧ zcats r ≤ 8 then some (h, pc + 3, l, r) else none
    | _ => none
  | .invokestatic _ => match st with
    | .int y :: .int x :: r => if zcats r ≤ 8 then some (h, pc + 3, l, .int (if b = 3 then (if x < y then y else x) else (if y < x then y else x)) :: r) else none
    | _ => none
  | _ => none
/-- 0: one step; 1: a call; 2: the end -/
def zkd (i : Instr) (b : Nat) : Nat := match i with
  | .invokestatic _ => bif Nat.ble 3 b then 0 else 1
  | .invokevirtual _ => 1
  | .invokespecial _ => bif Nat.beq b 2 then 0 else 1
  | .ireturn => 2
  | .lreturn => 2
  | .areturn => 2
  | .return_ => 2
  | _ => 0
def zrecv (a : Nat) (h : List zE) (av : List Value) : Bool := zsta a || (match av with
  | .ref o :: _ => (match h[o]? with
    | some (.inr (.inr (ci, _))) => Nat.beq ci (zmc a)
    | _ => false)
  | _ => false)
def zcan (a : Nat) (h : List zE) (st : List Value) : Bool :=
  Nat.ble (znp a) st.length && Nat.ble (zcats (st.drop (znp a))) 8 && Nat.ble (zargs (st.take (znp a)).reverse).length (zml a) && zrecv a h (st.take (znp a)).reverse
def zend (mi : Nat) (i : Instr) (st : List Value) : Option (Option Value) := match i with
  | .ireturn => match st with
    | [.int x] => if zrk mi = 1 ∨ (zrk mi = 2 ∧ (x = 0 ∨ x = 1)) then some (some (.int x)) else none
    | _ => none
  | .lreturn => match st with
    | [.long x] => if zrk mi = 3 then some (some (.long x)) else none
    | _ => none
  | .areturn => match st with
    | [.ref x] => if zrk mi = 4 then some (some (.ref x)) else none
    | [.null] => if zrk mi = 4 then some (some .null) else none
    | _ => none
  | .return_ => match st with
    | [] => if zrk mi = 0 then some none else none
    | _ => none
  | _ => none
def zrun : Nat → Nat → List zE → Nat → List Value → List Value → Option (Option Value × List zE)
  | 0, _, _, _, _, _ => none
  | n + 1, mi, h, pc, l, st => match zcode mi pc with
    | none => none
    | some (i, _, a, b, _) => match zkd i b with
      | 0 => match zst i a b pc h l st with
        | none => none
        | some (h1, pc1, l1, st1) => zrun n mi h1 pc1 l1 st1
      | 1 => if zcan a h st = true then
          match zrun n a h 0 (zent a (st.take (znp a)).reverse) [] with
          | none => none
          | some (v, h1) => zrun n mi h1 (pc + 3) l (zpu v (st.drop (znp a)))
        else none
      | _ => match zend mi i st with
        | none => none
        | some v => some (v, h)
/-! ===== the tables hold what the small machine takes for given ===== -/
def zwls (k : Nat) : List Jvm.Cond := match k with
  | 0 => k2_sels lw_privs
  | 1 => tables_1_1
  | 2 => tables_1_2
  | 3 => tables_1_3
  | 4 => tables_1_4
  | _ => tables_1_5
theorem zwls_in {k : Nat} {c : Jvm.Cond} (h : c ∈ zwls k) : c ∈ lw_tbl := by
  unfold lw_tbl tables_1
  unfold zwls at h
  split at h <;> simp only [List.mem_append] <;> simp only [h, true_or, or_true]
def zt_w0 : List Jvm.Cond := lw_tbl.filter goodWord
def zt_isN : Jvm.Cond → Bool
  | .methodLinkNest _ _ _ _ => true
  | _ => false
def zt_w1 : List Jvm.Cond := lw_tbl.filter zt_isN
def zwd (w : Nat) (c : Jvm.Cond) : Bool := decide ((zwls (w / 1000))[w % 1000]? = some c) && goodWord c
theorem zwd_mem {w : Nat} {c : Jvm.Cond} (h : zwd w c = true) : c ∈ zt_w0 := by
  simp only [zwd, Bool.and_eq_true, decide_eq_true_eq] at h
  exact List.mem_filter.mpr ⟨zwls_in (List.mem_of_getElem? h.1), h.2⟩
def zwn (w : Nat) (c : Jvm.Cond) : Bool := decide ((zwls (w / 1000))[w % 1000]? = some c) && zt_isN c
theorem zwn_mem {w : Nat} {c : Jvm.Cond} (h : zwn w c = true) : c ∈ zt_w1 := by
  simp only [zwn, Bool.and_eq_true, decide_eq_true_eq] at h
  exact List.mem_filter.mpr ⟨zwls_in (List.mem_of_getElem? h.1), h.2⟩
def zlnk (mi idx a b w : Nat) : Bool := bif Nat.beq b 1 then zwn w (.methodLinkNest (zy mi).cls idx (zy a) "LoveGlass") else zwd w (.methodLink (zy mi).cls idx (zy a))
def zokI (mi pc : Nat) (i : Instr) (a b w : Nat) : Bool := match i with
  | .getfield idx => Nat.ble (a + 1) 9 && Nat.ble (b + 1) (zcd a).2.2 && zwd w (.fieldLink (zy mi).cls idx (zcd a).1 ((zcd a).2.1 b).2.1 ((zcd a).2.1 b).2.2.1) && decide (((zcd a).2.1 b).1 = (zcd a).1)
  | .putfield idx => Nat.ble (a + 1) 9 && Nat.ble (b + 1) (zcd a).2.2 && zwd w (.fieldLink (zy mi).cls idx (zcd a).1 ((zcd a).2.1 b).2.1 ((zcd a).2.1 b).2.2.1) && decide (((zcd a).2.1 b).1 = (zcd a).1) && (!((zcd a).2.1 b).2.2.2 || (decide ((zy mi).name = "<init>") && decide ((zcd a).1 = (zy mi).cls)))
  | .new idx => Nat.ble (a + 1) 9 && zwd w (.classLink (zy mi).cls idx (zcd a).1)
  | .anewarray idx => zwd w (.classLink (zy mi).cls idx "LoveGlass$Run")
  | .newarray t => (Nat.beq a 0 && decide (t = .int) && zwd w (.arrayClass .int)) || (Nat.beq a 1 && decide (t = .boolean) && zwd w (.arrayClass .boolean))
  | .ldc_w idx => zwd w (.constant (zy mi).cls idx (Int32.ofNat a))
  | .ldc2_w idx => zwd w (.constantLong (zy mi).cls idx (Int64.ofNat a))
  | .goto off => decide ((pc : Int) + off = (a : Int))
  | .if_icmp _ off => decide ((pc : Int) + off = (a : Int))
  | .ifCond _ off => decide ((pc : Int) + off = (a : Int))
  | .ifnull off => decide ((pc : Int) + off = (a : Int))
  | .ifnonnull off => decide ((pc : Int) + off = (a : Int))
  | .lookupswitch _ ps => (ps.toList.zip (ps.toList.drop 1)).all (fun (a, next) => a.1 < next.1)
  | .invokestatic idx => bif Nat.ble 3 b then (zwd w (.methodLink (zy mi).cls idx (bif Nat.beq b 3 then Lib.Math.max.name else Lib.Math.min.name)) && Nat.ble 1 (zfr mi) && Nat.ble 21 (zlo mi)) else
      (Nat.ble (a + 1) 191 && zsta a && Nat.ble (zfr a + 1) (zfr mi) && Nat.ble (8 + (zml a + 11) + zlo a) (zlo mi) && zlnk mi idx a b w)
  | .invokevirtual idx => Nat.ble (a + 1) 191 && !zsta a && decide (¬ (zy a).name = "<init>") && Nat.ble (zfr a + 1) (zfr mi) && Nat.ble (8 + (zml a + 11) + zlo a) (zlo mi) && zlnk mi idx a b w
  | .invokespecial idx => bif Nat.beq b 2 then (zwd w (.methodLink (zy mi).cls idx Lib.objectInit) && Nat.ble 1 (zfr mi) && Nat.ble 21 (zlo mi)) else
      (Nat.ble (a + 1) 191 && !zsta a && decide ((zy a).name = "<init>") && decide (zrt a = none) && Nat.ble (zfr a + 1) (zfr mi) && Nat.ble (8 + (zml a + 11) + zlo a) (zlo mi) && zlnk mi idx a b w)
  | _ => true
def zokE (mi : Nat) (x : Nat × zI) : Bool := decide (decode (zbs mi) x.1 = .ok (x.2.1, x.2.2.1)) && zokI mi x.1 x.2.1 x.2.2.2.1 x.2.2.2.2.1 x.2.2.2.2.2
def zokM (mi : Nat) : Bool :=
  let wp := zt_wp.getD mi (0, 0, 0, 0)
  plainName (zy mi).cls && decide ((zy mi).cls ≠ "java/lang/invoke/MethodHandle") && decide ((zy mi).cls ≠ "java/lang/invoke/VarHandle") &&
  zwd wp.1 (.code (zy mi) (zbs mi) (zml mi) (zrt mi)) && zwd wp.2.1 (.initialized (zy mi).cls) &&
  decide ((parseMethodDescriptor (zy mi).desc).map (fun d => d.parameters.length) = some (bif zsta mi then znp mi else znp mi - 1)) &&
  (bif zsta mi then zwd wp.2.2.1 (.static (zy mi)) else
    (zwd wp.2.2.1 (.instanceMethod (zy mi)) && Nat.ble 1 (znp mi) && Nat.ble (zmc mi + 1) 9 && decide ((zcd (zmc mi)).1 = (zy mi).cls) && (decide ((zy mi).name = "<init>") || zwd wp.2.2.2 (.selects (zy mi).cls (zy mi) (zy mi))))) &&
  (match zrt mi with
    | none => Nat.beq (zrk mi) 0
    | some .int => Nat.beq (zrk mi) 1
    | some .boolean => Nat.beq (zrk mi) 2
    | some .long => Nat.beq (zrk mi) 3
    | some (.object _) => Nat.beq (zrk mi) 4
    | _ => false)
def zokA (mi : Nat) : Bool := zokM mi && (zt_cs.getD mi []).all (zokE mi)
