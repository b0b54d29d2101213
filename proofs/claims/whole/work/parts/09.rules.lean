theorem za_bits : ∀ a b : Nat, nI a ||| nI b = nI (a ||| b) ∧ nI a &&& nI b = nI (a &&& b) ∧ nI a ^^^ nI b = nI (a ^^^ b) := by
  intro a b
  refine ⟨?_, ?_, ?_⟩ <;> apply Int32.toBitVec_inj.1
  · show BitVec.ofNat 32 a ||| BitVec.ofNat 32 b = BitVec.ofNat 32 (a ||| b)
    apply BitVec.eq_of_getLsbD_eq
    intro i hi
    simp [BitVec.getLsbD_ofNat, hi]
  · show BitVec.ofNat 32 a &&& BitVec.ofNat 32 b = BitVec.ofNat 32 (a &&& b)
    apply BitVec.eq_of_getLsbD_eq
    intro i hi
    simp [BitVec.getLsbD_ofNat, hi]
  · show BitVec.ofNat 32 a ^^^ BitVec.ofNat 32 b = BitVec.ofNat 32 (a ^^^ b)
    apply BitVec.eq_of_getLsbD_eq
    intro i hi
    simp [BitVec.getLsbD_ofNat, hi]
/-! ===== the rules: from a place in a method to its end ===== -/
theorem zrun_up : ∀ (n k mi : Nat) (h : List zE) (pc : Nat) (l st : List Value) (r : Option Value × List zE), zrun n mi h pc l st = some r → zrun (n + k) mi h pc l st = some r
  | 0, k, mi, h, pc, l, st, r, hz => by simp [zrun] at hz
  | n + 1, k, mi, h, pc, l, st, r, hz => by
    rw [show n + 1 + k = (n + k) + 1 by omega]
    simp only [zrun] at hz ⊢
    split at hz
    · cases hz
    · rename_i i ln a b w hc
      split at hz
      · rename_i hk
        split at hz
        · cases hz
        · exact zrun_up n k _ _ _ _ _ _ hz
      · rename_i hk
        split at hz
        · rename_i hcan
          split at hz
          · cases hz
          · rename_i v h1 hcall
            rw [if_pos hcan, zrun_up n k _ _ _ _ _ _ hcall]
            exact zrun_up n k _ _ _ _ _ _ hz
        · cases hz
      · exact hz
def yG (x : wC) (M : wM) (mi pc : Nat) (l st : List Value) (Q : Option Value → wC → wM → Prop) : Prop :=
  wRM M → ∃ (n : Nat) (v : Option Value) (x' : wC) (M' : wM), zrun n mi (wW x M) pc l st = some (v, wW x' M') ∧ wRM M' ∧ Q v x' M'
section Y
variable {x : wC} {M : wM} {mi pc : Nat} {l st : List Value} {Q : Option Value → wC → wM → Prop} {i : Instr} {ln a b w : Nat}
theorem y_rng (k : wRM M → yG x M mi pc l st Q) : yG x M mi pc l st Q := fun h => k h h
theorem y_st {x' : wC} {M' : wM} {pc' : Nat} {l' st' : List Value} (hc : zcode mi pc = some (i, ln, a, b, w)) (hk : zkd i b = 0) (hs : zst i a b pc (wW x M) l st = some (wW x' M', pc', l', st')) (hr : wRM M → wRM M')
    (k : yG x' M' mi pc' l' st' Q) : yG x M mi pc l st Q := by
  intro hM
  obtain ⟨n, v, x2, M2, h1, h2, h3⟩ := k (hr hM)
  exact ⟨n + 1, v, x2, M2, by simp only [zrun, hc, hk, hs, h1], h2, h3⟩
theorem y_call (hc : zcode mi pc = some (i, ln, a, b, w)) (hk : zkd i b = 1) (hcan : zcan a (wW x M) st = true)
    (k : yG x M a 0 (zent a (st.take (znp a)).reverse) [] (fun v x' M' => yG x' M' mi (pc + 3) l (zpu v (st.drop (znp a))) Q)) : yG x M mi pc l st Q := by
  intro hM
  obtain ⟨n1, v1, x1, M1, h1, hM1, h2⟩ := k hM
  obtain ⟨n2, v2, x2, M2, h3, hM2, h4⟩ := h2 hM1
  refine ⟨n1 + n2 + 1, v2, x2, M2, ?_, hM2, h4⟩
  have g1 := zrun_up n1 n2 _ _ _ _ _ _ h1
  have g2 := zrun_up n2 n1 _ _ _ _ _ _ h3
  rw [Nat.add_comm n2 n1] at g2
  simp only [zrun, hc, hk, hcan, if_true, g1, g2]
theorem y_end {v : Option Value} (hc : zcode mi pc = some (i, ln, a, b, w)) (hk : zkd i b = 2) (he : zend mi i st = some v) (k : Q v x M) : yG x M mi pc l st Q := by
  intro hM
  exact ⟨1, v, x, M, by simp only [zrun, hc, hk, he], hM, k⟩
/-! instruction by instruction -/
theorem y_ret {v : Int} (hc : zcode mi pc = some (.ireturn, ln, a, b, w)) (hr : zrk mi = 1) (k : Q (some (.int (iI v))) x M) : yG x M mi pc l [.int (iI v)] Q :=
  y_end hc rfl (by simp [zend, hr]) k
theorem y_zret {v : Int} (hc : zcode mi pc = some (.ireturn, ln, a, b, w)) (hr : zrk mi = 2) (hv : v = 0 ∨ v = 1) (k : Q (some (.int (iI v))) x M) : yG x M mi pc l [.int (iI v)] Q :=
  y_end hc rfl (by rcases hv with rfl | rfl <;> (simp [zend, hr]; try decide)) k
theorem y_lret {v : Int64} (hc : zcode mi pc = some (.lreturn, ln, a, b, w)) (hr : zrk mi = 3) (k : Q (some (.long v)) x M) : yG x M mi pc l [.long v] Q :=
  y_end hc rfl (by simp [zend, hr]) k
theorem y_aret {v : Nat} (hc : zcode mi pc = some (.areturn, ln, a, b, w)) (hr : zrk mi = 4) (k : Q (some (.ref v)) x M) : yG x M mi pc l [.ref v] Q :=
  y_end hc rfl (by simp [zend, hr]) k
theorem y_nret (hc : zcode mi pc = some (.areturn, ln, a, b, w)) (hr : zrk mi = 4) (k : Q (some .null) x M) : yG x M mi pc l [.null] Q :=
  y_end hc rfl (by simp [zend, hr]) k
theorem y_vret (hc : zcode mi pc = some (.return_, ln, a, b, w)) (hr : zrk mi = 0) (k : Q none x M) : yG x M mi pc l [] Q :=
  y_end hc rfl (by simp [zend, hr]) k
theorem y_ic {n : Int} (hc : zcode mi pc = some (.iconst n, ln, a, b, w)) (k : yG x M mi (pc + 1) l (.int (iI n) :: st) Q) : yG x M mi pc l st Q :=
  y_st hc rfl rfl id k
theorem y_bi {n : Int} (hc : zcode mi pc = some (.bipush n, ln, a, b, w)) (hn : (Int8.ofInt n).toInt32 = iI n) (k : yG x M mi (pc + 2) l (.int (iI n) :: st) Q) : yG x M mi pc l st Q :=
  y_st hc rfl rfl id (by rw [hn]; exact k)
theorem y_si {n : Int} (hc : zcode mi pc = some (.sipush n, ln, a, b, w)) (hn : (Int16.ofInt n).toInt32 = iI n) (k : yG x M mi (pc + 3) l (.int (iI n) :: st) Q) : yG x M mi pc l st Q :=
  y_st hc rfl rfl id (by rw [hn]; exact k)
theorem y_lc {n : Fin 2} {z : Int} (hc : zcode mi pc = some (.lconst n, ln, a, b, w)) (hz : Int64.ofNat (n : Nat) = lI z) (k : yG x M mi (pc + 1) l (.long (lI z) :: st) Q) : yG x M mi pc l st Q :=
  y_st hc rfl rfl id (by rw [hz]; exact k)
theorem y_ldc {q : Nat} (hc : zcode mi pc = some (.ldc_w q, ln, a, b, w)) (k : yG x M mi (pc + 3) l (.int (iI (a : Int)) :: st) Q) : yG x M mi pc l st Q :=
  y_st hc rfl rfl id (by rw [show Int32.ofNat a = iI (a : Int) from (iI_nat a).symm]; exact k)
theorem lI_nat (n : Nat) : Int64.ofNat n = lI (n : Int) := by simp [lI, Int64.ofInt_eq_ofNat]
theorem y_ldc2 {q : Nat} (hc : zcode mi pc = some (.ldc2_w q, ln, a, b, w)) (k : yG x M mi (pc + 3) l (.long (lI (a : Int)) :: st) Q) : yG x M mi pc l st Q :=
  y_st hc rfl rfl id (by rw [lI_nat]; exact k)
theorem y_nul (hc : zcode mi pc = some (.aconst_null, ln, a, b, w)) (k : yG x M mi (pc + 1) l (.null :: st) Q) : yG x M mi pc l st Q :=
  y_st hc rfl rfl id k
theorem y_il0 {t : List Value} {z : Int32} (hc : zcode mi pc = some (.iload_n 0, ln, a, b, w)) (k : yG x M mi (pc + 1) (.int z :: t) (.int z :: st) Q) : yG x M mi pc (.int z :: t) st Q := y_st hc rfl rfl id k
theorem y_ll0 {t : List Value} {z : Int64} (hc : zcode mi pc = some (.lload_n 0, ln, a, b, w)) (k : yG x M mi (pc + 1) (.long z :: t) (.long z :: st) Q) : yG x M mi pc (.long z :: t) st Q := y_st hc rfl rfl id k
theorem y_al0 {t : List Value} {z : Nat} (hc : zcode mi pc = some (.aload_n 0, ln, a, b, w)) (k : yG x M mi (pc + 1) (.ref z :: t) (.ref z :: st) Q) : yG x M mi pc (.ref z :: t) st Q := y_st hc rfl rfl id k
theorem y_nl0 {t : List Value} (hc : zcode mi pc = some (.aload_n 0, ln, a, b, w)) (k : yG x M mi (pc + 1) (.null :: t) (.null :: st) Q) : yG x M mi pc (.null :: t) st Q := y_st hc rfl rfl id k
theorem y_is0 {t : List Value} {u : Value} {z : Int32} (hc : zcode mi pc = some (.istore_n 0, ln, a, b, w)) (k : yG x M mi (pc + 1) (.int z :: t) st Q) : yG x M mi pc (u :: t) (.int z :: st) Q := y_st hc rfl (by simp [zst, zsto1, show ((3 : Fin 4) : Nat) = 3 from rfl, zpre]) id k
theorem y_as0 {t : List Value} {u : Value} {z : Nat} (hc : zcode mi pc = some (.astore_n 0, ln, a, b, w)) (k : yG x M mi (pc + 1) (.ref z :: t) st Q) : yG x M mi pc (u :: t) (.ref z :: st) Q := y_st hc rfl (by simp [zst, zsto1, show ((3 : Fin 4) : Nat) = 3 from rfl, zpre]) id k
theorem y_ns0 {t : List Value} {u : Value} (hc : zcode mi pc = some (.astore_n 0, ln, a, b, w)) (k : yG x M mi (pc + 1) (.null :: t) st Q) : yG x M mi pc (u :: t) (.null :: st) Q := y_st hc rfl (by simp [zst, zsto1, show ((3 : Fin 4) : Nat) = 3 from rfl, zpre]) id k
theorem y_inc0 {t : List Value} {z n : Int} (hc : zcode mi pc = some (.iinc 0 n, ln, a, b, w)) (k : yG x M mi (pc + 3) (.int (iI (z + n)) :: t) st Q) : yG x M mi pc (.int (iI z) :: t) st Q := y_st hc rfl (by simp [zst, zsto1, zpre]; exact (iI_add z n)) id k
theorem y_il1 {v0 : Value} {t : List Value} {z : Int32} (hc : zcode mi pc = some (.iload_n 1, ln, a, b, w)) (k : yG x M mi (pc + 1) (v0 :: .int z :: t) (.int z :: st) Q) : yG x M mi pc (v0 :: .int z :: t) st Q := y_st hc rfl rfl id k
theorem y_ll1 {v0 : Value} {t : List Value} {z : Int64} (hc : zcode mi pc = some (.lload_n 1, ln, a, b, w)) (k : yG x M mi (pc + 1) (v0 :: .long z :: t) (.long z :: st) Q) : yG x M mi pc (v0 :: .long z :: t) st Q := y_st hc rfl rfl id k
theorem y_al1 {v0 : Value} {t : List Value} {z : Nat} (hc : zcode mi pc = some (.aload_n 1, ln, a, b, w)) (k : yG x M mi (pc + 1) (v0 :: .ref z :: t) (.ref z :: st) Q) : yG x M mi pc (v0 :: .ref z :: t) st Q := y_st hc rfl rfl id k
theorem y_nl1 {v0 : Value} {t : List Value} (hc : zcode mi pc = some (.aload_n 1, ln, a, b, w)) (k : yG x M mi (pc + 1) (v0 :: .null :: t) (.null :: st) Q) : yG x M mi pc (v0 :: .null :: t) st Q := y_st hc rfl rfl id k
theorem y_is1 {v0 : Value} {t : List Value} {u : Value} {z : Int32} (hc : zcode mi pc = some (.istore_n 1, ln, a, b, w)) (hp : zpre (v0 :: u :: t) 1 = true) (k : yG x M mi (pc + 1) (v0 :: .int z :: t) st Q) : yG x M mi pc (v0 :: u :: t) (.int z :: st) Q := y_st hc rfl (by simp [zst, zsto1, show ((3 : Fin 4) : Nat) = 3 from rfl, hp]) id k
theorem y_as1 {v0 : Value} {t : List Value} {u : Value} {z : Nat} (hc : zcode mi pc = some (.astore_n 1, ln, a, b, w)) (hp : zpre (v0 :: u :: t) 1 = true) (k : yG x M mi (pc + 1) (v0 :: .ref z :: t) st Q) : yG x M mi pc (v0 :: u :: t) (.ref z :: st) Q := y_st hc rfl (by simp [zst, zsto1, show ((3 : Fin 4) : Nat) = 3 from rfl, hp]) id k
theorem y_ns1 {v0 : Value} {t : List Value} {u : Value} (hc : zcode mi pc = some (.astore_n 1, ln, a, b, w)) (hp : zpre (v0 :: u :: t) 1 = true) (k : yG x M mi (pc + 1) (v0 :: .null :: t) st Q) : yG x M mi pc (v0 :: u :: t) (.null :: st) Q := y_st hc rfl (by simp [zst, zsto1, show ((3 : Fin 4) : Nat) = 3 from rfl, hp]) id k
theorem y_inc1 {v0 : Value} {t : List Value} {z n : Int} (hc : zcode mi pc = some (.iinc 1 n, ln, a, b, w)) (hp : zpre (v0 :: .int (iI z) :: t) 1 = true) (k : yG x M mi (pc + 3) (v0 :: .int (iI (z + n)) :: t) st Q) : yG x M mi pc (v0 :: .int (iI z) :: t) st Q := y_st hc rfl (by simp [zst, zsto1, hp]; exact (iI_add z n)) id k
theorem y_il2 {v0 v1 : Value} {t : List Value} {z : Int32} (hc : zcode mi pc = some (.iload_n 2, ln, a, b, w)) (k : yG x M mi (pc + 1) (v0 :: v1 :: .int z :: t) (.int z :: st) Q) : yG x M mi pc (v0 :: v1 :: .int z :: t) st Q := y_st hc rfl rfl id k
theorem y_ll2 {v0 v1 : Value} {t : List Value} {z : Int64} (hc : zcode mi pc = some (.lload_n 2, ln, a, b, w)) (k : yG x M mi (pc + 1) (v0 :: v1 :: .long z :: t) (.long z :: st) Q) : yG x M mi pc (v0 :: v1 :: .long z :: t) st Q := y_st hc rfl rfl id k
theorem y_al2 {v0 v1 : Value} {t : List Value} {z : Nat} (hc : zcode mi pc = some (.aload_n 2, ln, a, b, w)) (k : yG x M mi (pc + 1) (v0 :: v1 :: .ref z :: t) (.ref z :: st) Q) : yG x M mi pc (v0 :: v1 :: .ref z :: t) st Q := y_st hc rfl rfl id k
theorem y_nl2 {v0 v1 : Value} {t : List Value} (hc : zcode mi pc = some (.aload_n 2, ln, a, b, w)) (k : yG x M mi (pc + 1) (v0 :: v1 :: .null :: t) (.null :: st) Q) : yG x M mi pc (v0 :: v1 :: .null :: t) st Q := y_st hc rfl rfl id k
theorem y_is2 {v0 v1 : Value} {t : List Value} {u : Value} {z : Int32} (hc : zcode mi pc = some (.istore_n 2, ln, a, b, w)) (hp : zpre (v0 :: v1 :: u :: t) 2 = true) (k : yG x M mi (pc + 1) (v0 :: v1 :: .int z :: t) st Q) : yG x M mi pc (v0 :: v1 :: u :: t) (.int z :: st) Q := y_st hc rfl (by simp [zst, zsto1, show ((3 : Fin 4) : Nat) = 3 from rfl, hp]) id k
theorem y_as2 {v0 v1 : Value} {t : List Value} {u : Value} {z : Nat} (hc : zcode mi pc = some (.astore_n 2, ln, a, b, w)) (hp : zpre (v0 :: v1 :: u :: t) 2 = true) (k : yG x M mi (pc + 1) (v0 :: v1 :: .ref z :: t) st Q) : yG x M mi pc (v0 :: v1 :: u :: t) (.ref z :: st) Q := y_st hc rfl (by simp [zst, zsto1, show ((3 : Fin 4) : Nat) = 3 from rfl, hp]) id k
theorem y_ns2 {v0 v1 : Value} {t : List Value} {u : Value} (hc : zcode mi pc = some (.astore_n 2, ln, a, b, w)) (hp : zpre (v0 :: v1 :: u :: t) 2 = true) (k : yG x M mi (pc + 1) (v0 :: v1 :: .null :: t) st Q) : yG x M mi pc (v0 :: v1 :: u :: t) (.null :: st) Q := y_st hc rfl (by simp [zst, zsto1, show ((3 : Fin 4) : Nat) = 3 from rfl, hp]) id k
theorem y_inc2 {v0 v1 : Value} {t : List Value} {z n : Int} (hc : zcode mi pc = some (.iinc 2 n, ln, a, b, w)) (hp : zpre (v0 :: v1 :: .int (iI z) :: t) 2 = true) (k : yG x M mi (pc + 3) (v0 :: v1 :: .int (iI (z + n)) :: t) st Q) : yG x M mi pc (v0 :: v1 :: .int (iI z) :: t) st Q := y_st hc rfl (by simp [zst, zsto1, hp]; exact (iI_add z n)) id k
theorem y_il3 {v0 v1 v2 : Value} {t : List Value} {z : Int32} (hc : zcode mi pc = some (.iload_n 3, ln, a, b, w)) (k : yG x M mi (pc + 1) (v0 :: v1 :: v2 :: .int z :: t) (.int z :: st) Q) : yG x M mi pc (v0 :: v1 :: v2 :: .int z :: t) st Q := y_st hc rfl rfl id k
theorem y_ll3 {v0 v1 v2 : Value} {t : List Value} {z : Int64} (hc : zcode mi pc = some (.lload_n 3, ln, a, b, w)) (k : yG x M mi (pc + 1) (v0 :: v1 :: v2 :: .long z :: t) (.long z :: st) Q) : yG x M mi pc (v0 :: v1 :: v2 :: .long z :: t) st Q := y_st hc rfl rfl id k
theorem y_al3 {v0 v1 v2 : Value} {t : List Value} {z : Nat} (hc : zcode mi pc = some (.aload_n 3, ln, a, b, w)) (k : yG x M mi (pc + 1) (v0 :: v1 :: v2 :: .ref z :: t) (.ref z :: st) Q) : yG x M mi pc (v0 :: v1 :: v2 :: .ref z :: t) st Q := y_st hc rfl rfl id k
theorem y_nl3 {v0 v1 v2 : Value} {t : List Value} (hc : zcode mi pc = some (.aload_n 3, ln, a, b, w)) (k : yG x M mi (pc + 1) (v0 :: v1 :: v2 :: .null :: t) (.null :: st) Q) : yG x M mi pc (v0 :: v1 :: v2 :: .null :: t) st Q := y_st hc rfl rfl id k
theorem y_is3 {v0 v1 v2 : Value} {t : List Value} {u : Value} {z : Int32} (hc : zcode mi pc = some (.istore_n 3, ln, a, b, w)) (hp : zpre (v0 :: v1 :: v2 :: u :: t) 3 = true) (k : yG x M mi (pc + 1) (v0 :: v1 :: v2 :: .int z :: t) st Q) : yG x M mi pc (v0 :: v1 :: v2 :: u :: t) (.int z :: st) Q := y_st hc rfl (by simp [zst, zsto1, show ((3 : Fin 4) : Nat) = 3 from rfl, hp]) id k
theorem y_as3 {v0 v1 v2 : Value} {t : List Value} {u : Value} {z : Nat} (hc : zcode mi pc = some (.astore_n 3, ln, a, b, w)) (hp : zpre (v0 :: v1 :: v2 :: u :: t) 3 = true) (k : yG x M mi (pc + 1) (v0 :: v1 :: v2 :: .ref z :: t) st Q) : yG x M mi pc (v0 :: v1 :: v2 :: u :: t) (.ref z :: st) Q := y_st hc rfl (by simp [zst, zsto1, show ((3 : Fin 4) : Nat) = 3 from rfl, hp]) id k
theorem y_ns3 {v0 v1 v2 : Value} {t : List Value} {u : Value} (hc : zcode mi pc = some (.astore_n 3, ln, a, b, w)) (hp : zpre (v0 :: v1 :: v2 :: u :: t) 3 = true) (k : yG x M mi (pc + 1) (v0 :: v1 :: v2 :: .null :: t) st Q) : yG x M mi pc (v0 :: v1 :: v2 :: u :: t) (.null :: st) Q := y_st hc rfl (by simp [zst, zsto1, show ((3 : Fin 4) : Nat) = 3 from rfl, hp]) id k
theorem y_inc3 {v0 v1 v2 : Value} {t : List Value} {z n : Int} (hc : zcode mi pc = some (.iinc 3 n, ln, a, b, w)) (hp : zpre (v0 :: v1 :: v2 :: .int (iI z) :: t) 3 = true) (k : yG x M mi (pc + 3) (v0 :: v1 :: v2 :: .int (iI (z + n)) :: t) st Q) : yG x M mi pc (v0 :: v1 :: v2 :: .int (iI z) :: t) st Q := y_st hc rfl (by simp [zst, zsto1, hp]; exact (iI_add z n)) id k
theorem y_il4 {v0 v1 v2 v3 : Value} {t : List Value} {z : Int32} (hc : zcode mi pc = some (.iload 4, ln, a, b, w)) (k : yG x M mi (pc + 2) (v0 :: v1 :: v2 :: v3 :: .int z :: t) (.int z :: st) Q) : yG x M mi pc (v0 :: v1 :: v2 :: v3 :: .int z :: t) st Q := y_st hc rfl rfl id k
theorem y_ll4 {v0 v1 v2 v3 : Value} {t : List Value} {z : Int64} (hc : zcode mi pc = some (.lload 4, ln, a, b, w)) (k : yG x M mi (pc + 2) (v0 :: v1 :: v2 :: v3 :: .long z :: t) (.long z :: st) Q) : yG x M mi pc (v0 :: v1 :: v2 :: v3 :: .long z :: t) st Q := y_st hc rfl rfl id k
theorem y_al4 {v0 v1 v2 v3 : Value} {t : List Value} {z : Nat} (hc : zcode mi pc = some (.aload 4, ln, a, b, w)) (k : yG x M mi (pc + 2) (v0 :: v1 :: v2 :: v3 :: .ref z :: t) (.ref z :: st) Q) : yG x M mi pc (v0 :: v1 :: v2 :: v3 :: .ref z :: t) st Q := y_st hc rfl rfl id k
theorem y_nl4 {v0 v1 v2 v3 : Value} {t : List Value} (hc : zcode mi pc = some (.aload 4, ln, a, b, w)) (k : yG x M mi (pc + 2) (v0 :: v1 :: v2 :: v3 :: .null :: t) (.null :: st) Q) : yG x M mi pc (v0 :: v1 :: v2 :: v3 :: .null :: t) st Q := y_st hc rfl rfl id k
theorem y_is4 {v0 v1 v2 v3 : Value} {t : List Value} {u : Value} {z : Int32} (hc : zcode mi pc = some (.istore 4, ln, a, b, w)) (hp : zpre (v0 :: v1 :: v2 :: v3 :: u :: t) 4 = true) (k : yG x M mi (pc + 2) (v0 :: v1 :: v2 :: v3 :: .int z :: t) st Q) : yG x M mi pc (v0 :: v1 :: v2 :: v3 :: u :: t) (.int z :: st) Q := y_st hc rfl (by simp [zst, zsto1, show ((3 : Fin 4) : Nat) = 3 from rfl, hp]) id k
theorem y_as4 {v0 v1 v2 v3 : Value} {t : List Value} {u : Value} {z : Nat} (hc : zcode mi pc = some (.astore 4, ln, a, b, w)) (hp : zpre (v0 :: v1 :: v2 :: v3 :: u :: t) 4 = true) (k : yG x M mi (pc + 2) (v0 :: v1 :: v2 :: v3 :: .ref z :: t) st Q) : yG x M mi pc (v0 :: v1 :: v2 :: v3 :: u :: t) (.ref z :: st) Q := y_st hc rfl (by simp [zst, zsto1, show ((3 : Fin 4) : Nat) = 3 from rfl, hp]) id k
theorem y_ns4 {v0 v1 v2 v3 : Value} {t : List Value} {u : Value} (hc : zcode mi pc = some (.astore 4, ln, a, b, w)) (hp : zpre (v0 :: v1 :: v2 :: v3 :: u :: t) 4 = true) (k : yG x M mi (pc + 2) (v0 :: v1 :: v2 :: v3 :: .null :: t) st Q) : yG x M mi pc (v0 :: v1 :: v2 :: v3 :: u :: t) (.null :: st) Q := y_st hc rfl (by simp [zst, zsto1, show ((3 : Fin 4) : Nat) = 3 from rfl, hp]) id k
theorem y_inc4 {v0 v1 v2 v3 : Value} {t : List Value} {z n : Int} (hc : zcode mi pc = some (.iinc 4 n, ln, a, b, w)) (hp : zpre (v0 :: v1 :: v2 :: v3 :: .int (iI z) :: t) 4 = true) (k : yG x M mi (pc + 3) (v0 :: v1 :: v2 :: v3 :: .int (iI (z + n)) :: t) st Q) : yG x M mi pc (v0 :: v1 :: v2 :: v3 :: .int (iI z) :: t) st Q := y_st hc rfl (by simp [zst, zsto1, hp]; exact (iI_add z n)) id k
theorem y_il5 {v0 v1 v2 v3 v4 : Value} {t : List Value} {z : Int32} (hc : zcode mi pc = some (.iload 5, ln, a, b, w)) (k : yG x M mi (pc + 2) (v0 :: v1 :: v2 :: v3 :: v4 :: .int z :: t) (.int z :: st) Q) : yG x M mi pc (v0 :: v1 :: v2 :: v3 :: v4 :: .int z :: t) st Q := y_st hc rfl rfl id k
theorem y_ll5 {v0 v1 v2 v3 v4 : Value} {t : List Value} {z : Int64} (hc : zcode mi pc = some (.lload 5, ln, a, b, w)) (k : yG x M mi (pc + 2) (v0 :: v1 :: v2 :: v3 :: v4 :: .long z :: t) (.long z :: st) Q) : yG x M mi pc (v0 :: v1 :: v2 :: v3 :: v4 :: .long z :: t) st Q := y_st hc rfl rfl id k
theorem y_al5 {v0 v1 v2 v3 v4 : Value} {t : List Value} {z : Nat} (hc : zcode mi pc = some (.aload 5, ln, a, b, w)) (k : yG x M mi (pc + 2) (v0 :: v1 :: v2 :: v3 :: v4 :: .ref z :: t) (.ref z :: st) Q) : yG x M mi pc (v0 :: v1 :: v2 :: v3 :: v4 :: .ref z :: t) st Q := y_st hc rfl rfl id k
theorem y_nl5 {v0 v1 v2 v3 v4 : Value} {t : List Value} (hc : zcode mi pc = some (.aload 5, ln, a, b, w)) (k : yG x M mi (pc + 2) (v0 :: v1 :: v2 :: v3 :: v4 :: .null :: t) (.null :: st) Q) : yG x M mi pc (v0 :: v1 :: v2 :: v3 :: v4 :: .null :: t) st Q := y_st hc rfl rfl id k
theorem y_is5 {v0 v1 v2 v3 v4 : Value} {t : List Value} {u : Value} {z : Int32} (hc : zcode mi pc = some (.istore 5, ln, a, b, w)) (hp : zpre (v0 :: v1 :: v2 :: v3 :: v4 :: u :: t) 5 = true) (k : yG x M mi (pc + 2) (v0 :: v1 :: v2 :: v3 :: v4 :: .int z :: t) st Q) : yG x M mi pc (v0 :: v1 :: v2 :: v3 :: v4 :: u :: t) (.int z :: st) Q := y_st hc rfl (by simp [zst, zsto1, show ((3 : Fin 4) : Nat) = 3 from rfl, hp]) id k
theorem y_as5 {v0 v1 v2 v3 v4 : Value} {t : List Value} {u : Value} {z : Nat} (hc : zcode mi pc = some (.astore 5, ln, a, b, w)) (hp : zpre (v0 :: v1 :: v2 :: v3 :: v4 :: u :: t) 5 = true) (k : yG x M mi (pc + 2) (v0 :: v1 :: v2 :: v3 :: v4 :: .ref z :: t) st Q) : yG x M mi pc (v0 :: v1 :: v2 :: v3 :: v4 :: u :: t) (.ref z :: st) Q := y_st hc rfl (by simp [zst, zsto1, show ((3 : Fin 4) : Nat) = 3 from rfl, hp]) id k
theorem y_ns5 {v0 v1 v2 v3 v4 : Value} {t : List Value} {u : Value} (hc : zcode mi pc = some (.astore 5, ln, a, b, w)) (hp : zpre (v0 :: v1 :: v2 :: v3 :: v4 :: u :: t) 5 = true) (k : yG x M mi (pc + 2) (v0 :: v1 :: v2 :: v3 :: v4 :: .null :: t) st Q) : yG x M mi pc (v0 :: v1 :: v2 :: v3 :: v4 :: u :: t) (.null :: st) Q := y_st hc rfl (by simp [zst, zsto1, show ((3 : Fin 4) : Nat) = 3 from rfl, hp]) id k
theorem y_inc5 {v0 v1 v2 v3 v4 : Value} {t : List Value} {z n : Int} (hc : zcode mi pc = some (.iinc 5 n, ln, a, b, w)) (hp : zpre (v0 :: v1 :: v2 :: v3 :: v4 :: .int (iI z) :: t) 5 = true) (k : yG x M mi (pc + 3) (v0 :: v1 :: v2 :: v3 :: v4 :: .int (iI (z + n)) :: t) st Q) : yG x M mi pc (v0 :: v1 :: v2 :: v3 :: v4 :: .int (iI z) :: t) st Q := y_st hc rfl (by simp [zst, zsto1, hp]; exact (iI_add z n)) id k
theorem y_il6 {v0 v1 v2 v3 v4 v5 : Value} {t : List Value} {z : Int32} (hc : zcode mi pc = some (.iload 6, ln, a, b, w)) (k : yG x M mi (pc + 2) (v0 :: v1 :: v2 :: v3 :: v4 :: v5 :: .int z :: t) (.int z :: st) Q) : yG x M mi pc (v0 :: v1 :: v2 :: v3 :: v4 :: v5 :: .int z :: t) st Q := y_st hc rfl rfl id k
theorem y_ll6 {v0 v1 v2 v3 v4 v5 : Value} {t : List Value} {z : Int64} (hc : zcode mi pc = some (.lload 6, ln, a, b, w)) (k : yG x M mi (pc + 2) (v0 :: v1 :: v2 :: v3 :: v4 :: v5 :: .long z :: t) (.long z :: st) Q) : yG x M mi pc (v0 :: v1 :: v2 :: v3 :: v4 :: v5 :: .long z :: t) st Q := y_st hc rfl rfl id k
theorem y_al6 {v0 v1 v2 v3 v4 v5 : Value} {t : List Value} {z : Nat} (hc : zcode mi pc = some (.aload 6, ln, a, b, w)) (k : yG x M mi (pc + 2) (v0 :: v1 :: v2 :: v3 :: v4 :: v5 :: .ref z :: t) (.ref z :: st) Q) : yG x M mi pc (v0 :: v1 :: v2 :: v3 :: v4 :: v5 :: .ref z :: t) st Q := y_st hc rfl rfl id k
theorem y_nl6 {v0 v1 v2 v3 v4 v5 : Value} {t : List Value} (hc : zcode mi pc = some (.aload 6, ln, a, b, w)) (k : yG x M mi (pc + 2) (v0 :: v1 :: v2 :: v3 :: v4 :: v5 :: .null :: t) (.null :: st) Q) : yG x M mi pc (v0 :: v1 :: v2 :: v3 :: v4 :: v5 :: .null :: t) st Q := y_st hc rfl rfl id k
theorem y_is6 {v0 v1 v2 v3 v4 v5 : Value} {t : List Value} {u : Value} {z : Int32} (hc : zcode mi pc = some (.istore 6, ln, a, b, w)) (hp : zpre (v0 :: v1 :: v2 :: v3 :: v4 :: v5 :: u :: t) 6 = true) (k : yG x M mi (pc + 2) (v0 :: v1 :: v2 :: v3 :: v4 :: v5 :: .int z :: t) st Q) : yG x M mi pc (v0 :: v1 :: v2 :: v3 :: v4 :: v5 :: u :: t) (.int z :: st) Q := y_st hc rfl (by simp [zst, zsto1, show ((3 : Fin 4) : Nat) = 3 from rfl, hp]) id k
theorem y_as6 {v0 v1 v2 v3 v4 v5 : Value} {t : List Value} {u : Value} {z : Nat} (hc : zcode mi pc = some (.astore 6, ln, a, b, w)) (hp : zpre (v0 :: v1 :: v2 :: v3 :: v4 :: v5 :: u :: t) 6 = true) (k : yG x M mi (pc + 2) (v0 :: v1 :: v2 :: v3 :: v4 :: v5 :: .ref z :: t) st Q) : yG x M mi pc (v0 :: v1 :: v2 :: v3 :: v4 :: v5 :: u :: t) (.ref z :: st) Q := y_st hc rfl (by simp [zst, zsto1, show ((3 : Fin 4) : Nat) = 3 from rfl, hp]) id k
theorem y_ns6 {v0 v1 v2 v3 v4 v5 : Value} {t : List Value} {u : Value} (hc : zcode mi pc = some (.astore 6, ln, a, b, w)) (hp : zpre (v0 :: v1 :: v2 :: v3 :: v4 :: v5 :: u :: t) 6 = true) (k : yG x M mi (pc + 2) (v0 :: v1 :: v2 :: v3 :: v4 :: v5 :: .null :: t) st Q) : yG x M mi pc (v0 :: v1 :: v2 :: v3 :: v4 :: v5 :: u :: t) (.null :: st) Q := y_st hc rfl (by simp [zst, zsto1, show ((3 : Fin 4) : Nat) = 3 from rfl, hp]) id k
theorem y_inc6 {v0 v1 v2 v3 v4 v5 : Value} {t : List Value} {z n : Int} (hc : zcode mi pc = some (.iinc 6 n, ln, a, b, w)) (hp : zpre (v0 :: v1 :: v2 :: v3 :: v4 :: v5 :: .int (iI z) :: t) 6 = true) (k : yG x M mi (pc + 3) (v0 :: v1 :: v2 :: v3 :: v4 :: v5 :: .int (iI (z + n)) :: t) st Q) : yG x M mi pc (v0 :: v1 :: v2 :: v3 :: v4 :: v5 :: .int (iI z) :: t) st Q := y_st hc rfl (by simp [zst, zsto1, hp]; exact (iI_add z n)) id k
theorem y_il7 {v0 v1 v2 v3 v4 v5 v6 : Value} {t : List Value} {z : Int32} (hc : zcode mi pc = some (.iload 7, ln, a, b, w)) (k : yG x M mi (pc + 2) (v0 :: v1 :: v2 :: v3 :: v4 :: v5 :: v6 :: .int z :: t) (.int z :: st) Q) : yG x M mi pc (v0 :: v1 :: v2 :: v3 :: v4 :: v5 :: v6 :: .int z :: t) st Q := y_st hc rfl rfl id k
theorem y_ll7 {v0 v1 v2 v3 v4 v5 v6 : Value} {t : List Value} {z : Int64} (hc : zcode mi pc = some (.lload 7, ln, a, b, w)) (k : yG x M mi (pc + 2) (v0 :: v1 :: v2 :: v3 :: v4 :: v5 :: v6 :: .long z :: t) (.long z :: st) Q) : yG x M mi pc (v0 :: v1 :: v2 :: v3 :: v4 :: v5 :: v6 :: .long z :: t) st Q := y_st hc rfl rfl id k
theorem y_al7 {v0 v1 v2 v3 v4 v5 v6 : Value} {t : List Value} {z : Nat} (hc : zcode mi pc = some (.aload 7, ln, a, b, w)) (k : yG x M mi (pc + 2) (v0 :: v1 :: v2 :: v3 :: v4 :: v5 :: v6 :: .ref z :: t) (.ref z :: st) Q) : yG x M mi pc (v0 :: v1 :: v2 :: v3 :: v4 :: v5 :: v6 :: .ref z :: t) st Q := y_st hc rfl rfl id k
theorem y_nl7 {v0 v1 v2 v3 v4 v5 v6 : Value} {t : List Value} (hc : zcode mi pc = some (.aload 7, ln, a, b, w)) (k : yG x M mi (pc + 2) (v0 :: v1 :: v2 :: v3 :: v4 :: v5 :: v6 :: .null :: t) (.null :: st) Q) : yG x M mi pc (v0 :: v1 :: v2 :: v3 :: v4 :: v5 :: v6 :: .null :: t) st Q := y_st hc rfl rfl id k
theorem y_is7 {v0 v1 v2 v3 v4 v5 v6 : Value} {t : List Value} {u : Value} {z : Int32} (hc : zcode mi pc = some (.istore 7, ln, a, b, w)) (hp : zpre (v0 :: v1 :: v2 :: v3 :: v4 :: v5 :: v6 :: u :: t) 7 = true) (k : yG x M mi (pc + 2) (v0 :: v1 :: v2 :: v3 :: v4 :: v5 :: v6 :: .int z :: t) st Q) : yG x M mi pc (v0 :: v1 :: v2 :: v3 :: v4 :: v5 :: v6 :: u :: t) (.int z :: st) Q := y_st hc rfl (by simp [zst, zsto1, show ((3 : Fin 4) : Nat) = 3 from rfl, hp]) id k
theorem y_as7 {v0 v1 v2 v3 v4 v5 v6 : Value} {t : List Value} {u : Value} {z : Nat} (hc : zcode mi pc = some (.astore 7, ln, a, b, w)) (hp : zpre (v0 :: v1 :: v2 :: v3 :: v4 :: v5 :: v6 :: u :: t) 7 = true) (k : yG x M mi (pc + 2) (v0 :: v1 :: v2 :: v3 :: v4 :: v5 :: v6 :: .ref z :: t) st Q) : yG x M mi pc (v0 :: v1 :: v2 :: v3 :: v4 :: v5 :: v6 :: u :: t) (.ref z :: st) Q := y_st hc rfl (by simp [zst, zsto1, show ((3 : Fin 4) : Nat) = 3 from rfl, hp]) id k
theorem y_ns7 {v0 v1 v2 v3 v4 v5 v6 : Value} {t : List Value} {u : Value} (hc : zcode mi pc = some (.astore 7, ln, a, b, w)) (hp : zpre (v0 :: v1 :: v2 :: v3 :: v4 :: v5 :: v6 :: u :: t) 7 = true) (k : yG x M mi (pc + 2) (v0 :: v1 :: v2 :: v3 :: v4 :: v5 :: v6 :: .null :: t) st Q) : yG x M mi pc (v0 :: v1 :: v2 :: v3 :: v4 :: v5 :: v6 :: u :: t) (.null :: st) Q := y_st hc rfl (by simp [zst, zsto1, show ((3 : Fin 4) : Nat) = 3 from rfl, hp]) id k
theorem y_inc7 {v0 v1 v2 v3 v4 v5 v6 : Value} {t : List Value} {z n : Int} (hc : zcode mi pc = some (.iinc 7 n, ln, a, b, w)) (hp : zpre (v0 :: v1 :: v2 :: v3 :: v4 :: v5 :: v6 :: .int (iI z) :: t) 7 = true) (k : yG x M mi (pc + 3) (v0 :: v1 :: v2 :: v3 :: v4 :: v5 :: v6 :: .int (iI (z + n)) :: t) st Q) : yG x M mi pc (v0 :: v1 :: v2 :: v3 :: v4 :: v5 :: v6 :: .int (iI z) :: t) st Q := y_st hc rfl (by simp [zst, zsto1, hp]; exact (iI_add z n)) id k
theorem y_il8 {v0 v1 v2 v3 v4 v5 v6 v7 : Value} {t : List Value} {z : Int32} (hc : zcode mi pc = some (.iload 8, ln, a, b, w)) (k : yG x M mi (pc + 2) (v0 :: v1 :: v2 :: v3 :: v4 :: v5 :: v6 :: v7 :: .int z :: t) (.int z :: st) Q) : yG x M mi pc (v0 :: v1 :: v2 :: v3 :: v4 :: v5 :: v6 :: v7 :: .int z :: t) st Q := y_st hc rfl rfl id k
theorem y_ll8 {v0 v1 v2 v3 v4 v5 v6 v7 : Value} {t : List Value} {z : Int64} (hc : zcode mi pc = some (.lload 8, ln, a, b, w)) (k : yG x M mi (pc + 2) (v0 :: v1 :: v2 :: v3 :: v4 :: v5 :: v6 :: v7 :: .long z :: t) (.long z :: st) Q) : yG x M mi pc (v0 :: v1 :: v2 :: v3 :: v4 :: v5 :: v6 :: v7 :: .long z :: t) st Q := y_st hc rfl rfl id k
theorem y_al8 {v0 v1 v2 v3 v4 v5 v6 v7 : Value} {t : List Value} {z : Nat} (hc : zcode mi pc = some (.aload 8, ln, a, b, w)) (k : yG x M mi (pc + 2) (v0 :: v1 :: v2 :: v3 :: v4 :: v5 :: v6 :: v7 :: .ref z :: t) (.ref z :: st) Q) : yG x M mi pc (v0 :: v1 :: v2 :: v3 :: v4 :: v5 :: v6 :: v7 :: .ref z :: t) st Q := y_st hc rfl rfl id k
theorem y_nl8 {v0 v1 v2 v3 v4 v5 v6 v7 : Value} {t : List Value} (hc : zcode mi pc = some (.aload 8, ln, a, b, w)) (k : yG x M mi (pc + 2) (v0 :: v1 :: v2 :: v3 :: v4 :: v5 :: v6 :: v7 :: .null :: t) (.null :: st) Q) : yG x M mi pc (v0 :: v1 :: v2 :: v3 :: v4 :: v5 :: v6 :: v7 :: .null :: t) st Q := y_st hc rfl rfl id k
theorem y_is8 {v0 v1 v2 v3 v4 v5 v6 v7 : Value} {t : List Value} {u : Value} {z : Int32} (hc : zcode mi pc = some (.istore 8, ln, a, b, w)) (hp : zpre (v0 :: v1 :: v2 :: v3 :: v4 :: v5 :: v6 :: v7 :: u :: t) 8 = true) (k : yG x M mi (pc + 2) (v0 :: v1 :: v2 :: v3 :: v4 :: v5 :: v6 :: v7 :: .int z :: t) st Q) : yG x M mi pc (v0 :: v1 :: v2 :: v3 :: v4 :: v5 :: v6 :: v7 :: u :: t) (.int z :: st) Q := y_st hc rfl (by simp [zst, zsto1, show ((3 : Fin 4) : Nat) = 3 from rfl, hp]) id k
theorem y_as8 {v0 v1 v2 v3 v4 v5 v6 v7 : Value} {t : List Value} {u : Value} {z : Nat} (hc : zcode mi pc = some (.astore 8, ln, a, b, w)) (hp : zpre (v0 :: v1 :: v2 :: v3 :: v4 :: v5 :: v6 :: v7 :: u :: t) 8 = true) (k : yG x M mi (pc + 2) (v0 :: v1 :: v2 :: v3 :: v4 :: v5 :: v6 :: v7 :: .ref z :: t) st Q) : yG x M mi pc (v0 :: v1 :: v2 :: v3 :: v4 :: v5 :: v6 :: v7 :: u :: t) (.ref z :: st) Q := y_st hc rfl (by simp [zst, zsto1, show ((3 : Fin 4) : Nat) = 3 from rfl, hp]) id k
theorem y_ns8 {v0 v1 v2 v3 v4 v5 v6 v7 : Value} {t : List Value} {u : Value} (hc : zcode mi pc = some (.astore 8, ln, a, b, w)) (hp : zpre (v0 :: v1 :: v2 :: v3 :: v4 :: v5 :: v6 :: v7 :: u :: t) 8 = true) (k : yG x M mi (pc + 2) (v0 :: v1 :: v2 :: v3 :: v4 :: v5 :: v6 :: v7 :: .null :: t) st Q) : yG x M mi pc (v0 :: v1 :: v2 :: v3 :: v4 :: v5 :: v6 :: v7 :: u :: t) (.null :: st) Q := y_st hc rfl (by simp [zst, zsto1, show ((3 : Fin 4) : Nat) = 3 from rfl, hp]) id k
theorem y_inc8 {v0 v1 v2 v3 v4 v5 v6 v7 : Value} {t : List Value} {z n : Int} (hc : zcode mi pc = some (.iinc 8 n, ln, a, b, w)) (hp : zpre (v0 :: v1 :: v2 :: v3 :: v4 :: v5 :: v6 :: v7 :: .int (iI z) :: t) 8 = true) (k : yG x M mi (pc + 3) (v0 :: v1 :: v2 :: v3 :: v4 :: v5 :: v6 :: v7 :: .int (iI (z + n)) :: t) st Q) : yG x M mi pc (v0 :: v1 :: v2 :: v3 :: v4 :: v5 :: v6 :: v7 :: .int (iI z) :: t) st Q := y_st hc rfl (by simp [zst, zsto1, hp]; exact (iI_add z n)) id k
theorem y_il9 {v0 v1 v2 v3 v4 v5 v6 v7 v8 : Value} {t : List Value} {z : Int32} (hc : zcode mi pc = some (.iload 9, ln, a, b, w)) (k : yG x M mi (pc + 2) (v0 :: v1 :: v2 :: v3 :: v4 :: v5 :: v6 :: v7 :: v8 :: .int z :: t) (.int z :: st) Q) : yG x M mi pc (v0 :: v1 :: v2 :: v3 :: v4 :: v5 :: v6 :: v7 :: v8 :: .int z :: t) st Q := y_st hc rfl rfl id k
theorem y_ll9 {v0 v1 v2 v3 v4 v5 v6 v7 v8 : Value} {t : List Value} {z : Int64} (hc : zcode mi pc = some (.lload 9, ln, a, b, w)) (k : yG x M mi (pc + 2) (v0 :: v1 :: v2 :: v3 :: v4 :: v5 :: v6 :: v7 :: v8 :: .long z :: t) (.long z :: st) Q) : yG x M mi pc (v0 :: v1 :: v2 :: v3 :: v4 :: v5 :: v6 :: v7 :: v8 :: .long z :: t) st Q := y_st hc rfl rfl id k
theorem y_al9 {v0 v1 v2 v3 v4 v5 v6 v7 v8 : Value} {t : List Value} {z : Nat} (hc : zcode mi pc = some (.aload 9, ln, a, b, w)) (k : yG x M mi (pc + 2) (v0 :: v1 :: v2 :: v3 :: v4 :: v5 :: v6 :: v7 :: v8 :: .ref z :: t) (.ref z :: st) Q) : yG x M mi pc (v0 :: v1 :: v2 :: v3 :: v4 :: v5 :: v6 :: v7 :: v8 :: .ref z :: t) st Q := y_st hc rfl rfl id k
theorem y_nl9 {v0 v1 v2 v3 v4 v5 v6 v7 v8 : Value} {t : List Value} (hc : zcode mi pc = some (.aload 9, ln, a, b, w)) (k : yG x M mi (pc + 2) (v0 :: v1 :: v2 :: v3 :: v4 :: v5 :: v6 :: v7 :: v8 :: .null :: t) (.null :: st) Q) : yG x M mi pc (v0 :: v1 :: v2 :: v3 :: v4 :: v5 :: v6 :: v7 :: v8 :: .null :: t) st Q := y_st hc rfl rfl id k
theorem y_is9 {v0 v1 v2 v3 v4 v5 v6 v7 v8 : Value} {t : List Value} {u : Value} {z : Int32} (hc : zcode mi pc = some (.istore 9, ln, a, b, w)) (hp : zpre (v0 :: v1 :: v2 :: v3 :: v4 :: v5 :: v6 :: v7 :: v8 :: u :: t) 9 = true) (k : yG x M mi (pc + 2) (v0 :: v1 :: v2 :: v3 :: v4 :: v5 :: v6 :: v7 :: v8 :: .int z :: t) st Q) : yG x M mi pc (v0 :: v1 :: v2 :: v3 :: v4 :: v5 :: v6 :: v7 :: v8 :: u :: t) (.int z :: st) Q := y_st hc rfl (by simp [zst, zsto1, show ((3 : Fin 4) : Nat) = 3 from rfl, hp]) id k
theorem y_as9 {v0 v1 v2 v3 v4 v5 v6 v7 v8 : Value} {t : List Value} {u : Value} {z : Nat} (hc : zcode mi pc = some (.astore 9, ln, a, b, w)) (hp : zpre (v0 :: v1 :: v2 :: v3 :: v4 :: v5 :: v6 :: v7 :: v8 :: u :: t) 9 = true) (k : yG x M mi (pc + 2) (v0 :: v1 :: v2 :: v3 :: v4 :: v5 :: v6 :: v7 :: v8 :: .ref z :: t) st Q) : yG x M mi pc (v0 :: v1 :: v2 :: v3 :: v4 :: v5 :: v6 :: v7 :: v8 :: u :: t) (.ref z :: st) Q := y_st hc rfl (by simp [zst, zsto1, show ((3 : Fin 4) : Nat) = 3 from rfl, hp]) id k
theorem y_ns9 {v0 v1 v2 v3 v4 v5 v6 v7 v8 : Value} {t : List Value} {u : Value} (hc : zcode mi pc = some (.astore 9, ln, a, b, w)) (hp : zpre (v0 :: v1 :: v2 :: v3 :: v4 :: v5 :: v6 :: v7 :: v8 :: u :: t) 9 = true) (k : yG x M mi (pc + 2) (v0 :: v1 :: v2 :: v3 :: v4 :: v5 :: v6 :: v7 :: v8 :: .null :: t) st Q) : yG x M mi pc (v0 :: v1 :: v2 :: v3 :: v4 :: v5 :: v6 :: v7 :: v8 :: u :: t) (.null :: st) Q := y_st hc rfl (by simp [zst, zsto1, show ((3 : Fin 4) : Nat) = 3 from rfl, hp]) id k
theorem y_inc9 {v0 v1 v2 v3 v4 v5 v6 v7 v8 : Value} {t : List Value} {z n : Int} (hc : zcode mi pc = some (.iinc 9 n, ln, a, b, w)) (hp : zpre (v0 :: v1 :: v2 :: v3 :: v4 :: v5 :: v6 :: v7 :: v8 :: .int (iI z) :: t) 9 = true) (k : yG x M mi (pc + 3) (v0 :: v1 :: v2 :: v3 :: v4 :: v5 :: v6 :: v7 :: v8 :: .int (iI (z + n)) :: t) st Q) : yG x M mi pc (v0 :: v1 :: v2 :: v3 :: v4 :: v5 :: v6 :: v7 :: v8 :: .int (iI z) :: t) st Q := y_st hc rfl (by simp [zst, zsto1, hp]; exact (iI_add z n)) id k
theorem y_il10 {v0 v1 v2 v3 v4 v5 v6 v7 v8 v9 : Value} {t : List Value} {z : Int32} (hc : zcode mi pc = some (.iload 10, ln, a, b, w)) (k : yG x M mi (pc + 2) (v0 :: v1 :: v2 :: v3 :: v4 :: v5 :: v6 :: v7 :: v8 :: v9 :: .int z :: t) (.int z :: st) Q) : yG x M mi pc (v0 :: v1 :: v2 :: v3 :: v4 :: v5 :: v6 :: v7 :: v8 :: v9 :: .int z :: t) st Q := y_st hc rfl rfl id k
theorem y_ll10 {v0 v1 v2 v3 v4 v5 v6 v7 v8 v9 : Value} {t : List Value} {z : Int64} (hc : zcode mi pc = some (.lload 10, ln, a, b, w)) (k : yG x M mi (pc + 2) (v0 :: v1 :: v2 :: v3 :: v4 :: v5 :: v6 :: v7 :: v8 :: v9 :: .long z :: t) (.long z :: st) Q) : yG x M mi pc (v0 :: v1 :: v2 :: v3 :: v4 :: v5 :: v6 :: v7 :: v8 :: v9 :: .long z :: t) st Q := y_st hc rfl rfl id k
theorem y_al10 {v0 v1 v2 v3 v4 v5 v6 v7 v8 v9 : Value} {t : List Value} {z : Nat} (hc : zcode mi pc = some (.aload 10, ln, a, b, w)) (k : yG x M mi (pc + 2) (v0 :: v1 :: v2 :: v3 :: v4 :: v5 :: v6 :: v7 :: v8 :: v9 :: .ref z :: t) (.ref z :: st) Q) : yG x M mi pc (v0 :: v1 :: v2 :: v3 :: v4 :: v5 :: v6 :: v7 :: v8 :: v9 :: .ref z :: t) st Q := y_st hc rfl rfl id k
theorem y_nl10 {v0 v1 v2 v3 v4 v5 v6 v7 v8 v9 : Value} {t : List Value} (hc : zcode mi pc = some (.aload 10, ln, a, b, w)) (k : yG x M mi (pc + 2) (v0 :: v1 :: v2 :: v3 :: v4 :: v5 :: v6 :: v7 :: v8 :: v9 :: .null :: t) (.null :: st) Q) : yG x M mi pc (v0 :: v1 :: v2 :: v3 :: v4 :: v5 :: v6 :: v7 :: v8 :: v9 :: .null :: t) st Q := y_st hc rfl rfl id k
theorem y_is10 {v0 v1 v2 v3 v4 v5 v6 v7 v8 v9 : Value} {t : List Value} {u : Value} {z : Int32} (hc : zcode mi pc = some (.istore 10, ln, a, b, w)) (hp : zpre (v0 :: v1 :: v2 :: v3 :: v4 :: v5 :: v6 :: v7 :: v8 :: v9 :: u :: t) 10 = true) (k : yG x M mi (pc + 2) (v0 :: v1 :: v2 :: v3 :: v4 :: v5 :: v6 :: v7 :: v8 :: v9 :: .int z :: t) st Q) : yG x M mi pc (v0 :: v1 :: v2 :: v3 :: v4 :: v5 :: v6 :: v7 :: v8 :: v9 :: u :: t) (.int z :: st) Q := y_st hc rfl (by simp [zst, zsto1, show ((3 : Fin 4) : Nat) = 3 from rfl, hp]) id k
theorem y_as10 {v0 v1 v2 v3 v4 v5 v6 v7 v8 v9 : Value} {t : List Value} {u : Value} {z : Nat} (hc : zcode mi pc = some (.astore 10, ln, a, b, w)) (hp : zpre (v0 :: v1 :: v2 :: v3 :: v4 :: v5 :: v6 :: v7 :: v8 :: v9 :: u :: t) 10 = true) (k : yG x M mi (pc + 2) (v0 :: v1 :: v2 :: v3 :: v4 :: v5 :: v6 :: v7 :: v8 :: v9 :: .ref z :: t) st Q) : yG x M mi pc (v0 :: v1 :: v2 :: v3 :: v4 :: v5 :: v6 :: v7 :: v8 :: v9 :: u :: t) (.ref z :: st) Q := y_st hc rfl (by simp [zst, zsto1, show ((3 : Fin 4) : Nat) = 3 from rfl, hp]) id k
theorem y_ns10 {v0 v1 v2 v3 v4 v5 v6 v7 v8 v9 : Value} {t : List Value} {u : Value} (hc : zcode mi pc = some (.astore 10, ln, a, b, w)) (hp : zpre (v0 :: v1 :: v2 :: v3 :: v4 :: v5 :: v6 :: v7 :: v8 :: v9 :: u :: t) 10 = true) (k : yG x M mi (pc + 2) (v0 :: v1 :: v2 :: v3 :: v4 :: v5 :: v6 :: v7 :: v8 :: v9 :: .null :: t) st Q) : yG x M mi pc (v0 :: v1 :: v2 :: v3 :: v4 :: v5 :: v6 :: v7 :: v8 :: v9 :: u :: t) (.null :: st) Q := y_st hc rfl (by simp [zst, zsto1, show ((3 : Fin 4) : Nat) = 3 from rfl, hp]) id k
theorem y_inc10 {v0 v1 v2 v3 v4 v5 v6 v7 v8 v9 : Value} {t : List Value} {z n : Int} (hc : zcode mi pc = some (.iinc 10 n, ln, a, b, w)) (hp : zpre (v0 :: v1 :: v2 :: v3 :: v4 :: v5 :: v6 :: v7 :: v8 :: v9 :: .int (iI z) :: t) 10 = true) (k : yG x M mi (pc + 3) (v0 :: v1 :: v2 :: v3 :: v4 :: v5 :: v6 :: v7 :: v8 :: v9 :: .int (iI (z + n)) :: t) st Q) : yG x M mi pc (v0 :: v1 :: v2 :: v3 :: v4 :: v5 :: v6 :: v7 :: v8 :: v9 :: .int (iI z) :: t) st Q := y_st hc rfl (by simp [zst, zsto1, hp]; exact (iI_add z n)) id k
theorem y_il11 {v0 v1 v2 v3 v4 v5 v6 v7 v8 v9 v10 : Value} {t : List Value} {z : Int32} (hc : zcode mi pc = some (.iload 11, ln, a, b, w)) (k : yG x M mi (pc + 2) (v0 :: v1 :: v2 :: v3 :: v4 :: v5 :: v6 :: v7 :: v8 :: v9 :: v10 :: .int z :: t) (.int z :: st) Q) : yG x M mi pc (v0 :: v1 :: v2 :: v3 :: v4 :: v5 :: v6 :: v7 :: v8 :: v9 :: v10 :: .int z :: t) st Q := y_st hc rfl rfl id k
theorem y_ll11 {v0 v1 v2 v3 v4 v5 v6 v7 v8 v9 v10 : Value} {t : List Value} {z : Int64} (hc : zcode mi pc = some (.lload 11, ln, a, b, w)) (k : yG x M mi (pc + 2) (v0 :: v1 :: v2 :: v3 :: v4 :: v5 :: v6 :: v7 :: v8 :: v9 :: v10 :: .long z :: t) (.long z :: st) Q) : yG x M mi pc (v0 :: v1 :: v2 :: v3 :: v4 :: v5 :: v6 :: v7 :: v8 :: v9 :: v10 :: .long z :: t) st Q := y_st hc rfl rfl id k
theorem y_al11 {v0 v1 v2 v3 v4 v5 v6 v7 v8 v9 v10 : Value} {t : List Value} {z : Nat} (hc : zcode mi pc = some (.aload 11, ln, a, b, w)) (k : yG x M mi (pc + 2) (v0 :: v1 :: v2 :: v3 :: v4 :: v5 :: v6 :: v7 :: v8 :: v9 :: v10 :: .ref z :: t) (.ref z :: st) Q) : yG x M mi pc (v0 :: v1 :: v2 :: v3 :: v4 :: v5 :: v6 :: v7 :: v8 :: v9 :: v10 :: .ref z :: t) st Q := y_st hc rfl rfl id k
theorem y_nl11 {v0 v1 v2 v3 v4 v5 v6 v7 v8 v9 v10 : Value} {t : List Value} (hc : zcode mi pc = some (.aload 11, ln, a, b, w)) (k : yG x M mi (pc + 2) (v0 :: v1 :: v2 :: v3 :: v4 :: v5 :: v6 :: v7 :: v8 :: v9 :: v10 :: .null :: t) (.null :: st) Q) : yG x M mi pc (v0 :: v1 :: v2 :: v3 :: v4 :: v5 :: v6 :: v7 :: v8 :: v9 :: v10 :: .null :: t) st Q := y_st hc rfl rfl id k
theorem y_is11 {v0 v1 v2 v3 v4 v5 v6 v7 v8 v9 v10 : Value} {t : List Value} {u : Value} {z : Int32} (hc : zcode mi pc = some (.istore 11, ln, a, b, w)) (hp : zpre (v0 :: v1 :: v2 :: v3 :: v4 :: v5 :: v6 :: v7 :: v8 :: v9 :: v10 :: u :: t) 11 = true) (k : yG x M mi (pc + 2) (v0 :: v1 :: v2 :: v3 :: v4 :: v5 :: v6 :: v7 :: v8 :: v9 :: v10 :: .int z :: t) st Q) : yG x M mi pc (v0 :: v1 :: v2 :: v3 :: v4 :: v5 :: v6 :: v7 :: v8 :: v9 :: v10 :: u :: t) (.int z :: st) Q := y_st hc rfl (by simp [zst, zsto1, show ((3 : Fin 4) : Nat) = 3 from rfl, hp]) id k
theorem y_as11 {v0 v1 v2 v3 v4 v5 v6 v7 v8 v9 v10 : Value} {t : List Value} {u : Value} {z : Nat} (hc : zcode mi pc = some (.astore 11, ln, a, b, w)) (hp : zpre (v0 :: v1 :: v2 :: v3 :: v4 :: v5 :: v6 :: v7 :: v8 :: v9 :: v10 :: u :: t) 11 = true) (k : yG x M mi (pc + 2) (v0 :: v1 :: v2 :: v3 :: v4 :: v5 :: v6 :: v7 :: v8 :: v9 :: v10 :: .ref z :: t) st Q) : yG x M mi pc (v0 :: v1 :: v2 :: v3 :: v4 :: v5 :: v6 :: v7 :: v8 :: v9 :: v10 :: u :: t) (.ref z :: st) Q := y_st hc rfl (by simp [zst, zsto1, show ((3 : Fin 4) : Nat) = 3 from rfl, hp]) id k
theorem y_ns11 {v0 v1 v2 v3 v4 v5 v6 v7 v8 v9 v10 : Value} {t : List Value} {u : Value} (hc : zcode mi pc = some (.astore 11, ln, a, b, w)) (hp : zpre (v0 :: v1 :: v2 :: v3 :: v4 :: v5 :: v6 :: v7 :: v8 :: v9 :: v10 :: u :: t) 11 = true) (k : yG x M mi (pc + 2) (v0 :: v1 :: v2 :: v3 :: v4 :: v5 :: v6 :: v7 :: v8 :: v9 :: v10 :: .null :: t) st Q) : yG x M mi pc (v0 :: v1 :: v2 :: v3 :: v4 :: v5 :: v6 :: v7 :: v8 :: v9 :: v10 :: u :: t) (.null :: st) Q := y_st hc rfl (by simp [zst, zsto1, show ((3 : Fin 4) : Nat) = 3 from rfl, hp]) id k
theorem y_inc11 {v0 v1 v2 v3 v4 v5 v6 v7 v8 v9 v10 : Value} {t : List Value} {z n : Int} (hc : zcode mi pc = some (.iinc 11 n, ln, a, b, w)) (hp : zpre (v0 :: v1 :: v2 :: v3 :: v4 :: v5 :: v6 :: v7 :: v8 :: v9 :: v10 :: .int (iI z) :: t) 11 = true) (k : yG x M mi (pc + 3) (v0 :: v1 :: v2 :: v3 :: v4 :: v5 :: v6 :: v7 :: v8 :: v9 :: v10 :: .int (iI (z + n)) :: t) st Q) : yG x M mi pc (v0 :: v1 :: v2 :: v3 :: v4 :: v5 :: v6 :: v7 :: v8 :: v9 :: v10 :: .int (iI z) :: t) st Q := y_st hc rfl (by simp [zst, zsto1, hp]; exact (iI_add z n)) id k
theorem y_ls0 {t : List Value} {u u2 : Value} {z : Int64} (hc : zcode mi pc = some (.lstore_n 0, ln, a, b, w)) (k : yG x M mi (pc + 1) (.long z :: zU :: t) st Q) : yG x M mi pc (u :: u2 :: t) (.long z :: st) Q := y_st hc rfl (by simp [zst, zsto2, show ((3 : Fin 4) : Nat) = 3 from rfl, zpre]) id k
theorem y_ls1 {v0 : Value} {t : List Value} {u u2 : Value} {z : Int64} (hc : zcode mi pc = some (.lstore_n 1, ln, a, b, w)) (hp : zpre (v0 :: u :: u2 :: t) 1 = true) (k : yG x M mi (pc + 1) (v0 :: .long z :: zU :: t) st Q) : yG x M mi pc (v0 :: u :: u2 :: t) (.long z :: st) Q := y_st hc rfl (by simp [zst, zsto2, show ((3 : Fin 4) : Nat) = 3 from rfl, hp]) id k
theorem y_ls2 {v0 v1 : Value} {t : List Value} {u u2 : Value} {z : Int64} (hc : zcode mi pc = some (.lstore_n 2, ln, a, b, w)) (hp : zpre (v0 :: v1 :: u :: u2 :: t) 2 = true) (k : yG x M mi (pc + 1) (v0 :: v1 :: .long z :: zU :: t) st Q) : yG x M mi pc (v0 :: v1 :: u :: u2 :: t) (.long z :: st) Q := y_st hc rfl (by simp [zst, zsto2, show ((3 : Fin 4) : Nat) = 3 from rfl, hp]) id k
theorem y_ls3 {v0 v1 v2 : Value} {t : List Value} {u u2 : Value} {z : Int64} (hc : zcode mi pc = some (.lstore_n 3, ln, a, b, w)) (hp : zpre (v0 :: v1 :: v2 :: u :: u2 :: t) 3 = true) (k : yG x M mi (pc + 1) (v0 :: v1 :: v2 :: .long z :: zU :: t) st Q) : yG x M mi pc (v0 :: v1 :: v2 :: u :: u2 :: t) (.long z :: st) Q := y_st hc rfl (by simp [zst, zsto2, show ((3 : Fin 4) : Nat) = 3 from rfl, hp]) id k
theorem y_add {x1 x2 : Int} (hc : zcode mi pc = some (.iadd, ln, a, b, w)) (k : yG x M mi (pc + 1) l (.int (iI (x1 + x2)) :: st) Q) : yG x M mi pc l (.int (iI x2) :: .int (iI x1) :: st) Q := y_st hc rfl rfl id (by rw [iI_add]; exact k)
theorem y_sub {x1 x2 : Int} (hc : zcode mi pc = some (.isub, ln, a, b, w)) (k : yG x M mi (pc + 1) l (.int (iI (x1 - x2)) :: st) Q) : yG x M mi pc l (.int (iI x2) :: .int (iI x1) :: st) Q := y_st hc rfl rfl id (by rw [iI_sub]; exact k)
theorem y_mul {x1 x2 : Int} (hc : zcode mi pc = some (.imul, ln, a, b, w)) (k : yG x M mi (pc + 1) l (.int (iI (x1 * x2)) :: st) Q) : yG x M mi pc l (.int (iI x2) :: .int (iI x1) :: st) Q := y_st hc rfl rfl id (by rw [iI_mul]; exact k)
theorem y_neg {x1 : Int} (hc : zcode mi pc = some (.ineg, ln, a, b, w)) (k : yG x M mi (pc + 1) l (.int (iI (-x1)) :: st) Q) : yG x M mi pc l (.int (iI x1) :: st) Q := y_st hc rfl rfl id (by rw [iI_neg]; exact k)
theorem iI_pos {z : Int} (h0 : 0 ≤ z) (h : wR z) : ∃ n : Nat, z = (n : Int) ∧ n < 2147483648 := ⟨z.toNat, by omega, by omega⟩
theorem iI_div {x1 x2 : Int} (h1 : 0 ≤ x1) (h1r : wR x1) (h2 : 0 < x2) (h2r : wR x2) : iI x1 / iI x2 = iI (x1 / x2) := by
  obtain ⟨n, rfl, hn⟩ := iI_pos h1 h1r
  obtain ⟨m, rfl, hm⟩ := iI_pos (by omega) h2r
  rw [iI_nat, iI_nat, pk_div hn (by omega) hm, ← iI_nat]
  congr 1
theorem iI_rem {x1 x2 : Int} (h1 : 0 ≤ x1) (h1r : wR x1) (h2 : 0 < x2) (h2r : wR x2) : iI x1 - iI x1 / iI x2 * iI x2 = iI (x1 % x2) := by
  obtain ⟨n, rfl, hn⟩ := iI_pos h1 h1r
  obtain ⟨m, rfl, hm⟩ := iI_pos (by omega) h2r
  rw [iI_nat, iI_nat, pk_rem hn (by omega) hm, ← iI_nat]
  congr 1
theorem iI_ne0 {z : Int} (hz : 0 < z) (h : wR z) : ¬ iI z = 0 := fun e => by
  have := (iI_eq h (y := 0) (by omega)).mp e
  omega
theorem y_div {x1 x2 : Int} (hc : zcode mi pc = some (.idiv, ln, a, b, w)) (h1 : 0 ≤ x1) (h1r : wR x1) (h2 : 0 < x2) (h2r : wR x2) (k : yG x M mi (pc + 1) l (.int (iI (x1 / x2)) :: st) Q) : yG x M mi pc l (.int (iI x2) :: .int (iI x1) :: st) Q :=
  y_st hc rfl (by simp only [zst, if_neg (iI_ne0 h2 h2r), iI_div h1 h1r h2 h2r]) id k
theorem y_rem {x1 x2 : Int} (hc : zcode mi pc = some (.irem, ln, a, b, w)) (h1 : 0 ≤ x1) (h1r : wR x1) (h2 : 0 < x2) (h2r : wR x2) (k : yG x M mi (pc + 1) l (.int (iI (x1 % x2)) :: st) Q) : yG x M mi pc l (.int (iI x2) :: .int (iI x1) :: st) Q :=
  y_st hc rfl (by simp only [zst, if_neg (iI_ne0 h2 h2r), iI_rem h1 h1r h2 h2r]) id k
/-- whole bits -/
theorem y_ior {x1 x2 : Nat} (hc : zcode mi pc = some (.ior, ln, a, b, w)) (k : yG x M mi (pc + 1) l (.int (iI ((x1 ||| x2 : Nat) : Int)) :: st) Q) : yG x M mi pc l (.int (iI (x2 : Int)) :: .int (iI (x1 : Int)) :: st) Q :=
  y_st hc rfl (by simp only [zst]; rfl) id (by
    have e : iI (x1 : Int) ||| iI (x2 : Int) = iI ((x1 ||| x2 : Nat) : Int) := by rw [iI_nat, iI_nat, iI_nat]; exact (za_bits x1 x2).1
    rw [e]; exact k)
theorem y_iand {x1 x2 : Nat} (hc : zcode mi pc = some (.iand, ln, a, b, w)) (k : yG x M mi (pc + 1) l (.int (iI ((x1 &&& x2 : Nat) : Int)) :: st) Q) : yG x M mi pc l (.int (iI (x2 : Int)) :: .int (iI (x1 : Int)) :: st) Q :=
  y_st hc rfl (by simp only [zst]; rfl) id (by
    have e : iI (x1 : Int) &&& iI (x2 : Int) = iI ((x1 &&& x2 : Nat) : Int) := by rw [iI_nat, iI_nat, iI_nat]; exact (za_bits x1 x2).2.1
    rw [e]; exact k)
theorem y_ixor {x1 x2 : Nat} (hc : zcode mi pc = some (.ixor, ln, a, b, w)) (k : yG x M mi (pc + 1) l (.int (iI ((x1 ^^^ x2 : Nat) : Int)) :: st) Q) : yG x M mi pc l (.int (iI (x2 : Int)) :: .int (iI (x1 : Int)) :: st) Q :=
  y_st hc rfl (by simp only [zst]; rfl) id (by
    have e : iI (x1 : Int) ^^^ iI (x2 : Int) = iI ((x1 ^^^ x2 : Nat) : Int) := by rw [iI_nat, iI_nat, iI_nat]; exact (za_bits x1 x2).2.2
    rw [e]; exact k)
theorem iI_sm : ∀ n : Nat, n < 32 → ((nI n &&& 31).toBitVec.smod 32).toNat = n := by decide +kernel
theorem y_shl {x1 x2 : Nat} (hc : zcode mi pc = some (.ishl, ln, a, b, w)) (h2 : x2 < 31) (h1 : x1 * 2 ^ x2 < 2147483648) (k : yG x M mi (pc + 1) l (.int (iI ((x1 * 2 ^ x2 : Nat) : Int)) :: st) Q) : yG x M mi pc l (.int (iI (x2 : Int)) :: .int (iI (x1 : Int)) :: st) Q :=
  y_st hc rfl (by simp only [zst]; rfl) id (by
    have e : iI (x1 : Int) <<< (iI (x2 : Int) &&& 31) = iI ((x1 * 2 ^ x2 : Nat) : Int) := by
      rw [iI_nat, iI_nat, iI_nat]
      exact pk_shlN _ x2 (iI_sm x2 (by omega)) (by omega)
    rw [e]; exact k)
theorem y_shr {x1 x2 : Nat} (hc : zcode mi pc = some (.ishr, ln, a, b, w)) (h2 : x2 < 31) (h1 : x1 < 2147483648) (k : yG x M mi (pc + 1) l (.int (iI ((x1 / 2 ^ x2 : Nat) : Int)) :: st) Q) : yG x M mi pc l (.int (iI (x2 : Int)) :: .int (iI (x1 : Int)) :: st) Q :=
  y_st hc rfl (by simp only [zst]; rfl) id (by
    have e : iI (x1 : Int) >>> (iI (x2 : Int) &&& 31) = iI ((x1 / 2 ^ x2 : Nat) : Int) := by
      rw [iI_nat, iI_nat, iI_nat]
      exact pk_shrN h1 _ x2 (iI_sm x2 (by omega))
    rw [e]; exact k)
theorem y_i2l {z : Int} (hc : zcode mi pc = some (.i2l, ln, a, b, w)) (hz : wR z) (k : yG x M mi (pc + 1) l (.long (lI z) :: st) Q) : yG x M mi pc l (.int (iI z) :: st) Q :=
  y_st hc rfl rfl id (by
    have e : (iI z).toInt64 = lI z := by rw [← Int64.toInt_inj, Int32.toInt_toInt64, iI_ti hz]; unfold lI; rw [Int64.toInt_ofInt]; exact (Int.bmod_eq_of_le (by show -((18446744073709551616 : Int) / 2) ≤ z; omega) (by show z < ((18446744073709551616 : Int) + 1) / 2; omega)).symm
    rw [e]; exact k)
theorem y_l2i {z : Int64} (hc : zcode mi pc = some (.l2i, ln, a, b, w)) (k : yG x M mi (pc + 1) l (.int z.toInt32 :: st) Q) : yG x M mi pc l (.long z :: st) Q := y_st hc rfl rfl id k
theorem y_lmul {x1 x2 : Int64} (hc : zcode mi pc = some (.lmul, ln, a, b, w)) (k : yG x M mi (pc + 1) l (.long (x1 * x2) :: st) Q) : yG x M mi pc l (.long x2 :: .long x1 :: st) Q := y_st hc rfl rfl id k
theorem y_ladd {x1 x2 : Int64} (hc : zcode mi pc = some (.ladd, ln, a, b, w)) (k : yG x M mi (pc + 1) l (.long (x1 + x2) :: st) Q) : yG x M mi pc l (.long x2 :: .long x1 :: st) Q := y_st hc rfl rfl id k
theorem y_lrem {x1 x2 : Int64} (hc : zcode mi pc = some (.lrem, ln, a, b, w)) (h : ¬ x2 = 0) (k : yG x M mi (pc + 1) l (.long (x1 - x1 / x2 * x2) :: st) Q) : yG x M mi pc l (.long x2 :: .long x1 :: st) Q := y_st hc rfl (by simp only [zst, if_neg h]) id k
theorem y_lushr {x1 : Int64} {x2 : Int32} (hc : zcode mi pc = some (.lushr, ln, a, b, w)) (k : yG x M mi (pc + 1) l (.long (x1.toUInt64 >>> (x2.toInt64.toUInt64 &&& Int64.toUInt64 63)).toInt64 :: st) Q) : yG x M mi pc l (.int x2 :: .long x1 :: st) Q := y_st hc rfl rfl id k
theorem zrecv_of {x : wC} {M : wM} {a o : Nat} {t : List Value} (h : wcl o = zmc a) (h9 : zmc a < 9999) : zrecv a (wW x M) (.ref o :: t) = true := by
  unfold wcl at h
  split at h
  · rename_i c s hs
    subst h
    have e := wW_get x M hs
    simp [zrecv, e, wE, Nat.beq_refl]
  · omega
theorem zrecv_st {h : List zE} {a : Nat} {av : List Value} (hs : zsta a = true) : zrecv a h av = true := by simp [zrecv, hs]
theorem y_calls {av rest : List Value} (hc : zcode mi pc = some (i, ln, a, b, w)) (hk : zkd i b = 1) (hn : znp a = av.length) (hl : (zargs av).length ≤ zml a) (hs : zcats rest ≤ 8) (hr : zrecv a (wW x M) av = true)
    (k : yG x M a 0 (zent a av) [] (fun v x' M' => yG x' M' mi (pc + 3) l (zpu v rest) Q)) : yG x M mi pc l (av.reverse ++ rest) Q := by
  have e1 : (av.reverse ++ rest).take (znp a) = av.reverse := by rw [hn, ← List.length_reverse]; exact List.take_left ..
  have e2 : (av.reverse ++ rest).drop (znp a) = rest := by rw [hn, ← List.length_reverse]; exact List.drop_left ..
  refine y_call hc hk ?_ ?_
  · simp only [zcan, e1, e2, List.reverse_reverse, hr, Bool.and_true, Bool.and_eq_true, Nat.ble_eq]
    exact ⟨⟨by rw [hn]; simp, hs⟩, hl⟩
  · rw [e1, e2, List.reverse_reverse]
    exact k
def wcmp (x y : Int) : Int := if y < x then 1 else if x = y then 0 else -1
theorem lI_ti {z : Int} (h : wR z) : (lI z).toInt = z := by
  unfold lI
  rw [Int64.toInt_ofInt]
  exact Int.bmod_eq_of_le (by show -((18446744073709551616 : Int) / 2) ≤ z; omega) (by show z < ((18446744073709551616 : Int) + 1) / 2; omega)
theorem y_lcmp {x1 x2 : Int} (hc : zcode mi pc = some (.lcmp, ln, a, b, w)) (h1 : wR x1) (h2 : wR x2) (k : yG x M mi (pc + 1) l (.int (iI (wcmp x1 x2)) :: st) Q) : yG x M mi pc l (.long (lI x2) :: .long (lI x1) :: st) Q :=
  y_st hc rfl rfl id (by
    have e : lg_cmp (lI x1) (lI x2) = iI (wcmp x1 x2) := by
      unfold lg_cmp wcmp
      have g1 : lI x1 > lI x2 ↔ x2 < x1 := by show lI x2 < lI x1 ↔ _; rw [Int64.lt_iff_toInt_lt, lI_ti h1, lI_ti h2]
      have g2 : lI x1 = lI x2 ↔ x1 = x2 := by rw [← Int64.toInt_inj, lI_ti h1, lI_ti h2]
      simp only [g1, g2]
      split
      · rfl
      · split <;> rfl
    rw [e]; exact k)
theorem y_dup {v : Value} (hc : zcode mi pc = some (.dup, ln, a, b, w)) (hv : v.category = 1) (k : yG x M mi (pc + 1) l (v :: v :: st) Q) : yG x M mi pc l (v :: st) Q := y_st hc rfl (by simp only [zst, if_pos hv]) id k
theorem y_dup2 {v u : Value} (hc : zcode mi pc = some (.dup2, ln, a, b, w)) (hv : v.category = 1) (hu : u.category = 1) (k : yG x M mi (pc + 1) l (v :: u :: v :: u :: st) Q) : yG x M mi pc l (v :: u :: st) Q := y_st hc rfl (by simp only [zst, if_pos (And.intro hv hu)]) id k
theorem y_pop {v : Value} (hc : zcode mi pc = some (.pop, ln, a, b, w)) (hv : v.category = 1) (k : yG x M mi (pc + 1) l st Q) : yG x M mi pc l (v :: st) Q := y_st hc rfl (by simp only [zst, if_pos hv]) id k
theorem y_goto {off : Int} (hc : zcode mi pc = some (.goto off, ln, a, b, w)) (k : yG x M mi a l st Q) : yG x M mi pc l st Q := y_st hc rfl rfl id k
theorem y_ic_eq {x1 x2 : Int} {off : Int} (hc : zcode mi pc = some (.if_icmp .eq off, ln, a, b, w)) (h1 : wR x1) (h2 : wR x2) (kt : x1 = x2 → yG x M mi a l st Q) (kf : ¬ x1 = x2 → yG x M mi (pc + 3) l st Q) : yG x M mi pc l (.int (iI x2) :: .int (iI x1) :: st) Q := by
  have e := (iI_eq h1 h2)
  by_cases hq : x1 = x2
  · exact y_st (pc' := a) (l' := l) (st' := st) hc rfl (by simp only [zst]; rw [if_pos]; simp only [zcnd, Bool.not_eq_true', decide_eq_true_eq, decide_eq_false_iff_not]; first | exact e.mpr hq | exact fun g => hq (e.mp g)) id (kt hq)
  · exact y_st (pc' := pc + 3) (l' := l) (st' := st) hc rfl (by simp only [zst]; rw [if_neg]; simp only [zcnd, Bool.not_eq_true', decide_eq_true_eq, decide_eq_false_iff_not]; first | exact fun g => hq (e.mp g) | exact fun g => g (e.mpr (by omega))) id (kf (by omega))
theorem y_iz_eq {x1 : Int} {off : Int} (hc : zcode mi pc = some (.ifCond .eq off, ln, a, b, w)) (h1 : wR x1) (kt : x1 = 0 → yG x M mi a l st Q) (kf : ¬ x1 = 0 → yG x M mi (pc + 3) l st Q) : yG x M mi pc l (.int (iI x1) :: st) Q := by
  have e := (iI_eq h1 (show wR 0 by omega))
  by_cases hq : x1 = 0
  · exact y_st (pc' := a) (l' := l) (st' := st) hc rfl (by simp only [zst]; rw [if_pos]; simp only [zcnd, Bool.not_eq_true', decide_eq_true_eq, decide_eq_false_iff_not]; first | exact e.mpr hq | exact fun g => hq (e.mp g)) id (kt hq)
  · exact y_st (pc' := pc + 3) (l' := l) (st' := st) hc rfl (by simp only [zst]; rw [if_neg]; simp only [zcnd, Bool.not_eq_true', decide_eq_true_eq, decide_eq_false_iff_not]; first | exact fun g => hq (e.mp g) | exact fun g => g (e.mpr (by omega))) id (kf (by omega))
theorem y_ic_ne {x1 x2 : Int} {off : Int} (hc : zcode mi pc = some (.if_icmp .ne off, ln, a, b, w)) (h1 : wR x1) (h2 : wR x2) (kt : ¬ x1 = x2 → yG x M mi a l st Q) (kf : x1 = x2 → yG x M mi (pc + 3) l st Q) : yG x M mi pc l (.int (iI x2) :: .int (iI x1) :: st) Q := by
  have e := (iI_eq h1 h2)
  by_cases hq : ¬ x1 = x2
  · exact y_st (pc' := a) (l' := l) (st' := st) hc rfl (by simp only [zst]; rw [if_pos]; simp only [zcnd, Bool.not_eq_true', decide_eq_true_eq, decide_eq_false_iff_not]; first | exact e.mpr hq | exact fun g => hq (e.mp g)) id (kt hq)
  · exact y_st (pc' := pc + 3) (l' := l) (st' := st) hc rfl (by simp only [zst]; rw [if_neg]; simp only [zcnd, Bool.not_eq_true', decide_eq_true_eq, decide_eq_false_iff_not]; first | exact fun g => hq (e.mp g) | exact fun g => g (e.mpr (by omega))) id (kf (by omega))
theorem y_iz_ne {x1 : Int} {off : Int} (hc : zcode mi pc = some (.ifCond .ne off, ln, a, b, w)) (h1 : wR x1) (kt : ¬ x1 = 0 → yG x M mi a l st Q) (kf : x1 = 0 → yG x M mi (pc + 3) l st Q) : yG x M mi pc l (.int (iI x1) :: st) Q := by
  have e := (iI_eq h1 (show wR 0 by omega))
  by_cases hq : ¬ x1 = 0
  · exact y_st (pc' := a) (l' := l) (st' := st) hc rfl (by simp only [zst]; rw [if_pos]; simp only [zcnd, Bool.not_eq_true', decide_eq_true_eq, decide_eq_false_iff_not]; first | exact e.mpr hq | exact fun g => hq (e.mp g)) id (kt hq)
  · exact y_st (pc' := pc + 3) (l' := l) (st' := st) hc rfl (by simp only [zst]; rw [if_neg]; simp only [zcnd, Bool.not_eq_true', decide_eq_true_eq, decide_eq_false_iff_not]; first | exact fun g => hq (e.mp g) | exact fun g => g (e.mpr (by omega))) id (kf (by omega))
theorem y_ic_lt {x1 x2 : Int} {off : Int} (hc : zcode mi pc = some (.if_icmp .lt off, ln, a, b, w)) (h1 : wR x1) (h2 : wR x2) (kt : x1 < x2 → yG x M mi a l st Q) (kf : x2 ≤ x1 → yG x M mi (pc + 3) l st Q) : yG x M mi pc l (.int (iI x2) :: .int (iI x1) :: st) Q := by
  have e := (iI_lt h1 h2)
  by_cases hq : x1 < x2
  · exact y_st (pc' := a) (l' := l) (st' := st) hc rfl (by simp only [zst]; rw [if_pos]; simp only [zcnd, Bool.not_eq_true', decide_eq_true_eq, decide_eq_false_iff_not]; first | exact e.mpr hq | exact fun g => hq (e.mp g)) id (kt hq)
  · exact y_st (pc' := pc + 3) (l' := l) (st' := st) hc rfl (by simp only [zst]; rw [if_neg]; simp only [zcnd, Bool.not_eq_true', decide_eq_true_eq, decide_eq_false_iff_not]; first | exact fun g => hq (e.mp g) | exact fun g => g (e.mpr (by omega))) id (kf (by omega))
theorem y_iz_lt {x1 : Int} {off : Int} (hc : zcode mi pc = some (.ifCond .lt off, ln, a, b, w)) (h1 : wR x1) (kt : x1 < 0 → yG x M mi a l st Q) (kf : 0 ≤ x1 → yG x M mi (pc + 3) l st Q) : yG x M mi pc l (.int (iI x1) :: st) Q := by
  have e := (iI_lt h1 (show wR 0 by omega))
  by_cases hq : x1 < 0
  · exact y_st (pc' := a) (l' := l) (st' := st) hc rfl (by simp only [zst]; rw [if_pos]; simp only [zcnd, Bool.not_eq_true', decide_eq_true_eq, decide_eq_false_iff_not]; first | exact e.mpr hq | exact fun g => hq (e.mp g)) id (kt hq)
  · exact y_st (pc' := pc + 3) (l' := l) (st' := st) hc rfl (by simp only [zst]; rw [if_neg]; simp only [zcnd, Bool.not_eq_true', decide_eq_true_eq, decide_eq_false_iff_not]; first | exact fun g => hq (e.mp g) | exact fun g => g (e.mpr (by omega))) id (kf (by omega))
theorem y_ic_ge {x1 x2 : Int} {off : Int} (hc : zcode mi pc = some (.if_icmp .ge off, ln, a, b, w)) (h1 : wR x1) (h2 : wR x2) (kt : x2 ≤ x1 → yG x M mi a l st Q) (kf : x1 < x2 → yG x M mi (pc + 3) l st Q) : yG x M mi pc l (.int (iI x2) :: .int (iI x1) :: st) Q := by
  have e := (iI_le h2 h1)
  by_cases hq : x2 ≤ x1
  · exact y_st (pc' := a) (l' := l) (st' := st) hc rfl (by simp only [zst]; rw [if_pos]; simp only [zcnd, Bool.not_eq_true', decide_eq_true_eq, decide_eq_false_iff_not]; first | exact e.mpr hq | exact fun g => hq (e.mp g)) id (kt hq)
  · exact y_st (pc' := pc + 3) (l' := l) (st' := st) hc rfl (by simp only [zst]; rw [if_neg]; simp only [zcnd, Bool.not_eq_true', decide_eq_true_eq, decide_eq_false_iff_not]; first | exact fun g => hq (e.mp g) | exact fun g => g (e.mpr (by omega))) id (kf (by omega))
theorem y_iz_ge {x1 : Int} {off : Int} (hc : zcode mi pc = some (.ifCond .ge off, ln, a, b, w)) (h1 : wR x1) (kt : 0 ≤ x1 → yG x M mi a l st Q) (kf : x1 < 0 → yG x M mi (pc + 3) l st Q) : yG x M mi pc l (.int (iI x1) :: st) Q := by
  have e := (iI_le (show wR 0 by omega) h1)
  by_cases hq : 0 ≤ x1
  · exact y_st (pc' := a) (l' := l) (st' := st) hc rfl (by simp only [zst]; rw [if_pos]; simp only [zcnd, Bool.not_eq_true', decide_eq_true_eq, decide_eq_false_iff_not]; first | exact e.mpr hq | exact fun g => hq (e.mp g)) id (kt hq)
  · exact y_st (pc' := pc + 3) (l' := l) (st' := st) hc rfl (by simp only [zst]; rw [if_neg]; simp only [zcnd, Bool.not_eq_true', decide_eq_true_eq, decide_eq_false_iff_not]; first | exact fun g => hq (e.mp g) | exact fun g => g (e.mpr (by omega))) id (kf (by omega))
theorem y_ic_gt {x1 x2 : Int} {off : Int} (hc : zcode mi pc = some (.if_icmp .gt off, ln, a, b, w)) (h1 : wR x1) (h2 : wR x2) (kt : x2 < x1 → yG x M mi a l st Q) (kf : x1 ≤ x2 → yG x M mi (pc + 3) l st Q) : yG x M mi pc l (.int (iI x2) :: .int (iI x1) :: st) Q := by
  have e := (iI_lt h2 h1)
  by_cases hq : x2 < x1
  · exact y_st (pc' := a) (l' := l) (st' := st) hc rfl (by simp only [zst]; rw [if_pos]; simp only [zcnd, Bool.not_eq_true', decide_eq_true_eq, decide_eq_false_iff_not]; first | exact e.mpr hq | exact fun g => hq (e.mp g)) id (kt hq)
  · exact y_st (pc' := pc + 3) (l' := l) (st' := st) hc rfl (by simp only [zst]; rw [if_neg]; simp only [zcnd, Bool.not_eq_true', decide_eq_true_eq, decide_eq_false_iff_not]; first | exact fun g => hq (e.mp g) | exact fun g => g (e.mpr (by omega))) id (kf (by omega))
theorem y_iz_gt {x1 : Int} {off : Int} (hc : zcode mi pc = some (.ifCond .gt off, ln, a, b, w)) (h1 : wR x1) (kt : 0 < x1 → yG x M mi a l st Q) (kf : x1 ≤ 0 → yG x M mi (pc + 3) l st Q) : yG x M mi pc l (.int (iI x1) :: st) Q := by
  have e := (iI_lt (show wR 0 by omega) h1)
  by_cases hq : 0 < x1
  · exact y_st (pc' := a) (l' := l) (st' := st) hc rfl (by simp only [zst]; rw [if_pos]; simp only [zcnd, Bool.not_eq_true', decide_eq_true_eq, decide_eq_false_iff_not]; first | exact e.mpr hq | exact fun g => hq (e.mp g)) id (kt hq)
  · exact y_st (pc' := pc + 3) (l' := l) (st' := st) hc rfl (by simp only [zst]; rw [if_neg]; simp only [zcnd, Bool.not_eq_true', decide_eq_true_eq, decide_eq_false_iff_not]; first | exact fun g => hq (e.mp g) | exact fun g => g (e.mpr (by omega))) id (kf (by omega))
theorem y_ic_le {x1 x2 : Int} {off : Int} (hc : zcode mi pc = some (.if_icmp .le off, ln, a, b, w)) (h1 : wR x1) (h2 : wR x2) (kt : x1 ≤ x2 → yG x M mi a l st Q) (kf : x2 < x1 → yG x M mi (pc + 3) l st Q) : yG x M mi pc l (.int (iI x2) :: .int (iI x1) :: st) Q := by
  have e := (iI_le h1 h2)
  by_cases hq : x1 ≤ x2
  · exact y_st (pc' := a) (l' := l) (st' := st) hc rfl (by simp only [zst]; rw [if_pos]; simp only [zcnd, Bool.not_eq_true', decide_eq_true_eq, decide_eq_false_iff_not]; first | exact e.mpr hq | exact fun g => hq (e.mp g)) id (kt hq)
  · exact y_st (pc' := pc + 3) (l' := l) (st' := st) hc rfl (by simp only [zst]; rw [if_neg]; simp only [zcnd, Bool.not_eq_true', decide_eq_true_eq, decide_eq_false_iff_not]; first | exact fun g => hq (e.mp g) | exact fun g => g (e.mpr (by omega))) id (kf (by omega))
theorem y_iz_le {x1 : Int} {off : Int} (hc : zcode mi pc = some (.ifCond .le off, ln, a, b, w)) (h1 : wR x1) (kt : x1 ≤ 0 → yG x M mi a l st Q) (kf : 0 < x1 → yG x M mi (pc + 3) l st Q) : yG x M mi pc l (.int (iI x1) :: st) Q := by
  have e := (iI_le h1 (show wR 0 by omega))
  by_cases hq : x1 ≤ 0
  · exact y_st (pc' := a) (l' := l) (st' := st) hc rfl (by simp only [zst]; rw [if_pos]; simp only [zcnd, Bool.not_eq_true', decide_eq_true_eq, decide_eq_false_iff_not]; first | exact e.mpr hq | exact fun g => hq (e.mp g)) id (kt hq)
  · exact y_st (pc' := pc + 3) (l' := l) (st' := st) hc rfl (by simp only [zst]; rw [if_neg]; simp only [zcnd, Bool.not_eq_true', decide_eq_true_eq, decide_eq_false_iff_not]; first | exact fun g => hq (e.mp g) | exact fun g => g (e.mpr (by omega))) id (kf (by omega))
theorem y_nul_r {off : Int} {o : Nat} (hc : zcode mi pc = some (.ifnull off, ln, a, b, w)) (k : yG x M mi (pc + 3) l st Q) : yG x M mi pc l (.ref o :: st) Q := y_st hc rfl rfl id k
theorem y_nul_n {off : Int} (hc : zcode mi pc = some (.ifnull off, ln, a, b, w)) (k : yG x M mi a l st Q) : yG x M mi pc l (.null :: st) Q := y_st hc rfl rfl id k
theorem y_nn_r {off : Int} {o : Nat} (hc : zcode mi pc = some (.ifnonnull off, ln, a, b, w)) (k : yG x M mi a l st Q) : yG x M mi pc l (.ref o :: st) Q := y_st hc rfl rfl id k
theorem y_nn_n {off : Int} (hc : zcode mi pc = some (.ifnonnull off, ln, a, b, w)) (k : yG x M mi (pc + 3) l st Q) : yG x M mi pc l (.null :: st) Q := y_st hc rfl rfl id k
theorem y_ts {d lo hi : Int} {offs : Array Int} {z off : Int} (t : Nat) (hc : zcode mi pc = some (.tableswitch d lo hi offs, ln, a, b, w)) (hz : wR z) (h1 : ¬ z < lo) (h2 : ¬ hi < z) (ho : offs[(z - lo).toNat]? = some off) (ht : zjmp pc off = some t) (k : yG x M mi t l st Q) : yG x M mi pc l (.int (iI z) :: st) Q :=
  y_st (pc' := t) (l' := l) (st' := st) hc rfl (by simp only [zst, iI_ti hz, ho, ht, if_neg (not_or.mpr ⟨h1, h2⟩)]) id k
theorem y_td {d lo hi : Int} {offs : Array Int} {z : Int} (t : Nat) (hc : zcode mi pc = some (.tableswitch d lo hi offs, ln, a, b, w)) (hz : wR z) (h1 : z < lo ∨ hi < z) (ht : zjmp pc d = some t) (k : yG x M mi t l st Q) : yG x M mi pc l (.int (iI z) :: st) Q :=
  y_st (pc' := t) (l' := l) (st' := st) hc rfl (by simp only [zst, iI_ti hz, ht, if_pos h1]) id k
theorem y_lk {d : Int} {ps : Array (Int × Int)} {z off : Int} (t : Nat) (hc : zcode mi pc = some (.lookupswitch d ps, ln, a, b, w)) (hz : wR z) (ho : Op.lookupswitch.offset ps.toList d z = off) (ht : zjmp pc off = some t) (k : yG x M mi t l st Q) : yG x M mi pc l (.int (iI z) :: st) Q :=
  y_st (pc' := t) (l' := l) (st' := st) hc rfl (by simp only [zst, iI_ti hz, ho, ht]) id k
/-! fields and arrays -/
theorem y_get {q o c : Nat} (hc : zcode mi pc = some (.getfield q, ln, a, b, w)) (hw : wch o a b = c) (h9 : c < 9999) (k : yG x M mi (pc + 3) l (wv x M o b c :: st) Q) : yG x M mi pc l (.ref o :: st) Q := by
  obtain ⟨s, h1, h2, h3, h4⟩ := wch_get x M hw h9
  exact y_st (pc' := pc + 3) (l' := l) (st' := wv x M o b c :: st) hc rfl (by simp only [zst, h2, h3, if_true]) id k
theorem y_gi {q o : Nat} {j z : Int} (hc : zcode mi pc = some (.getfield q, ln, a, b, w)) (hw : wch o a b = 0) (hj : (b : Int) = j) (hv : M o j = z) (k : wR z → yG x M mi (pc + 3) l (.int (iI z) :: st) Q) : yG x M mi pc l (.ref o :: st) Q := by
  subst hj; subst hv
  exact y_rng fun hM => y_get hc hw (by omega) (k (hM o b))
theorem y_gr {q o : Nat} (c : Nat) (hc : zcode mi pc = some (.getfield q, ln, a, b, w)) (hw : wch o a b = c + 2) (hl : c < 900) (k : yG x M mi (pc + 3) l (.ref c :: st) Q) : yG x M mi pc l (.ref o :: st) Q :=
  y_get hc hw (by omega) (by
    have e : wv x M o b (c + 2) = .ref c := by
      unfold wv
      rw [if_neg (by omega), if_neg (by omega), if_neg (by omega), if_neg (by omega), if_neg (by omega)]
      rfl
    rw [e]; exact k)
theorem y_gp {q o : Nat} (hc : zcode mi pc = some (.getfield q, ln, a, b, w)) (hw : wch o a b = 1000) (k : yG x M mi (pc + 3) l (.ref x.2.1 :: st) Q) : yG x M mi pc l (.ref o :: st) Q := y_get hc hw (by omega) k
theorem y_gd {q o : Nat} (hc : zcode mi pc = some (.getfield q, ln, a, b, w)) (hw : wch o a b = 1001) (k : yG x M mi (pc + 3) l (.ref x.2.2 :: st) Q) : yG x M mi pc l (.ref o :: st) Q := y_get hc hw (by omega) k
theorem y_gl {q o : Nat} (hc : zcode mi pc = some (.getfield q, ln, a, b, w)) (hw : wch o a b = 1) (k : yG x M mi (pc + 3) l (.long (x.1 o) :: st) Q) : yG x M mi pc l (.ref o :: st) Q := y_get hc hw (by omega) k
theorem y_gc {q o c : Nat} (hc : zcode mi pc = some (.getfield q, ln, a, b, w)) (hw : wch o a b = 2000 + c) (hl : c < 7000) (k : yG x M mi (pc + 3) l (.int (iI (c : Int)) :: st) Q) : yG x M mi pc l (.ref o :: st) Q :=
  y_get hc hw (by omega) (by
    have e : wv x M o b (2000 + c) = .int (iI (c : Int)) := by
      unfold wv
      rw [if_neg (by omega), if_neg (by omega), if_neg (by omega), if_neg (by omega), if_pos (by omega), Nat.add_sub_cancel_left]
    rw [e]; exact k)
theorem y_pi {q o : Nat} {j z : Int} (hc : zcode mi pc = some (.putfield q, ln, a, b, w)) (hw : wch o a b = 0) (ht : zcY a b = .int) (hj : (b : Int) = j) (hz : wR z) (k : yG x (wup M o j z) mi (pc + 3) l st Q) : yG x M mi pc l (.int (iI z) :: .ref o :: st) Q := by
  subst hj
  obtain ⟨s, h1, h2, h3, h4⟩ := wch_get x M hw (by omega)
  have hl := (List.getElem?_eq_some_iff.mp h3).1
  refine y_st (pc' := pc + 3) (l' := l) (st' := st) (x' := x) (M' := wup M o b z) hc rfl ?_ (fun hM => wRM_up hM o b hz) k
  simp only [zst, h2, ht]
  rw [if_pos ⟨trivial, hl, rfl, rfl⟩, wW_put x M h1 h4 z]
theorem y_ald {n o : Nat} {z u : Int} (hc : zcode mi pc = some (.iaload, ln, a, b, w)) (hw : war o = (0, n)) (h0 : 0 ≤ z) (h1 : z < n) (hz : wR z) (hv : M o z = u) (k : wR u → yG x M mi (pc + 1) l (.int (iI u) :: st) Q) : yG x M mi pc l (.int (iI z) :: .ref o :: st) Q := by
  subst hv
  obtain ⟨s, g1, g2⟩ := war_get x M hw (by omega)
  refine y_rng fun hM => y_st (pc' := pc + 1) (l' := l) (st' := .int (iI (M o z)) :: st) (x' := x) (M' := M) hc rfl ?_ id (k (hM o z))
  simp only [zst, g2, iI_zin h0 h1 hz, if_true, iI_clamp h0 hz]
  rw [Int.toNat_of_nonneg h0]
theorem y_bld {n o : Nat} {z u : Int} (hc : zcode mi pc = some (.baload, ln, a, b, w)) (hw : war o = (1, n)) (h0 : 0 ≤ z) (h1 : z < n) (hz : wR z) (hv : M o z = u) (k : wR u → yG x M mi (pc + 1) l (.int (iI u) :: st) Q) : yG x M mi pc l (.int (iI z) :: .ref o :: st) Q := by
  subst hv
  obtain ⟨s, g1, g2⟩ := war_get x M hw (by omega)
  refine y_rng fun hM => y_st (pc' := pc + 1) (l' := l) (st' := .int (iI (M o z)) :: st) (x' := x) (M' := M) hc rfl ?_ id (k (hM o z))
  simp only [zst, g2, iI_zin h0 h1 hz, if_true, iI_clamp h0 hz]
  rw [Int.toNat_of_nonneg h0]
theorem y_ast {n o : Nat} {z v : Int} (hc : zcode mi pc = some (.iastore, ln, a, b, w)) (hw : war o = (0, n)) (h0 : 0 ≤ z) (h1 : z < n) (hz : wR z) (hv : wR v) (k : yG x (wup M o z v) mi (pc + 1) l st Q) : yG x M mi pc l (.int (iI v) :: .int (iI z) :: .ref o :: st) Q := by
  obtain ⟨s, g1, g2⟩ := war_get x M hw (by omega)
  refine y_st (pc' := pc + 1) (l' := l) (st' := st) (x' := x) (M' := wup M o z v) hc rfl ?_ (fun hM => wRM_up hM o z hv) k
  simp only [zst, g2, iI_zin h0 h1 hz, if_true, iI_clamp h0 hz]
  rw [wW_sto x M g1 (by omega) z.toNat v, Int.toNat_of_nonneg h0]
theorem y_bst {n o : Nat} {z v : Int} (hc : zcode mi pc = some (.bastore, ln, a, b, w)) (hw : war o = (1, n)) (h0 : 0 ≤ z) (h1 : z < n) (hz : wR z) (hv : v = 0 ∨ v = 1) (k : yG x (wup M o z v) mi (pc + 1) l st Q) : yG x M mi pc l (.int (iI v) :: .int (iI z) :: .ref o :: st) Q := by
  obtain ⟨s, g1, g2⟩ := war_get x M hw (by omega)
  refine y_st (pc' := pc + 1) (l' := l) (st' := st) (x' := x) (M' := wup M o z v) hc rfl ?_ (fun hM => wRM_up hM o z (by omega)) k
  have e : vp_nar .boolean (iI v) = iI v := by rcases hv with rfl | rfl <;> rfl
  simp only [zst, g2, iI_zin h0 h1 hz, if_true, iI_clamp h0 hz, e]
  rw [wW_sto x M g1 (by omega) z.toNat v, Int.toNat_of_nonneg h0]
theorem y_len {t n o : Nat} (hc : zcode mi pc = some (.arraylength, ln, a, b, w)) (hw : war o = (t, n)) (ht : t < 2) (k : yG x M mi (pc + 1) l (.int (iI (n : Int)) :: st) Q) : yG x M mi pc l (.ref o :: st) Q := by
  obtain ⟨s, g1, g2⟩ := war_get x M hw ht
  refine y_st (pc' := pc + 1) (l' := l) (st' := .int (iI (n : Int)) :: st) (x' := x) (M' := M) hc rfl ?_ id k
  simp only [zst, g2, iI_nat, nI]
theorem y_max {x1 x2 : Int} {q : Nat} (hc : zcode mi pc = some (.invokestatic q, ln, a, 3, w)) (hs : zcats st ≤ 8) (h1 : wR x1) (h2 : wR x2) (k : yG x M mi (pc + 3) l (.int (iI (if x1 < x2 then x2 else x1)) :: st) Q) : yG x M mi pc l (.int (iI x2) :: .int (iI x1) :: st) Q :=
  y_st (pc' := pc + 3) (l' := l) (st' := .int (iI (if x1 < x2 then x2 else x1)) :: st) (x' := x) (M' := M) hc rfl (by
    simp only [zst, hs, if_true, iI_lt h1 h2]
    split <;> rfl) id k
theorem y_min {x1 x2 : Int} {q : Nat} (hc : zcode mi pc = some (.invokestatic q, ln, a, 4, w)) (hs : zcats st ≤ 8) (h1 : wR x1) (h2 : wR x2) (k : yG x M mi (pc + 3) l (.int (iI (if x2 < x1 then x2 else x1)) :: st) Q) : yG x M mi pc l (.int (iI x2) :: .int (iI x1) :: st) Q :=
  y_st (pc' := pc + 3) (l' := l) (st' := .int (iI (if x2 < x1 then x2 else x1)) :: st) (x' := x) (M' := M) hc rfl (by
    simp only [zst, hs, if_true, iI_lt h2 h1]
    simp only [show ¬ (4 = 3) by omega, if_false]
    split <;> rfl) id k
end Y
