/-! ===== the small machine's steps are the machine's ===== -/
abbrev zTY (cI cZ cR : Nat) : List (ClassId × FieldType) := [(cI, .int), (cZ, .boolean), (cR, .object "LoveGlass$Run")]
def shV (b : Nat) : Value → Value
  | .ref a => .ref (b + a)
  | v => v
def zE2 (b cI cZ cR : Nat) : zE → va_E
  | .inl (t, n, f) => .inl (if t = 0 then cI else cZ, n, .inl f)
  | .inr (.inl (n, f)) => .inl (cR, n, .inr (.inr (.inr (.inr (fun k => (f k).map (fun a => b + a))))))
  | .inr (.inr (ci, fs)) => .inr (ci, fs.map (shV b))
def zW (b cI cZ cR : Nat) (h : List zE) : va_W := h.mapIdx fun k e => (b + k, zE2 b cI cZ cR e)
def zsz1 : zE → Nat
  | .inl (_, n, _) => n
  | .inr (.inl (n, _)) => n
  | .inr (.inr (_, fs)) => fs.length
def zsz (h : List zE) : Nat := (h.map zsz1).sum
theorem shV_cat (b : Nat) (v : Value) : (shV b v).category = v.category := by cases v <;> rfl
theorem shV_cats (b : Nat) (st : List Value) : ((st.map (shV b)).map fun v => v.category).sum = zcats st := by
  unfold zcats
  congr 1
  rw [List.map_map]
  exact List.map_congr_left fun v _ => shV_cat b v
theorem shV_nar {b : Nat} {ty : FieldType} {v : Value} (h : narrow ty v = v) : narrow ty (shV b v) = shV b v := by
  cases v <;> cases ty <;> first | exact h | rfl
theorem shV_fit {b : Nat} {ty : FieldType} {v : Value} (h : fits ty v = true) : fits ty (shV b v) = true := by
  cases v <;> cases ty <;> first | exact h | rfl
theorem shV_rf (b : Nat) (o : Option Nat) : shV b (va_rf o) = va_rf (o.map fun a => b + a) := by cases o <;> rfl
theorem zW_get {b cI cZ cR : Nat} {h : List zE} {k : Nat} {e : zE} (he : h[k]? = some e) : (zW b cI cZ cR h)[k]? = some (b + k, zE2 b cI cZ cR e) := by
  simp [zW, List.getElem?_mapIdx, he]
theorem zW_of {b cI cZ cR : Nat} {h : List zE} {k : Nat} {q : Nat × va_E} (hq : (zW b cI cZ cR h)[k]? = some q) : q.1 = b + k ∧ k < h.length := by
  simp only [zW, List.getElem?_mapIdx, Option.map_eq_some_iff] at hq
  obtain ⟨e, h1, h2⟩ := hq
  exact ⟨by rw [← h2], (List.getElem?_eq_some_iff.mp h1).1⟩
theorem zW_set {b cI cZ cR : Nat} {h : List zE} (k : Nat) (e : zE) : (zW b cI cZ cR h).set k (b + k, zE2 b cI cZ cR e) = zW b cI cZ cR (h.set k e) := by
  apply List.ext_getElem?
  intro j
  simp only [zW, List.getElem?_set, List.getElem?_mapIdx, List.length_mapIdx]
  by_cases hj : k = j
  · subst hj
    by_cases hk : k < h.length <;> simp [hk]
  · simp [hj]
theorem zW_push {b cI cZ cR : Nat} {h : List zE} (e : zE) : zW b cI cZ cR h ++ [(b + h.length, zE2 b cI cZ cR e)] = zW b cI cZ cR (h ++ [e]) := by
  simp [zW, List.mapIdx_append]
theorem zW_D (b cI cZ cR : Nat) (h : List zE) : va_D (fun q : Nat => b ≤ q) (zW b cI cZ cR h) := by
  refine ⟨fun i j p q hi hj hpq => ?_, fun k q hk => ?_⟩
  · have h1 := (zW_of hi).1
    have h2 := (zW_of hj).1
    omega
  · have h1 := (zW_of hk).1
    show b ≤ q.1
    omega
def zLH (b : Nat) (ls : Array Slot) (n : Nat) (l : List Value) : Prop := ls.size = n ∧ lv_wf ls ∧ l.length ≤ n ∧ ∀ (i : Nat) (v : Value), l[i]? = some v → v ≠ zU → ls[i]? = some (.val (shV b v))
theorem zLH.at {b n : Nat} {ls : Array Slot} {l : List Value} (h : zLH b ls n l) {i : Nat} {v : Value} (hv : l[i]? = some v) (hu : v ≠ zU) : ls[i]? = some (.val (shV b v)) := h.2.2.2 i v hv hu
def zpr (b : Nat) (l : List Value) : List (Nat × Value) := (l.zipIdx.filter fun q => !decide (q.1 = zU)).map fun q => (q.2, shV b q.1)
theorem zpr_mem {b : Nat} {l : List Value} {i : Nat} {v : Value} (hv : l[i]? = some v) (hu : v ≠ zU) : (i, shV b v) ∈ zpr b l := by
  refine List.mem_map.mpr ⟨(v, i), List.mem_filter.mpr ⟨?_, by simp [hu]⟩, rfl⟩
  exact List.mk_mem_zipIdx_iff_getElem?.mpr hv
theorem zLH.has {b n : Nat} {ls : Array Slot} {l : List Value} (h : zLH b ls n l) : lv_has ls n (zpr b l) := by
  refine ⟨h.1, h.2.1, fun q hq => ?_⟩
  obtain ⟨⟨v, i⟩, h1, rfl⟩ := List.mem_map.mp hq
  obtain ⟨h2, h3⟩ := List.mem_filter.mp h1
  have h4 := List.mk_mem_zipIdx_iff_getElem?.mp h2
  exact h.2.2.2 i v h4 (by simpa using h3)
theorem zpre_ne {l : List Value} {i : Nat} (h : zpre l i = true) {j : Nat} {v : Value} (hj : l[j]? = some v) (hji : j + 1 = i) : ¬ v.category = 2 := by
  subst hji
  simp only [zpre, hj] at h
  cases v <;> simp [Value.category] at h ⊢
theorem zsto1_LH {b n : Nat} {ls' : Array Slot} {l l1 : List Value} {i : Nat} {v : Value} (hs : zsto1 l i v = some l1) (hln : l.length ≤ n)
    (h : lv_has ls' n ((i, shV b v) :: (zpr b l).filter (fun q => !(q.1 == i) && !(q.1 + 1 == i && q.2.category == 2)))) : zLH b ls' n l1 := by
  unfold zsto1 at hs
  split at hs
  · rename_i hc
    cases hs
    refine ⟨h.1, h.2.1, by rw [List.length_set]; exact hln, fun j w hj hu => ?_⟩
    rw [List.getElem?_set] at hj
    by_cases hij : i = j
    · subst hij
      rw [if_pos rfl, if_pos hc.1] at hj
      cases hj
      exact h.2.2 _ List.mem_cons_self
    · rw [if_neg hij] at hj
      refine h.2.2 (j, shV b w) (List.mem_cons_of_mem _ (List.mem_filter.mpr ⟨zpr_mem hj hu, ?_⟩))
      have h1 : ¬ j = i := fun e => hij e.symm
      by_cases h2 : j + 1 = i
      · have h3 := zpre_ne hc.2 hj h2
        simp [h1, shV_cat, h3]
      · simp [h1, h2]
  · cases hs
theorem zsto1_lt {l l1 : List Value} {i : Nat} {v : Value} (hs : zsto1 l i v = some l1) : i < l.length := by
  unfold zsto1 at hs
  split at hs
  · rename_i hc
    exact hc.1
  · cases hs
theorem zsto2_LH {b n : Nat} {ls' : Array Slot} {l l1 : List Value} {i : Nat} {v : Value} (hs : zsto2 l i v = some l1) (hln : l.length ≤ n)
    (h : lv_has ls' n ((i, shV b v) :: (zpr b l).filter (fun q => !(q.1 == i) && (!(q.1 == i + 1) && !(q.1 + 1 == i && q.2.category == 2))))) : zLH b ls' n l1 := by
  unfold zsto2 at hs
  split at hs
  · rename_i hc
    cases hs
    refine ⟨h.1, h.2.1, by simpa using hln, fun j w hj hu => ?_⟩
    rw [List.getElem?_set] at hj
    by_cases hj1 : i + 1 = j
    · subst hj1
      rw [if_pos rfl, if_pos (by simpa using hc.1)] at hj
      cases hj
      exact absurd rfl hu
    · rw [if_neg hj1, List.getElem?_set] at hj
      by_cases hij : i = j
      · subst hij
        rw [if_pos rfl, if_pos (by omega)] at hj
        cases hj
        exact h.2.2 _ List.mem_cons_self
      · rw [if_neg hij] at hj
        refine h.2.2 (j, shV b w) (List.mem_cons_of_mem _ (List.mem_filter.mpr ⟨zpr_mem hj hu, ?_⟩))
        have h1 : ¬ j = i := fun e => hij e.symm
        have h4 : ¬ j = i + 1 := fun e => hj1 e.symm
        by_cases h2 : j + 1 = i
        · have h3 := zpre_ne hc.2 hj h2
          simp [h1, h4, shV_cat, h3]
        · simp [h1, h2, h4]
  · cases hs
theorem zsto2_lt {l l1 : List Value} {i : Nat} {v : Value} (hs : zsto2 l i v = some l1) : i + 1 < l.length := by
  unfold zsto2 at hs
  split at hs
  · rename_i hc
    exact hc.1
  · cases hs
theorem zin_vp {x : Int32} {n : Nat} (h : zin x n = true) : vp_in x n := by
  simp only [zin, Bool.and_eq_true, decide_eq_true_eq] at h
  exact vp_in_iff.mpr h
theorem zcd_get {ci : Nat} (h : ci < 9) : zt_cl[ci]? = some ((zcd ci).1, (zcd ci).2.1, (zcd ci).2.2) := by
  rcases (show ci = 0 ∨ ci = 1 ∨ ci = 2 ∨ ci = 3 ∨ ci = 4 ∨ ci = 5 ∨ ci = 6 ∨ ci = 7 ∨ ci = 8 by omega) with rfl | rfl | rfl | rfl | rfl | rfl | rfl | rfl | rfl <;> rfl
theorem zcd_ty {ci : Nat} (h : ci < 9) : ∀ k, k < (zcd ci).2.2 → parseFieldDescriptor ((zcd ci).2.1 k).2.2.1 = some (zcY ci k) := by
  rcases (show ci = 0 ∨ ci = 1 ∨ ci = 2 ∨ ci = 3 ∨ ci = 4 ∨ ci = 5 ∨ ci = 6 ∨ ci = 7 ∨ ci = 8 by omega) with rfl | rfl | rfl | rfl | rfl | rfl | rfl | rfl | rfl
  · exact zt_P0
  · exact zt_P1
  · exact zt_P2
  · exact zt_P3
  · exact zt_P4
  · exact zt_P5
  · exact zt_P6
  · exact zt_P7
  · exact zt_P8
theorem zcd_nm {ci : Nat} (h : ci < 9) : ∀ a, a < (zcd ci).2.2 → ∀ b, b < (zcd ci).2.2 → a ≠ b → ((zcd ci).2.1 a).2.1 ≠ ((zcd ci).2.1 b).2.1 := by
  rcases (show ci = 0 ∨ ci = 1 ∨ ci = 2 ∨ ci = 3 ∨ ci = 4 ∨ ci = 5 ∨ ci = 6 ∨ ci = 7 ∨ ci = 8 by omega) with rfl | rfl | rfl | rfl | rfl | rfl | rfl | rfl | rfl
  · exact zt_N0
  · exact zt_N1
  · exact zt_N2
  · exact zt_N3
  · exact zt_N4
  · exact zt_N5
  · exact zt_N6
  · exact zt_N7
  · exact zt_N8
theorem zdf_ok {ci : Nat} (h : ci < 9) (b : Nat) : (zdf ci).map (shV b) = zdf ci ∧ ∀ j, j < (zcd ci).2.2 → defaultValue (zcY ci j) = vp_V (zdf ci) j := by
  rcases (show ci = 0 ∨ ci = 1 ∨ ci = 2 ∨ ci = 3 ∨ ci = 4 ∨ ci = 5 ∨ ci = 6 ∨ ci = 7 ∨ ci = 8 by omega) with rfl | rfl | rfl | rfl | rfl | rfl | rfl | rfl | rfl <;> exact ⟨rfl, by decide +kernel⟩
theorem zcd_in {ci : Nat} (h : ci < 9) : ∀ w ∈ u_ws (zcd ci).1 (zcd ci).2.1 (zcd ci).2.2, w ∈ zt_w0 := by
  intro w hw
  have h1 := zokKs h
  simp only [zokK, Bool.and_eq_true] at h1
  have h2 := List.all_eq_true.mp h1.1.1.1 w hw
  simp only [Bool.and_eq_true, decide_eq_true_eq] at h2
  exact List.mem_filter.mpr h2
theorem zcd_ins {ci : Nat} (h : ci < 9) : Jvm.Cond.instantiable (zcd ci).1 (zcd ci).2.2 ∈ zt_w0 ∧ Jvm.Cond.initialized (zcd ci).1 ∈ zt_w0 ∧ (zdf ci).length = (zcd ci).2.2 := by
  have h1 := zokKs h
  simp only [zokK, Bool.and_eq_true] at h1
  exact ⟨zwd_mem h1.1.1.2, zwd_mem h1.1.2, Nat.eq_of_beq_eq_true h1.2⟩
/-- where a method's body stands -/
def zX (p : Program) (s : State) (m : MethodId) (args : Array Value) (meth : Method) (c : Code) (D : va_G) (cI cZ cR b mi : Nat) : Prop :=
  p.tables.exec = Jvm.exec ∧ c.code = zbs mi ∧ c.maxLocals = zml mi ∧ s.vm.findClass (zy mi).cls = some m.cls ∧ (∀ w ∈ zt_w0, w.before args s = true) ∧ (∀ w ∈ zt_w1, va_Nw w s) ∧ va_AO "LoveGlass$Run" s ∧ va_K D zt_cl (zTY cI cZ cR) s ∧ b ≤ s.heap.size ∧ meth.name = (zy mi).name
def zGo (p : Program) (lN : Launch) (e : Env) (R : Room) (s : State) (m : MethodId) (args : Array Value) (below : List Frame) (meth : Method) (c : Code) (Q : State → Prop) (D : va_G) (cI cZ cR b n cells slots : Nat) (h : List zE) (pc : Nat) (l st : List Value) : Prop :=
  ∀ (H : Heap) (locs : List Loc) (ls : Array Slot), va_P D zt_cl (zW b cI cZ cR h) H → va_S (fun q : Nat => b ≤ q) s.heap H locs → zLH b ls n l →
    W p lN e R s m args below meth c H locs cells slots Q (F0 m pc ls (st.map (shV b)))
section ZS
variable {p : Program} {lN : Launch} {e : Env} {R : Room} {s : State} {m : MethodId} {args : Array Value} {below : List Frame} {meth : Method} {c : Code} {Q : State → Prop} {D : va_G} {cI cZ cR b n cells slots mi : Nat}
theorem zW_size {H : Heap} {locs : List Loc} {g : JFrame} (k : H.size ≤ s.heap.size + cells → W p lN e R s m args below meth c H locs cells slots Q g) : W p lN e R s m args below meth c H locs cells slots Q g :=
  fun T hT X => k (by rw [← hT]; exact X.heapSize) T hT X
theorem zlast {H1 : Heap} {h : List zE} {q : Nat} {x : va_E} (hP : va_P D zt_cl (zW b cI cZ cR h ++ [(q, x)]) H1) (hD : va_D (fun q : Nat => b ≤ q) (zW b cI cZ cR h ++ [(q, x)])) (hz : H1.size ≤ b + h.length + 1) : q = b + h.length := by
  have hl : (zW b cI cZ cR h).length = h.length := by simp [zW]
  have hq : (zW b cI cZ cR h ++ [(q, x)])[h.length]? = some (q, x) := by rw [List.getElem?_append_right (by omega), hl]; simp
  have h1 : b ≤ q := hD.2 _ _ hq
  have h2 : q < H1.size := (hP _ _ hq).lt
  rcases Nat.lt_or_ge q (b + h.length) with h3 | h3
  · obtain ⟨k, hk, rfl⟩ : ∃ k, k < h.length ∧ q = b + k := ⟨q - b, by omega, by omega⟩
    have h4 : (zW b cI cZ cR h ++ [(b + k, x)])[k]? = some (b + k, zE2 b cI cZ cR h[k]) := by
      rw [List.getElem?_append_left (by omega)]
      exact zW_get (List.getElem?_eq_getElem hk)
    have h5 := hD.1 _ _ _ _ h4 hq rfl
    omega
  · omega
end ZS
