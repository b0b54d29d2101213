/-! ===== the constructors: what stands behind them ===== -/
def zfin : zE → Prop
  | .inl (_, n, f) => ∀ k, n ≤ k → f k = 0
  | .inr (.inl (n, f)) => ∀ k, n ≤ k → f k = none
  | .inr (.inr _) => True
def zfinL (h : List zE) : Prop := ∀ (k : Nat) (e : zE), h[k]? = some e → zfin e
theorem zfinL_set {h : List zE} {o : Nat} {e : zE} (h1 : zfinL h) (h2 : zfin e) : zfinL (h.set o e) := by
  intro k e' hk
  rw [List.getElem?_set] at hk
  split at hk
  · split at hk
    · cases hk; exact h2
    · cases hk
  · exact h1 k e' hk
theorem zfinL_push {h : List zE} {e : zE} (h1 : zfinL h) (h2 : zfin e) : zfinL (h ++ [e]) := by
  intro k e' hk
  rcases Nat.lt_or_ge k h.length with hl | hl
  · rw [List.getElem?_append_left hl] at hk; exact h1 k e' hk
  · rw [List.getElem?_append_right hl] at hk
    rcases Nat.eq_zero_or_pos (k - h.length) with h0 | h0
    · rw [h0] at hk; cases hk; exact h2
    · rw [List.getElem?_eq_none (by simp; omega)] at hk; cases hk
theorem zin_lt {x : Int32} {n : Nat} (h : zin x n = true) : x.toNatClampNeg < n := by
  simp only [zin, Bool.and_eq_true, decide_eq_true_eq] at h
  unfold Int32.toNatClampNeg
  omega
theorem zfin_upd {t n : Nat} {f : Nat → Int32} {x : Int32} {v : Int32} (h : zfin (.inl (t, n, f))) (hx : zin x n = true) : zfin (.inl (t, n, upd f x.toNatClampNeg v)) := by
  intro k hk
  have := zin_lt hx
  unfold upd
  rw [if_neg (by omega)]
  exact h k hk
theorem zfin_up {n : Nat} {f : Nat → Option Nat} {x : Int32} {v : Option Nat} (h : zfin (.inr (.inl (n, f)))) (hx : zin x n = true) : zfin (.inr (.inl (n, va_up f x.toNatClampNeg v))) := by
  intro k hk
  have := zin_lt hx
  unfold va_up
  rw [if_neg (by omega)]
  exact h k hk
set_option maxHeartbeats 4000000 in
theorem zst_fin {i : Instr} {a b pc : Nat} {h h1 : List zE} {pc1 : Nat} {l l1 st st1 : List Value} (hz : zst i a b pc h l st = some (h1, pc1, l1, st1)) (hf : zfinL h) : zfinL h1 := by
  cases i with
  | putfield idx =>
    simp only [zst] at hz
    repeat' split at hz
    all_goals first | (cases hz; done) | skip
    cases hz
    exact zfinL_set hf trivial
  | iastore =>
    simp only [zst] at hz
    repeat' split at hz
    all_goals first | (cases hz; done) | skip
    cases hz
    exact zfinL_set hf (zfin_upd (hf _ _ (by assumption)) (by assumption))
  | bastore =>
    simp only [zst] at hz
    repeat' split at hz
    all_goals first | (cases hz; done) | skip
    cases hz
    exact zfinL_set hf (zfin_upd (hf _ _ (by assumption)) (by assumption))
  | aastore =>
    simp only [zst] at hz
    repeat' split at hz
    all_goals first | (cases hz; done) | skip
    cases hz
    rename_i q1 _ q2
    exact zfinL_set hf (zfin_up (hf _ _ (by assumption)) (by assumption))
  | new idx =>
    simp only [zst] at hz
    cases hz
    exact zfinL_push hf trivial
  | newarray t =>
    simp only [zst] at hz
    repeat' split at hz
    all_goals first | (cases hz; done) | skip
    cases hz
    exact zfinL_push hf (fun k _ => rfl)
  | anewarray t =>
    simp only [zst] at hz
    repeat' split at hz
    all_goals first | (cases hz; done) | skip
    cases hz
    exact zfinL_push hf (fun k _ => rfl)
  | _ =>
    simp only [zst] at hz
    repeat' split at hz
    all_goals first
      | (cases hz; done)
      | (cases hz; exact hf)
theorem zrun_fin : ∀ (n mi : Nat) (h : List zE) (pc : Nat) (l st : List Value) (v : Option Value) (h' : List zE), zrun n mi h pc l st = some (v, h') → zfinL h → zfinL h'
  | 0, mi, h, pc, l, st, v, h', hz, _ => by simp [zrun] at hz
  | n + 1, mi, h, pc, l, st, v, h', hz, hf => by
    simp only [zrun] at hz
    split at hz
    · cases hz
    · split at hz
      · split at hz
        · cases hz
        · rename_i h1 pc1 l1 st1 hs
          exact zrun_fin n _ _ _ _ _ _ _ hz (zst_fin hs hf)
      · split at hz
        · split at hz
          · cases hz
          · rename_i v1 h1 hc
            exact zrun_fin n _ _ _ _ _ _ _ hz (zrun_fin n _ _ _ _ _ _ _ hc hf)
        · cases hz
      · split at hz
        · cases hz
        · cases hz
          exact hf
def zchkE : zE → zE → Bool
  | .inl (t, n, f), .inl (t', n', f') => Nat.beq t t' && (Nat.beq n n' && (List.range n).all (fun k => decide (f k = f' k)))
  | .inr (.inl (n, f)), .inr (.inl (n', f')) => Nat.beq n n' && (List.range n).all (fun k => decide (f k = f' k))
  | .inr (.inr (c, fs)), .inr (.inr (c', fs')) => Nat.beq c c' && decide (fs = fs')
  | _, _ => false
def zchkL : List zE → List zE → Bool
  | [], [] => true
  | a :: t, a' :: t' => zchkE a a' && zchkL t t'
  | _, _ => false
theorem zchkE_eq : ∀ {e e' : zE}, zchkE e e' = true → zfin e → zfin e' → e = e' := by
  rintro (⟨t, n, f⟩ | ⟨n, f⟩ | ⟨c, fs⟩) (⟨t', n', f'⟩ | ⟨n', f'⟩ | ⟨c', fs'⟩) h h1 h2
  all_goals first | (simp [zchkE] at h; done) | skip
  · simp only [zchkE, Bool.and_eq_true, List.all_eq_true, List.mem_range, decide_eq_true_eq] at h
    obtain ⟨a, b, d⟩ := h
    obtain rfl := Nat.eq_of_beq_eq_true a
    obtain rfl := Nat.eq_of_beq_eq_true b
    have e : f = f' := funext fun k => by
      rcases Nat.lt_or_ge k n with hk | hk
      · exact d k hk
      · exact (h1 k hk).trans (h2 k hk).symm
    rw [e]
  · simp only [zchkE, Bool.and_eq_true, List.all_eq_true, List.mem_range, decide_eq_true_eq] at h
    obtain ⟨b, d⟩ := h
    obtain rfl := Nat.eq_of_beq_eq_true b
    have e : f = f' := funext fun k => by
      rcases Nat.lt_or_ge k n with hk | hk
      · exact d k hk
      · exact (h1 k hk).trans (h2 k hk).symm
    rw [e]
  · simp only [zchkE, Bool.and_eq_true, decide_eq_true_eq] at h
    obtain ⟨a, b⟩ := h
    obtain rfl := Nat.eq_of_beq_eq_true a
    rw [b]
theorem zchkL_eq : ∀ {h h' : List zE}, zchkL h h' = true → zfinL h → zfinL h' → h = h'
  | [], [], _, _, _ => rfl
  | [], _ :: _, h, _, _ => by cases h
  | _ :: _, [], h, _, _ => by cases h
  | a :: t, a' :: t', h, h1, h2 => by
    simp only [zchkL, Bool.and_eq_true] at h
    rw [zchkE_eq h.1 (h1 0 a rfl) (h2 0 a' rfl), zchkL_eq h.2 (fun k e hk => h1 (k + 1) e hk) (fun k e hk => h2 (k + 1) e hk)]
/-- the start -/
def x0 : wC := (fun _ => 0, 3, 18)
def M0r (a : Nat) : Bool := Nat.beq a 33 || (Nat.beq a 36 || (Nat.beq a 99 || (Nat.beq a 102 || (Nat.beq a 114 || (Nat.ble 42 a && (Nat.ble a 81 && Nat.beq (a % 3) 0))))))
def M0 : wM := fun a k => if M0r a = true ∧ (k = 0 ∨ k = 1) then -9 else 0
def h0A : List zE := (wW x0 M0).take 106
def h0B : List zE := h0A ++ [.inr (.inr (8, zdf 8))]
def zgot (r : Option (Option Value × List zE)) (h : List zE) : Bool := match r with
  | some (none, h') => zchkL h' h
  | _ => false
theorem zgot_of {r : Option (Option Value × List zE)} {h : List zE} (hg : zgot r h = true) : ∃ h', r = some (none, h') ∧ zchkL h' h = true := by
  unfold zgot at hg
  split at hg
  · rename_i h'
    exact ⟨h', rfl, hg⟩
  · cases hg
theorem M0_0 {a : Nat} {k : Int} (h : 2 ≤ k) : M0 a k = 0 := by
  unfold M0
  rw [if_neg (by omega)]
theorem wsh_ok : (wsh.all fun s => bif Nat.ble s.1 1 then Nat.ble 2 s.2.1 else (bif Nat.beq s.1 2 then Nat.ble s.2.2.length s.2.1 else true)) = true := by decide +kernel
theorem h0_fin : zfinL (wW x0 M0) := by
  intro k e hk
  simp only [wW, List.getElem?_mapIdx, Option.map_eq_some_iff] at hk
  obtain ⟨⟨t, n, s⟩, hs, rfl⟩ := hk
  have h1 := List.all_eq_true.mp wsh_ok _ (List.mem_of_getElem? hs)
  unfold wE
  match t, h1 with
  | 0, h1 =>
    have h2 := Nat.le_of_ble_eq_true h1
    intro j hj
    have hj : n ≤ j := hj
    show iI (M0 k j) = 0
    rw [M0_0 (by simp at h2; omega)]; rfl
  | 1, h1 =>
    have h2 := Nat.le_of_ble_eq_true h1
    intro j hj
    have hj : n ≤ j := hj
    show iI (M0 k j) = 0
    rw [M0_0 (by simp at h2; omega)]; rfl
  | 2, h1 =>
    have h2 := Nat.le_of_ble_eq_true h1
    intro j hj
    have hj : n ≤ j := hj
    have h2 : s.length ≤ n := h2
    show s[j]? = none
    exact List.getElem?_eq_none (by omega)
  | t + 3, _ => exact trivial
theorem h0A_fin : zfinL h0A := fun k e hk => by
  unfold h0A at hk
  rw [List.getElem?_take] at hk
  split at hk
  · exact h0_fin k e hk
  · cases hk
theorem h0B_fin : zfinL h0B := zfinL_push h0A_fin trivial
set_option maxRecDepth 100000 in
theorem z65 : zgot (zrun 4000 65 [.inr (.inr (7, zdf 7))] 0 (zent 65 [.ref 0]) []) h0A = true := by decide +kernel
set_option maxRecDepth 100000 in
theorem z116 : zgot (zrun 4000 116 h0B 0 (zent 116 [.ref 106]) []) (wW x0 M0) = true := by decide +kernel
theorem r_65 : zrun 4000 65 [.inr (.inr (7, zdf 7))] 0 (zent 65 [.ref 0]) [] = some (none, h0A) := by
  obtain ⟨h', e, hc⟩ := zgot_of z65
  rw [e, zchkL_eq hc (zrun_fin _ _ _ _ _ _ _ _ e (fun k e hk => by
    match k, hk with
    | 0, hk => cases hk; exact trivial
    | k + 1, hk => simp at hk)) h0A_fin]
theorem r_116 : zrun 4000 116 h0B 0 (zent 116 [.ref 106]) [] = some (none, wW x0 M0) := by
  obtain ⟨h', e, hc⟩ := zgot_of z116
  rw [e, zchkL_eq hc (zrun_fin _ _ _ _ _ _ _ _ e h0B_fin) h0_fin]
def P0 : aP := (fun _ _ => 0, 0, 0, 0)
theorem wRM0 : wRM M0 := fun a k => by
  unfold M0
  split <;> constructor <;> decide
theorem AOK0 : AOK [] P0 aR0 (0, fun _ => aR0) (0, fun _ _ => 0) (fun _ => none) :=
  ⟨⟨Nat.zero_le _, fun c h => by simp at h⟩, ⟨Nat.zero_le _, Nat.zero_le _, Nat.zero_le _, fun i h => absurd h (Nat.not_lt_zero _), fun i h => absurd h (Nat.not_lt_zero _), fun i h => absurd h (Nat.not_lt_zero _)⟩, Or.inl rfl, ⟨Nat.zero_le _, fun k h => absurd h (Nat.not_lt_zero _)⟩, ⟨Nat.zero_le _, fun i h => absurd h (Nat.not_lt_zero _)⟩, fun k R' _ h => by simp at h⟩
theorem CI0 : CI x0 M0 [] P0 aR0 (0, fun _ => aR0) (0, fun _ _ => 0) 0 (fun _ => none) := by
  refine ⟨Or.inl ⟨rfl, rfl⟩, rfl, ⟨by decide, fun i h => absurd h (Nat.not_lt_zero _)⟩, ?_, ?_, ⟨0, by decide, by decide, by decide, by decide, fun k h => absurd h (Nat.not_lt_zero _)⟩, ?_, by decide, fun k R' _ h => by simp at h⟩
  · refine ⟨⟨?_, ?_, ?_, ?_, ?_, ?_, ?_⟩, ?_, ?_, ?_, ?_, ?_, ?_, ?_⟩
    all_goals first | decide | exact fun i h => absurd h (Nat.not_lt_zero _)
  · refine ⟨by decide, by decide, by decide, by decide, fun i h => absurd h (Nat.not_lt_zero _)⟩
  · exact ⟨by decide, by decide, by decide, by decide, fun i h => absurd h (Nat.not_lt_zero _)⟩
theorem MI0 : MI x0 M0 [] P0 aR0 (0, fun _ => aR0) (0, fun _ _ => 0) 0 (fun _ => none) := by
  refine ⟨rfl, ⟨by decide, fun i h => absurd h (Nat.not_lt_zero _)⟩, ⟨by decide, by decide, by decide, fun i h => absurd h (Nat.not_lt_zero _), fun i h => absurd h (Nat.not_lt_zero _), fun i h => absurd h (Nat.not_lt_zero _)⟩, ⟨by decide, by decide, by decide, by decide, fun i h => absurd h (Nat.not_lt_zero _)⟩, ⟨by decide, fun k h => absurd h (Nat.not_lt_zero _)⟩, ⟨by decide, fun i h => absurd h (Nat.not_lt_zero _)⟩, fun k hk => ⟨?_, fun R' h => by simp at h⟩⟩
  show M0 118 k = 0
  unfold M0
  rw [if_neg (fun h => absurd h.1 (by decide))]
