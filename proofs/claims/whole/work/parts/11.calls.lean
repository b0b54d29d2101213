section K
variable {x : wC} {M : wM} {mi pc : Nat} {l rest : List Value} {Q : Option Value → wC → wM → Prop} {i : Instr} {ln b w : Nat}
theorem k_1 {o : Nat} (hc : zcode mi pc = some (i, ln, 1, b, w)) (hk : zkd i b = 1) (hr : wcl o = 0) (hs : zcats rest ≤ 8) (k : yG x M 1 0 [.ref o] [] (fun v x' M' => yG x' M' mi (pc + 3) l (zpu v rest) Q)) : yG x M mi pc l (.ref o :: rest) Q :=
  y_calls (av := [.ref o]) hc hk rfl (Nat.le_of_ble_eq_true rfl) hs (zrecv_of hr (by decide)) k
theorem k_2 {o : Nat} (hc : zcode mi pc = some (i, ln, 2, b, w)) (hk : zkd i b = 1) (hr : wcl o = 0) (hs : zcats rest ≤ 8) (k : yG x M 2 0 [.ref o] [] (fun v x' M' => yG x' M' mi (pc + 3) l (zpu v rest) Q)) : yG x M mi pc l (.ref o :: rest) Q :=
  y_calls (av := [.ref o]) hc hk rfl (Nat.le_of_ble_eq_true rfl) hs (zrecv_of hr (by decide)) k
theorem k_3 {o : Nat} {o0 : Nat} (hc : zcode mi pc = some (i, ln, 3, b, w)) (hk : zkd i b = 1) (hr : wcl o = 0) (hs : zcats rest ≤ 8) (k : yG x M 3 0 [.ref o, .ref o0] [] (fun v x' M' => yG x' M' mi (pc + 3) l (zpu v rest) Q)) : yG x M mi pc l (.ref o0 :: .ref o :: rest) Q :=
  y_calls (av := [.ref o, .ref o0]) hc hk rfl (Nat.le_of_ble_eq_true rfl) hs (zrecv_of hr (by decide)) k
theorem k_4 {o : Nat} {o0 : Nat} (hc : zcode mi pc = some (i, ln, 4, b, w)) (hk : zkd i b = 1) (hr : wcl o = 0) (hs : zcats rest ≤ 8) (k : yG x M 4 0 [.ref o, .ref o0] [] (fun v x' M' => yG x' M' mi (pc + 3) l (zpu v rest) Q)) : yG x M mi pc l (.ref o0 :: .ref o :: rest) Q :=
  y_calls (av := [.ref o, .ref o0]) hc hk rfl (Nat.le_of_ble_eq_true rfl) hs (zrecv_of hr (by decide)) k
theorem k_6 {z0 : Int32} {z1 : Int32} (hc : zcode mi pc = some (i, ln, 6, b, w)) (hk : zkd i b = 1) (hs : zcats rest ≤ 8) (k : yG x M 6 0 [.int z0, .int z1] [] (fun v x' M' => yG x' M' mi (pc + 3) l (zpu v rest) Q)) : yG x M mi pc l (.int z1 :: .int z0 :: rest) Q :=
  y_calls (av := [.int z0, .int z1]) hc hk rfl (Nat.le_of_ble_eq_true rfl) hs (zrecv_st (by decide)) k
theorem k_7 {o : Nat} {o0 : Nat} {o1 : Nat} (hc : zcode mi pc = some (i, ln, 7, b, w)) (hk : zkd i b = 1) (hr : wcl o = 1) (hs : zcats rest ≤ 8) (k : yG x M 7 0 [.ref o, .ref o0, .ref o1, zU, zU] [] (fun v x' M' => yG x' M' mi (pc + 3) l (zpu v rest) Q)) : yG x M mi pc l (.ref o1 :: .ref o0 :: .ref o :: rest) Q :=
  y_calls (av := [.ref o, .ref o0, .ref o1]) hc hk rfl (Nat.le_of_ble_eq_true rfl) hs (zrecv_of hr (by decide)) k
theorem k_8 {o : Nat} {o0 : Nat} {o1 : Nat} {z2 : Int32} {z3 : Int32} (hc : zcode mi pc = some (i, ln, 8, b, w)) (hk : zkd i b = 1) (hr : wcl o = 1) (hs : zcats rest ≤ 8) (k : yG x M 8 0 [.ref o, .ref o0, .ref o1, .int z2, .int z3, zU, zU, zU, zU, zU, zU] [] (fun v x' M' => yG x' M' mi (pc + 3) l (zpu v rest) Q)) : yG x M mi pc l (.int z3 :: .int z2 :: .ref o1 :: .ref o0 :: .ref o :: rest) Q :=
  y_calls (av := [.ref o, .ref o0, .ref o1, .int z2, .int z3]) hc hk rfl (Nat.le_of_ble_eq_true rfl) hs (zrecv_of hr (by decide)) k
theorem k_9 {o : Nat} {z0 : Int32} {z1 : Int32} {z2 : Int32} (hc : zcode mi pc = some (i, ln, 9, b, w)) (hk : zkd i b = 1) (hr : wcl o = 1) (hs : zcats rest ≤ 8) (k : yG x M 9 0 [.ref o, .int z0, .int z1, .int z2] [] (fun v x' M' => yG x' M' mi (pc + 3) l (zpu v rest) Q)) : yG x M mi pc l (.int z2 :: .int z1 :: .int z0 :: .ref o :: rest) Q :=
  y_calls (av := [.ref o, .int z0, .int z1, .int z2]) hc hk rfl (Nat.le_of_ble_eq_true rfl) hs (zrecv_of hr (by decide)) k
theorem k_10 {o : Nat} {o0 : Nat} (hc : zcode mi pc = some (i, ln, 10, b, w)) (hk : zkd i b = 1) (hr : wcl o = 1) (hs : zcats rest ≤ 8) (k : yG x M 10 0 [.ref o, .ref o0, zU, zU, zU] [] (fun v x' M' => yG x' M' mi (pc + 3) l (zpu v rest) Q)) : yG x M mi pc l (.ref o0 :: .ref o :: rest) Q :=
  y_calls (av := [.ref o, .ref o0]) hc hk rfl (Nat.le_of_ble_eq_true rfl) hs (zrecv_of hr (by decide)) k
theorem k_11 {o : Nat} (hc : zcode mi pc = some (i, ln, 11, b, w)) (hk : zkd i b = 1) (hr : wcl o = 1) (hs : zcats rest ≤ 8) (k : yG x M 11 0 [.ref o, zU, zU] [] (fun v x' M' => yG x' M' mi (pc + 3) l (zpu v rest) Q)) : yG x M mi pc l (.ref o :: rest) Q :=
  y_calls (av := [.ref o]) hc hk rfl (Nat.le_of_ble_eq_true rfl) hs (zrecv_of hr (by decide)) k
theorem k_12 {o : Nat} {z0 : Int32} (hc : zcode mi pc = some (i, ln, 12, b, w)) (hk : zkd i b = 1) (hr : wcl o = 1) (hs : zcats rest ≤ 8) (k : yG x M 12 0 [.ref o, .int z0, zU] [] (fun v x' M' => yG x' M' mi (pc + 3) l (zpu v rest) Q)) : yG x M mi pc l (.int z0 :: .ref o :: rest) Q :=
  y_calls (av := [.ref o, .int z0]) hc hk rfl (Nat.le_of_ble_eq_true rfl) hs (zrecv_of hr (by decide)) k
theorem k_13 {o : Nat} {z0 : Int32} (hc : zcode mi pc = some (i, ln, 13, b, w)) (hk : zkd i b = 1) (hr : wcl o = 1) (hs : zcats rest ≤ 8) (k : yG x M 13 0 [.ref o, .int z0, zU] [] (fun v x' M' => yG x' M' mi (pc + 3) l (zpu v rest) Q)) : yG x M mi pc l (.int z0 :: .ref o :: rest) Q :=
  y_calls (av := [.ref o, .int z0]) hc hk rfl (Nat.le_of_ble_eq_true rfl) hs (zrecv_of hr (by decide)) k
theorem k_14 {o : Nat} {z0 : Int32} (hc : zcode mi pc = some (i, ln, 14, b, w)) (hk : zkd i b = 1) (hr : wcl o = 1) (hs : zcats rest ≤ 8) (k : yG x M 14 0 [.ref o, .int z0, zU] [] (fun v x' M' => yG x' M' mi (pc + 3) l (zpu v rest) Q)) : yG x M mi pc l (.int z0 :: .ref o :: rest) Q :=
  y_calls (av := [.ref o, .int z0]) hc hk rfl (Nat.le_of_ble_eq_true rfl) hs (zrecv_of hr (by decide)) k
theorem k_15 {o : Nat} {o0 : Nat} (hc : zcode mi pc = some (i, ln, 15, b, w)) (hk : zkd i b = 1) (hr : wcl o = 1) (hs : zcats rest ≤ 8) (k : yG x M 15 0 [.ref o, .ref o0, zU, zU, zU, zU] [] (fun v x' M' => yG x' M' mi (pc + 3) l (zpu v rest) Q)) : yG x M mi pc l (.ref o0 :: .ref o :: rest) Q :=
  y_calls (av := [.ref o, .ref o0]) hc hk rfl (Nat.le_of_ble_eq_true rfl) hs (zrecv_of hr (by decide)) k
theorem k_16 {o : Nat} {z0 : Int32} {z1 : Int32} (hc : zcode mi pc = some (i, ln, 16, b, w)) (hk : zkd i b = 1) (hr : wcl o = 1) (hs : zcats rest ≤ 8) (k : yG x M 16 0 [.ref o, .int z0, .int z1, zU] [] (fun v x' M' => yG x' M' mi (pc + 3) l (zpu v rest) Q)) : yG x M mi pc l (.int z1 :: .int z0 :: .ref o :: rest) Q :=
  y_calls (av := [.ref o, .int z0, .int z1]) hc hk rfl (Nat.le_of_ble_eq_true rfl) hs (zrecv_of hr (by decide)) k
theorem k_18 {o : Nat} {o0 : Nat} (hc : zcode mi pc = some (i, ln, 18, b, w)) (hk : zkd i b = 1) (hr : wcl o = 2) (hs : zcats rest ≤ 8) (k : yG x M 18 0 [.ref o, .ref o0, zU, zU, zU, zU, zU] [] (fun v x' M' => yG x' M' mi (pc + 3) l (zpu v rest) Q)) : yG x M mi pc l (.ref o0 :: .ref o :: rest) Q :=
  y_calls (av := [.ref o, .ref o0]) hc hk rfl (Nat.le_of_ble_eq_true rfl) hs (zrecv_of hr (by decide)) k
theorem k_19 {o : Nat} {z0 : Int32} {z1 : Int32} (hc : zcode mi pc = some (i, ln, 19, b, w)) (hk : zkd i b = 1) (hr : wcl o = 2) (hs : zcats rest ≤ 8) (k : yG x M 19 0 [.ref o, .int z0, .int z1] [] (fun v x' M' => yG x' M' mi (pc + 3) l (zpu v rest) Q)) : yG x M mi pc l (.int z1 :: .int z0 :: .ref o :: rest) Q :=
  y_calls (av := [.ref o, .int z0, .int z1]) hc hk rfl (Nat.le_of_ble_eq_true rfl) hs (zrecv_of hr (by decide)) k
theorem k_20 {o : Nat} (hc : zcode mi pc = some (i, ln, 20, b, w)) (hk : zkd i b = 1) (hr : wcl o = 2) (hs : zcats rest ≤ 8) (k : yG x M 20 0 [.ref o] [] (fun v x' M' => yG x' M' mi (pc + 3) l (zpu v rest) Q)) : yG x M mi pc l (.ref o :: rest) Q :=
  y_calls (av := [.ref o]) hc hk rfl (Nat.le_of_ble_eq_true rfl) hs (zrecv_of hr (by decide)) k
theorem k_21 {o : Nat} (hc : zcode mi pc = some (i, ln, 21, b, w)) (hk : zkd i b = 1) (hr : wcl o = 2) (hs : zcats rest ≤ 8) (k : yG x M 21 0 [.ref o] [] (fun v x' M' => yG x' M' mi (pc + 3) l (zpu v rest) Q)) : yG x M mi pc l (.ref o :: rest) Q :=
  y_calls (av := [.ref o]) hc hk rfl (Nat.le_of_ble_eq_true rfl) hs (zrecv_of hr (by decide)) k
theorem k_22 {o : Nat} (hc : zcode mi pc = some (i, ln, 22, b, w)) (hk : zkd i b = 1) (hr : wcl o = 2) (hs : zcats rest ≤ 8) (k : yG x M 22 0 [.ref o] [] (fun v x' M' => yG x' M' mi (pc + 3) l (zpu v rest) Q)) : yG x M mi pc l (.ref o :: rest) Q :=
  y_calls (av := [.ref o]) hc hk rfl (Nat.le_of_ble_eq_true rfl) hs (zrecv_of hr (by decide)) k
theorem k_23 {o : Nat} (hc : zcode mi pc = some (i, ln, 23, b, w)) (hk : zkd i b = 1) (hr : wcl o = 2) (hs : zcats rest ≤ 8) (k : yG x M 23 0 [.ref o] [] (fun v x' M' => yG x' M' mi (pc + 3) l (zpu v rest) Q)) : yG x M mi pc l (.ref o :: rest) Q :=
  y_calls (av := [.ref o]) hc hk rfl (Nat.le_of_ble_eq_true rfl) hs (zrecv_of hr (by decide)) k
theorem k_24 {o : Nat} {z0 : Int32} (hc : zcode mi pc = some (i, ln, 24, b, w)) (hk : zkd i b = 1) (hr : wcl o = 2) (hs : zcats rest ≤ 8) (k : yG x M 24 0 [.ref o, .int z0] [] (fun v x' M' => yG x' M' mi (pc + 3) l (zpu v rest) Q)) : yG x M mi pc l (.int z0 :: .ref o :: rest) Q :=
  y_calls (av := [.ref o, .int z0]) hc hk rfl (Nat.le_of_ble_eq_true rfl) hs (zrecv_of hr (by decide)) k
theorem k_25 {o : Nat} {z0 : Int32} (hc : zcode mi pc = some (i, ln, 25, b, w)) (hk : zkd i b = 1) (hr : wcl o = 2) (hs : zcats rest ≤ 8) (k : yG x M 25 0 [.ref o, .int z0] [] (fun v x' M' => yG x' M' mi (pc + 3) l (zpu v rest) Q)) : yG x M mi pc l (.int z0 :: .ref o :: rest) Q :=
  y_calls (av := [.ref o, .int z0]) hc hk rfl (Nat.le_of_ble_eq_true rfl) hs (zrecv_of hr (by decide)) k
theorem k_26 {o : Nat} {z0 : Int32} (hc : zcode mi pc = some (i, ln, 26, b, w)) (hk : zkd i b = 1) (hr : wcl o = 2) (hs : zcats rest ≤ 8) (k : yG x M 26 0 [.ref o, .int z0] [] (fun v x' M' => yG x' M' mi (pc + 3) l (zpu v rest) Q)) : yG x M mi pc l (.int z0 :: .ref o :: rest) Q :=
  y_calls (av := [.ref o, .int z0]) hc hk rfl (Nat.le_of_ble_eq_true rfl) hs (zrecv_of hr (by decide)) k
theorem k_27 {o : Nat} {z0 : Int32} (hc : zcode mi pc = some (i, ln, 27, b, w)) (hk : zkd i b = 1) (hr : wcl o = 2) (hs : zcats rest ≤ 8) (k : yG x M 27 0 [.ref o, .int z0, zU] [] (fun v x' M' => yG x' M' mi (pc + 3) l (zpu v rest) Q)) : yG x M mi pc l (.int z0 :: .ref o :: rest) Q :=
  y_calls (av := [.ref o, .int z0]) hc hk rfl (Nat.le_of_ble_eq_true rfl) hs (zrecv_of hr (by decide)) k
theorem k_28 {o : Nat} {z0 : Int32} {z1 : Int32} {z2 : Int32} {z3 : Int32} (hc : zcode mi pc = some (i, ln, 28, b, w)) (hk : zkd i b = 1) (hr : wcl o = 2) (hs : zcats rest ≤ 8) (k : yG x M 28 0 [.ref o, .int z0, .int z1, .int z2, .int z3] [] (fun v x' M' => yG x' M' mi (pc + 3) l (zpu v rest) Q)) : yG x M mi pc l (.int z3 :: .int z2 :: .int z1 :: .int z0 :: .ref o :: rest) Q :=
  y_calls (av := [.ref o, .int z0, .int z1, .int z2, .int z3]) hc hk rfl (Nat.le_of_ble_eq_true rfl) hs (zrecv_of hr (by decide)) k
theorem k_29 {o : Nat} {z0 : Int32} {z1 : Int32} {z2 : Int32} {z3 : Int32} {z4 : Int32} (hc : zcode mi pc = some (i, ln, 29, b, w)) (hk : zkd i b = 1) (hr : wcl o = 2) (hs : zcats rest ≤ 8) (k : yG x M 29 0 [.ref o, .int z0, .int z1, .int z2, .int z3, .int z4, zU] [] (fun v x' M' => yG x' M' mi (pc + 3) l (zpu v rest) Q)) : yG x M mi pc l (.int z4 :: .int z3 :: .int z2 :: .int z1 :: .int z0 :: .ref o :: rest) Q :=
  y_calls (av := [.ref o, .int z0, .int z1, .int z2, .int z3, .int z4]) hc hk rfl (Nat.le_of_ble_eq_true rfl) hs (zrecv_of hr (by decide)) k
theorem k_30 {o : Nat} {z0 : Int32} (hc : zcode mi pc = some (i, ln, 30, b, w)) (hk : zkd i b = 1) (hr : wcl o = 2) (hs : zcats rest ≤ 8) (k : yG x M 30 0 [.ref o, .int z0, zU, zU] [] (fun v x' M' => yG x' M' mi (pc + 3) l (zpu v rest) Q)) : yG x M mi pc l (.int z0 :: .ref o :: rest) Q :=
  y_calls (av := [.ref o, .int z0]) hc hk rfl (Nat.le_of_ble_eq_true rfl) hs (zrecv_of hr (by decide)) k
theorem k_32 {o : Nat} (hc : zcode mi pc = some (i, ln, 32, b, w)) (hk : zkd i b = 1) (hr : wcl o = 3) (hs : zcats rest ≤ 8) (k : yG x M 32 0 [.ref o] [] (fun v x' M' => yG x' M' mi (pc + 3) l (zpu v rest) Q)) : yG x M mi pc l (.ref o :: rest) Q :=
  y_calls (av := [.ref o]) hc hk rfl (Nat.le_of_ble_eq_true rfl) hs (zrecv_of hr (by decide)) k
theorem k_33 {o : Nat} (hc : zcode mi pc = some (i, ln, 33, b, w)) (hk : zkd i b = 1) (hr : wcl o = 3) (hs : zcats rest ≤ 8) (k : yG x M 33 0 [.ref o] [] (fun v x' M' => yG x' M' mi (pc + 3) l (zpu v rest) Q)) : yG x M mi pc l (.ref o :: rest) Q :=
  y_calls (av := [.ref o]) hc hk rfl (Nat.le_of_ble_eq_true rfl) hs (zrecv_of hr (by decide)) k
theorem k_34 {o : Nat} {z0 : Int32} (hc : zcode mi pc = some (i, ln, 34, b, w)) (hk : zkd i b = 1) (hr : wcl o = 3) (hs : zcats rest ≤ 8) (k : yG x M 34 0 [.ref o, .int z0] [] (fun v x' M' => yG x' M' mi (pc + 3) l (zpu v rest) Q)) : yG x M mi pc l (.int z0 :: .ref o :: rest) Q :=
  y_calls (av := [.ref o, .int z0]) hc hk rfl (Nat.le_of_ble_eq_true rfl) hs (zrecv_of hr (by decide)) k
theorem k_35 {o : Nat} {z0 : Int32} (hc : zcode mi pc = some (i, ln, 35, b, w)) (hk : zkd i b = 1) (hr : wcl o = 3) (hs : zcats rest ≤ 8) (k : yG x M 35 0 [.ref o, .int z0] [] (fun v x' M' => yG x' M' mi (pc + 3) l (zpu v rest) Q)) : yG x M mi pc l (.int z0 :: .ref o :: rest) Q :=
  y_calls (av := [.ref o, .int z0]) hc hk rfl (Nat.le_of_ble_eq_true rfl) hs (zrecv_of hr (by decide)) k
theorem k_36 {o : Nat} {z0 : Int32} (hc : zcode mi pc = some (i, ln, 36, b, w)) (hk : zkd i b = 1) (hr : wcl o = 3) (hs : zcats rest ≤ 8) (k : yG x M 36 0 [.ref o, .int z0] [] (fun v x' M' => yG x' M' mi (pc + 3) l (zpu v rest) Q)) : yG x M mi pc l (.int z0 :: .ref o :: rest) Q :=
  y_calls (av := [.ref o, .int z0]) hc hk rfl (Nat.le_of_ble_eq_true rfl) hs (zrecv_of hr (by decide)) k
theorem k_37 {o : Nat} {z0 : Int32} (hc : zcode mi pc = some (i, ln, 37, b, w)) (hk : zkd i b = 1) (hr : wcl o = 3) (hs : zcats rest ≤ 8) (k : yG x M 37 0 [.ref o, .int z0] [] (fun v x' M' => yG x' M' mi (pc + 3) l (zpu v rest) Q)) : yG x M mi pc l (.int z0 :: .ref o :: rest) Q :=
  y_calls (av := [.ref o, .int z0]) hc hk rfl (Nat.le_of_ble_eq_true rfl) hs (zrecv_of hr (by decide)) k
theorem k_38 {o : Nat} (hc : zcode mi pc = some (i, ln, 38, b, w)) (hk : zkd i b = 1) (hr : wcl o = 3) (hs : zcats rest ≤ 8) (k : yG x M 38 0 [.ref o] [] (fun v x' M' => yG x' M' mi (pc + 3) l (zpu v rest) Q)) : yG x M mi pc l (.ref o :: rest) Q :=
  y_calls (av := [.ref o]) hc hk rfl (Nat.le_of_ble_eq_true rfl) hs (zrecv_of hr (by decide)) k
theorem k_39 {o : Nat} {o0 : Nat} (hc : zcode mi pc = some (i, ln, 39, b, w)) (hk : zkd i b = 1) (hr : wcl o = 3) (hs : zcats rest ≤ 8) (k : yG x M 39 0 [.ref o, .ref o0, zU] [] (fun v x' M' => yG x' M' mi (pc + 3) l (zpu v rest) Q)) : yG x M mi pc l (.ref o0 :: .ref o :: rest) Q :=
  y_calls (av := [.ref o, .ref o0]) hc hk rfl (Nat.le_of_ble_eq_true rfl) hs (zrecv_of hr (by decide)) k
theorem k_41 {o : Nat} (hc : zcode mi pc = some (i, ln, 41, b, w)) (hk : zkd i b = 1) (hr : wcl o = 4) (hs : zcats rest ≤ 8) (k : yG x M 41 0 [.ref o] [] (fun v x' M' => yG x' M' mi (pc + 3) l (zpu v rest) Q)) : yG x M mi pc l (.ref o :: rest) Q :=
  y_calls (av := [.ref o]) hc hk rfl (Nat.le_of_ble_eq_true rfl) hs (zrecv_of hr (by decide)) k
theorem k_42 {o : Nat} {o0 : Nat} {z1 : Int32} {z2 : Int32} (hc : zcode mi pc = some (i, ln, 42, b, w)) (hk : zkd i b = 1) (hr : wcl o = 4) (hs : zcats rest ≤ 8) (k : yG x M 42 0 [.ref o, .ref o0, .int z1, .int z2] [] (fun v x' M' => yG x' M' mi (pc + 3) l (zpu v rest) Q)) : yG x M mi pc l (.int z2 :: .int z1 :: .ref o0 :: .ref o :: rest) Q :=
  y_calls (av := [.ref o, .ref o0, .int z1, .int z2]) hc hk rfl (Nat.le_of_ble_eq_true rfl) hs (zrecv_of hr (by decide)) k
theorem k_43 {o : Nat} {o0 : Nat} (hc : zcode mi pc = some (i, ln, 43, b, w)) (hk : zkd i b = 1) (hr : wcl o = 4) (hs : zcats rest ≤ 8) (k : yG x M 43 0 [.ref o, .ref o0] [] (fun v x' M' => yG x' M' mi (pc + 3) l (zpu v rest) Q)) : yG x M mi pc l (.ref o0 :: .ref o :: rest) Q :=
  y_calls (av := [.ref o, .ref o0]) hc hk rfl (Nat.le_of_ble_eq_true rfl) hs (zrecv_of hr (by decide)) k
theorem k_44 {o : Nat} (hc : zcode mi pc = some (i, ln, 44, b, w)) (hk : zkd i b = 1) (hr : wcl o = 4) (hs : zcats rest ≤ 8) (k : yG x M 44 0 [.ref o] [] (fun v x' M' => yG x' M' mi (pc + 3) l (zpu v rest) Q)) : yG x M mi pc l (.ref o :: rest) Q :=
  y_calls (av := [.ref o]) hc hk rfl (Nat.le_of_ble_eq_true rfl) hs (zrecv_of hr (by decide)) k
theorem k_45 {o : Nat} (hc : zcode mi pc = some (i, ln, 45, b, w)) (hk : zkd i b = 1) (hr : wcl o = 4) (hs : zcats rest ≤ 8) (k : yG x M 45 0 [.ref o] [] (fun v x' M' => yG x' M' mi (pc + 3) l (zpu v rest) Q)) : yG x M mi pc l (.ref o :: rest) Q :=
  y_calls (av := [.ref o]) hc hk rfl (Nat.le_of_ble_eq_true rfl) hs (zrecv_of hr (by decide)) k
theorem k_46 {o : Nat} (hc : zcode mi pc = some (i, ln, 46, b, w)) (hk : zkd i b = 1) (hr : wcl o = 4) (hs : zcats rest ≤ 8) (k : yG x M 46 0 [.ref o, zU, zU] [] (fun v x' M' => yG x' M' mi (pc + 3) l (zpu v rest) Q)) : yG x M mi pc l (.ref o :: rest) Q :=
  y_calls (av := [.ref o]) hc hk rfl (Nat.le_of_ble_eq_true rfl) hs (zrecv_of hr (by decide)) k
theorem k_47 {o : Nat} {z0 : Int32} (hc : zcode mi pc = some (i, ln, 47, b, w)) (hk : zkd i b = 1) (hr : wcl o = 4) (hs : zcats rest ≤ 8) (k : yG x M 47 0 [.ref o, .int z0] [] (fun v x' M' => yG x' M' mi (pc + 3) l (zpu v rest) Q)) : yG x M mi pc l (.int z0 :: .ref o :: rest) Q :=
  y_calls (av := [.ref o, .int z0]) hc hk rfl (Nat.le_of_ble_eq_true rfl) hs (zrecv_of hr (by decide)) k
theorem k_48 {o : Nat} {o0 : Nat} (hc : zcode mi pc = some (i, ln, 48, b, w)) (hk : zkd i b = 1) (hr : wcl o = 4) (hs : zcats rest ≤ 8) (k : yG x M 48 0 [.ref o, .ref o0, zU, zU] [] (fun v x' M' => yG x' M' mi (pc + 3) l (zpu v rest) Q)) : yG x M mi pc l (.ref o0 :: .ref o :: rest) Q :=
  y_calls (av := [.ref o, .ref o0]) hc hk rfl (Nat.le_of_ble_eq_true rfl) hs (zrecv_of hr (by decide)) k
theorem k_49 {o : Nat} {o0 : Nat} (hc : zcode mi pc = some (i, ln, 49, b, w)) (hk : zkd i b = 1) (hr : wcl o = 4) (hs : zcats rest ≤ 8) (k : yG x M 49 0 [.ref o, .ref o0] [] (fun v x' M' => yG x' M' mi (pc + 3) l (zpu v rest) Q)) : yG x M mi pc l (.ref o0 :: .ref o :: rest) Q :=
  y_calls (av := [.ref o, .ref o0]) hc hk rfl (Nat.le_of_ble_eq_true rfl) hs (zrecv_of hr (by decide)) k
theorem k_50 {o : Nat} {o0 : Nat} {z1 : Int32} (hc : zcode mi pc = some (i, ln, 50, b, w)) (hk : zkd i b = 1) (hr : wcl o = 4) (hs : zcats rest ≤ 8) (k : yG x M 50 0 [.ref o, .ref o0, .int z1] [] (fun v x' M' => yG x' M' mi (pc + 3) l (zpu v rest) Q)) : yG x M mi pc l (.int z1 :: .ref o0 :: .ref o :: rest) Q :=
  y_calls (av := [.ref o, .ref o0, .int z1]) hc hk rfl (Nat.le_of_ble_eq_true rfl) hs (zrecv_of hr (by decide)) k
theorem k_51 {o : Nat} {o0 : Nat} {z1 : Int32} (hc : zcode mi pc = some (i, ln, 51, b, w)) (hk : zkd i b = 1) (hr : wcl o = 4) (hs : zcats rest ≤ 8) (k : yG x M 51 0 [.ref o, .ref o0, .int z1] [] (fun v x' M' => yG x' M' mi (pc + 3) l (zpu v rest) Q)) : yG x M mi pc l (.int z1 :: .ref o0 :: .ref o :: rest) Q :=
  y_calls (av := [.ref o, .ref o0, .int z1]) hc hk rfl (Nat.le_of_ble_eq_true rfl) hs (zrecv_of hr (by decide)) k
theorem k_52 {o : Nat} {o0 : Nat} (hc : zcode mi pc = some (i, ln, 52, b, w)) (hk : zkd i b = 1) (hr : wcl o = 4) (hs : zcats rest ≤ 8) (k : yG x M 52 0 [.ref o, .ref o0, zU] [] (fun v x' M' => yG x' M' mi (pc + 3) l (zpu v rest) Q)) : yG x M mi pc l (.ref o0 :: .ref o :: rest) Q :=
  y_calls (av := [.ref o, .ref o0]) hc hk rfl (Nat.le_of_ble_eq_true rfl) hs (zrecv_of hr (by decide)) k
theorem k_53 {o : Nat} {z0 : Int32} (hc : zcode mi pc = some (i, ln, 53, b, w)) (hk : zkd i b = 1) (hr : wcl o = 4) (hs : zcats rest ≤ 8) (k : yG x M 53 0 [.ref o, .int z0] [] (fun v x' M' => yG x' M' mi (pc + 3) l (zpu v rest) Q)) : yG x M mi pc l (.int z0 :: .ref o :: rest) Q :=
  y_calls (av := [.ref o, .int z0]) hc hk rfl (Nat.le_of_ble_eq_true rfl) hs (zrecv_of hr (by decide)) k
theorem k_55 {o : Nat} {z0 : Int32} (hc : zcode mi pc = some (i, ln, 55, b, w)) (hk : zkd i b = 1) (hr : wcl o = 5) (hs : zcats rest ≤ 8) (k : yG x M 55 0 [.ref o, .int z0] [] (fun v x' M' => yG x' M' mi (pc + 3) l (zpu v rest) Q)) : yG x M mi pc l (.int z0 :: .ref o :: rest) Q :=
  y_calls (av := [.ref o, .int z0]) hc hk rfl (Nat.le_of_ble_eq_true rfl) hs (zrecv_of hr (by decide)) k
theorem k_56 {o : Nat} {z0 : Int32} {o1 : Nat} (hc : zcode mi pc = some (i, ln, 56, b, w)) (hk : zkd i b = 1) (hr : wcl o = 5) (hs : zcats rest ≤ 8) (k : yG x M 56 0 [.ref o, .int z0, .ref o1, zU] [] (fun v x' M' => yG x' M' mi (pc + 3) l (zpu v rest) Q)) : yG x M mi pc l (.ref o1 :: .int z0 :: .ref o :: rest) Q :=
  y_calls (av := [.ref o, .int z0, .ref o1]) hc hk rfl (Nat.le_of_ble_eq_true rfl) hs (zrecv_of hr (by decide)) k
theorem k_57 {o : Nat} {z0 : Int32} {o1 : Nat} (hc : zcode mi pc = some (i, ln, 57, b, w)) (hk : zkd i b = 1) (hr : wcl o = 5) (hs : zcats rest ≤ 8) (k : yG x M 57 0 [.ref o, .int z0, .ref o1, zU] [] (fun v x' M' => yG x' M' mi (pc + 3) l (zpu v rest) Q)) : yG x M mi pc l (.ref o1 :: .int z0 :: .ref o :: rest) Q :=
  y_calls (av := [.ref o, .int z0, .ref o1]) hc hk rfl (Nat.le_of_ble_eq_true rfl) hs (zrecv_of hr (by decide)) k
theorem k_59 {o : Nat} (hc : zcode mi pc = some (i, ln, 59, b, w)) (hk : zkd i b = 1) (hr : wcl o = 6) (hs : zcats rest ≤ 8) (k : yG x M 59 0 [.ref o] [] (fun v x' M' => yG x' M' mi (pc + 3) l (zpu v rest) Q)) : yG x M mi pc l (.ref o :: rest) Q :=
  y_calls (av := [.ref o]) hc hk rfl (Nat.le_of_ble_eq_true rfl) hs (zrecv_of hr (by decide)) k
theorem k_60 {o : Nat} (hc : zcode mi pc = some (i, ln, 60, b, w)) (hk : zkd i b = 1) (hr : wcl o = 6) (hs : zcats rest ≤ 8) (k : yG x M 60 0 [.ref o] [] (fun v x' M' => yG x' M' mi (pc + 3) l (zpu v rest) Q)) : yG x M mi pc l (.ref o :: rest) Q :=
  y_calls (av := [.ref o]) hc hk rfl (Nat.le_of_ble_eq_true rfl) hs (zrecv_of hr (by decide)) k
theorem k_61 {o : Nat} (hc : zcode mi pc = some (i, ln, 61, b, w)) (hk : zkd i b = 1) (hr : wcl o = 6) (hs : zcats rest ≤ 8) (k : yG x M 61 0 [.ref o] [] (fun v x' M' => yG x' M' mi (pc + 3) l (zpu v rest) Q)) : yG x M mi pc l (.ref o :: rest) Q :=
  y_calls (av := [.ref o]) hc hk rfl (Nat.le_of_ble_eq_true rfl) hs (zrecv_of hr (by decide)) k
theorem k_62 {o : Nat} {z0 : Int32} {z1 : Int32} {z2 : Int32} (hc : zcode mi pc = some (i, ln, 62, b, w)) (hk : zkd i b = 1) (hr : wcl o = 6) (hs : zcats rest ≤ 8) (k : yG x M 62 0 [.ref o, .int z0, .int z1, .int z2] [] (fun v x' M' => yG x' M' mi (pc + 3) l (zpu v rest) Q)) : yG x M mi pc l (.int z2 :: .int z1 :: .int z0 :: .ref o :: rest) Q :=
  y_calls (av := [.ref o, .int z0, .int z1, .int z2]) hc hk rfl (Nat.le_of_ble_eq_true rfl) hs (zrecv_of hr (by decide)) k
theorem k_63 {o : Nat} {z0 : Int32} {z1 : Int32} {z2 : Int32} {z3 : Int32} (hc : zcode mi pc = some (i, ln, 63, b, w)) (hk : zkd i b = 1) (hr : wcl o = 6) (hs : zcats rest ≤ 8) (k : yG x M 63 0 [.ref o, .int z0, .int z1, .int z2, .int z3] [] (fun v x' M' => yG x' M' mi (pc + 3) l (zpu v rest) Q)) : yG x M mi pc l (.int z3 :: .int z2 :: .int z1 :: .int z0 :: .ref o :: rest) Q :=
  y_calls (av := [.ref o, .int z0, .int z1, .int z2, .int z3]) hc hk rfl (Nat.le_of_ble_eq_true rfl) hs (zrecv_of hr (by decide)) k
theorem k_64 {o : Nat} {o0 : Nat} {z1 : Int32} (hc : zcode mi pc = some (i, ln, 64, b, w)) (hk : zkd i b = 1) (hr : wcl o = 6) (hs : zcats rest ≤ 8) (k : yG x M 64 0 [.ref o, .ref o0, .int z1, zU, zU] [] (fun v x' M' => yG x' M' mi (pc + 3) l (zpu v rest) Q)) : yG x M mi pc l (.int z1 :: .ref o0 :: .ref o :: rest) Q :=
  y_calls (av := [.ref o, .ref o0, .int z1]) hc hk rfl (Nat.le_of_ble_eq_true rfl) hs (zrecv_of hr (by decide)) k
theorem k_66 {o : Nat} {z0 : Int32} (hc : zcode mi pc = some (i, ln, 66, b, w)) (hk : zkd i b = 1) (hr : wcl o = 7) (hs : zcats rest ≤ 8) (k : yG x M 66 0 [.ref o, .int z0] [] (fun v x' M' => yG x' M' mi (pc + 3) l (zpu v rest) Q)) : yG x M mi pc l (.int z0 :: .ref o :: rest) Q :=
  y_calls (av := [.ref o, .int z0]) hc hk rfl (Nat.le_of_ble_eq_true rfl) hs (zrecv_of hr (by decide)) k
theorem k_67 {o : Nat} (hc : zcode mi pc = some (i, ln, 67, b, w)) (hk : zkd i b = 1) (hr : wcl o = 7) (hs : zcats rest ≤ 8) (k : yG x M 67 0 [.ref o, zU] [] (fun v x' M' => yG x' M' mi (pc + 3) l (zpu v rest) Q)) : yG x M mi pc l (.ref o :: rest) Q :=
  y_calls (av := [.ref o]) hc hk rfl (Nat.le_of_ble_eq_true rfl) hs (zrecv_of hr (by decide)) k
theorem k_68 {o : Nat} (hc : zcode mi pc = some (i, ln, 68, b, w)) (hk : zkd i b = 1) (hr : wcl o = 7) (hs : zcats rest ≤ 8) (k : yG x M 68 0 [.ref o] [] (fun v x' M' => yG x' M' mi (pc + 3) l (zpu v rest) Q)) : yG x M mi pc l (.ref o :: rest) Q :=
  y_calls (av := [.ref o]) hc hk rfl (Nat.le_of_ble_eq_true rfl) hs (zrecv_of hr (by decide)) k
theorem k_69 {o : Nat} (hc : zcode mi pc = some (i, ln, 69, b, w)) (hk : zkd i b = 1) (hr : wcl o = 7) (hs : zcats rest ≤ 8) (k : yG x M 69 0 [.ref o, zU] [] (fun v x' M' => yG x' M' mi (pc + 3) l (zpu v rest) Q)) : yG x M mi pc l (.ref o :: rest) Q :=
  y_calls (av := [.ref o]) hc hk rfl (Nat.le_of_ble_eq_true rfl) hs (zrecv_of hr (by decide)) k
theorem k_70 {o : Nat} {z0 : Int32} (hc : zcode mi pc = some (i, ln, 70, b, w)) (hk : zkd i b = 1) (hr : wcl o = 7) (hs : zcats rest ≤ 8) (k : yG x M 70 0 [.ref o, .int z0] [] (fun v x' M' => yG x' M' mi (pc + 3) l (zpu v rest) Q)) : yG x M mi pc l (.int z0 :: .ref o :: rest) Q :=
  y_calls (av := [.ref o, .int z0]) hc hk rfl (Nat.le_of_ble_eq_true rfl) hs (zrecv_of hr (by decide)) k
theorem k_71 {o : Nat} {z0 : Int32} (hc : zcode mi pc = some (i, ln, 71, b, w)) (hk : zkd i b = 1) (hr : wcl o = 7) (hs : zcats rest ≤ 8) (k : yG x M 71 0 [.ref o, .int z0] [] (fun v x' M' => yG x' M' mi (pc + 3) l (zpu v rest) Q)) : yG x M mi pc l (.int z0 :: .ref o :: rest) Q :=
  y_calls (av := [.ref o, .int z0]) hc hk rfl (Nat.le_of_ble_eq_true rfl) hs (zrecv_of hr (by decide)) k
theorem k_72 {o : Nat} {z0 : Int32} {z1 : Int32} (hc : zcode mi pc = some (i, ln, 72, b, w)) (hk : zkd i b = 1) (hr : wcl o = 7) (hs : zcats rest ≤ 8) (k : yG x M 72 0 [.ref o, .int z0, .int z1] [] (fun v x' M' => yG x' M' mi (pc + 3) l (zpu v rest) Q)) : yG x M mi pc l (.int z1 :: .int z0 :: .ref o :: rest) Q :=
  y_calls (av := [.ref o, .int z0, .int z1]) hc hk rfl (Nat.le_of_ble_eq_true rfl) hs (zrecv_of hr (by decide)) k
theorem k_73 {o : Nat} {z0 : Int32} {z1 : Int32} (hc : zcode mi pc = some (i, ln, 73, b, w)) (hk : zkd i b = 1) (hr : wcl o = 7) (hs : zcats rest ≤ 8) (k : yG x M 73 0 [.ref o, .int z0, .int z1] [] (fun v x' M' => yG x' M' mi (pc + 3) l (zpu v rest) Q)) : yG x M mi pc l (.int z1 :: .int z0 :: .ref o :: rest) Q :=
  y_calls (av := [.ref o, .int z0, .int z1]) hc hk rfl (Nat.le_of_ble_eq_true rfl) hs (zrecv_of hr (by decide)) k
theorem k_74 {o : Nat} {z0 : Int32} {z1 : Int32} (hc : zcode mi pc = some (i, ln, 74, b, w)) (hk : zkd i b = 1) (hr : wcl o = 7) (hs : zcats rest ≤ 8) (k : yG x M 74 0 [.ref o, .int z0, .int z1] [] (fun v x' M' => yG x' M' mi (pc + 3) l (zpu v rest) Q)) : yG x M mi pc l (.int z1 :: .int z0 :: .ref o :: rest) Q :=
  y_calls (av := [.ref o, .int z0, .int z1]) hc hk rfl (Nat.le_of_ble_eq_true rfl) hs (zrecv_of hr (by decide)) k
theorem k_75 {o : Nat} {z0 : Int32} (hc : zcode mi pc = some (i, ln, 75, b, w)) (hk : zkd i b = 1) (hr : wcl o = 7) (hs : zcats rest ≤ 8) (k : yG x M 75 0 [.ref o, .int z0] [] (fun v x' M' => yG x' M' mi (pc + 3) l (zpu v rest) Q)) : yG x M mi pc l (.int z0 :: .ref o :: rest) Q :=
  y_calls (av := [.ref o, .int z0]) hc hk rfl (Nat.le_of_ble_eq_true rfl) hs (zrecv_of hr (by decide)) k
theorem k_76 {o : Nat} {z0 : Int32} {z1 : Int32} {z2 : Int32} {z3 : Int32} (hc : zcode mi pc = some (i, ln, 76, b, w)) (hk : zkd i b = 1) (hr : wcl o = 7) (hs : zcats rest ≤ 8) (k : yG x M 76 0 [.ref o, .int z0, .int z1, .int z2, .int z3] [] (fun v x' M' => yG x' M' mi (pc + 3) l (zpu v rest) Q)) : yG x M mi pc l (.int z3 :: .int z2 :: .int z1 :: .int z0 :: .ref o :: rest) Q :=
  y_calls (av := [.ref o, .int z0, .int z1, .int z2, .int z3]) hc hk rfl (Nat.le_of_ble_eq_true rfl) hs (zrecv_of hr (by decide)) k
theorem k_77 {o : Nat} {z0 : Int32} {z1 : Int32} (hc : zcode mi pc = some (i, ln, 77, b, w)) (hk : zkd i b = 1) (hr : wcl o = 7) (hs : zcats rest ≤ 8) (k : yG x M 77 0 [.ref o, .int z0, .int z1] [] (fun v x' M' => yG x' M' mi (pc + 3) l (zpu v rest) Q)) : yG x M mi pc l (.int z1 :: .int z0 :: .ref o :: rest) Q :=
  y_calls (av := [.ref o, .int z0, .int z1]) hc hk rfl (Nat.le_of_ble_eq_true rfl) hs (zrecv_of hr (by decide)) k
theorem k_78 {o : Nat} {z0 : Int32} (hc : zcode mi pc = some (i, ln, 78, b, w)) (hk : zkd i b = 1) (hr : wcl o = 7) (hs : zcats rest ≤ 8) (k : yG x M 78 0 [.ref o, .int z0] [] (fun v x' M' => yG x' M' mi (pc + 3) l (zpu v rest) Q)) : yG x M mi pc l (.int z0 :: .ref o :: rest) Q :=
  y_calls (av := [.ref o, .int z0]) hc hk rfl (Nat.le_of_ble_eq_true rfl) hs (zrecv_of hr (by decide)) k
theorem k_79 {o : Nat} (hc : zcode mi pc = some (i, ln, 79, b, w)) (hk : zkd i b = 1) (hr : wcl o = 7) (hs : zcats rest ≤ 8) (k : yG x M 79 0 [.ref o] [] (fun v x' M' => yG x' M' mi (pc + 3) l (zpu v rest) Q)) : yG x M mi pc l (.ref o :: rest) Q :=
  y_calls (av := [.ref o]) hc hk rfl (Nat.le_of_ble_eq_true rfl) hs (zrecv_of hr (by decide)) k
theorem k_80 {o : Nat} {z0 : Int32} (hc : zcode mi pc = some (i, ln, 80, b, w)) (hk : zkd i b = 1) (hr : wcl o = 7) (hs : zcats rest ≤ 8) (k : yG x M 80 0 [.ref o, .int z0] [] (fun v x' M' => yG x' M' mi (pc + 3) l (zpu v rest) Q)) : yG x M mi pc l (.int z0 :: .ref o :: rest) Q :=
  y_calls (av := [.ref o, .int z0]) hc hk rfl (Nat.le_of_ble_eq_true rfl) hs (zrecv_of hr (by decide)) k
theorem k_81 {o : Nat} {z0 : Int32} (hc : zcode mi pc = some (i, ln, 81, b, w)) (hk : zkd i b = 1) (hr : wcl o = 7) (hs : zcats rest ≤ 8) (k : yG x M 81 0 [.ref o, .int z0] [] (fun v x' M' => yG x' M' mi (pc + 3) l (zpu v rest) Q)) : yG x M mi pc l (.int z0 :: .ref o :: rest) Q :=
  y_calls (av := [.ref o, .int z0]) hc hk rfl (Nat.le_of_ble_eq_true rfl) hs (zrecv_of hr (by decide)) k
theorem k_82 {o : Nat} (hc : zcode mi pc = some (i, ln, 82, b, w)) (hk : zkd i b = 1) (hr : wcl o = 7) (hs : zcats rest ≤ 8) (k : yG x M 82 0 [.ref o] [] (fun v x' M' => yG x' M' mi (pc + 3) l (zpu v rest) Q)) : yG x M mi pc l (.ref o :: rest) Q :=
  y_calls (av := [.ref o]) hc hk rfl (Nat.le_of_ble_eq_true rfl) hs (zrecv_of hr (by decide)) k
theorem k_83 {o : Nat} {z0 : Int32} (hc : zcode mi pc = some (i, ln, 83, b, w)) (hk : zkd i b = 1) (hr : wcl o = 7) (hs : zcats rest ≤ 8) (k : yG x M 83 0 [.ref o, .int z0] [] (fun v x' M' => yG x' M' mi (pc + 3) l (zpu v rest) Q)) : yG x M mi pc l (.int z0 :: .ref o :: rest) Q :=
  y_calls (av := [.ref o, .int z0]) hc hk rfl (Nat.le_of_ble_eq_true rfl) hs (zrecv_of hr (by decide)) k
theorem k_84 {o : Nat} {z0 : Int32} (hc : zcode mi pc = some (i, ln, 84, b, w)) (hk : zkd i b = 1) (hr : wcl o = 7) (hs : zcats rest ≤ 8) (k : yG x M 84 0 [.ref o, .int z0] [] (fun v x' M' => yG x' M' mi (pc + 3) l (zpu v rest) Q)) : yG x M mi pc l (.int z0 :: .ref o :: rest) Q :=
  y_calls (av := [.ref o, .int z0]) hc hk rfl (Nat.le_of_ble_eq_true rfl) hs (zrecv_of hr (by decide)) k
theorem k_85 {o : Nat} {z0 : Int32} (hc : zcode mi pc = some (i, ln, 85, b, w)) (hk : zkd i b = 1) (hr : wcl o = 7) (hs : zcats rest ≤ 8) (k : yG x M 85 0 [.ref o, .int z0, zU, zU] [] (fun v x' M' => yG x' M' mi (pc + 3) l (zpu v rest) Q)) : yG x M mi pc l (.int z0 :: .ref o :: rest) Q :=
  y_calls (av := [.ref o, .int z0]) hc hk rfl (Nat.le_of_ble_eq_true rfl) hs (zrecv_of hr (by decide)) k
theorem k_86 {o : Nat} {z0 : Int32} {z1 : Int32} (hc : zcode mi pc = some (i, ln, 86, b, w)) (hk : zkd i b = 1) (hr : wcl o = 7) (hs : zcats rest ≤ 8) (k : yG x M 86 0 [.ref o, .int z0, .int z1] [] (fun v x' M' => yG x' M' mi (pc + 3) l (zpu v rest) Q)) : yG x M mi pc l (.int z1 :: .int z0 :: .ref o :: rest) Q :=
  y_calls (av := [.ref o, .int z0, .int z1]) hc hk rfl (Nat.le_of_ble_eq_true rfl) hs (zrecv_of hr (by decide)) k
theorem k_87 {o : Nat} {z0 : Int32} (hc : zcode mi pc = some (i, ln, 87, b, w)) (hk : zkd i b = 1) (hr : wcl o = 7) (hs : zcats rest ≤ 8) (k : yG x M 87 0 [.ref o, .int z0, zU, zU, zU] [] (fun v x' M' => yG x' M' mi (pc + 3) l (zpu v rest) Q)) : yG x M mi pc l (.int z0 :: .ref o :: rest) Q :=
  y_calls (av := [.ref o, .int z0]) hc hk rfl (Nat.le_of_ble_eq_true rfl) hs (zrecv_of hr (by decide)) k
theorem k_88 {o : Nat} {z0 : Int32} (hc : zcode mi pc = some (i, ln, 88, b, w)) (hk : zkd i b = 1) (hr : wcl o = 7) (hs : zcats rest ≤ 8) (k : yG x M 88 0 [.ref o, .int z0, zU, zU, zU, zU, zU, zU] [] (fun v x' M' => yG x' M' mi (pc + 3) l (zpu v rest) Q)) : yG x M mi pc l (.int z0 :: .ref o :: rest) Q :=
  y_calls (av := [.ref o, .int z0]) hc hk rfl (Nat.le_of_ble_eq_true rfl) hs (zrecv_of hr (by decide)) k
theorem k_89 {z0 : Int32} {z1 : Int32} (hc : zcode mi pc = some (i, ln, 89, b, w)) (hk : zkd i b = 1) (hs : zcats rest ≤ 8) (k : yG x M 89 0 [.int z0, .int z1] [] (fun v x' M' => yG x' M' mi (pc + 3) l (zpu v rest) Q)) : yG x M mi pc l (.int z1 :: .int z0 :: rest) Q :=
  y_calls (av := [.int z0, .int z1]) hc hk rfl (Nat.le_of_ble_eq_true rfl) hs (zrecv_st (by decide)) k
theorem k_90 {o : Nat} {z0 : Int32} {z1 : Int32} {z2 : Int32} (hc : zcode mi pc = some (i, ln, 90, b, w)) (hk : zkd i b = 1) (hr : wcl o = 7) (hs : zcats rest ≤ 8) (k : yG x M 90 0 [.ref o, .int z0, .int z1, .int z2, zU, zU, zU, zU, zU] [] (fun v x' M' => yG x' M' mi (pc + 3) l (zpu v rest) Q)) : yG x M mi pc l (.int z2 :: .int z1 :: .int z0 :: .ref o :: rest) Q :=
  y_calls (av := [.ref o, .int z0, .int z1, .int z2]) hc hk rfl (Nat.le_of_ble_eq_true rfl) hs (zrecv_of hr (by decide)) k
theorem k_91 {o : Nat} {z0 : Int32} {z1 : Int32} (hc : zcode mi pc = some (i, ln, 91, b, w)) (hk : zkd i b = 1) (hr : wcl o = 7) (hs : zcats rest ≤ 8) (k : yG x M 91 0 [.ref o, .int z0, .int z1, zU, zU, zU] [] (fun v x' M' => yG x' M' mi (pc + 3) l (zpu v rest) Q)) : yG x M mi pc l (.int z1 :: .int z0 :: .ref o :: rest) Q :=
  y_calls (av := [.ref o, .int z0, .int z1]) hc hk rfl (Nat.le_of_ble_eq_true rfl) hs (zrecv_of hr (by decide)) k
theorem k_92 {z0 : Int32} {z1 : Int32} {z2 : Int32} (hc : zcode mi pc = some (i, ln, 92, b, w)) (hk : zkd i b = 1) (hs : zcats rest ≤ 8) (k : yG x M 92 0 [.int z0, .int z1, .int z2] [] (fun v x' M' => yG x' M' mi (pc + 3) l (zpu v rest) Q)) : yG x M mi pc l (.int z2 :: .int z1 :: .int z0 :: rest) Q :=
  y_calls (av := [.int z0, .int z1, .int z2]) hc hk rfl (Nat.le_of_ble_eq_true rfl) hs (zrecv_st (by decide)) k
theorem k_93 {o : Nat} {z0 : Int32} {z1 : Int32} (hc : zcode mi pc = some (i, ln, 93, b, w)) (hk : zkd i b = 1) (hr : wcl o = 7) (hs : zcats rest ≤ 8) (k : yG x M 93 0 [.ref o, .int z0, .int z1, zU, zU] [] (fun v x' M' => yG x' M' mi (pc + 3) l (zpu v rest) Q)) : yG x M mi pc l (.int z1 :: .int z0 :: .ref o :: rest) Q :=
  y_calls (av := [.ref o, .int z0, .int z1]) hc hk rfl (Nat.le_of_ble_eq_true rfl) hs (zrecv_of hr (by decide)) k
theorem k_94 {z0 : Int32} (hc : zcode mi pc = some (i, ln, 94, b, w)) (hk : zkd i b = 1) (hs : zcats rest ≤ 8) (k : yG x M 94 0 [.int z0, zU, zU] [] (fun v x' M' => yG x' M' mi (pc + 3) l (zpu v rest) Q)) : yG x M mi pc l (.int z0 :: rest) Q :=
  y_calls (av := [.int z0]) hc hk rfl (Nat.le_of_ble_eq_true rfl) hs (zrecv_st (by decide)) k
theorem k_95 {o : Nat} {z0 : Int32} {z1 : Int32} (hc : zcode mi pc = some (i, ln, 95, b, w)) (hk : zkd i b = 1) (hr : wcl o = 7) (hs : zcats rest ≤ 8) (k : yG x M 95 0 [.ref o, .int z0, .int z1] [] (fun v x' M' => yG x' M' mi (pc + 3) l (zpu v rest) Q)) : yG x M mi pc l (.int z1 :: .int z0 :: .ref o :: rest) Q :=
  y_calls (av := [.ref o, .int z0, .int z1]) hc hk rfl (Nat.le_of_ble_eq_true rfl) hs (zrecv_of hr (by decide)) k
theorem k_96 {o : Nat} {z0 : Int32} {z1 : Int32} (hc : zcode mi pc = some (i, ln, 96, b, w)) (hk : zkd i b = 1) (hr : wcl o = 7) (hs : zcats rest ≤ 8) (k : yG x M 96 0 [.ref o, .int z0, .int z1, zU, zU, zU, zU] [] (fun v x' M' => yG x' M' mi (pc + 3) l (zpu v rest) Q)) : yG x M mi pc l (.int z1 :: .int z0 :: .ref o :: rest) Q :=
  y_calls (av := [.ref o, .int z0, .int z1]) hc hk rfl (Nat.le_of_ble_eq_true rfl) hs (zrecv_of hr (by decide)) k
theorem k_97 {z0 : Int32} (hc : zcode mi pc = some (i, ln, 97, b, w)) (hk : zkd i b = 1) (hs : zcats rest ≤ 8) (k : yG x M 97 0 [.int z0, zU, zU] [] (fun v x' M' => yG x' M' mi (pc + 3) l (zpu v rest) Q)) : yG x M mi pc l (.int z0 :: rest) Q :=
  y_calls (av := [.int z0]) hc hk rfl (Nat.le_of_ble_eq_true rfl) hs (zrecv_st (by decide)) k
theorem k_98 {z0 : Int32} {z1 : Int32} {z2 : Int32} (hc : zcode mi pc = some (i, ln, 98, b, w)) (hk : zkd i b = 1) (hs : zcats rest ≤ 8) (k : yG x M 98 0 [.int z0, .int z1, .int z2, zU] [] (fun v x' M' => yG x' M' mi (pc + 3) l (zpu v rest) Q)) : yG x M mi pc l (.int z2 :: .int z1 :: .int z0 :: rest) Q :=
  y_calls (av := [.int z0, .int z1, .int z2]) hc hk rfl (Nat.le_of_ble_eq_true rfl) hs (zrecv_st (by decide)) k
theorem k_99 {z0 : Int32} {z1 : Int32} (hc : zcode mi pc = some (i, ln, 99, b, w)) (hk : zkd i b = 1) (hs : zcats rest ≤ 8) (k : yG x M 99 0 [.int z0, .int z1, zU, zU, zU, zU] [] (fun v x' M' => yG x' M' mi (pc + 3) l (zpu v rest) Q)) : yG x M mi pc l (.int z1 :: .int z0 :: rest) Q :=
  y_calls (av := [.int z0, .int z1]) hc hk rfl (Nat.le_of_ble_eq_true rfl) hs (zrecv_st (by decide)) k
theorem k_100 {o : Nat} {z0 : Int32} {z1 : Int32} {z2 : Int32} {z3 : Int32} (hc : zcode mi pc = some (i, ln, 100, b, w)) (hk : zkd i b = 1) (hr : wcl o = 7) (hs : zcats rest ≤ 8) (k : yG x M 100 0 [.ref o, .int z0, .int z1, .int z2, .int z3] [] (fun v x' M' => yG x' M' mi (pc + 3) l (zpu v rest) Q)) : yG x M mi pc l (.int z3 :: .int z2 :: .int z1 :: .int z0 :: .ref o :: rest) Q :=
  y_calls (av := [.ref o, .int z0, .int z1, .int z2, .int z3]) hc hk rfl (Nat.le_of_ble_eq_true rfl) hs (zrecv_of hr (by decide)) k
theorem k_101 {o : Nat} (hc : zcode mi pc = some (i, ln, 101, b, w)) (hk : zkd i b = 1) (hr : wcl o = 7) (hs : zcats rest ≤ 8) (k : yG x M 101 0 [.ref o, zU] [] (fun v x' M' => yG x' M' mi (pc + 3) l (zpu v rest) Q)) : yG x M mi pc l (.ref o :: rest) Q :=
  y_calls (av := [.ref o]) hc hk rfl (Nat.le_of_ble_eq_true rfl) hs (zrecv_of hr (by decide)) k
theorem k_102 {o : Nat} (hc : zcode mi pc = some (i, ln, 102, b, w)) (hk : zkd i b = 1) (hr : wcl o = 7) (hs : zcats rest ≤ 8) (k : yG x M 102 0 [.ref o, zU, zU] [] (fun v x' M' => yG x' M' mi (pc + 3) l (zpu v rest) Q)) : yG x M mi pc l (.ref o :: rest) Q :=
  y_calls (av := [.ref o]) hc hk rfl (Nat.le_of_ble_eq_true rfl) hs (zrecv_of hr (by decide)) k
theorem k_103 {o : Nat} {z0 : Int32} {z1 : Int32} {z2 : Int32} (hc : zcode mi pc = some (i, ln, 103, b, w)) (hk : zkd i b = 1) (hr : wcl o = 7) (hs : zcats rest ≤ 8) (k : yG x M 103 0 [.ref o, .int z0, .int z1, .int z2, zU, zU, zU, zU, zU, zU, zU, zU] [] (fun v x' M' => yG x' M' mi (pc + 3) l (zpu v rest) Q)) : yG x M mi pc l (.int z2 :: .int z1 :: .int z0 :: .ref o :: rest) Q :=
  y_calls (av := [.ref o, .int z0, .int z1, .int z2]) hc hk rfl (Nat.le_of_ble_eq_true rfl) hs (zrecv_of hr (by decide)) k
theorem k_104 {o : Nat} {z0 : Int32} {z1 : Int32} (hc : zcode mi pc = some (i, ln, 104, b, w)) (hk : zkd i b = 1) (hr : wcl o = 7) (hs : zcats rest ≤ 8) (k : yG x M 104 0 [.ref o, .int z0, .int z1] [] (fun v x' M' => yG x' M' mi (pc + 3) l (zpu v rest) Q)) : yG x M mi pc l (.int z1 :: .int z0 :: .ref o :: rest) Q :=
  y_calls (av := [.ref o, .int z0, .int z1]) hc hk rfl (Nat.le_of_ble_eq_true rfl) hs (zrecv_of hr (by decide)) k
theorem k_105 {z0 : Int32} {z1 : Int32} {z2 : Int32} {z3 : Int32} (hc : zcode mi pc = some (i, ln, 105, b, w)) (hk : zkd i b = 1) (hs : zcats rest ≤ 8) (k : yG x M 105 0 [.int z0, .int z1, .int z2, .int z3] [] (fun v x' M' => yG x' M' mi (pc + 3) l (zpu v rest) Q)) : yG x M mi pc l (.int z3 :: .int z2 :: .int z1 :: .int z0 :: rest) Q :=
  y_calls (av := [.int z0, .int z1, .int z2, .int z3]) hc hk rfl (Nat.le_of_ble_eq_true rfl) hs (zrecv_st (by decide)) k
theorem k_106 {z0 : Int32} {z1 : Int32} {z2 : Int32} {z3 : Int32} (hc : zcode mi pc = some (i, ln, 106, b, w)) (hk : zkd i b = 1) (hs : zcats rest ≤ 8) (k : yG x M 106 0 [.int z0, .int z1, .int z2, .int z3] [] (fun v x' M' => yG x' M' mi (pc + 3) l (zpu v rest) Q)) : yG x M mi pc l (.int z3 :: .int z2 :: .int z1 :: .int z0 :: rest) Q :=
  y_calls (av := [.int z0, .int z1, .int z2, .int z3]) hc hk rfl (Nat.le_of_ble_eq_true rfl) hs (zrecv_st (by decide)) k
theorem k_107 {o : Nat} {z0 : Int32} {z1 : Int32} (hc : zcode mi pc = some (i, ln, 107, b, w)) (hk : zkd i b = 1) (hr : wcl o = 7) (hs : zcats rest ≤ 8) (k : yG x M 107 0 [.ref o, .int z0, .int z1, zU, zU] [] (fun v x' M' => yG x' M' mi (pc + 3) l (zpu v rest) Q)) : yG x M mi pc l (.int z1 :: .int z0 :: .ref o :: rest) Q :=
  y_calls (av := [.ref o, .int z0, .int z1]) hc hk rfl (Nat.le_of_ble_eq_true rfl) hs (zrecv_of hr (by decide)) k
theorem k_108 {o : Nat} {z0 : Int32} {z1 : Int32} (hc : zcode mi pc = some (i, ln, 108, b, w)) (hk : zkd i b = 1) (hr : wcl o = 7) (hs : zcats rest ≤ 8) (k : yG x M 108 0 [.ref o, .int z0, .int z1, zU, zU, zU] [] (fun v x' M' => yG x' M' mi (pc + 3) l (zpu v rest) Q)) : yG x M mi pc l (.int z1 :: .int z0 :: .ref o :: rest) Q :=
  y_calls (av := [.ref o, .int z0, .int z1]) hc hk rfl (Nat.le_of_ble_eq_true rfl) hs (zrecv_of hr (by decide)) k
theorem k_109 {o : Nat} {z0 : Int64} (hc : zcode mi pc = some (i, ln, 109, b, w)) (hk : zkd i b = 1) (hr : wcl o = 7) (hs : zcats rest ≤ 8) (k : yG x M 109 0 [.ref o, .long z0, zU, zU, zU] [] (fun v x' M' => yG x' M' mi (pc + 3) l (zpu v rest) Q)) : yG x M mi pc l (.long z0 :: .ref o :: rest) Q :=
  y_calls (av := [.ref o, .long z0]) hc hk rfl (Nat.le_of_ble_eq_true rfl) hs (zrecv_of hr (by decide)) k
theorem k_110 {o : Nat} {z0 : Int32} (hc : zcode mi pc = some (i, ln, 110, b, w)) (hk : zkd i b = 1) (hr : wcl o = 7) (hs : zcats rest ≤ 8) (k : yG x M 110 0 [.ref o, .int z0, zU, zU] [] (fun v x' M' => yG x' M' mi (pc + 3) l (zpu v rest) Q)) : yG x M mi pc l (.int z0 :: .ref o :: rest) Q :=
  y_calls (av := [.ref o, .int z0]) hc hk rfl (Nat.le_of_ble_eq_true rfl) hs (zrecv_of hr (by decide)) k
theorem k_111 {o : Nat} {z0 : Int32} (hc : zcode mi pc = some (i, ln, 111, b, w)) (hk : zkd i b = 1) (hr : wcl o = 7) (hs : zcats rest ≤ 8) (k : yG x M 111 0 [.ref o, .int z0, zU, zU] [] (fun v x' M' => yG x' M' mi (pc + 3) l (zpu v rest) Q)) : yG x M mi pc l (.int z0 :: .ref o :: rest) Q :=
  y_calls (av := [.ref o, .int z0]) hc hk rfl (Nat.le_of_ble_eq_true rfl) hs (zrecv_of hr (by decide)) k
theorem k_112 {o : Nat} {z0 : Int32} (hc : zcode mi pc = some (i, ln, 112, b, w)) (hk : zkd i b = 1) (hr : wcl o = 7) (hs : zcats rest ≤ 8) (k : yG x M 112 0 [.ref o, .int z0] [] (fun v x' M' => yG x' M' mi (pc + 3) l (zpu v rest) Q)) : yG x M mi pc l (.int z0 :: .ref o :: rest) Q :=
  y_calls (av := [.ref o, .int z0]) hc hk rfl (Nat.le_of_ble_eq_true rfl) hs (zrecv_of hr (by decide)) k
theorem k_113 {o : Nat} {z0 : Int32} (hc : zcode mi pc = some (i, ln, 113, b, w)) (hk : zkd i b = 1) (hr : wcl o = 7) (hs : zcats rest ≤ 8) (k : yG x M 113 0 [.ref o, .int z0] [] (fun v x' M' => yG x' M' mi (pc + 3) l (zpu v rest) Q)) : yG x M mi pc l (.int z0 :: .ref o :: rest) Q :=
  y_calls (av := [.ref o, .int z0]) hc hk rfl (Nat.le_of_ble_eq_true rfl) hs (zrecv_of hr (by decide)) k
theorem k_114 {z0 : Int32} {z1 : Int32} (hc : zcode mi pc = some (i, ln, 114, b, w)) (hk : zkd i b = 1) (hs : zcats rest ≤ 8) (k : yG x M 114 0 [.int z0, .int z1] [] (fun v x' M' => yG x' M' mi (pc + 3) l (zpu v rest) Q)) : yG x M mi pc l (.int z1 :: .int z0 :: rest) Q :=
  y_calls (av := [.int z0, .int z1]) hc hk rfl (Nat.le_of_ble_eq_true rfl) hs (zrecv_st (by decide)) k
theorem k_115 {z0 : Int32} {z1 : Int32} (hc : zcode mi pc = some (i, ln, 115, b, w)) (hk : zkd i b = 1) (hs : zcats rest ≤ 8) (k : yG x M 115 0 [.int z0, .int z1] [] (fun v x' M' => yG x' M' mi (pc + 3) l (zpu v rest) Q)) : yG x M mi pc l (.int z1 :: .int z0 :: rest) Q :=
  y_calls (av := [.int z0, .int z1]) hc hk rfl (Nat.le_of_ble_eq_true rfl) hs (zrecv_st (by decide)) k
theorem k_117 {z0 : Int64} {z1 : Int64} {z2 : Int64} (hc : zcode mi pc = some (i, ln, 117, b, w)) (hk : zkd i b = 1) (hs : zcats rest ≤ 8) (k : yG x M 117 0 [.long z0, zU, .long z1, zU, .long z2, zU] [] (fun v x' M' => yG x' M' mi (pc + 3) l (zpu v rest) Q)) : yG x M mi pc l (.long z2 :: .long z1 :: .long z0 :: rest) Q :=
  y_calls (av := [.long z0, .long z1, .long z2]) hc hk rfl (Nat.le_of_ble_eq_true rfl) hs (zrecv_st (by decide)) k
theorem k_118 {z0 : Int32} {z1 : Int32} (hc : zcode mi pc = some (i, ln, 118, b, w)) (hk : zkd i b = 1) (hs : zcats rest ≤ 8) (k : yG x M 118 0 [.int z0, .int z1] [] (fun v x' M' => yG x' M' mi (pc + 3) l (zpu v rest) Q)) : yG x M mi pc l (.int z1 :: .int z0 :: rest) Q :=
  y_calls (av := [.int z0, .int z1]) hc hk rfl (Nat.le_of_ble_eq_true rfl) hs (zrecv_st (by decide)) k
theorem k_119 {z0 : Int32} (hc : zcode mi pc = some (i, ln, 119, b, w)) (hk : zkd i b = 1) (hs : zcats rest ≤ 8) (k : yG x M 119 0 [.int z0, zU, zU] [] (fun v x' M' => yG x' M' mi (pc + 3) l (zpu v rest) Q)) : yG x M mi pc l (.int z0 :: rest) Q :=
  y_calls (av := [.int z0]) hc hk rfl (Nat.le_of_ble_eq_true rfl) hs (zrecv_st (by decide)) k
theorem k_120 {z0 : Int32} {z1 : Int32} (hc : zcode mi pc = some (i, ln, 120, b, w)) (hk : zkd i b = 1) (hs : zcats rest ≤ 8) (k : yG x M 120 0 [.int z0, .int z1, zU, zU] [] (fun v x' M' => yG x' M' mi (pc + 3) l (zpu v rest) Q)) : yG x M mi pc l (.int z1 :: .int z0 :: rest) Q :=
  y_calls (av := [.int z0, .int z1]) hc hk rfl (Nat.le_of_ble_eq_true rfl) hs (zrecv_st (by decide)) k
theorem k_121 {o : Nat} {z0 : Int32} (hc : zcode mi pc = some (i, ln, 121, b, w)) (hk : zkd i b = 1) (hr : wcl o = 8) (hs : zcats rest ≤ 8) (k : yG x M 121 0 [.ref o, .int z0] [] (fun v x' M' => yG x' M' mi (pc + 3) l (zpu v rest) Q)) : yG x M mi pc l (.int z0 :: .ref o :: rest) Q :=
  y_calls (av := [.ref o, .int z0]) hc hk rfl (Nat.le_of_ble_eq_true rfl) hs (zrecv_of hr (by decide)) k
theorem k_122 {o : Nat} {z0 : Int32} (hc : zcode mi pc = some (i, ln, 122, b, w)) (hk : zkd i b = 1) (hr : wcl o = 8) (hs : zcats rest ≤ 8) (k : yG x M 122 0 [.ref o, .int z0] [] (fun v x' M' => yG x' M' mi (pc + 3) l (zpu v rest) Q)) : yG x M mi pc l (.int z0 :: .ref o :: rest) Q :=
  y_calls (av := [.ref o, .int z0]) hc hk rfl (Nat.le_of_ble_eq_true rfl) hs (zrecv_of hr (by decide)) k
theorem k_123 {o : Nat} {z0 : Int32} (hc : zcode mi pc = some (i, ln, 123, b, w)) (hk : zkd i b = 1) (hr : wcl o = 8) (hs : zcats rest ≤ 8) (k : yG x M 123 0 [.ref o, .int z0] [] (fun v x' M' => yG x' M' mi (pc + 3) l (zpu v rest) Q)) : yG x M mi pc l (.int z0 :: .ref o :: rest) Q :=
  y_calls (av := [.ref o, .int z0]) hc hk rfl (Nat.le_of_ble_eq_true rfl) hs (zrecv_of hr (by decide)) k
theorem k_124 {o : Nat} {z0 : Int32} (hc : zcode mi pc = some (i, ln, 124, b, w)) (hk : zkd i b = 1) (hr : wcl o = 8) (hs : zcats rest ≤ 8) (k : yG x M 124 0 [.ref o, .int z0] [] (fun v x' M' => yG x' M' mi (pc + 3) l (zpu v rest) Q)) : yG x M mi pc l (.int z0 :: .ref o :: rest) Q :=
  y_calls (av := [.ref o, .int z0]) hc hk rfl (Nat.le_of_ble_eq_true rfl) hs (zrecv_of hr (by decide)) k
theorem k_125 {o : Nat} (hc : zcode mi pc = some (i, ln, 125, b, w)) (hk : zkd i b = 1) (hr : wcl o = 8) (hs : zcats rest ≤ 8) (k : yG x M 125 0 [.ref o, zU] [] (fun v x' M' => yG x' M' mi (pc + 3) l (zpu v rest) Q)) : yG x M mi pc l (.ref o :: rest) Q :=
  y_calls (av := [.ref o]) hc hk rfl (Nat.le_of_ble_eq_true rfl) hs (zrecv_of hr (by decide)) k
theorem k_126 {o : Nat} {z0 : Int32} {z1 : Int32} (hc : zcode mi pc = some (i, ln, 126, b, w)) (hk : zkd i b = 1) (hr : wcl o = 8) (hs : zcats rest ≤ 8) (k : yG x M 126 0 [.ref o, .int z0, .int z1] [] (fun v x' M' => yG x' M' mi (pc + 3) l (zpu v rest) Q)) : yG x M mi pc l (.int z1 :: .int z0 :: .ref o :: rest) Q :=
  y_calls (av := [.ref o, .int z0, .int z1]) hc hk rfl (Nat.le_of_ble_eq_true rfl) hs (zrecv_of hr (by decide)) k
theorem k_127 {o : Nat} (hc : zcode mi pc = some (i, ln, 127, b, w)) (hk : zkd i b = 1) (hr : wcl o = 8) (hs : zcats rest ≤ 8) (k : yG x M 127 0 [.ref o, zU, zU] [] (fun v x' M' => yG x' M' mi (pc + 3) l (zpu v rest) Q)) : yG x M mi pc l (.ref o :: rest) Q :=
  y_calls (av := [.ref o]) hc hk rfl (Nat.le_of_ble_eq_true rfl) hs (zrecv_of hr (by decide)) k
theorem k_128 {o : Nat} (hc : zcode mi pc = some (i, ln, 128, b, w)) (hk : zkd i b = 1) (hr : wcl o = 8) (hs : zcats rest ≤ 8) (k : yG x M 128 0 [.ref o, zU, zU] [] (fun v x' M' => yG x' M' mi (pc + 3) l (zpu v rest) Q)) : yG x M mi pc l (.ref o :: rest) Q :=
  y_calls (av := [.ref o]) hc hk rfl (Nat.le_of_ble_eq_true rfl) hs (zrecv_of hr (by decide)) k
theorem k_129 {o : Nat} (hc : zcode mi pc = some (i, ln, 129, b, w)) (hk : zkd i b = 1) (hr : wcl o = 8) (hs : zcats rest ≤ 8) (k : yG x M 129 0 [.ref o, zU, zU, zU] [] (fun v x' M' => yG x' M' mi (pc + 3) l (zpu v rest) Q)) : yG x M mi pc l (.ref o :: rest) Q :=
  y_calls (av := [.ref o]) hc hk rfl (Nat.le_of_ble_eq_true rfl) hs (zrecv_of hr (by decide)) k
theorem k_130 {o : Nat} (hc : zcode mi pc = some (i, ln, 130, b, w)) (hk : zkd i b = 1) (hr : wcl o = 8) (hs : zcats rest ≤ 8) (k : yG x M 130 0 [.ref o, zU] [] (fun v x' M' => yG x' M' mi (pc + 3) l (zpu v rest) Q)) : yG x M mi pc l (.ref o :: rest) Q :=
  y_calls (av := [.ref o]) hc hk rfl (Nat.le_of_ble_eq_true rfl) hs (zrecv_of hr (by decide)) k
theorem k_131 {o : Nat} (hc : zcode mi pc = some (i, ln, 131, b, w)) (hk : zkd i b = 1) (hr : wcl o = 8) (hs : zcats rest ≤ 8) (k : yG x M 131 0 [.ref o] [] (fun v x' M' => yG x' M' mi (pc + 3) l (zpu v rest) Q)) : yG x M mi pc l (.ref o :: rest) Q :=
  y_calls (av := [.ref o]) hc hk rfl (Nat.le_of_ble_eq_true rfl) hs (zrecv_of hr (by decide)) k
theorem k_132 {o : Nat} (hc : zcode mi pc = some (i, ln, 132, b, w)) (hk : zkd i b = 1) (hr : wcl o = 8) (hs : zcats rest ≤ 8) (k : yG x M 132 0 [.ref o] [] (fun v x' M' => yG x' M' mi (pc + 3) l (zpu v rest) Q)) : yG x M mi pc l (.ref o :: rest) Q :=
  y_calls (av := [.ref o]) hc hk rfl (Nat.le_of_ble_eq_true rfl) hs (zrecv_of hr (by decide)) k
theorem k_133 {o0 : Nat} {o1 : Nat} {z2 : Int32} (hc : zcode mi pc = some (i, ln, 133, b, w)) (hk : zkd i b = 1) (hs : zcats rest ≤ 8) (k : yG x M 133 0 [.ref o0, .ref o1, .int z2, zU] [] (fun v x' M' => yG x' M' mi (pc + 3) l (zpu v rest) Q)) : yG x M mi pc l (.int z2 :: .ref o1 :: .ref o0 :: rest) Q :=
  y_calls (av := [.ref o0, .ref o1, .int z2]) hc hk rfl (Nat.le_of_ble_eq_true rfl) hs (zrecv_st (by decide)) k
theorem k_134 {o : Nat} (hc : zcode mi pc = some (i, ln, 134, b, w)) (hk : zkd i b = 1) (hr : wcl o = 8) (hs : zcats rest ≤ 8) (k : yG x M 134 0 [.ref o, zU] [] (fun v x' M' => yG x' M' mi (pc + 3) l (zpu v rest) Q)) : yG x M mi pc l (.ref o :: rest) Q :=
  y_calls (av := [.ref o]) hc hk rfl (Nat.le_of_ble_eq_true rfl) hs (zrecv_of hr (by decide)) k
theorem k_135 {o : Nat} {z0 : Int32} (hc : zcode mi pc = some (i, ln, 135, b, w)) (hk : zkd i b = 1) (hr : wcl o = 8) (hs : zcats rest ≤ 8) (k : yG x M 135 0 [.ref o, .int z0, zU] [] (fun v x' M' => yG x' M' mi (pc + 3) l (zpu v rest) Q)) : yG x M mi pc l (.int z0 :: .ref o :: rest) Q :=
  y_calls (av := [.ref o, .int z0]) hc hk rfl (Nat.le_of_ble_eq_true rfl) hs (zrecv_of hr (by decide)) k
theorem k_136 {o : Nat} {z0 : Int32} {z1 : Int32} {z2 : Int32} {z3 : Int32} (hc : zcode mi pc = some (i, ln, 136, b, w)) (hk : zkd i b = 1) (hr : wcl o = 8) (hs : zcats rest ≤ 8) (k : yG x M 136 0 [.ref o, .int z0, .int z1, .int z2, .int z3, zU] [] (fun v x' M' => yG x' M' mi (pc + 3) l (zpu v rest) Q)) : yG x M mi pc l (.int z3 :: .int z2 :: .int z1 :: .int z0 :: .ref o :: rest) Q :=
  y_calls (av := [.ref o, .int z0, .int z1, .int z2, .int z3]) hc hk rfl (Nat.le_of_ble_eq_true rfl) hs (zrecv_of hr (by decide)) k
theorem k_137 {o : Nat} {z0 : Int32} {z1 : Int32} {z2 : Int32} {z3 : Int32} (hc : zcode mi pc = some (i, ln, 137, b, w)) (hk : zkd i b = 1) (hr : wcl o = 8) (hs : zcats rest ≤ 8) (k : yG x M 137 0 [.ref o, .int z0, .int z1, .int z2, .int z3] [] (fun v x' M' => yG x' M' mi (pc + 3) l (zpu v rest) Q)) : yG x M mi pc l (.int z3 :: .int z2 :: .int z1 :: .int z0 :: .ref o :: rest) Q :=
  y_calls (av := [.ref o, .int z0, .int z1, .int z2, .int z3]) hc hk rfl (Nat.le_of_ble_eq_true rfl) hs (zrecv_of hr (by decide)) k
theorem k_138 {o0 : Nat} (hc : zcode mi pc = some (i, ln, 138, b, w)) (hk : zkd i b = 1) (hs : zcats rest ≤ 8) (k : yG x M 138 0 [.ref o0, zU, zU] [] (fun v x' M' => yG x' M' mi (pc + 3) l (zpu v rest) Q)) : yG x M mi pc l (.ref o0 :: rest) Q :=
  y_calls (av := [.ref o0]) hc hk rfl (Nat.le_of_ble_eq_true rfl) hs (zrecv_st (by decide)) k
theorem k_139 {o : Nat} {o0 : Nat} (hc : zcode mi pc = some (i, ln, 139, b, w)) (hk : zkd i b = 1) (hr : wcl o = 8) (hs : zcats rest ≤ 8) (k : yG x M 139 0 [.ref o, .ref o0, zU, zU] [] (fun v x' M' => yG x' M' mi (pc + 3) l (zpu v rest) Q)) : yG x M mi pc l (.ref o0 :: .ref o :: rest) Q :=
  y_calls (av := [.ref o, .ref o0]) hc hk rfl (Nat.le_of_ble_eq_true rfl) hs (zrecv_of hr (by decide)) k
theorem k_140 {o : Nat} {o0 : Nat} {z1 : Int32} (hc : zcode mi pc = some (i, ln, 140, b, w)) (hk : zkd i b = 1) (hr : wcl o = 8) (hs : zcats rest ≤ 8) (k : yG x M 140 0 [.ref o, .ref o0, .int z1, zU, zU] [] (fun v x' M' => yG x' M' mi (pc + 3) l (zpu v rest) Q)) : yG x M mi pc l (.int z1 :: .ref o0 :: .ref o :: rest) Q :=
  y_calls (av := [.ref o, .ref o0, .int z1]) hc hk rfl (Nat.le_of_ble_eq_true rfl) hs (zrecv_of hr (by decide)) k
theorem k_141 {o : Nat} {z0 : Int32} (hc : zcode mi pc = some (i, ln, 141, b, w)) (hk : zkd i b = 1) (hr : wcl o = 8) (hs : zcats rest ≤ 8) (k : yG x M 141 0 [.ref o, .int z0] [] (fun v x' M' => yG x' M' mi (pc + 3) l (zpu v rest) Q)) : yG x M mi pc l (.int z0 :: .ref o :: rest) Q :=
  y_calls (av := [.ref o, .int z0]) hc hk rfl (Nat.le_of_ble_eq_true rfl) hs (zrecv_of hr (by decide)) k
theorem k_142 {o : Nat} {z0 : Int32} {z1 : Int32} (hc : zcode mi pc = some (i, ln, 142, b, w)) (hk : zkd i b = 1) (hr : wcl o = 8) (hs : zcats rest ≤ 8) (k : yG x M 142 0 [.ref o, .int z0, .int z1] [] (fun v x' M' => yG x' M' mi (pc + 3) l (zpu v rest) Q)) : yG x M mi pc l (.int z1 :: .int z0 :: .ref o :: rest) Q :=
  y_calls (av := [.ref o, .int z0, .int z1]) hc hk rfl (Nat.le_of_ble_eq_true rfl) hs (zrecv_of hr (by decide)) k
theorem k_143 {o : Nat} {z0 : Int32} {z1 : Int32} (hc : zcode mi pc = some (i, ln, 143, b, w)) (hk : zkd i b = 1) (hr : wcl o = 8) (hs : zcats rest ≤ 8) (k : yG x M 143 0 [.ref o, .int z0, .int z1] [] (fun v x' M' => yG x' M' mi (pc + 3) l (zpu v rest) Q)) : yG x M mi pc l (.int z1 :: .int z0 :: .ref o :: rest) Q :=
  y_calls (av := [.ref o, .int z0, .int z1]) hc hk rfl (Nat.le_of_ble_eq_true rfl) hs (zrecv_of hr (by decide)) k
theorem k_144 {o : Nat} {o0 : Nat} {z1 : Int32} (hc : zcode mi pc = some (i, ln, 144, b, w)) (hk : zkd i b = 1) (hr : wcl o = 8) (hs : zcats rest ≤ 8) (k : yG x M 144 0 [.ref o, .ref o0, .int z1] [] (fun v x' M' => yG x' M' mi (pc + 3) l (zpu v rest) Q)) : yG x M mi pc l (.int z1 :: .ref o0 :: .ref o :: rest) Q :=
  y_calls (av := [.ref o, .ref o0, .int z1]) hc hk rfl (Nat.le_of_ble_eq_true rfl) hs (zrecv_of hr (by decide)) k
theorem k_145 {o : Nat} {z0 : Int32} {z1 : Int32} (hc : zcode mi pc = some (i, ln, 145, b, w)) (hk : zkd i b = 1) (hr : wcl o = 8) (hs : zcats rest ≤ 8) (k : yG x M 145 0 [.ref o, .int z0, .int z1] [] (fun v x' M' => yG x' M' mi (pc + 3) l (zpu v rest) Q)) : yG x M mi pc l (.int z1 :: .int z0 :: .ref o :: rest) Q :=
  y_calls (av := [.ref o, .int z0, .int z1]) hc hk rfl (Nat.le_of_ble_eq_true rfl) hs (zrecv_of hr (by decide)) k
theorem k_146 {o : Nat} {z0 : Int32} (hc : zcode mi pc = some (i, ln, 146, b, w)) (hk : zkd i b = 1) (hr : wcl o = 8) (hs : zcats rest ≤ 8) (k : yG x M 146 0 [.ref o, .int z0] [] (fun v x' M' => yG x' M' mi (pc + 3) l (zpu v rest) Q)) : yG x M mi pc l (.int z0 :: .ref o :: rest) Q :=
  y_calls (av := [.ref o, .int z0]) hc hk rfl (Nat.le_of_ble_eq_true rfl) hs (zrecv_of hr (by decide)) k
theorem k_147 {o : Nat} {z0 : Int32} {z1 : Int32} {z2 : Int32} {z3 : Int32} (hc : zcode mi pc = some (i, ln, 147, b, w)) (hk : zkd i b = 1) (hr : wcl o = 8) (hs : zcats rest ≤ 8) (k : yG x M 147 0 [.ref o, .int z0, .int z1, .int z2, .int z3] [] (fun v x' M' => yG x' M' mi (pc + 3) l (zpu v rest) Q)) : yG x M mi pc l (.int z3 :: .int z2 :: .int z1 :: .int z0 :: .ref o :: rest) Q :=
  y_calls (av := [.ref o, .int z0, .int z1, .int z2, .int z3]) hc hk rfl (Nat.le_of_ble_eq_true rfl) hs (zrecv_of hr (by decide)) k
theorem k_148 {o : Nat} (hc : zcode mi pc = some (i, ln, 148, b, w)) (hk : zkd i b = 1) (hr : wcl o = 8) (hs : zcats rest ≤ 8) (k : yG x M 148 0 [.ref o, zU] [] (fun v x' M' => yG x' M' mi (pc + 3) l (zpu v rest) Q)) : yG x M mi pc l (.ref o :: rest) Q :=
  y_calls (av := [.ref o]) hc hk rfl (Nat.le_of_ble_eq_true rfl) hs (zrecv_of hr (by decide)) k
theorem k_149 {o : Nat} {o0 : Nat} {z1 : Int32} {z2 : Int32} (hc : zcode mi pc = some (i, ln, 149, b, w)) (hk : zkd i b = 1) (hr : wcl o = 8) (hs : zcats rest ≤ 8) (k : yG x M 149 0 [.ref o, .ref o0, .int z1, .int z2, zU] [] (fun v x' M' => yG x' M' mi (pc + 3) l (zpu v rest) Q)) : yG x M mi pc l (.int z2 :: .int z1 :: .ref o0 :: .ref o :: rest) Q :=
  y_calls (av := [.ref o, .ref o0, .int z1, .int z2]) hc hk rfl (Nat.le_of_ble_eq_true rfl) hs (zrecv_of hr (by decide)) k
theorem k_150 {o : Nat} {z0 : Int32} {z1 : Int32} (hc : zcode mi pc = some (i, ln, 150, b, w)) (hk : zkd i b = 1) (hr : wcl o = 8) (hs : zcats rest ≤ 8) (k : yG x M 150 0 [.ref o, .int z0, .int z1] [] (fun v x' M' => yG x' M' mi (pc + 3) l (zpu v rest) Q)) : yG x M mi pc l (.int z1 :: .int z0 :: .ref o :: rest) Q :=
  y_calls (av := [.ref o, .int z0, .int z1]) hc hk rfl (Nat.le_of_ble_eq_true rfl) hs (zrecv_of hr (by decide)) k
theorem k_151 {o : Nat} {o0 : Nat} {z1 : Int32} (hc : zcode mi pc = some (i, ln, 151, b, w)) (hk : zkd i b = 1) (hr : wcl o = 8) (hs : zcats rest ≤ 8) (k : yG x M 151 0 [.ref o, .ref o0, .int z1] [] (fun v x' M' => yG x' M' mi (pc + 3) l (zpu v rest) Q)) : yG x M mi pc l (.int z1 :: .ref o0 :: .ref o :: rest) Q :=
  y_calls (av := [.ref o, .ref o0, .int z1]) hc hk rfl (Nat.le_of_ble_eq_true rfl) hs (zrecv_of hr (by decide)) k
theorem k_152 {o : Nat} {o0 : Nat} {z1 : Int32} (hc : zcode mi pc = some (i, ln, 152, b, w)) (hk : zkd i b = 1) (hr : wcl o = 8) (hs : zcats rest ≤ 8) (k : yG x M 152 0 [.ref o, .ref o0, .int z1] [] (fun v x' M' => yG x' M' mi (pc + 3) l (zpu v rest) Q)) : yG x M mi pc l (.int z1 :: .ref o0 :: .ref o :: rest) Q :=
  y_calls (av := [.ref o, .ref o0, .int z1]) hc hk rfl (Nat.le_of_ble_eq_true rfl) hs (zrecv_of hr (by decide)) k
theorem k_153 {o : Nat} {z0 : Int32} (hc : zcode mi pc = some (i, ln, 153, b, w)) (hk : zkd i b = 1) (hr : wcl o = 8) (hs : zcats rest ≤ 8) (k : yG x M 153 0 [.ref o, .int z0] [] (fun v x' M' => yG x' M' mi (pc + 3) l (zpu v rest) Q)) : yG x M mi pc l (.int z0 :: .ref o :: rest) Q :=
  y_calls (av := [.ref o, .int z0]) hc hk rfl (Nat.le_of_ble_eq_true rfl) hs (zrecv_of hr (by decide)) k
theorem k_154 {o : Nat} {o0 : Nat} (hc : zcode mi pc = some (i, ln, 154, b, w)) (hk : zkd i b = 1) (hr : wcl o = 8) (hs : zcats rest ≤ 8) (k : yG x M 154 0 [.ref o, .ref o0, zU] [] (fun v x' M' => yG x' M' mi (pc + 3) l (zpu v rest) Q)) : yG x M mi pc l (.ref o0 :: .ref o :: rest) Q :=
  y_calls (av := [.ref o, .ref o0]) hc hk rfl (Nat.le_of_ble_eq_true rfl) hs (zrecv_of hr (by decide)) k
theorem k_155 {o : Nat} (hc : zcode mi pc = some (i, ln, 155, b, w)) (hk : zkd i b = 1) (hr : wcl o = 8) (hs : zcats rest ≤ 8) (k : yG x M 155 0 [.ref o, zU] [] (fun v x' M' => yG x' M' mi (pc + 3) l (zpu v rest) Q)) : yG x M mi pc l (.ref o :: rest) Q :=
  y_calls (av := [.ref o]) hc hk rfl (Nat.le_of_ble_eq_true rfl) hs (zrecv_of hr (by decide)) k
theorem k_156 {o0 : Nat} (hc : zcode mi pc = some (i, ln, 156, b, w)) (hk : zkd i b = 1) (hs : zcats rest ≤ 8) (k : yG x M 156 0 [.ref o0] [] (fun v x' M' => yG x' M' mi (pc + 3) l (zpu v rest) Q)) : yG x M mi pc l (.ref o0 :: rest) Q :=
  y_calls (av := [.ref o0]) hc hk rfl (Nat.le_of_ble_eq_true rfl) hs (zrecv_st (by decide)) k
theorem k_157 {o0 : Nat} {z1 : Int32} (hc : zcode mi pc = some (i, ln, 157, b, w)) (hk : zkd i b = 1) (hs : zcats rest ≤ 8) (k : yG x M 157 0 [.ref o0, .int z1] [] (fun v x' M' => yG x' M' mi (pc + 3) l (zpu v rest) Q)) : yG x M mi pc l (.int z1 :: .ref o0 :: rest) Q :=
  y_calls (av := [.ref o0, .int z1]) hc hk rfl (Nat.le_of_ble_eq_true rfl) hs (zrecv_st (by decide)) k
theorem k_158 {o : Nat} {z0 : Int32} (hc : zcode mi pc = some (i, ln, 158, b, w)) (hk : zkd i b = 1) (hr : wcl o = 8) (hs : zcats rest ≤ 8) (k : yG x M 158 0 [.ref o, .int z0] [] (fun v x' M' => yG x' M' mi (pc + 3) l (zpu v rest) Q)) : yG x M mi pc l (.int z0 :: .ref o :: rest) Q :=
  y_calls (av := [.ref o, .int z0]) hc hk rfl (Nat.le_of_ble_eq_true rfl) hs (zrecv_of hr (by decide)) k
theorem k_159 {o : Nat} (hc : zcode mi pc = some (i, ln, 159, b, w)) (hk : zkd i b = 1) (hr : wcl o = 8) (hs : zcats rest ≤ 8) (k : yG x M 159 0 [.ref o, zU] [] (fun v x' M' => yG x' M' mi (pc + 3) l (zpu v rest) Q)) : yG x M mi pc l (.ref o :: rest) Q :=
  y_calls (av := [.ref o]) hc hk rfl (Nat.le_of_ble_eq_true rfl) hs (zrecv_of hr (by decide)) k
theorem k_160 {o : Nat} (hc : zcode mi pc = some (i, ln, 160, b, w)) (hk : zkd i b = 1) (hr : wcl o = 8) (hs : zcats rest ≤ 8) (k : yG x M 160 0 [.ref o] [] (fun v x' M' => yG x' M' mi (pc + 3) l (zpu v rest) Q)) : yG x M mi pc l (.ref o :: rest) Q :=
  y_calls (av := [.ref o]) hc hk rfl (Nat.le_of_ble_eq_true rfl) hs (zrecv_of hr (by decide)) k
theorem k_161 {o : Nat} {z0 : Int32} {z1 : Int32} (hc : zcode mi pc = some (i, ln, 161, b, w)) (hk : zkd i b = 1) (hr : wcl o = 8) (hs : zcats rest ≤ 8) (k : yG x M 161 0 [.ref o, .int z0, .int z1, zU, zU] [] (fun v x' M' => yG x' M' mi (pc + 3) l (zpu v rest) Q)) : yG x M mi pc l (.int z1 :: .int z0 :: .ref o :: rest) Q :=
  y_calls (av := [.ref o, .int z0, .int z1]) hc hk rfl (Nat.le_of_ble_eq_true rfl) hs (zrecv_of hr (by decide)) k
theorem k_162 {o : Nat} {z0 : Int32} (hc : zcode mi pc = some (i, ln, 162, b, w)) (hk : zkd i b = 1) (hr : wcl o = 8) (hs : zcats rest ≤ 8) (k : yG x M 162 0 [.ref o, .int z0, zU, zU, zU, zU] [] (fun v x' M' => yG x' M' mi (pc + 3) l (zpu v rest) Q)) : yG x M mi pc l (.int z0 :: .ref o :: rest) Q :=
  y_calls (av := [.ref o, .int z0]) hc hk rfl (Nat.le_of_ble_eq_true rfl) hs (zrecv_of hr (by decide)) k
theorem k_163 {o : Nat} (hc : zcode mi pc = some (i, ln, 163, b, w)) (hk : zkd i b = 1) (hr : wcl o = 8) (hs : zcats rest ≤ 8) (k : yG x M 163 0 [.ref o] [] (fun v x' M' => yG x' M' mi (pc + 3) l (zpu v rest) Q)) : yG x M mi pc l (.ref o :: rest) Q :=
  y_calls (av := [.ref o]) hc hk rfl (Nat.le_of_ble_eq_true rfl) hs (zrecv_of hr (by decide)) k
theorem k_164 {o : Nat} {z0 : Int32} (hc : zcode mi pc = some (i, ln, 164, b, w)) (hk : zkd i b = 1) (hr : wcl o = 8) (hs : zcats rest ≤ 8) (k : yG x M 164 0 [.ref o, .int z0] [] (fun v x' M' => yG x' M' mi (pc + 3) l (zpu v rest) Q)) : yG x M mi pc l (.int z0 :: .ref o :: rest) Q :=
  y_calls (av := [.ref o, .int z0]) hc hk rfl (Nat.le_of_ble_eq_true rfl) hs (zrecv_of hr (by decide)) k
theorem k_165 {o : Nat} {z0 : Int32} (hc : zcode mi pc = some (i, ln, 165, b, w)) (hk : zkd i b = 1) (hr : wcl o = 8) (hs : zcats rest ≤ 8) (k : yG x M 165 0 [.ref o, .int z0] [] (fun v x' M' => yG x' M' mi (pc + 3) l (zpu v rest) Q)) : yG x M mi pc l (.int z0 :: .ref o :: rest) Q :=
  y_calls (av := [.ref o, .int z0]) hc hk rfl (Nat.le_of_ble_eq_true rfl) hs (zrecv_of hr (by decide)) k
theorem k_166 {o : Nat} {z0 : Int32} {z1 : Int32} (hc : zcode mi pc = some (i, ln, 166, b, w)) (hk : zkd i b = 1) (hr : wcl o = 8) (hs : zcats rest ≤ 8) (k : yG x M 166 0 [.ref o, .int z0, .int z1] [] (fun v x' M' => yG x' M' mi (pc + 3) l (zpu v rest) Q)) : yG x M mi pc l (.int z1 :: .int z0 :: .ref o :: rest) Q :=
  y_calls (av := [.ref o, .int z0, .int z1]) hc hk rfl (Nat.le_of_ble_eq_true rfl) hs (zrecv_of hr (by decide)) k
theorem k_167 {o : Nat} {z0 : Int32} (hc : zcode mi pc = some (i, ln, 167, b, w)) (hk : zkd i b = 1) (hr : wcl o = 8) (hs : zcats rest ≤ 8) (k : yG x M 167 0 [.ref o, .int z0, zU, zU] [] (fun v x' M' => yG x' M' mi (pc + 3) l (zpu v rest) Q)) : yG x M mi pc l (.int z0 :: .ref o :: rest) Q :=
  y_calls (av := [.ref o, .int z0]) hc hk rfl (Nat.le_of_ble_eq_true rfl) hs (zrecv_of hr (by decide)) k
theorem k_168 {o : Nat} {z0 : Int32} (hc : zcode mi pc = some (i, ln, 168, b, w)) (hk : zkd i b = 1) (hr : wcl o = 8) (hs : zcats rest ≤ 8) (k : yG x M 168 0 [.ref o, .int z0, zU, zU, zU] [] (fun v x' M' => yG x' M' mi (pc + 3) l (zpu v rest) Q)) : yG x M mi pc l (.int z0 :: .ref o :: rest) Q :=
  y_calls (av := [.ref o, .int z0]) hc hk rfl (Nat.le_of_ble_eq_true rfl) hs (zrecv_of hr (by decide)) k
theorem k_169 {o : Nat} (hc : zcode mi pc = some (i, ln, 169, b, w)) (hk : zkd i b = 1) (hr : wcl o = 8) (hs : zcats rest ≤ 8) (k : yG x M 169 0 [.ref o, zU, zU, zU, zU, zU, zU, zU, zU] [] (fun v x' M' => yG x' M' mi (pc + 3) l (zpu v rest) Q)) : yG x M mi pc l (.ref o :: rest) Q :=
  y_calls (av := [.ref o]) hc hk rfl (Nat.le_of_ble_eq_true rfl) hs (zrecv_of hr (by decide)) k
theorem k_170 {o : Nat} {z0 : Int32} (hc : zcode mi pc = some (i, ln, 170, b, w)) (hk : zkd i b = 1) (hr : wcl o = 8) (hs : zcats rest ≤ 8) (k : yG x M 170 0 [.ref o, .int z0] [] (fun v x' M' => yG x' M' mi (pc + 3) l (zpu v rest) Q)) : yG x M mi pc l (.int z0 :: .ref o :: rest) Q :=
  y_calls (av := [.ref o, .int z0]) hc hk rfl (Nat.le_of_ble_eq_true rfl) hs (zrecv_of hr (by decide)) k
theorem k_171 {o : Nat} {z0 : Int32} {z1 : Int32} (hc : zcode mi pc = some (i, ln, 171, b, w)) (hk : zkd i b = 1) (hr : wcl o = 8) (hs : zcats rest ≤ 8) (k : yG x M 171 0 [.ref o, .int z0, .int z1, zU] [] (fun v x' M' => yG x' M' mi (pc + 3) l (zpu v rest) Q)) : yG x M mi pc l (.int z1 :: .int z0 :: .ref o :: rest) Q :=
  y_calls (av := [.ref o, .int z0, .int z1]) hc hk rfl (Nat.le_of_ble_eq_true rfl) hs (zrecv_of hr (by decide)) k
theorem k_172 {o : Nat} {z0 : Int32} {z1 : Int32} (hc : zcode mi pc = some (i, ln, 172, b, w)) (hk : zkd i b = 1) (hr : wcl o = 8) (hs : zcats rest ≤ 8) (k : yG x M 172 0 [.ref o, .int z0, .int z1, zU, zU] [] (fun v x' M' => yG x' M' mi (pc + 3) l (zpu v rest) Q)) : yG x M mi pc l (.int z1 :: .int z0 :: .ref o :: rest) Q :=
  y_calls (av := [.ref o, .int z0, .int z1]) hc hk rfl (Nat.le_of_ble_eq_true rfl) hs (zrecv_of hr (by decide)) k
theorem k_173 {z0 : Int32} (hc : zcode mi pc = some (i, ln, 173, b, w)) (hk : zkd i b = 1) (hs : zcats rest ≤ 8) (k : yG x M 173 0 [.int z0, zU, zU] [] (fun v x' M' => yG x' M' mi (pc + 3) l (zpu v rest) Q)) : yG x M mi pc l (.int z0 :: rest) Q :=
  y_calls (av := [.int z0]) hc hk rfl (Nat.le_of_ble_eq_true rfl) hs (zrecv_st (by decide)) k
theorem k_174 {z0 : Int32} {z1 : Int32} (hc : zcode mi pc = some (i, ln, 174, b, w)) (hk : zkd i b = 1) (hs : zcats rest ≤ 8) (k : yG x M 174 0 [.int z0, .int z1, zU, zU, zU] [] (fun v x' M' => yG x' M' mi (pc + 3) l (zpu v rest) Q)) : yG x M mi pc l (.int z1 :: .int z0 :: rest) Q :=
  y_calls (av := [.int z0, .int z1]) hc hk rfl (Nat.le_of_ble_eq_true rfl) hs (zrecv_st (by decide)) k
theorem k_175 {z0 : Int32} {z1 : Int32} {z2 : Int32} (hc : zcode mi pc = some (i, ln, 175, b, w)) (hk : zkd i b = 1) (hs : zcats rest ≤ 8) (k : yG x M 175 0 [.int z0, .int z1, .int z2, zU] [] (fun v x' M' => yG x' M' mi (pc + 3) l (zpu v rest) Q)) : yG x M mi pc l (.int z2 :: .int z1 :: .int z0 :: rest) Q :=
  y_calls (av := [.int z0, .int z1, .int z2]) hc hk rfl (Nat.le_of_ble_eq_true rfl) hs (zrecv_st (by decide)) k
theorem k_176 {o : Nat} {z0 : Int32} {z1 : Int32} {z2 : Int32} {z3 : Int32} (hc : zcode mi pc = some (i, ln, 176, b, w)) (hk : zkd i b = 1) (hr : wcl o = 8) (hs : zcats rest ≤ 8) (k : yG x M 176 0 [.ref o, .int z0, .int z1, .int z2, .int z3] [] (fun v x' M' => yG x' M' mi (pc + 3) l (zpu v rest) Q)) : yG x M mi pc l (.int z3 :: .int z2 :: .int z1 :: .int z0 :: .ref o :: rest) Q :=
  y_calls (av := [.ref o, .int z0, .int z1, .int z2, .int z3]) hc hk rfl (Nat.le_of_ble_eq_true rfl) hs (zrecv_of hr (by decide)) k
theorem k_177 {o : Nat} {z0 : Int32} {z1 : Int32} (hc : zcode mi pc = some (i, ln, 177, b, w)) (hk : zkd i b = 1) (hr : wcl o = 8) (hs : zcats rest ≤ 8) (k : yG x M 177 0 [.ref o, .int z0, .int z1, zU, zU, zU] [] (fun v x' M' => yG x' M' mi (pc + 3) l (zpu v rest) Q)) : yG x M mi pc l (.int z1 :: .int z0 :: .ref o :: rest) Q :=
  y_calls (av := [.ref o, .int z0, .int z1]) hc hk rfl (Nat.le_of_ble_eq_true rfl) hs (zrecv_of hr (by decide)) k
theorem k_178 {o : Nat} {z0 : Int32} {z1 : Int32} {z2 : Int32} {z3 : Int32} (hc : zcode mi pc = some (i, ln, 178, b, w)) (hk : zkd i b = 1) (hr : wcl o = 8) (hs : zcats rest ≤ 8) (k : yG x M 178 0 [.ref o, .int z0, .int z1, .int z2, .int z3] [] (fun v x' M' => yG x' M' mi (pc + 3) l (zpu v rest) Q)) : yG x M mi pc l (.int z3 :: .int z2 :: .int z1 :: .int z0 :: .ref o :: rest) Q :=
  y_calls (av := [.ref o, .int z0, .int z1, .int z2, .int z3]) hc hk rfl (Nat.le_of_ble_eq_true rfl) hs (zrecv_of hr (by decide)) k
theorem k_179 {o : Nat} (hc : zcode mi pc = some (i, ln, 179, b, w)) (hk : zkd i b = 1) (hr : wcl o = 8) (hs : zcats rest ≤ 8) (k : yG x M 179 0 [.ref o, zU] [] (fun v x' M' => yG x' M' mi (pc + 3) l (zpu v rest) Q)) : yG x M mi pc l (.ref o :: rest) Q :=
  y_calls (av := [.ref o]) hc hk rfl (Nat.le_of_ble_eq_true rfl) hs (zrecv_of hr (by decide)) k
theorem k_180 {o : Nat} (hc : zcode mi pc = some (i, ln, 180, b, w)) (hk : zkd i b = 1) (hr : wcl o = 8) (hs : zcats rest ≤ 8) (k : yG x M 180 0 [.ref o, zU, zU, zU, zU] [] (fun v x' M' => yG x' M' mi (pc + 3) l (zpu v rest) Q)) : yG x M mi pc l (.ref o :: rest) Q :=
  y_calls (av := [.ref o]) hc hk rfl (Nat.le_of_ble_eq_true rfl) hs (zrecv_of hr (by decide)) k
theorem k_181 {o : Nat} {z0 : Int32} {z1 : Int32} (hc : zcode mi pc = some (i, ln, 181, b, w)) (hk : zkd i b = 1) (hr : wcl o = 8) (hs : zcats rest ≤ 8) (k : yG x M 181 0 [.ref o, .int z0, .int z1, zU, zU, zU, zU] [] (fun v x' M' => yG x' M' mi (pc + 3) l (zpu v rest) Q)) : yG x M mi pc l (.int z1 :: .int z0 :: .ref o :: rest) Q :=
  y_calls (av := [.ref o, .int z0, .int z1]) hc hk rfl (Nat.le_of_ble_eq_true rfl) hs (zrecv_of hr (by decide)) k
theorem k_182 {o : Nat} {z0 : Int32} {z1 : Int32} {z2 : Int32} (hc : zcode mi pc = some (i, ln, 182, b, w)) (hk : zkd i b = 1) (hr : wcl o = 8) (hs : zcats rest ≤ 8) (k : yG x M 182 0 [.ref o, .int z0, .int z1, .int z2, zU, zU] [] (fun v x' M' => yG x' M' mi (pc + 3) l (zpu v rest) Q)) : yG x M mi pc l (.int z2 :: .int z1 :: .int z0 :: .ref o :: rest) Q :=
  y_calls (av := [.ref o, .int z0, .int z1, .int z2]) hc hk rfl (Nat.le_of_ble_eq_true rfl) hs (zrecv_of hr (by decide)) k
theorem k_183 {o : Nat} {z0 : Int32} {z1 : Int32} (hc : zcode mi pc = some (i, ln, 183, b, w)) (hk : zkd i b = 1) (hr : wcl o = 8) (hs : zcats rest ≤ 8) (k : yG x M 183 0 [.ref o, .int z0, .int z1, zU, zU, zU, zU] [] (fun v x' M' => yG x' M' mi (pc + 3) l (zpu v rest) Q)) : yG x M mi pc l (.int z1 :: .int z0 :: .ref o :: rest) Q :=
  y_calls (av := [.ref o, .int z0, .int z1]) hc hk rfl (Nat.le_of_ble_eq_true rfl) hs (zrecv_of hr (by decide)) k
theorem k_184 {o : Nat} {z0 : Int64} (hc : zcode mi pc = some (i, ln, 184, b, w)) (hk : zkd i b = 1) (hr : wcl o = 8) (hs : zcats rest ≤ 8) (k : yG x M 184 0 [.ref o, .long z0, zU, zU, zU] [] (fun v x' M' => yG x' M' mi (pc + 3) l (zpu v rest) Q)) : yG x M mi pc l (.long z0 :: .ref o :: rest) Q :=
  y_calls (av := [.ref o, .long z0]) hc hk rfl (Nat.le_of_ble_eq_true rfl) hs (zrecv_of hr (by decide)) k
theorem k_185 {o : Nat} {z0 : Int32} (hc : zcode mi pc = some (i, ln, 185, b, w)) (hk : zkd i b = 1) (hr : wcl o = 8) (hs : zcats rest ≤ 8) (k : yG x M 185 0 [.ref o, .int z0, zU, zU, zU] [] (fun v x' M' => yG x' M' mi (pc + 3) l (zpu v rest) Q)) : yG x M mi pc l (.int z0 :: .ref o :: rest) Q :=
  y_calls (av := [.ref o, .int z0]) hc hk rfl (Nat.le_of_ble_eq_true rfl) hs (zrecv_of hr (by decide)) k
theorem k_186 {o : Nat} {z0 : Int32} (hc : zcode mi pc = some (i, ln, 186, b, w)) (hk : zkd i b = 1) (hr : wcl o = 8) (hs : zcats rest ≤ 8) (k : yG x M 186 0 [.ref o, .int z0, zU] [] (fun v x' M' => yG x' M' mi (pc + 3) l (zpu v rest) Q)) : yG x M mi pc l (.int z0 :: .ref o :: rest) Q :=
  y_calls (av := [.ref o, .int z0]) hc hk rfl (Nat.le_of_ble_eq_true rfl) hs (zrecv_of hr (by decide)) k
theorem k_187 {o : Nat} {z0 : Int32} (hc : zcode mi pc = some (i, ln, 187, b, w)) (hk : zkd i b = 1) (hr : wcl o = 8) (hs : zcats rest ≤ 8) (k : yG x M 187 0 [.ref o, .int z0, zU] [] (fun v x' M' => yG x' M' mi (pc + 3) l (zpu v rest) Q)) : yG x M mi pc l (.int z0 :: .ref o :: rest) Q :=
  y_calls (av := [.ref o, .int z0]) hc hk rfl (Nat.le_of_ble_eq_true rfl) hs (zrecv_of hr (by decide)) k
theorem k_188 {z0 : Int32} (hc : zcode mi pc = some (i, ln, 188, b, w)) (hk : zkd i b = 1) (hs : zcats rest ≤ 8) (k : yG x M 188 0 [.int z0] [] (fun v x' M' => yG x' M' mi (pc + 3) l (zpu v rest) Q)) : yG x M mi pc l (.int z0 :: rest) Q :=
  y_calls (av := [.int z0]) hc hk rfl (Nat.le_of_ble_eq_true rfl) hs (zrecv_st (by decide)) k
theorem k_189 {o0 : Nat} {z1 : Int32} (hc : zcode mi pc = some (i, ln, 189, b, w)) (hk : zkd i b = 1) (hs : zcats rest ≤ 8) (k : yG x M 189 0 [.ref o0, .int z1, zU, zU] [] (fun v x' M' => yG x' M' mi (pc + 3) l (zpu v rest) Q)) : yG x M mi pc l (.int z1 :: .ref o0 :: rest) Q :=
  y_calls (av := [.ref o0, .int z1]) hc hk rfl (Nat.le_of_ble_eq_true rfl) hs (zrecv_st (by decide)) k
theorem k_190 {o : Nat} {z0 : Int32} (hc : zcode mi pc = some (i, ln, 190, b, w)) (hk : zkd i b = 1) (hr : wcl o = 7) (hs : zcats rest ≤ 8) (k : yG x M 190 0 [.ref o, .int z0] [] (fun v x' M' => yG x' M' mi (pc + 3) l (zpu v rest) Q)) : yG x M mi pc l (.int z0 :: .ref o :: rest) Q :=
  y_calls (av := [.ref o, .int z0]) hc hk rfl (Nat.le_of_ble_eq_true rfl) hs (zrecv_of hr (by decide)) k
end K
