abbrev rm_X3_in : Room := { frames := 0, cells := 0, slots := 0, locals := 0 }
set_option maxHeartbeats 4000000 in
set_option maxRecDepth 100000 in
theorem c_X3_in (l : Launch) (dC : Nat → ClassId) (dI : Nat → Nat → Nat) (cI cZ cR cG : ClassId) (x lo hi : Int32) : CI l (dC, dI) (tyL cI cZ cR cG) yX3_in wsX3_in rm_X3_in [.int x, .int lo, .int hi] ([]) (S := Unit) (fun _ => bI (inB x lo hi)) (fun _ => True) (fun _ => []) := by
  refine CI.of (cc := cX3_in) (maxL := 3) (rt := .boolean) (lv := [(0, .int x), (1, .int lo), (2, .int hi)]) (by decide) rfl (Nat.le_of_ble_eq_true rfl) rfl (Or.inr ⟨rfl, fun _ => nar_bI _⟩) ?_
  intro p e s m ar below meth c A Qz ls hx hb hml hown hts hnm hA hS hP hK hD hl ret
  refine lv_iload_n hx hb dX3_in_0 rfl (lv_at hl 0 rfl) ?_
  refine lv_iload_n hx hb dX3_in_1 rfl (lv_at hl 1 rfl) ?_
  refine lv_icmp_lt (x := x) (y := lo) (tgt := 14) hx hb dX3_in_2 (by decide) (fun c_1 => ?_) (fun c_1 => ?_)
  · refine lv_iconst (v := nI 0) hx hb dX3_in_14 (by decide) ?_
    exact ret () _ _ _ _ _ _ _ _ (by unfold inB; rw [decide_eq_false (fun z => absurd c_1 (Int32.not_lt.mpr z.1))]; rfl) (trivial) (rfl) hP hD hS (Nat.le_of_ble_eq_true rfl) (Nat.le_of_ble_eq_true rfl) dX3_in_15
  · refine lv_iload_n hx hb dX3_in_5 rfl (lv_at hl 0 rfl) ?_
    refine lv_iload_n hx hb dX3_in_6 rfl (lv_at hl 2 rfl) ?_
    refine lv_icmp_gt (x := x) (y := hi) (tgt := 14) hx hb dX3_in_7 (by decide) (fun c_2 => ?_) (fun c_2 => ?_)
    · refine lv_iconst (v := nI 0) hx hb dX3_in_14 (by decide) ?_
      exact ret () _ _ _ _ _ _ _ _ (by unfold inB; rw [decide_eq_false (fun z => absurd c_2 (Int32.not_lt.mpr z.2))]; rfl) (trivial) (rfl) hP hD hS (Nat.le_of_ble_eq_true rfl) (Nat.le_of_ble_eq_true rfl) dX3_in_15
    · refine lv_iconst (v := nI 1) hx hb dX3_in_10 (by decide) ?_
      refine lv_goto (tgt := 15) hx hb dX3_in_11 (by decide) ?_
      exact ret () _ _ _ _ _ _ _ _ (by unfold inB; rw [decide_eq_true ⟨Int32.not_lt.mp c_1, Int32.not_lt.mp c_2⟩]; rfl) (trivial) (rfl) hP hD hS (Nat.le_of_ble_eq_true rfl) (Nat.le_of_ble_eq_true rfl) dX3_in_15
theorem c_X3_inR (l : Launch) (dC : Nat → ClassId) (dI : Nat → Nat → Nat) (cI cZ cR cG : ClassId) (x : Int32) (a b : Nat) (ha : a < 2 ^ 31) (hb : b < 2 ^ 31) : CI l (dC, dI) (tyL cI cZ cR cG) yX3_in wsX3_in rm_X3_in [.int x, .int (nI a), .int (nI b)] ([]) (S := Unit) (fun _ => bI (inR x a b)) (fun _ => True) (fun _ => []) := by
  have h := c_X3_in l dC dI cI cZ cR cG x (nI a) (nI b)
  rw [inB_R ha hb] at h
  exact h
abbrev rm_X3_nodes : Room := { frames := 0, cells := 0, slots := 0, locals := 0 }
set_option maxHeartbeats 4000000 in
set_option maxRecDepth 100000 in
theorem c_X3_nodes (l : Launch) (dC : Nat → ClassId) (dI : Nat → Nat → Nat) (cI cZ cR cG : ClassId) (ad : Nat → Nat) (g : Nat → Nat) : CI l (dC, dI) (tyL cI cZ cR cG) yX3_nodes wsX3_nodes rm_X3_nodes [.ref (ad 0)] (sW cI ad g) (S := Unit) (fun _ => nI (g 0)) (fun _ => True) (fun _ => sW cI ad g) := by
  refine CI.of (cc := cX3_nodes) (maxL := 1) (rt := .int) (lv := [(0, .ref (ad 0))]) (by decide) rfl (Nat.le_of_ble_eq_true rfl) rfl (Or.inl rfl) ?_
  intro p e s m ar below meth c A Qz ls hx hb hml hown hts hnm hA hS hP hK hD hl ret
  refine lv_aload_n hx hb dX3_nodes_0 rfl (lv_at hl 0 rfl) ?_
  refine va_get (D := (dC, dI)) (ci := 3) (v := .ref (ad 1)) (C := RX3) (T := TX3) (N := 8) hx hb hts (fun _ h9 => List.mem_cons_of_mem _ (List.mem_append_right _ h9)) hown hK hP 0 rfl rfl 0 (by decide) (hts (.fieldLink RX3 7 "SwitchLevelSimulatorModel" "state" "[I") (List.mem_of_getElem? (i := 1) rfl)) (fun _ h9 => h9) rfl dX3_nodes_1 ?_
  refine lv_iconst (v := nI 0) hx hb dX3_nodes_4 (by decide) ?_
  refine my_iald (i := 0) hx hb hK hP 1 0 rfl rfl (by omega) (by decide) dX3_nodes_5 ?_
  exact ret () _ _ _ _ _ _ _ _ (rfl) (trivial) (rfl) hP hD hS (Nat.le_of_ble_eq_true rfl) (Nat.le_of_ble_eq_true rfl) dX3_nodes_6
abbrev rm_X3_many : Room := { frames := 0, cells := 0, slots := 0, locals := 0 }
set_option maxHeartbeats 4000000 in
set_option maxRecDepth 100000 in
theorem c_X3_many (l : Launch) (dC : Nat → ClassId) (dI : Nat → Nat → Nat) (cI cZ cR cG : ClassId) (ad : Nat → Nat) (g : Nat → Nat) : CI l (dC, dI) (tyL cI cZ cR cG) yX3_many wsX3_many rm_X3_many [.ref (ad 0)] (sW cI ad g) (S := Unit) (fun _ => nI (g 1)) (fun _ => True) (fun _ => sW cI ad g) := by
  refine CI.of (cc := cX3_many) (maxL := 1) (rt := .int) (lv := [(0, .ref (ad 0))]) (by decide) rfl (Nat.le_of_ble_eq_true rfl) rfl (Or.inl rfl) ?_
  intro p e s m ar below meth c A Qz ls hx hb hml hown hts hnm hA hS hP hK hD hl ret
  refine lv_aload_n hx hb dX3_many_0 rfl (lv_at hl 0 rfl) ?_
  refine va_get (D := (dC, dI)) (ci := 3) (v := .ref (ad 1)) (C := RX3) (T := TX3) (N := 8) hx hb hts (fun _ h9 => List.mem_cons_of_mem _ (List.mem_append_right _ h9)) hown hK hP 0 rfl rfl 0 (by decide) (hts (.fieldLink RX3 7 "SwitchLevelSimulatorModel" "state" "[I") (List.mem_of_getElem? (i := 1) rfl)) (fun _ h9 => h9) rfl dX3_many_1 ?_
  refine lv_iconst (v := nI 1) hx hb dX3_many_4 (by decide) ?_
  refine my_iald (i := 1) hx hb hK hP 1 0 rfl rfl (by omega) (by decide) dX3_many_5 ?_
  exact ret () _ _ _ _ _ _ _ _ (rfl) (trivial) (rfl) hP hD hS (Nat.le_of_ble_eq_true rfl) (Nat.le_of_ble_eq_true rfl) dX3_many_6
abbrev rm_X3_isNode : Room := { frames := 1, cells := 0, slots := 0, locals := 22 }
set_option maxHeartbeats 4000000 in
set_option maxRecDepth 100000 in
theorem c_X3_isNode (l : Launch) (dC : Nat → ClassId) (dI : Nat → Nat → Nat) (cI cZ cR cG : ClassId) (ad : Nat → Nat) (g : Nat → Nat) (x : Int32) (hk : g 0 ≤ 24) : CI l (dC, dI) (tyL cI cZ cR cG) yX3_isNode wsX3_isNode rm_X3_isNode [.ref (ad 0), .int x] (sW cI ad g) (S := Unit) (fun _ => bI (inN x (g 0))) (fun _ => True) (fun _ => sW cI ad g) := by
  refine CI.of (cc := cX3_isNode) (maxL := 2) (rt := .boolean) (lv := [(0, .ref (ad 0)), (1, .int x)]) (by decide) rfl (Nat.le_of_ble_eq_true rfl) rfl (Or.inr ⟨rfl, fun _ => nar_bI _⟩) ?_
  intro p e s m ar below meth c A Qz ls hx hb hml hown hts hnm hA hS hP hK hD hl ret
  refine lv_iload_n hx hb dX3_isNode_0 rfl (lv_at hl 1 rfl) ?_
  refine lv_iconst (v := nI 0) hx hb dX3_isNode_1 (by decide) ?_
  refine lv_aload_n hx hb dX3_isNode_2 rfl (lv_at hl 0 rfl) ?_
  refine CI.callV (As := []) (rest := [.int (nI 0), .int x]) (w3 := (fun _ => sW cI ad g)) (c_X3_nodes l dC dI cI cZ cR cG ad g) ⟨hx, hb, hml, hown, hts⟩ (cwV 0 hts gX3_isNode_X3_nodes rfl rfl rfl (by decide +kernel) ⟨Nat.le_of_ble_eq_true rfl, Nat.le_of_ble_eq_true rfl⟩) rfl hl.1 (Nat.le_of_ble_eq_true rfl) dX3_isNode_3 ⟨Nat.le_of_ble_eq_true rfl, Nat.le_of_ble_eq_true rfl⟩ hA hS hP hK hD [0, 1] [] rfl rfl (by decide) (by decide) (by decide) 0 3 rfl rfl [0, 1] (by decide) (fun _ => rfl) rfl (fun _ H locs hp_1 hP hD hS => ?_)
  refine lv_iconst (v := nI 1) hx hb dX3_isNode_6 (by decide) ?_
  refine lv_isub hx hb dX3_isNode_7 ?_
  refine CI.callS (As := [.int x, .int (nI 0), .int ((nI (g 0)) - (nI 1))]) (rest := []) (w3 := (fun _ => sW cI ad g)) (c_X3_in l dC dI cI cZ cR cG x (nI 0) ((nI (g 0)) - (nI 1))) ⟨hx, hb, hml, hown, hts⟩ (va_cwS 3 hts gX3_isNode_X3_in rfl rfl rfl (by decide +kernel) ⟨Nat.le_of_ble_eq_true rfl, Nat.le_of_ble_eq_true rfl⟩) rfl hl.1 (Nat.le_of_ble_eq_true rfl) dX3_isNode_8 ⟨Nat.le_of_ble_eq_true rfl, Nat.le_of_ble_eq_true rfl⟩ hA hS hP hK hD [] [0, 1] rfl rfl (by decide) (by decide) (by decide) [0, 1] (by decide) (fun _ => rfl) rfl (fun _ H locs hp_2 hP hD hS => ?_)
  exact ret () _ _ _ _ _ _ _ _ (congrArg bI (inB_N (by omega))) (trivial) (rfl) hP hD hS (Nat.le_of_ble_eq_true rfl) (Nat.le_of_ble_eq_true rfl) dX3_isNode_11
abbrev rm_X3_isTransistor : Room := { frames := 1, cells := 0, slots := 0, locals := 22 }
set_option maxHeartbeats 4000000 in
set_option maxRecDepth 100000 in
theorem c_X3_isTransistor (l : Launch) (dC : Nat → ClassId) (dI : Nat → Nat → Nat) (cI cZ cR cG : ClassId) (ad : Nat → Nat) (g : Nat → Nat) (x : Int32) (hk : g 1 ≤ 40) : CI l (dC, dI) (tyL cI cZ cR cG) yX3_isTransistor wsX3_isTransistor rm_X3_isTransistor [.ref (ad 0), .int x] (sW cI ad g) (S := Unit) (fun _ => bI (inN x (g 1))) (fun _ => True) (fun _ => sW cI ad g) := by
  refine CI.of (cc := cX3_isTransistor) (maxL := 2) (rt := .boolean) (lv := [(0, .ref (ad 0)), (1, .int x)]) (by decide) rfl (Nat.le_of_ble_eq_true rfl) rfl (Or.inr ⟨rfl, fun _ => nar_bI _⟩) ?_
  intro p e s m ar below meth c A Qz ls hx hb hml hown hts hnm hA hS hP hK hD hl ret
  refine lv_iload_n hx hb dX3_isTransistor_0 rfl (lv_at hl 1 rfl) ?_
  refine lv_iconst (v := nI 0) hx hb dX3_isTransistor_1 (by decide) ?_
  refine lv_aload_n hx hb dX3_isTransistor_2 rfl (lv_at hl 0 rfl) ?_
  refine CI.callV (As := []) (rest := [.int (nI 0), .int x]) (w3 := (fun _ => sW cI ad g)) (c_X3_many l dC dI cI cZ cR cG ad g) ⟨hx, hb, hml, hown, hts⟩ (cwV 0 hts gX3_isTransistor_X3_many rfl rfl rfl (by decide +kernel) ⟨Nat.le_of_ble_eq_true rfl, Nat.le_of_ble_eq_true rfl⟩) rfl hl.1 (Nat.le_of_ble_eq_true rfl) dX3_isTransistor_3 ⟨Nat.le_of_ble_eq_true rfl, Nat.le_of_ble_eq_true rfl⟩ hA hS hP hK hD [0, 1] [] rfl rfl (by decide) (by decide) (by decide) 0 3 rfl rfl [0, 1] (by decide) (fun _ => rfl) rfl (fun _ H locs hp_1 hP hD hS => ?_)
  refine lv_iconst (v := nI 1) hx hb dX3_isTransistor_6 (by decide) ?_
  refine lv_isub hx hb dX3_isTransistor_7 ?_
  refine CI.callS (As := [.int x, .int (nI 0), .int ((nI (g 1)) - (nI 1))]) (rest := []) (w3 := (fun _ => sW cI ad g)) (c_X3_in l dC dI cI cZ cR cG x (nI 0) ((nI (g 1)) - (nI 1))) ⟨hx, hb, hml, hown, hts⟩ (va_cwS 3 hts gX3_isTransistor_X3_in rfl rfl rfl (by decide +kernel) ⟨Nat.le_of_ble_eq_true rfl, Nat.le_of_ble_eq_true rfl⟩) rfl hl.1 (Nat.le_of_ble_eq_true rfl) dX3_isTransistor_8 ⟨Nat.le_of_ble_eq_true rfl, Nat.le_of_ble_eq_true rfl⟩ hA hS hP hK hD [] [0, 1] rfl rfl (by decide) (by decide) (by decide) [0, 1] (by decide) (fun _ => rfl) rfl (fun _ H locs hp_2 hP hD hS => ?_)
  exact ret () _ _ _ _ _ _ _ _ (congrArg bI (inB_N (by omega))) (trivial) (rfl) hP hD hS (Nat.le_of_ble_eq_true rfl) (Nat.le_of_ble_eq_true rfl) dX3_isTransistor_11
abbrev rm_X3_isInput : Room := { frames := 0, cells := 0, slots := 0, locals := 0 }
set_option maxHeartbeats 4000000 in
set_option maxRecDepth 100000 in
theorem c_X3_isInput (l : Launch) (dC : Nat → ClassId) (dI : Nat → Nat → Nat) (cI cZ cR cG : ClassId) (ad : Nat → Nat) (g : Nat → Nat) (j : Nat) (hj : j < 24) (h3 : g (2 + j) ≤ 3) : CI l (dC, dI) (tyL cI cZ cR cG) yX3_isInput wsX3_isInput rm_X3_isInput [.ref (ad 0), .int (nI j)] (sW cI ad g) (S := Unit) (fun _ => bI (decide (g (2 + j) = 0))) (fun _ => True) (fun _ => sW cI ad g) := by
  refine CI.of (cc := cX3_isInput) (maxL := 2) (rt := .boolean) (lv := [(0, .ref (ad 0)), (1, .int (nI j))]) (by decide) rfl (Nat.le_of_ble_eq_true rfl) rfl (Or.inr ⟨rfl, fun _ => nar_bI _⟩) ?_
  intro p e s m ar below meth c A Qz ls hx hb hml hown hts hnm hA hS hP hK hD hl ret
  refine lv_aload_n hx hb dX3_isInput_0 rfl (lv_at hl 0 rfl) ?_
  refine va_get (D := (dC, dI)) (ci := 3) (v := .ref (ad 1)) (C := RX3) (T := TX3) (N := 8) hx hb hts (fun _ h9 => List.mem_cons_of_mem _ (List.mem_append_right _ h9)) hown hK hP 0 rfl rfl 0 (by decide) (hts (.fieldLink RX3 7 "SwitchLevelSimulatorModel" "state" "[I") (List.mem_of_getElem? (i := 1) rfl)) (fun _ h9 => h9) rfl dX3_isInput_1 ?_
  refine lv_iconst (v := nI 2) hx hb dX3_isInput_4 (by decide) ?_
  refine lv_iload_n hx hb dX3_isInput_5 rfl (lv_at hl 1 rfl) ?_
  refine my_iadd (x := 2) (y := j) hx hb dX3_isInput_6 ?_
  refine my_iald (i := (2 + j)) hx hb hK hP 1 0 rfl rfl (by omega) (by decide) dX3_isInput_7 ?_
  refine my_if_neN (x := (g (2 + j))) (tgt := 15) hx hb (by omega) dX3_isInput_8 (by decide) (fun c_1 => ?_) (fun c_1 => ?_)
  · refine lv_iconst (v := nI 0) hx hb dX3_isInput_15 (by decide) ?_
    exact ret () _ _ _ _ _ _ _ _ (by rw [decide_eq_false c_1]; rfl) (trivial) (rfl) hP hD hS (Nat.le_of_ble_eq_true rfl) (Nat.le_of_ble_eq_true rfl) dX3_isInput_16
  · refine lv_iconst (v := nI 1) hx hb dX3_isInput_11 (by decide) ?_
    refine lv_goto (tgt := 16) hx hb dX3_isInput_12 (by decide) ?_
    exact ret () _ _ _ _ _ _ _ _ (by rw [decide_eq_true c_1]; rfl) (trivial) (rfl) hP hD hS (Nat.le_of_ble_eq_true rfl) (Nat.le_of_ble_eq_true rfl) dX3_isInput_16
abbrev rm_X3_set : Room := { frames := 0, cells := 0, slots := 0, locals := 0 }
set_option maxHeartbeats 4000000 in
set_option maxRecDepth 100000 in
theorem c_X3_set (l : Launch) (dC : Nat → ClassId) (dI : Nat → Nat → Nat) (cI cZ cR cG : ClassId) (ad : Nat → Nat) (g : Nat → Nat) (j x : Nat) (hj : j < 290) : CI l (dC, dI) (tyL cI cZ cR cG) yX3_set wsX3_set rm_X3_set [.ref (ad 0), .int (nI j), .int (nI x)] (sW cI ad g) (S := Unit) (fun _ => nI (g j)) (fun _ => True) (fun _ => sW cI ad (up1 g j x)) := by
  refine CI.of (cc := cX3_set) (maxL := 4) (rt := .int) (lv := [(0, .ref (ad 0)), (1, .int (nI j)), (2, .int (nI x))]) (by decide) rfl (Nat.le_of_ble_eq_true rfl) rfl (Or.inl rfl) ?_
  intro p e s m ar below meth c A Qz ls hx hb hml hown hts hnm hA hS hP hK hD hl ret
  refine lv_aload_n hx hb dX3_set_0 rfl (lv_at hl 0 rfl) ?_
  refine va_get (D := (dC, dI)) (ci := 3) (v := .ref (ad 1)) (C := RX3) (T := TX3) (N := 8) hx hb hts (fun _ h9 => List.mem_cons_of_mem _ (List.mem_append_right _ h9)) hown hK hP 0 rfl rfl 0 (by decide) (hts (.fieldLink RX3 7 "SwitchLevelSimulatorModel" "state" "[I") (List.mem_of_getElem? (i := 1) rfl)) (fun _ h9 => h9) rfl dX3_set_1 ?_
  refine lv_iload_n hx hb dX3_set_4 rfl (lv_at hl 1 rfl) ?_
  refine my_iald (i := j) hx hb hK hP 1 0 rfl rfl (by omega) (by decide) dX3_set_5 ?_
  refine lv_istore_n (lv' := [(3, .int (nI (g j))), (0, .ref (ad 0)), (1, .int (nI j)), (2, .int (nI x))]) hx hb dX3_set_6 rfl hl (by decide) rfl (fun ls hl => ?_)
  refine lv_aload_n hx hb dX3_set_7 rfl (lv_at hl 1 rfl) ?_
  refine va_get (D := (dC, dI)) (ci := 3) (v := .ref (ad 1)) (C := RX3) (T := TX3) (N := 8) hx hb hts (fun _ h9 => List.mem_cons_of_mem _ (List.mem_append_right _ h9)) hown hK hP 0 rfl rfl 0 (by decide) (hts (.fieldLink RX3 7 "SwitchLevelSimulatorModel" "state" "[I") (List.mem_of_getElem? (i := 1) rfl)) (fun _ h9 => h9) rfl dX3_set_8 ?_
  refine lv_iload_n hx hb dX3_set_11 rfl (lv_at hl 2 rfl) ?_
  refine lv_iload_n hx hb dX3_set_12 rfl (lv_at hl 3 rfl) ?_
  refine my_iastN (i := j) (x := x) (g := g) (ws' := sW cI ad (up1 g j x)) hx hb hK hP hD hS 1 0 rfl rfl (by omega) (by decide) dX3_set_13 rfl (fun H locs hP hD hS => ?_)
  refine lv_iload_n hx hb dX3_set_14 rfl (lv_at hl 0 rfl) ?_
  exact ret () _ _ _ _ _ _ _ _ (rfl) (trivial) (rfl) hP hD hS (Nat.le_of_ble_eq_true rfl) (Nat.le_of_ble_eq_true rfl) dX3_set_15
abbrev rm_X3_addNode : Room := { frames := 1, cells := 0, slots := 0, locals := 20 }
set_option maxHeartbeats 4000000 in
set_option maxRecDepth 100000 in
theorem c_X3_addNode (l : Launch) (dC : Nat → ClassId) (dI : Nat → Nat → Nat) (cI cZ cR cG : ClassId) (ad : Nat → Nat) (g : Nat → Nat) (z : Nat) (hk : g 0 < 24) : CI l (dC, dI) (tyL cI cZ cR cG) yX3_addNode wsX3_addNode rm_X3_addNode [.ref (ad 0), .int (nI z)] (sW cI ad g) (S := Unit) (fun _ => nI (g 0)) (fun _ => True) (fun _ => sW cI ad (addN g z)) := by
  refine CI.of (cc := cX3_addNode) (maxL := 3) (rt := .int) (lv := [(0, .ref (ad 0)), (1, .int (nI z))]) (by decide) rfl (Nat.le_of_ble_eq_true rfl) rfl (Or.inl rfl) ?_
  intro p e s m ar below meth c A Qz ls hx hb hml hown hts hnm hA hS hP hK hD hl ret
  refine lv_aload_n hx hb dX3_addNode_0 rfl (lv_at hl 0 rfl) ?_
  refine CI.callV (As := []) (rest := []) (w3 := (fun _ => sW cI ad g)) (c_X3_nodes l dC dI cI cZ cR cG ad g) ⟨hx, hb, hml, hown, hts⟩ (cwV 0 hts gX3_addNode_X3_nodes rfl rfl rfl (by decide +kernel) ⟨Nat.le_of_ble_eq_true rfl, Nat.le_of_ble_eq_true rfl⟩) rfl hl.1 (Nat.le_of_ble_eq_true rfl) dX3_addNode_1 ⟨Nat.le_of_ble_eq_true rfl, Nat.le_of_ble_eq_true rfl⟩ hA hS hP hK hD [0, 1] [] rfl rfl (by decide) (by decide) (by decide) 0 3 rfl rfl [0, 1] (by decide) (fun _ => rfl) rfl (fun _ H locs hp_1 hP hD hS => ?_)
  refine lv_istore_n (lv' := [(2, .int (nI (g 0))), (0, .ref (ad 0)), (1, .int (nI z))]) hx hb dX3_addNode_4 rfl hl (by decide) rfl (fun ls hl => ?_)
  refine lv_aload_n hx hb dX3_addNode_5 rfl (lv_at hl 1 rfl) ?_
  refine va_get (D := (dC, dI)) (ci := 3) (v := .ref (ad 1)) (C := RX3) (T := TX3) (N := 8) hx hb hts (fun _ h9 => List.mem_cons_of_mem _ (List.mem_append_right _ h9)) hown hK hP 0 rfl rfl 0 (by decide) (hts (.fieldLink RX3 7 "SwitchLevelSimulatorModel" "state" "[I") (List.mem_of_getElem? (i := 1) rfl)) (fun _ h9 => h9) rfl dX3_addNode_6 ?_
  refine lv_iconst (v := nI 2) hx hb dX3_addNode_9 (by decide) ?_
  refine lv_iload_n hx hb dX3_addNode_10 rfl (lv_at hl 0 rfl) ?_
  refine my_iadd (x := 2) (y := (g 0)) hx hb dX3_addNode_11 ?_
  refine lv_iload_n hx hb dX3_addNode_12 rfl (lv_at hl 2 rfl) ?_
  refine my_iastN (i := (2 + g 0)) (x := z) (g := g) (ws' := sW cI ad (up1 g (2 + g 0) z)) hx hb hK hP hD hS 1 0 rfl rfl (by omega) (by decide) dX3_addNode_13 rfl (fun H locs hP hD hS => ?_)
  refine lv_aload_n hx hb dX3_addNode_14 rfl (lv_at hl 1 rfl) ?_
  refine va_get (D := (dC, dI)) (ci := 3) (v := .ref (ad 1)) (C := RX3) (T := TX3) (N := 8) hx hb hts (fun _ h9 => List.mem_cons_of_mem _ (List.mem_append_right _ h9)) hown hK hP 0 rfl rfl 0 (by decide) (hts (.fieldLink RX3 7 "SwitchLevelSimulatorModel" "state" "[I") (List.mem_of_getElem? (i := 1) rfl)) (fun _ h9 => h9) rfl dX3_addNode_15 ?_
  refine lv_bipush (v := nI 26) hx hb dX3_addNode_18 (by decide) ?_
  refine lv_iload_n hx hb dX3_addNode_20 rfl (lv_at hl 0 rfl) ?_
  refine my_iadd (x := 26) (y := (g 0)) hx hb dX3_addNode_21 ?_
  refine lv_iconst (v := nI 2) hx hb dX3_addNode_22 (by decide) ?_
  refine my_iastN (i := (26 + g 0)) (x := 2) (g := (up1 g (2 + g 0) z)) (ws' := sW cI ad (up1 (up1 g (2 + g 0) z) (26 + g 0) 2)) hx hb hK hP hD hS 1 0 rfl rfl (by omega) (by decide) dX3_addNode_23 rfl (fun H locs hP hD hS => ?_)
  refine lv_aload_n hx hb dX3_addNode_24 rfl (lv_at hl 1 rfl) ?_
  refine va_get (D := (dC, dI)) (ci := 3) (v := .ref (ad 1)) (C := RX3) (T := TX3) (N := 8) hx hb hts (fun _ h9 => List.mem_cons_of_mem _ (List.mem_append_right _ h9)) hown hK hP 0 rfl rfl 0 (by decide) (hts (.fieldLink RX3 7 "SwitchLevelSimulatorModel" "state" "[I") (List.mem_of_getElem? (i := 1) rfl)) (fun _ h9 => h9) rfl dX3_addNode_25 ?_
  refine lv_iconst (v := nI 0) hx hb dX3_addNode_28 (by decide) ?_
  refine lv_dup2_11 hx hb dX3_addNode_29 rfl rfl ?_
  refine my_iald (i := 0) hx hb hK hP 1 0 rfl rfl (by omega) (by decide) dX3_addNode_30 ?_
  refine lv_iconst (v := nI 1) hx hb dX3_addNode_31 (by decide) ?_
  refine my_iadd (x := ((up1 (up1 g (2 + g 0) z) (26 + g 0) 2) 0)) (y := 1) hx hb dX3_addNode_32 ?_
  refine my_iastN (i := 0) (x := (((up1 (up1 g (2 + g 0) z) (26 + g 0) 2) 0) + 1)) (g := (up1 (up1 g (2 + g 0) z) (26 + g 0) 2)) (ws' := sW cI ad (up1 (up1 (up1 g (2 + g 0) z) (26 + g 0) 2) 0 (((up1 (up1 g (2 + g 0) z) (26 + g 0) 2) 0) + 1))) hx hb hK hP hD hS 1 0 rfl rfl (by omega) (by decide) dX3_addNode_33 rfl (fun H locs hP hD hS => ?_)
  refine lv_iload_n hx hb dX3_addNode_34 rfl (lv_at hl 0 rfl) ?_
  exact ret () _ _ _ _ _ _ _ _ (rfl) (trivial) (by unfold addN; rw [show up1 (up1 g (2 + g 0) z) (26 + g 0) 2 0 = g 0 from by rw [up1_n (by omega), up1_n (by omega)]]) hP hD hS (Nat.le_of_ble_eq_true rfl) (Nat.le_of_ble_eq_true rfl) dX3_addNode_35
