abbrev rm_X3_steady : Room := { frames := 1, cells := 0, slots := 0, locals := 21 }
set_option maxHeartbeats 4000000 in
set_option maxRecDepth 100000 in
theorem c_X3_steady (l : Launch) (dC : Nat → ClassId) (dI : Nat → Nat → Nat) (cI cZ cR cG : ClassId) (ad : Nat → Nat) (g de ss up dn : Nat → Nat) (n : Nat) (hn : n < 24) (hs : g (2 + n) ≤ 3 ∧ g (26 + n) ≤ 2 ∧ up n ≤ 7 ∧ dn n ≤ 7) : CI l (dC, dI) (tyL cI cZ cR cG) yX3_steady wsX3_steady rm_X3_steady [.ref (ad 0), .int (nI n)] (lW cI ad g de ss up dn) (S := Unit) (fun _ => nI (stR g up dn n)) (fun _ => True) (fun _ => lW cI ad g de ss up dn) := by
  refine CI.of (cc := cX3_steady) (maxL := 2) (rt := .int) (lv := [(0, .ref (ad 0)), (1, .int (nI n))]) (by decide) rfl (Nat.le_of_ble_eq_true rfl) rfl (Or.inl rfl) ?_
  intro p e s m ar below meth c A Qz ls hx hb hml hown hts hnm hA hS hP hK hD hl ret
  refine lv_aload_n hx hb dX3_steady_0 rfl (lv_at hl 0 rfl) ?_
  refine lv_iload_n hx hb dX3_steady_1 rfl (lv_at hl 1 rfl) ?_
  refine CI.callV (As := [.int (nI n)]) (rest := []) (w3 := (fun _ => lW cI ad g de ss up dn)) (c_X3_isInput l dC dI cI cZ cR cG ad g n (by omega) (hs.1)) ⟨hx, hb, hml, hown, hts⟩ (cwV 1 hts gX3_steady_X3_isInput rfl rfl rfl (by decide +kernel) ⟨Nat.le_of_ble_eq_true rfl, Nat.le_of_ble_eq_true rfl⟩) rfl hl.1 (Nat.le_of_ble_eq_true rfl) dX3_steady_2 ⟨Nat.le_of_ble_eq_true rfl, Nat.le_of_ble_eq_true rfl⟩ hA hS hP hK hD [0, 1] [2, 3, 4, 5] rfl rfl (by decide) (by decide) (by decide) 0 3 rfl rfl [4, 5, 0, 1, 2, 3] (by decide) (fun _ => rfl) rfl (fun _ H locs hp_1 hP hD hS => ?_)
  refine my_if_eqB (x := (decide (g (2 + n) = 0))) (tgt := 20) hx hb dX3_steady_5 (by decide) (fun c_2 => ?_) (fun c_2 => ?_)
  · refine lv_aload_n hx hb dX3_steady_20 rfl (lv_at hl 0 rfl) ?_
    refine va_get (D := (dC, dI)) (ci := 3) (v := .ref (ad 6)) (C := RX3) (T := TX3) (N := 8) hx hb hts (fun _ h9 => List.mem_cons_of_mem _ (List.mem_append_right _ h9)) hown hK hP 0 rfl rfl 5 (by decide) (hts (.fieldLink RX3 26 "SwitchLevelSimulatorModel" "down" "[I") (List.mem_of_getElem? (i := 2) rfl)) (fun _ h9 => h9) rfl dX3_steady_21 ?_
    refine lv_iload_n hx hb dX3_steady_24 rfl (lv_at hl 1 rfl) ?_
    refine my_iald (i := n) hx hb hK hP 5 0 rfl rfl (by omega) (by decide) dX3_steady_25 ?_
    refine my_if_neN (x := (dn n)) (tgt := 33) hx hb (by omega) dX3_steady_26 (by decide) (fun c_3 => ?_) (fun c_3 => ?_)
    · refine lv_aload_n hx hb dX3_steady_33 rfl (lv_at hl 0 rfl) ?_
      refine va_get (D := (dC, dI)) (ci := 3) (v := .ref (ad 5)) (C := RX3) (T := TX3) (N := 8) hx hb hts (fun _ h9 => List.mem_cons_of_mem _ (List.mem_append_right _ h9)) hown hK hP 0 rfl rfl 4 (by decide) (hts (.fieldLink RX3 23 "SwitchLevelSimulatorModel" "up" "[I") (List.mem_of_getElem? (i := 3) rfl)) (fun _ h9 => h9) rfl dX3_steady_34 ?_
      refine lv_iload_n hx hb dX3_steady_37 rfl (lv_at hl 1 rfl) ?_
      refine my_iald (i := n) hx hb hK hP 4 0 rfl rfl (by omega) (by decide) dX3_steady_38 ?_
      refine my_if_neN (x := (up n)) (tgt := 46) hx hb (by omega) dX3_steady_39 (by decide) (fun c_4 => ?_) (fun c_4 => ?_)
      · refine lv_iconst (v := nI 2) hx hb dX3_steady_46 (by decide) ?_
        exact ret () _ _ _ _ _ _ _ _ (by show _ = nI (stR g up dn n); unfold stR; rw [if_neg (of_decide_eq_false c_2), if_neg c_3, if_neg c_4]; try rfl) (trivial) (rfl) hP hD hS (Nat.le_of_ble_eq_true rfl) (Nat.le_of_ble_eq_true rfl) dX3_steady_47
      · refine lv_iconst (v := nI 0) hx hb dX3_steady_42 (by decide) ?_
        refine lv_goto (tgt := 47) hx hb dX3_steady_43 (by decide) ?_
        exact ret () _ _ _ _ _ _ _ _ (by show _ = nI (stR g up dn n); unfold stR; rw [if_neg (of_decide_eq_false c_2), if_neg c_3, if_pos c_4]; try rfl) (trivial) (rfl) hP hD hS (Nat.le_of_ble_eq_true rfl) (Nat.le_of_ble_eq_true rfl) dX3_steady_47
    · refine lv_iconst (v := nI 1) hx hb dX3_steady_29 (by decide) ?_
      refine lv_goto (tgt := 47) hx hb dX3_steady_30 (by decide) ?_
      exact ret () _ _ _ _ _ _ _ _ (by show _ = nI (stR g up dn n); unfold stR; rw [if_neg (of_decide_eq_false c_2), if_pos c_3]; try rfl) (trivial) (rfl) hP hD hS (Nat.le_of_ble_eq_true rfl) (Nat.le_of_ble_eq_true rfl) dX3_steady_47
  · refine lv_aload_n hx hb dX3_steady_8 rfl (lv_at hl 0 rfl) ?_
    refine va_get (D := (dC, dI)) (ci := 3) (v := .ref (ad 1)) (C := RX3) (T := TX3) (N := 8) hx hb hts (fun _ h9 => List.mem_cons_of_mem _ (List.mem_append_right _ h9)) hown hK hP 0 rfl rfl 0 (by decide) (hts (.fieldLink RX3 7 "SwitchLevelSimulatorModel" "state" "[I") (List.mem_of_getElem? (i := 1) rfl)) (fun _ h9 => h9) rfl dX3_steady_9 ?_
    refine lv_bipush (v := nI 26) hx hb dX3_steady_12 (by decide) ?_
    refine lv_iload_n hx hb dX3_steady_14 rfl (lv_at hl 1 rfl) ?_
    refine my_iadd (x := 26) (y := n) hx hb dX3_steady_15 ?_
    refine my_iald (i := (26 + n)) hx hb hK hP 1 0 rfl rfl (by omega) (by decide) dX3_steady_16 ?_
    refine lv_goto (tgt := 47) hx hb dX3_steady_17 (by decide) ?_
    exact ret () _ _ _ _ _ _ _ _ (by show _ = nI (stR g up dn n); unfold stR; rw [if_pos (of_decide_eq_true c_2)]; try rfl) (trivial) (rfl) hP hD hS (Nat.le_of_ble_eq_true rfl) (Nat.le_of_ble_eq_true rfl) dX3_steady_47
abbrev rm_X3_definiteStrength : Room := { frames := 4, cells := 0, slots := 0, locals := 93 }
set_option maxHeartbeats 4000000 in
set_option maxRecDepth 100000 in
theorem c_X3_definiteStrength (l : Launch) (dC : Nat → ClassId) (dI : Nat → Nat → Nat) (cI cZ cR cG : ClassId) (ad : Nat → Nat) (g de ss up dn : Nat → Nat) (x : Int32) (ok : okG g) : CI l (dC, dI) (tyL cI cZ cR cG) yX3_definiteStrength wsX3_definiteStrength rm_X3_definiteStrength [.ref (ad 0), .int x] (lW cI ad g de ss up dn) (S := F4) (fun _ => aQ g x) (fun _ => True) (fun u => lW cI ad g u.1 u.2.1 u.2.2.1 u.2.2.2) := by
  refine CI.of (cc := cX3_definiteStrength) (maxL := 2) (rt := .int) (lv := [(0, .ref (ad 0)), (1, .int x)]) (by decide) rfl (Nat.le_of_ble_eq_true rfl) rfl (Or.inl rfl) ?_
  intro p e s m ar below meth c A Qz ls hx hb hml hown hts hnm hA hS hP hK hD hl ret
  have h0 := ok.1
  have h1 := ok.2.1
  refine lv_aload_n hx hb dX3_definiteStrength_0 rfl (lv_at hl 0 rfl) ?_
  refine lv_iload_n hx hb dX3_definiteStrength_1 rfl (lv_at hl 1 rfl) ?_
  refine CI.callV (As := [.int x]) (rest := []) (w3 := (fun _ => lW cI ad g de ss up dn)) (c_X3_isNode l dC dI cI cZ cR cG ad g x (ok.1)) ⟨hx, hb, hml, hown, hts⟩ (cwV 1 hts gX3_definiteStrength_X3_isNode rfl rfl rfl (by decide +kernel) ⟨Nat.le_of_ble_eq_true rfl, Nat.le_of_ble_eq_true rfl⟩) rfl hl.1 (Nat.le_of_ble_eq_true rfl) dX3_definiteStrength_2 ⟨Nat.le_of_ble_eq_true rfl, Nat.le_of_ble_eq_true rfl⟩ hA hS hP hK hD [0, 1] [2, 3, 4, 5] rfl rfl (by decide) (by decide) (by decide) 0 3 rfl rfl [4, 5, 0, 1, 2, 3] (by decide) (fun _ => rfl) rfl (fun _ H locs hp_1 hP hD hS => ?_)
  refine my_if_neB (x := (inN x (g 0))) (tgt := 10) hx hb dX3_definiteStrength_5 (by decide) (fun c_2 => ?_) (fun c_2 => ?_)
  · obtain ⟨j, hj1, hj2, rfl, hjc⟩ := inN_at c_2
    refine lv_aload_n hx hb dX3_definiteStrength_10 rfl (lv_at hl 0 rfl) ?_
    refine CV.callV (As := []) (rest := []) (w3 := (fun ⟨w_de, w_ss, w_up, w_dn⟩ => lW cI ad g w_de w_ss w_up w_dn)) (c_X3_layAll l dC dI cI cZ cR cG ad g de ss up dn (ok)) ⟨hx, hb, hml, hown, hts⟩ (cwV 0 hts gX3_definiteStrength_X3_layAll rfl rfl rfl (by decide +kernel) ⟨Nat.le_of_ble_eq_true rfl, Nat.le_of_ble_eq_true rfl⟩) rfl hl.1 (Nat.le_of_ble_eq_true rfl) dX3_definiteStrength_11 ⟨Nat.le_of_ble_eq_true rfl, Nat.le_of_ble_eq_true rfl⟩ hA hS hP hK hD [0, 1, 2, 3, 4, 5] [] rfl rfl (by decide) (by decide) (by decide) 0 3 rfl rfl [0, 1, 2, 3, 4, 5] (by decide) (fun _ => rfl) rfl (fun ⟨w_de, w_ss, w_up, w_dn⟩ H locs hp_3 hP hD hS => ?_)
    have hP : va_P (dC, dI) vwCl (lW cI ad g w_de w_ss w_up w_dn) H := hP
    have hD : va_D A (lW cI ad g w_de w_ss w_up w_dn) := hD
    have hla : ∀ n, n < g 0 → w_de n = qF g n ∧ w_up n = uF g 1 n ∧ w_dn n = uF g 0 n := hp_3
    refine lv_aload_n hx hb dX3_definiteStrength_14 rfl (lv_at hl 0 rfl) ?_
    refine va_get (D := (dC, dI)) (ci := 3) (v := .ref (ad 4)) (C := RX3) (T := TX3) (N := 8) hx hb hts (fun _ h9 => List.mem_cons_of_mem _ (List.mem_append_right _ h9)) hown hK hP 0 rfl rfl 3 (by decide) (hts (.fieldLink RX3 20 "SwitchLevelSimulatorModel" "definite" "[I") (List.mem_of_getElem? (i := 1) rfl)) (fun _ h9 => h9) rfl dX3_definiteStrength_15 ?_
    refine lv_iload_n hx hb dX3_definiteStrength_18 rfl (lv_at hl 1 rfl) ?_
    refine my_iald (i := j) hx hb hK hP 2 0 rfl rfl (by omega) (by decide) dX3_definiteStrength_19 ?_
    exact ret (w_de, w_ss, w_up, w_dn) _ _ _ _ _ _ _ _ (by show _ = aQ g (nI j); unfold aQ; rw [if_pos c_2, show nx (nI j) = j from hjc, ← (hla j hj1).1]; rfl) (trivial) (rfl) hP hD hS (Nat.le_of_ble_eq_true rfl) (Nat.le_of_ble_eq_true rfl) dX3_definiteStrength_20
  · refine lv_iconst (v := -1) hx hb dX3_definiteStrength_8 (by decide) ?_
    exact ret (de, ss, up, dn) _ _ _ _ _ _ _ _ (by show _ = aQ g x; unfold aQ; rw [if_neg (by rw [c_2]; decide)]) (trivial) (rfl) hP hD hS (Nat.le_of_ble_eq_true rfl) (Nat.le_of_ble_eq_true rfl) dX3_definiteStrength_9
abbrev rm_X3_upStrength : Room := { frames := 4, cells := 0, slots := 0, locals := 93 }
set_option maxHeartbeats 4000000 in
set_option maxRecDepth 100000 in
theorem c_X3_upStrength (l : Launch) (dC : Nat → ClassId) (dI : Nat → Nat → Nat) (cI cZ cR cG : ClassId) (ad : Nat → Nat) (g de ss up dn : Nat → Nat) (x : Int32) (ok : okG g) : CI l (dC, dI) (tyL cI cZ cR cG) yX3_upStrength wsX3_upStrength rm_X3_upStrength [.ref (ad 0), .int x] (lW cI ad g de ss up dn) (S := F4) (fun _ => aU 1 g x) (fun _ => True) (fun u => lW cI ad g u.1 u.2.1 u.2.2.1 u.2.2.2) := by
  refine CI.of (cc := cX3_upStrength) (maxL := 2) (rt := .int) (lv := [(0, .ref (ad 0)), (1, .int x)]) (by decide) rfl (Nat.le_of_ble_eq_true rfl) rfl (Or.inl rfl) ?_
  intro p e s m ar below meth c A Qz ls hx hb hml hown hts hnm hA hS hP hK hD hl ret
  have h0 := ok.1
  have h1 := ok.2.1
  refine lv_aload_n hx hb dX3_upStrength_0 rfl (lv_at hl 0 rfl) ?_
  refine lv_iload_n hx hb dX3_upStrength_1 rfl (lv_at hl 1 rfl) ?_
  refine CI.callV (As := [.int x]) (rest := []) (w3 := (fun _ => lW cI ad g de ss up dn)) (c_X3_isNode l dC dI cI cZ cR cG ad g x (ok.1)) ⟨hx, hb, hml, hown, hts⟩ (cwV 1 hts gX3_upStrength_X3_isNode rfl rfl rfl (by decide +kernel) ⟨Nat.le_of_ble_eq_true rfl, Nat.le_of_ble_eq_true rfl⟩) rfl hl.1 (Nat.le_of_ble_eq_true rfl) dX3_upStrength_2 ⟨Nat.le_of_ble_eq_true rfl, Nat.le_of_ble_eq_true rfl⟩ hA hS hP hK hD [0, 1] [2, 3, 4, 5] rfl rfl (by decide) (by decide) (by decide) 0 3 rfl rfl [4, 5, 0, 1, 2, 3] (by decide) (fun _ => rfl) rfl (fun _ H locs hp_1 hP hD hS => ?_)
  refine my_if_neB (x := (inN x (g 0))) (tgt := 10) hx hb dX3_upStrength_5 (by decide) (fun c_2 => ?_) (fun c_2 => ?_)
  · obtain ⟨j, hj1, hj2, rfl, hjc⟩ := inN_at c_2
    refine lv_aload_n hx hb dX3_upStrength_10 rfl (lv_at hl 0 rfl) ?_
    refine CV.callV (As := []) (rest := []) (w3 := (fun ⟨w_de, w_ss, w_up, w_dn⟩ => lW cI ad g w_de w_ss w_up w_dn)) (c_X3_layAll l dC dI cI cZ cR cG ad g de ss up dn (ok)) ⟨hx, hb, hml, hown, hts⟩ (cwV 0 hts gX3_upStrength_X3_layAll rfl rfl rfl (by decide +kernel) ⟨Nat.le_of_ble_eq_true rfl, Nat.le_of_ble_eq_true rfl⟩) rfl hl.1 (Nat.le_of_ble_eq_true rfl) dX3_upStrength_11 ⟨Nat.le_of_ble_eq_true rfl, Nat.le_of_ble_eq_true rfl⟩ hA hS hP hK hD [0, 1, 2, 3, 4, 5] [] rfl rfl (by decide) (by decide) (by decide) 0 3 rfl rfl [0, 1, 2, 3, 4, 5] (by decide) (fun _ => rfl) rfl (fun ⟨w_de, w_ss, w_up, w_dn⟩ H locs hp_3 hP hD hS => ?_)
    have hP : va_P (dC, dI) vwCl (lW cI ad g w_de w_ss w_up w_dn) H := hP
    have hD : va_D A (lW cI ad g w_de w_ss w_up w_dn) := hD
    have hla : ∀ n, n < g 0 → w_de n = qF g n ∧ w_up n = uF g 1 n ∧ w_dn n = uF g 0 n := hp_3
    refine lv_aload_n hx hb dX3_upStrength_14 rfl (lv_at hl 0 rfl) ?_
    refine va_get (D := (dC, dI)) (ci := 3) (v := .ref (ad 5)) (C := RX3) (T := TX3) (N := 8) hx hb hts (fun _ h9 => List.mem_cons_of_mem _ (List.mem_append_right _ h9)) hown hK hP 0 rfl rfl 4 (by decide) (hts (.fieldLink RX3 23 "SwitchLevelSimulatorModel" "up" "[I") (List.mem_of_getElem? (i := 1) rfl)) (fun _ h9 => h9) rfl dX3_upStrength_15 ?_
    refine lv_iload_n hx hb dX3_upStrength_18 rfl (lv_at hl 1 rfl) ?_
    refine my_iald (i := j) hx hb hK hP 4 0 rfl rfl (by omega) (by decide) dX3_upStrength_19 ?_
    exact ret (w_de, w_ss, w_up, w_dn) _ _ _ _ _ _ _ _ (by show _ = aU 1 g (nI j); unfold aU; rw [if_pos c_2, show nx (nI j) = j from hjc, ← (hla j hj1).2.1]; rfl) (trivial) (rfl) hP hD hS (Nat.le_of_ble_eq_true rfl) (Nat.le_of_ble_eq_true rfl) dX3_upStrength_20
  · refine lv_iconst (v := -1) hx hb dX3_upStrength_8 (by decide) ?_
    exact ret (de, ss, up, dn) _ _ _ _ _ _ _ _ (by show _ = aU 1 g x; unfold aU; rw [if_neg (by rw [c_2]; decide)]) (trivial) (rfl) hP hD hS (Nat.le_of_ble_eq_true rfl) (Nat.le_of_ble_eq_true rfl) dX3_upStrength_9
abbrev rm_X3_downStrength : Room := { frames := 4, cells := 0, slots := 0, locals := 93 }
set_option maxHeartbeats 4000000 in
set_option maxRecDepth 100000 in
theorem c_X3_downStrength (l : Launch) (dC : Nat → ClassId) (dI : Nat → Nat → Nat) (cI cZ cR cG : ClassId) (ad : Nat → Nat) (g de ss up dn : Nat → Nat) (x : Int32) (ok : okG g) : CI l (dC, dI) (tyL cI cZ cR cG) yX3_downStrength wsX3_downStrength rm_X3_downStrength [.ref (ad 0), .int x] (lW cI ad g de ss up dn) (S := F4) (fun _ => aU 0 g x) (fun _ => True) (fun u => lW cI ad g u.1 u.2.1 u.2.2.1 u.2.2.2) := by
  refine CI.of (cc := cX3_downStrength) (maxL := 2) (rt := .int) (lv := [(0, .ref (ad 0)), (1, .int x)]) (by decide) rfl (Nat.le_of_ble_eq_true rfl) rfl (Or.inl rfl) ?_
  intro p e s m ar below meth c A Qz ls hx hb hml hown hts hnm hA hS hP hK hD hl ret
  have h0 := ok.1
  have h1 := ok.2.1
  refine lv_aload_n hx hb dX3_downStrength_0 rfl (lv_at hl 0 rfl) ?_
  refine lv_iload_n hx hb dX3_downStrength_1 rfl (lv_at hl 1 rfl) ?_
  refine CI.callV (As := [.int x]) (rest := []) (w3 := (fun _ => lW cI ad g de ss up dn)) (c_X3_isNode l dC dI cI cZ cR cG ad g x (ok.1)) ⟨hx, hb, hml, hown, hts⟩ (cwV 1 hts gX3_downStrength_X3_isNode rfl rfl rfl (by decide +kernel) ⟨Nat.le_of_ble_eq_true rfl, Nat.le_of_ble_eq_true rfl⟩) rfl hl.1 (Nat.le_of_ble_eq_true rfl) dX3_downStrength_2 ⟨Nat.le_of_ble_eq_true rfl, Nat.le_of_ble_eq_true rfl⟩ hA hS hP hK hD [0, 1] [2, 3, 4, 5] rfl rfl (by decide) (by decide) (by decide) 0 3 rfl rfl [4, 5, 0, 1, 2, 3] (by decide) (fun _ => rfl) rfl (fun _ H locs hp_1 hP hD hS => ?_)
  refine my_if_neB (x := (inN x (g 0))) (tgt := 10) hx hb dX3_downStrength_5 (by decide) (fun c_2 => ?_) (fun c_2 => ?_)
  · obtain ⟨j, hj1, hj2, rfl, hjc⟩ := inN_at c_2
    refine lv_aload_n hx hb dX3_downStrength_10 rfl (lv_at hl 0 rfl) ?_
    refine CV.callV (As := []) (rest := []) (w3 := (fun ⟨w_de, w_ss, w_up, w_dn⟩ => lW cI ad g w_de w_ss w_up w_dn)) (c_X3_layAll l dC dI cI cZ cR cG ad g de ss up dn (ok)) ⟨hx, hb, hml, hown, hts⟩ (cwV 0 hts gX3_downStrength_X3_layAll rfl rfl rfl (by decide +kernel) ⟨Nat.le_of_ble_eq_true rfl, Nat.le_of_ble_eq_true rfl⟩) rfl hl.1 (Nat.le_of_ble_eq_true rfl) dX3_downStrength_11 ⟨Nat.le_of_ble_eq_true rfl, Nat.le_of_ble_eq_true rfl⟩ hA hS hP hK hD [0, 1, 2, 3, 4, 5] [] rfl rfl (by decide) (by decide) (by decide) 0 3 rfl rfl [0, 1, 2, 3, 4, 5] (by decide) (fun _ => rfl) rfl (fun ⟨w_de, w_ss, w_up, w_dn⟩ H locs hp_3 hP hD hS => ?_)
    have hP : va_P (dC, dI) vwCl (lW cI ad g w_de w_ss w_up w_dn) H := hP
    have hD : va_D A (lW cI ad g w_de w_ss w_up w_dn) := hD
    have hla : ∀ n, n < g 0 → w_de n = qF g n ∧ w_up n = uF g 1 n ∧ w_dn n = uF g 0 n := hp_3
    refine lv_aload_n hx hb dX3_downStrength_14 rfl (lv_at hl 0 rfl) ?_
    refine va_get (D := (dC, dI)) (ci := 3) (v := .ref (ad 6)) (C := RX3) (T := TX3) (N := 8) hx hb hts (fun _ h9 => List.mem_cons_of_mem _ (List.mem_append_right _ h9)) hown hK hP 0 rfl rfl 5 (by decide) (hts (.fieldLink RX3 26 "SwitchLevelSimulatorModel" "down" "[I") (List.mem_of_getElem? (i := 1) rfl)) (fun _ h9 => h9) rfl dX3_downStrength_15 ?_
    refine lv_iload_n hx hb dX3_downStrength_18 rfl (lv_at hl 1 rfl) ?_
    refine my_iald (i := j) hx hb hK hP 5 0 rfl rfl (by omega) (by decide) dX3_downStrength_19 ?_
    exact ret (w_de, w_ss, w_up, w_dn) _ _ _ _ _ _ _ _ (by show _ = aU 0 g (nI j); unfold aU; rw [if_pos c_2, show nx (nI j) = j from hjc, ← (hla j hj1).2.2]; rfl) (trivial) (rfl) hP hD hS (Nat.le_of_ble_eq_true rfl) (Nat.le_of_ble_eq_true rfl) dX3_downStrength_20
  · refine lv_iconst (v := -1) hx hb dX3_downStrength_8 (by decide) ?_
    exact ret (de, ss, up, dn) _ _ _ _ _ _ _ _ (by show _ = aU 0 g x; unfold aU; rw [if_neg (by rw [c_2]; decide)]) (trivial) (rfl) hP hD hS (Nat.le_of_ble_eq_true rfl) (Nat.le_of_ble_eq_true rfl) dX3_downStrength_9
abbrev rm_X3_steadyValue : Room := { frames := 4, cells := 0, slots := 0, locals := 93 }
set_option maxHeartbeats 4000000 in
set_option maxRecDepth 100000 in
theorem c_X3_steadyValue (l : Launch) (dC : Nat → ClassId) (dI : Nat → Nat → Nat) (cI cZ cR cG : ClassId) (ad : Nat → Nat) (g de ss up dn : Nat → Nat) (x : Int32) (ok : okG g) : CI l (dC, dI) (tyL cI cZ cR cG) yX3_steadyValue wsX3_steadyValue rm_X3_steadyValue [.ref (ad 0), .int x] (lW cI ad g de ss up dn) (S := F4) (fun _ => aSv g x) (fun _ => True) (fun u => lW cI ad g u.1 u.2.1 u.2.2.1 u.2.2.2) := by
  refine CI.of (cc := cX3_steadyValue) (maxL := 2) (rt := .int) (lv := [(0, .ref (ad 0)), (1, .int x)]) (by decide) rfl (Nat.le_of_ble_eq_true rfl) rfl (Or.inl rfl) ?_
  intro p e s m ar below meth c A Qz ls hx hb hml hown hts hnm hA hS hP hK hD hl ret
  have h0 := ok.1
  have h1 := ok.2.1
  refine lv_aload_n hx hb dX3_steadyValue_0 rfl (lv_at hl 0 rfl) ?_
  refine lv_iload_n hx hb dX3_steadyValue_1 rfl (lv_at hl 1 rfl) ?_
  refine CI.callV (As := [.int x]) (rest := []) (w3 := (fun _ => lW cI ad g de ss up dn)) (c_X3_isNode l dC dI cI cZ cR cG ad g x (ok.1)) ⟨hx, hb, hml, hown, hts⟩ (cwV 1 hts gX3_steadyValue_X3_isNode rfl rfl rfl (by decide +kernel) ⟨Nat.le_of_ble_eq_true rfl, Nat.le_of_ble_eq_true rfl⟩) rfl hl.1 (Nat.le_of_ble_eq_true rfl) dX3_steadyValue_2 ⟨Nat.le_of_ble_eq_true rfl, Nat.le_of_ble_eq_true rfl⟩ hA hS hP hK hD [0, 1] [2, 3, 4, 5] rfl rfl (by decide) (by decide) (by decide) 0 3 rfl rfl [4, 5, 0, 1, 2, 3] (by decide) (fun _ => rfl) rfl (fun _ H locs hp_1 hP hD hS => ?_)
  refine my_if_neB (x := (inN x (g 0))) (tgt := 10) hx hb dX3_steadyValue_5 (by decide) (fun c_2 => ?_) (fun c_2 => ?_)
  · obtain ⟨j, hj1, hj2, rfl, hjc⟩ := inN_at c_2
    refine lv_aload_n hx hb dX3_steadyValue_10 rfl (lv_at hl 0 rfl) ?_
    refine CV.callV (As := []) (rest := []) (w3 := (fun ⟨w_de, w_ss, w_up, w_dn⟩ => lW cI ad g w_de w_ss w_up w_dn)) (c_X3_layAll l dC dI cI cZ cR cG ad g de ss up dn (ok)) ⟨hx, hb, hml, hown, hts⟩ (cwV 0 hts gX3_steadyValue_X3_layAll rfl rfl rfl (by decide +kernel) ⟨Nat.le_of_ble_eq_true rfl, Nat.le_of_ble_eq_true rfl⟩) rfl hl.1 (Nat.le_of_ble_eq_true rfl) dX3_steadyValue_11 ⟨Nat.le_of_ble_eq_true rfl, Nat.le_of_ble_eq_true rfl⟩ hA hS hP hK hD [0, 1, 2, 3, 4, 5] [] rfl rfl (by decide) (by decide) (by decide) 0 3 rfl rfl [0, 1, 2, 3, 4, 5] (by decide) (fun _ => rfl) rfl (fun ⟨w_de, w_ss, w_up, w_dn⟩ H locs hp_3 hP hD hS => ?_)
    have hP : va_P (dC, dI) vwCl (lW cI ad g w_de w_ss w_up w_dn) H := hP
    have hD : va_D A (lW cI ad g w_de w_ss w_up w_dn) := hD
    have hla : ∀ n, n < g 0 → w_de n = qF g n ∧ w_up n = uF g 1 n ∧ w_dn n = uF g 0 n := hp_3
    refine lv_aload_n hx hb dX3_steadyValue_14 rfl (lv_at hl 0 rfl) ?_
    refine lv_iload_n hx hb dX3_steadyValue_15 rfl (lv_at hl 1 rfl) ?_
    refine CI.callV (As := [.int (nI j)]) (rest := []) (w3 := (fun _ => lW cI ad g w_de w_ss w_up w_dn)) (c_X3_steady l dC dI cI cZ cR cG ad g w_de w_ss w_up w_dn j (by omega) (⟨(ok.2.2.1 j hj1).1, (ok.2.2.1 j hj1).2, by rw [(hla j hj1).2.1]; exact u_le7 ok _ _, by rw [(hla j hj1).2.2]; exact u_le7 ok _ _⟩)) ⟨hx, hb, hml, hown, hts⟩ (cwV 1 hts gX3_steadyValue_X3_steady rfl rfl rfl (by decide +kernel) ⟨Nat.le_of_ble_eq_true rfl, Nat.le_of_ble_eq_true rfl⟩) rfl hl.1 (Nat.le_of_ble_eq_true rfl) dX3_steadyValue_16 ⟨Nat.le_of_ble_eq_true rfl, Nat.le_of_ble_eq_true rfl⟩ hA hS hP hK hD [0, 1, 2, 3, 4, 5] [] rfl rfl (by decide) (by decide) (by decide) 0 3 rfl rfl [0, 1, 2, 3, 4, 5] (by decide) (fun _ => rfl) rfl (fun _ H locs hp_4 hP hD hS => ?_)
    exact ret (w_de, w_ss, w_up, w_dn) _ _ _ _ _ _ _ _ (by show _ = aSv g (nI j); unfold aSv; rw [if_pos c_2, show nx (nI j) = j from hjc]; exact congrArg nI (stR_eq rfl rfl (hla j hj1).2.1 (hla j hj1).2.2)) (trivial) (rfl) hP hD hS (Nat.le_of_ble_eq_true rfl) (Nat.le_of_ble_eq_true rfl) dX3_steadyValue_19
  · refine lv_iconst (v := -1) hx hb dX3_steadyValue_8 (by decide) ?_
    exact ret (de, ss, up, dn) _ _ _ _ _ _ _ _ (by show _ = aSv g x; unfold aSv; rw [if_neg (by rw [c_2]; decide)]) (trivial) (rfl) hP hD hS (Nat.le_of_ble_eq_true rfl) (Nat.le_of_ble_eq_true rfl) dX3_steadyValue_9
abbrev rm_X3_activeNow : Room := { frames := 4, cells := 0, slots := 0, locals := 93 }
set_option maxHeartbeats 4000000 in
set_option maxRecDepth 100000 in
theorem c_X3_activeNow (l : Launch) (dC : Nat → ClassId) (dI : Nat → Nat → Nat) (cI cZ cR cG : ClassId) (ad : Nat → Nat) (g de ss up dn : Nat → Nat) (ok : okG g) : CI l (dC, dI) (tyL cI cZ cR cG) yX3_activeNow wsX3_activeNow rm_X3_activeNow [.ref (ad 0)] (lW cI ad g de ss up dn) (S := F4) (fun _ => msk (act g)) (fun u => ∀ n, n < g 0 → u.1 n = qF g n ∧ u.2.2.1 n = uF g 1 n ∧ u.2.2.2 n = uF g 0 n) (fun u => lW cI ad g u.1 u.2.1 u.2.2.1 u.2.2.2) := by
  refine CI.of (cc := cX3_activeNow) (maxL := 3) (rt := .int) (lv := [(0, .ref (ad 0))]) (by decide) rfl (Nat.le_of_ble_eq_true rfl) rfl (Or.inl rfl) ?_
  intro p e s m ar below meth c A Qz ls hx hb hml hown hts hnm hA hS hP hK hD hl ret
  have h0 := ok.1
  have h1 := ok.2.1
  refine lv_aload_n hx hb dX3_activeNow_0 rfl (lv_at hl 0 rfl) ?_
  refine CV.callV (As := []) (rest := []) (w3 := (fun ⟨w_de, w_ss, w_up, w_dn⟩ => lW cI ad g w_de w_ss w_up w_dn)) (c_X3_layAll l dC dI cI cZ cR cG ad g de ss up dn (ok)) ⟨hx, hb, hml, hown, hts⟩ (cwV 0 hts gX3_activeNow_X3_layAll rfl rfl rfl (by decide +kernel) ⟨Nat.le_of_ble_eq_true rfl, Nat.le_of_ble_eq_true rfl⟩) rfl hl.1 (Nat.le_of_ble_eq_true rfl) dX3_activeNow_1 ⟨Nat.le_of_ble_eq_true rfl, Nat.le_of_ble_eq_true rfl⟩ hA hS hP hK hD [0, 1, 2, 3, 4, 5] [] rfl rfl (by decide) (by decide) (by decide) 0 3 rfl rfl [0, 1, 2, 3, 4, 5] (by decide) (fun _ => rfl) rfl (fun ⟨w_de, w_ss, w_up, w_dn⟩ H locs hp_1 hP hD hS => ?_)
  have hP : va_P (dC, dI) vwCl (lW cI ad g w_de w_ss w_up w_dn) H := hP
  have hD : va_D A (lW cI ad g w_de w_ss w_up w_dn) := hD
  have hla : ∀ n, n < g 0 → w_de n = qF g n ∧ w_up n = uF g 1 n ∧ w_dn n = uF g 0 n := hp_1
  refine lv_iconst (v := nI 0) hx hb dX3_activeNow_4 (by decide) ?_
  refine lv_istore_n (lv' := [(1, .int (nI 0)), (0, .ref (ad 0))]) hx hb dX3_activeNow_5 rfl hl (by decide) rfl (fun ls hl => ?_)
  refine lv_iconst (v := nI 0) hx hb dX3_activeNow_6 (by decide) ?_
  refine lv_istore_n (lv' := [(2, .int (nI 0)), (1, .int (nI 0)), (0, .ref (ad 0))]) hx hb dX3_activeNow_7 rfl hl (by decide) rfl (fun ls hl => ?_)
  have key_8 : ∀ (fu : Nat) (n : Nat), (g 0 - n) < fu → (n ≤ g 0) → ∀ (H : Heap) (locs : List Loc) (ls : Array Slot), va_P (dC, dI) vwCl (lW cI ad g w_de w_ss w_up w_dn) H → va_D A (lW cI ad g w_de w_ss w_up w_dn) → va_S A s.heap H locs → lv_has ls 3 [(2, .int (nI n)), (1, .int (mk (act g) n)), (0, .ref (ad 0))] → W p l e rm_X3_activeNow s m ar below meth c H locs 0 0 Qz (F0 m 8 ls []) := by
    intro fu
    induction fu with
    | zero => intro n hmu; exact absurd hmu (Nat.not_lt_zero _)
    | succ fu ih_8 =>
      intro n hmu_8 hn H locs ls hP hD hS hl
      refine lv_iload_n hx hb dX3_activeNow_8 rfl (lv_at hl 0 rfl) ?_
      refine lv_aload_n hx hb dX3_activeNow_9 rfl (lv_at hl 2 rfl) ?_
      refine CI.callV (As := []) (rest := [.int (nI n)]) (w3 := (fun _ => lW cI ad g w_de w_ss w_up w_dn)) (c_X3_nodes l dC dI cI cZ cR cG ad g) ⟨hx, hb, hml, hown, hts⟩ (cwV 0 hts gX3_activeNow_X3_nodes rfl rfl rfl (by decide +kernel) ⟨Nat.le_of_ble_eq_true rfl, Nat.le_of_ble_eq_true rfl⟩) rfl hl.1 (Nat.le_of_ble_eq_true rfl) dX3_activeNow_10 ⟨Nat.le_of_ble_eq_true rfl, Nat.le_of_ble_eq_true rfl⟩ hA hS hP hK hD [0, 1] [2, 3, 4, 5] rfl rfl (by decide) (by decide) (by decide) 0 3 rfl rfl [4, 5, 0, 1, 2, 3] (by decide) (fun _ => rfl) rfl (fun _ H locs hp_3 hP hD hS => ?_)
      refine my_icmp_ge (x := n) (y := (g 0)) (tgt := 49) hx hb (by omega) (by omega) dX3_activeNow_13 (by decide) (fun c_4 => ?_) (fun c_4 => ?_)
      · refine lv_iload_n hx hb dX3_activeNow_49 rfl (lv_at hl 1 rfl) ?_
        exact ret (w_de, w_ss, w_up, w_dn) _ _ _ _ _ _ _ _ (by show mk (act g) n = msk (act g); rw [show n = g 0 by omega, mk_act g ok.1]) (hla) (rfl) hP hD hS (Nat.le_of_ble_eq_true rfl) (Nat.le_of_ble_eq_true rfl) dX3_activeNow_50
      · refine lv_iload_n hx hb dX3_activeNow_16 rfl (lv_at hl 1 rfl) ?_
        refine lv_aload_n hx hb dX3_activeNow_17 rfl (lv_at hl 2 rfl) ?_
        refine lv_iload_n hx hb dX3_activeNow_18 rfl (lv_at hl 0 rfl) ?_
        refine CI.callV (As := [.int (nI n)]) (rest := [.int (mk (act g) n)]) (w3 := (fun _ => lW cI ad g w_de w_ss w_up w_dn)) (c_X3_steady l dC dI cI cZ cR cG ad g w_de w_ss w_up w_dn n (by omega) (⟨(ok.2.2.1 n (by omega)).1, (ok.2.2.1 n (by omega)).2, by rw [(hla n (by omega)).2.1]; exact u_le7 ok _ _, by rw [(hla n (by omega)).2.2]; exact u_le7 ok _ _⟩)) ⟨hx, hb, hml, hown, hts⟩ (cwV 1 hts gX3_activeNow_X3_steady rfl rfl rfl (by decide +kernel) ⟨Nat.le_of_ble_eq_true rfl, Nat.le_of_ble_eq_true rfl⟩) rfl hl.1 (Nat.le_of_ble_eq_true rfl) dX3_activeNow_19 ⟨Nat.le_of_ble_eq_true rfl, Nat.le_of_ble_eq_true rfl⟩ hA hS hP hK hD [0, 1, 2, 3, 4, 5] [] rfl rfl (by decide) (by decide) (by decide) 0 3 rfl rfl [0, 1, 2, 3, 4, 5] (by decide) (fun _ => rfl) rfl (fun _ H locs hp_5 hP hD hS => ?_)
        refine my_cast (show nI (stR g w_up w_dn n) = nI (stv g n) from congrArg nI (stR_eq rfl rfl (hla n (by omega)).2.1 (hla n (by omega)).2.2)) ?_
        have hsv := stv_le ok (show n < g 0 by omega)
        have hvl := (ok.2.2.1 n (by omega)).2
        refine lv_aload_n hx hb dX3_activeNow_22 rfl (lv_at hl 2 rfl) ?_
        refine va_get (D := (dC, dI)) (ci := 3) (v := .ref (ad 1)) (C := RX3) (T := TX3) (N := 8) hx hb hts (fun _ h9 => List.mem_cons_of_mem _ (List.mem_append_right _ h9)) hown hK hP 0 rfl rfl 0 (by decide) (hts (.fieldLink RX3 7 "SwitchLevelSimulatorModel" "state" "[I") (List.mem_of_getElem? (i := 1) rfl)) (fun _ h9 => h9) rfl dX3_activeNow_23 ?_
        refine lv_bipush (v := nI 26) hx hb dX3_activeNow_26 (by decide) ?_
        refine lv_iload_n hx hb dX3_activeNow_28 rfl (lv_at hl 0 rfl) ?_
        refine my_iadd (x := 26) (y := n) hx hb dX3_activeNow_29 ?_
        refine my_iald (i := (26 + n)) hx hb hK hP 1 0 rfl rfl (by omega) (by decide) dX3_activeNow_30 ?_
        refine my_icmp_eq (x := (stv g n)) (y := (g (26 + n))) (tgt := 40) hx hb (by omega) (by omega) dX3_activeNow_31 (by decide) (fun c_6 => ?_) (fun c_6 => ?_)
        · refine lv_iconst (v := nI 0) hx hb dX3_activeNow_40 (by decide) ?_
          refine lv_ior hx hb dX3_activeNow_41 ?_
          refine my_cast (show (mk (act g) n) ||| (nI 0) = mk (act g) (n + 1) from by show _ = mk (act g) n ||| (if act g n = true then (1 : Int32) <<< (nI n &&& 31) else 0); rw [if_neg (by unfold act; rw [decide_eq_true c_6]; simp)]; try rfl) ?_
          refine lv_istore_n (lv' := [(1, .int (mk (act g) (n + 1))), (2, .int (nI n)), (0, .ref (ad 0))]) hx hb dX3_activeNow_42 rfl hl (by decide) rfl (fun ls hl => ?_)
          refine my_iinc (k := 1) (x := n) (d := 1) (lv' := [(2, .int (nI (n + 1))), (1, .int (mk (act g) (n + 1))), (0, .ref (ad 0))]) hx hb dX3_activeNow_43 hl rfl (by decide) (by decide) rfl (fun ls hl => ?_)
          refine lv_goto (tgt := 8) hx hb dX3_activeNow_46 (by decide) ?_
          exact ih_8 (n + 1) (by omega) (by omega) _ _ _ hP hD hS (lv_sub hl [0, 1, 2] rfl)
        · refine lv_iconst (v := nI 1) hx hb dX3_activeNow_34 (by decide) ?_
          refine lv_iload_n hx hb dX3_activeNow_35 rfl (lv_at hl 0 rfl) ?_
          refine lv_ishl hx hb dX3_activeNow_36 ?_
          refine lv_goto (tgt := 41) hx hb dX3_activeNow_37 (by decide) ?_
          refine lv_ior hx hb dX3_activeNow_41 ?_
          refine my_cast (show (mk (act g) n) ||| ((1 : Int32) <<< (nI n &&& 31)) = mk (act g) (n + 1) from by show _ = mk (act g) n ||| (if act g n = true then (1 : Int32) <<< (nI n &&& 31) else 0); rw [if_pos (by unfold act; rw [decide_eq_false c_6, decide_eq_true (show n < g 0 by omega)]; rfl)]; try rfl) ?_
          refine lv_istore_n (lv' := [(1, .int (mk (act g) (n + 1))), (2, .int (nI n)), (0, .ref (ad 0))]) hx hb dX3_activeNow_42 rfl hl (by decide) rfl (fun ls hl => ?_)
          refine my_iinc (k := 1) (x := n) (d := 1) (lv' := [(2, .int (nI (n + 1))), (1, .int (mk (act g) (n + 1))), (0, .ref (ad 0))]) hx hb dX3_activeNow_43 hl rfl (by decide) (by decide) rfl (fun ls hl => ?_)
          refine lv_goto (tgt := 8) hx hb dX3_activeNow_46 (by decide) ?_
          exact ih_8 (n + 1) (by omega) (by omega) _ _ _ hP hD hS (lv_sub hl [0, 1, 2] rfl)
  exact key_8 _ 0 (Nat.lt_succ_self _) (Nat.zero_le _) _ _ _ hP hD hS (lv_sub hl [0, 1, 2] rfl)
abbrev rm_X3_stepNow : Room := { frames := 5, cells := 0, slots := 0, locals := 115 }
set_option maxHeartbeats 4000000 in
set_option maxRecDepth 100000 in
theorem c_X3_stepNow (l : Launch) (dC : Nat → ClassId) (dI : Nat → Nat → Nat) (cI cZ cR cG : ClassId) (ad : Nat → Nat) (g de ss up dn : Nat → Nat) (ok : okG g) : CI l (dC, dI) (tyL cI cZ cR cG) yX3_stepNow wsX3_stepNow rm_X3_stepNow [.ref (ad 0)] (lW cI ad g de ss up dn) (S := F4) (fun _ => msk (act g)) (fun _ => True) (fun u => lW cI ad (stp g) u.1 u.2.1 u.2.2.1 u.2.2.2) := by
  refine CI.of (cc := cX3_stepNow) (maxL := 3) (rt := .int) (lv := [(0, .ref (ad 0))]) (by decide) rfl (Nat.le_of_ble_eq_true rfl) rfl (Or.inl rfl) ?_
  intro p e s m ar below meth c A Qz ls hx hb hml hown hts hnm hA hS hP hK hD hl ret
  have h0 := ok.1
  have h1 := ok.2.1
  refine lv_aload_n hx hb dX3_stepNow_0 rfl (lv_at hl 0 rfl) ?_
  refine CI.callV (As := []) (rest := []) (w3 := (fun ⟨w_de, w_ss, w_up, w_dn⟩ => lW cI ad g w_de w_ss w_up w_dn)) (c_X3_activeNow l dC dI cI cZ cR cG ad g de ss up dn  (ok)) ⟨hx, hb, hml, hown, hts⟩ (cwV 0 hts gX3_stepNow_X3_activeNow rfl rfl rfl (by decide +kernel) ⟨Nat.le_of_ble_eq_true rfl, Nat.le_of_ble_eq_true rfl⟩) rfl hl.1 (Nat.le_of_ble_eq_true rfl) dX3_stepNow_1 ⟨Nat.le_of_ble_eq_true rfl, Nat.le_of_ble_eq_true rfl⟩ hA hS hP hK hD [0, 1, 2, 3, 4, 5] [] rfl rfl (by decide) (by decide) (by decide) 0 3 rfl rfl [0, 1, 2, 3, 4, 5] (by decide) (fun _ => rfl) rfl (fun ⟨w_de, w_ss, w_up, w_dn⟩ H locs hp_1 hP hD hS => ?_)
  have hP : va_P (dC, dI) vwCl (lW cI ad g w_de w_ss w_up w_dn) H := hP
  have hD : va_D A (lW cI ad g w_de w_ss w_up w_dn) := hD
  have hla : ∀ n, n < g 0 → w_de n = qF g n ∧ w_up n = uF g 1 n ∧ w_dn n = uF g 0 n := hp_1
  refine lv_istore_n (lv' := [(1, .int (msk (act g))), (0, .ref (ad 0))]) hx hb dX3_stepNow_4 rfl hl (by decide) rfl (fun ls hl => ?_)
  refine lv_iconst (v := nI 0) hx hb dX3_stepNow_5 (by decide) ?_
  refine lv_istore_n (lv' := [(2, .int (nI 0)), (1, .int (msk (act g))), (0, .ref (ad 0))]) hx hb dX3_stepNow_6 rfl hl (by decide) rfl (fun ls hl => ?_)
  rw [← stK_0 g] at hP hD
  have key_7 : ∀ (fu : Nat) (n : Nat), (g 0 - n) < fu → (n ≤ g 0) → ∀ (H : Heap) (locs : List Loc) (ls : Array Slot), va_P (dC, dI) vwCl (lW cI ad (stK g n) w_de w_ss w_up w_dn) H → va_D A (lW cI ad (stK g n) w_de w_ss w_up w_dn) → va_S A s.heap H locs → lv_has ls 3 [(2, .int (nI n)), (1, .int (msk (act g))), (0, .ref (ad 0))] → W p l e rm_X3_stepNow s m ar below meth c H locs 0 0 Qz (F0 m 7 ls []) := by
    intro fu
    induction fu with
    | zero => intro n hmu; exact absurd hmu (Nat.not_lt_zero _)
    | succ fu ih_7 =>
      intro n hmu_7 hn H locs ls hP hD hS hl
      refine lv_iload_n hx hb dX3_stepNow_7 rfl (lv_at hl 0 rfl) ?_
      refine lv_aload_n hx hb dX3_stepNow_8 rfl (lv_at hl 2 rfl) ?_
      refine CI.callV (As := []) (rest := [.int (nI n)]) (w3 := (fun _ => lW cI ad (stK g n) w_de w_ss w_up w_dn)) (c_X3_nodes l dC dI cI cZ cR cG ad (stK g n)) ⟨hx, hb, hml, hown, hts⟩ (cwV 0 hts gX3_stepNow_X3_nodes rfl rfl rfl (by decide +kernel) ⟨Nat.le_of_ble_eq_true rfl, Nat.le_of_ble_eq_true rfl⟩) rfl hl.1 (Nat.le_of_ble_eq_true rfl) dX3_stepNow_9 ⟨Nat.le_of_ble_eq_true rfl, Nat.le_of_ble_eq_true rfl⟩ hA hS hP hK hD [0, 1] [2, 3, 4, 5] rfl rfl (by decide) (by decide) (by decide) 0 3 rfl rfl [4, 5, 0, 1, 2, 3] (by decide) (fun _ => rfl) rfl (fun _ H locs hp_3 hP hD hS => ?_)
      refine my_cast (show nI ((stK g n) 0) = nI (g 0) from by rw [stK_o (Or.inl (by omega))]) ?_
      refine my_icmp_ge (x := n) (y := (g 0)) (tgt := 35) hx hb (by omega) (by omega) dX3_stepNow_12 (by decide) (fun c_4 => ?_) (fun c_4 => ?_)
      · refine lv_iload_n hx hb dX3_stepNow_35 rfl (lv_at hl 1 rfl) ?_
        exact ret (w_de, w_ss, w_up, w_dn) _ _ _ _ _ _ _ _ (rfl) (trivial) (by show lW cI ad (stp g) _ _ _ _ = _; rw [← stK_e g, show n = g 0 by omega]) hP hD hS (Nat.le_of_ble_eq_true rfl) (Nat.le_of_ble_eq_true rfl) dX3_stepNow_36
      · refine lv_aload_n hx hb dX3_stepNow_15 rfl (lv_at hl 2 rfl) ?_
        refine va_get (D := (dC, dI)) (ci := 3) (v := .ref (ad 1)) (C := RX3) (T := TX3) (N := 8) hx hb hts (fun _ h9 => List.mem_cons_of_mem _ (List.mem_append_right _ h9)) hown hK hP 0 rfl rfl 0 (by decide) (hts (.fieldLink RX3 7 "SwitchLevelSimulatorModel" "state" "[I") (List.mem_of_getElem? (i := 1) rfl)) (fun _ h9 => h9) rfl dX3_stepNow_16 ?_
        refine lv_bipush (v := nI 26) hx hb dX3_stepNow_19 (by decide) ?_
        refine lv_iload_n hx hb dX3_stepNow_21 rfl (lv_at hl 0 rfl) ?_
        refine my_iadd (x := 26) (y := n) hx hb dX3_stepNow_22 ?_
        refine lv_aload_n hx hb dX3_stepNow_23 rfl (lv_at hl 2 rfl) ?_
        refine lv_iload_n hx hb dX3_stepNow_24 rfl (lv_at hl 0 rfl) ?_
        refine CI.callV (As := [.int (nI n)]) (rest := [.int (nI (26 + n)), .ref (ad 1)]) (w3 := (fun _ => lW cI ad (stK g n) w_de w_ss w_up w_dn)) (c_X3_steady l dC dI cI cZ cR cG ad (stK g n) w_de w_ss w_up w_dn n (by omega) (⟨by rw [stK_o (Or.inl (by omega))]; exact (ok.2.2.1 n (by omega)).1, by rw [stK_o (Or.inr (by omega))]; exact (ok.2.2.1 n (by omega)).2, by rw [(hla n (by omega)).2.1]; exact u_le7 ok _ _, by rw [(hla n (by omega)).2.2]; exact u_le7 ok _ _⟩)) ⟨hx, hb, hml, hown, hts⟩ (cwV 1 hts gX3_stepNow_X3_steady rfl rfl rfl (by decide +kernel) ⟨Nat.le_of_ble_eq_true rfl, Nat.le_of_ble_eq_true rfl⟩) rfl hl.1 (Nat.le_of_ble_eq_true rfl) dX3_stepNow_25 ⟨Nat.le_of_ble_eq_true rfl, Nat.le_of_ble_eq_true rfl⟩ hA hS hP hK hD [0, 1, 2, 3, 4, 5] [] rfl rfl (by decide) (by decide) (by decide) 0 3 rfl rfl [0, 1, 2, 3, 4, 5] (by decide) (fun _ => rfl) rfl (fun _ H locs hp_5 hP hD hS => ?_)
        refine my_cast (show nI (stR (stK g n) w_up w_dn n) = nI (stv g n) from congrArg nI (stR_eq (stK_o (Or.inl (by omega))) (stK_o (Or.inr (by omega))) (hla n (by omega)).2.1 (hla n (by omega)).2.2)) ?_
        refine my_iastN (i := (26 + n)) (x := (stv g n)) (g := (stK g n)) (ws' := lW cI ad (up1 (stK g n) (26 + n) (stv g n)) w_de w_ss w_up w_dn) hx hb hK hP hD hS 1 0 rfl rfl (by omega) (by decide) dX3_stepNow_28 rfl (fun H locs hP hD hS => ?_)
        refine my_iinc (k := 0) (x := n) (d := 1) (lv' := [(2, .int (nI (n + 1))), (1, .int (msk (act g))), (0, .ref (ad 0))]) hx hb dX3_stepNow_29 hl rfl (by decide) (by decide) rfl (fun ls hl => ?_)
        refine lv_goto (tgt := 7) hx hb dX3_stepNow_32 (by decide) ?_
        rw [stK_s g n] at hP hD
        exact ih_7 (n + 1) (by omega) (by omega) _ _ _ hP hD hS (lv_sub hl [0, 1, 2] rfl)
  exact key_7 _ 0 (Nat.lt_succ_self _) (Nat.zero_le _) _ _ _ hP hD hS (lv_sub hl [0, 1, 2] rfl)
abbrev rm_X3_step : Room := { frames := 6, cells := 0, slots := 0, locals := 137 }
set_option maxHeartbeats 4000000 in
set_option maxRecDepth 100000 in
theorem c_X3_step (l : Launch) (dC : Nat → ClassId) (dI : Nat → Nat → Nat) (cI cZ cR cG : ClassId) (ad : Nat → Nat) (g de ss up dn : Nat → Nat) (ok : okG g) : CI l (dC, dI) (tyL cI cZ cR cG) yX3_step wsX3_step rm_X3_step [.ref (ad 0)] (lW cI ad g de ss up dn) (S := F4) (fun _ => msk (act g)) (fun _ => True) (fun u => lW cI ad (stp g) u.1 u.2.1 u.2.2.1 u.2.2.2) := by
  refine CI.of (cc := cX3_step) (maxL := 1) (rt := .int) (lv := [(0, .ref (ad 0))]) (by decide) rfl (Nat.le_of_ble_eq_true rfl) rfl (Or.inl rfl) ?_
  intro p e s m ar below meth c A Qz ls hx hb hml hown hts hnm hA hS hP hK hD hl ret
  have h0 := ok.1
  have h1 := ok.2.1
  refine lv_aload_n hx hb dX3_step_0 rfl (lv_at hl 0 rfl) ?_
  refine CI.callV (As := []) (rest := []) (w3 := (fun ⟨w_de, w_ss, w_up, w_dn⟩ => lW cI ad (stp g) w_de w_ss w_up w_dn)) (c_X3_stepNow l dC dI cI cZ cR cG ad g de ss up dn  (ok)) ⟨hx, hb, hml, hown, hts⟩ (cwV 0 hts gX3_step_X3_stepNow rfl rfl rfl (by decide +kernel) ⟨Nat.le_of_ble_eq_true rfl, Nat.le_of_ble_eq_true rfl⟩) rfl hl.1 (Nat.le_of_ble_eq_true rfl) dX3_step_1 ⟨Nat.le_of_ble_eq_true rfl, Nat.le_of_ble_eq_true rfl⟩ hA hS hP hK hD [0, 1, 2, 3, 4, 5] [] rfl rfl (by decide) (by decide) (by decide) 0 3 rfl rfl [0, 1, 2, 3, 4, 5] (by decide) (fun _ => rfl) rfl (fun ⟨w_de, w_ss, w_up, w_dn⟩ H locs hp_1 hP hD hS => ?_)
  have hP : va_P (dC, dI) vwCl (lW cI ad (stp g) w_de w_ss w_up w_dn) H := hP
  have hD : va_D A (lW cI ad (stp g) w_de w_ss w_up w_dn) := hD
  exact ret (w_de, w_ss, w_up, w_dn) _ _ _ _ _ _ _ _ (rfl) (trivial) (rfl) hP hD hS (Nat.le_of_ble_eq_true rfl) (Nat.le_of_ble_eq_true rfl) dX3_step_4
abbrev rm_X3_active : Room := { frames := 5, cells := 0, slots := 0, locals := 115 }
set_option maxHeartbeats 4000000 in
set_option maxRecDepth 100000 in
theorem c_X3_active (l : Launch) (dC : Nat → ClassId) (dI : Nat → Nat → Nat) (cI cZ cR cG : ClassId) (ad : Nat → Nat) (g de ss up dn : Nat → Nat) (ok : okG g) : CI l (dC, dI) (tyL cI cZ cR cG) yX3_active wsX3_active rm_X3_active [.ref (ad 0)] (lW cI ad g de ss up dn) (S := F4) (fun _ => msk (act g)) (fun _ => True) (fun u => lW cI ad g u.1 u.2.1 u.2.2.1 u.2.2.2) := by
  refine CI.of (cc := cX3_active) (maxL := 1) (rt := .int) (lv := [(0, .ref (ad 0))]) (by decide) rfl (Nat.le_of_ble_eq_true rfl) rfl (Or.inl rfl) ?_
  intro p e s m ar below meth c A Qz ls hx hb hml hown hts hnm hA hS hP hK hD hl ret
  have h0 := ok.1
  have h1 := ok.2.1
  refine lv_aload_n hx hb dX3_active_0 rfl (lv_at hl 0 rfl) ?_
  refine CI.callV (As := []) (rest := []) (w3 := (fun ⟨w_de, w_ss, w_up, w_dn⟩ => lW cI ad g w_de w_ss w_up w_dn)) (c_X3_activeNow l dC dI cI cZ cR cG ad g de ss up dn  (ok)) ⟨hx, hb, hml, hown, hts⟩ (cwV 0 hts gX3_active_X3_activeNow rfl rfl rfl (by decide +kernel) ⟨Nat.le_of_ble_eq_true rfl, Nat.le_of_ble_eq_true rfl⟩) rfl hl.1 (Nat.le_of_ble_eq_true rfl) dX3_active_1 ⟨Nat.le_of_ble_eq_true rfl, Nat.le_of_ble_eq_true rfl⟩ hA hS hP hK hD [0, 1, 2, 3, 4, 5] [] rfl rfl (by decide) (by decide) (by decide) 0 3 rfl rfl [0, 1, 2, 3, 4, 5] (by decide) (fun _ => rfl) rfl (fun ⟨w_de, w_ss, w_up, w_dn⟩ H locs hp_1 hP hD hS => ?_)
  have hP : va_P (dC, dI) vwCl (lW cI ad g w_de w_ss w_up w_dn) H := hP
  have hD : va_D A (lW cI ad g w_de w_ss w_up w_dn) := hD
  exact ret (w_de, w_ss, w_up, w_dn) _ _ _ _ _ _ _ _ (rfl) (trivial) (rfl) hP hD hS (Nat.le_of_ble_eq_true rfl) (Nat.le_of_ble_eq_true rfl) dX3_active_4
abbrev rm_X3_isLimit : Room := { frames := 1, cells := 0, slots := 0, locals := 22 }
set_option maxHeartbeats 4000000 in
set_option maxRecDepth 100000 in
theorem c_X3_isLimit (l : Launch) (dC : Nat → ClassId) (dI : Nat → Nat → Nat) (cI cZ cR cG : ClassId) (x : Int32) : CI l (dC, dI) (tyL cI cZ cR cG) yX3_isLimit wsX3_isLimit rm_X3_isLimit [.int x] ([]) (S := Unit) (fun _ => bI (inR x 1 100)) (fun _ => True) (fun _ => []) := by
  refine CI.of (cc := cX3_isLimit) (maxL := 1) (rt := .boolean) (lv := [(0, .int x)]) (by decide) rfl (Nat.le_of_ble_eq_true rfl) rfl (Or.inr ⟨rfl, fun _ => nar_bI _⟩) ?_
  intro p e s m ar below meth c A Qz ls hx hb hml hown hts hnm hA hS hP hK hD hl ret
  refine lv_iload_n hx hb dX3_isLimit_0 rfl (lv_at hl 0 rfl) ?_
  refine lv_iconst (v := nI 1) hx hb dX3_isLimit_1 (by decide) ?_
  refine lv_bipush (v := nI 100) hx hb dX3_isLimit_2 (by decide) ?_
  refine CI.callS (As := [.int x, .int (nI 1), .int (nI 100)]) (rest := []) (w3 := (fun _ => [])) (c_X3_inR l dC dI cI cZ cR cG x 1 100 (by decide) (by decide)) ⟨hx, hb, hml, hown, hts⟩ (va_cwS 3 hts gX3_isLimit_X3_in rfl rfl rfl (by decide +kernel) ⟨Nat.le_of_ble_eq_true rfl, Nat.le_of_ble_eq_true rfl⟩) rfl hl.1 (Nat.le_of_ble_eq_true rfl) dX3_isLimit_4 ⟨Nat.le_of_ble_eq_true rfl, Nat.le_of_ble_eq_true rfl⟩ hA hS hP hK hD [] [] rfl rfl (by decide) (by decide) (by decide) [] (by decide) (fun _ => rfl) rfl (fun _ H locs hp_1 hP hD hS => ?_)
  exact ret () _ _ _ _ _ _ _ _ (rfl) (trivial) (rfl) hP hD hS (Nat.le_of_ble_eq_true rfl) (Nat.le_of_ble_eq_true rfl) dX3_isLimit_7
abbrev rm_X3_settleNow : Room := { frames := 6, cells := 0, slots := 0, locals := 137 }
set_option maxHeartbeats 4000000 in
set_option maxRecDepth 100000 in
theorem c_X3_settleNow (l : Launch) (dC : Nat → ClassId) (dI : Nat → Nat → Nat) (cI cZ cR cG : ClassId) (ad : Nat → Nat) (g de ss up dn : Nat → Nat) (k : Nat) (ok : okG g) (hk : k < 2 ^ 30) : CI l (dC, dI) (tyL cI cZ cR cG) yX3_settleNow wsX3_settleNow rm_X3_settleNow [.ref (ad 0), .int (nI k)] (lW cI ad g de ss up dn) (S := F4) (fun _ => (setA k 0 g).1) (fun _ => True) (fun u => lW cI ad (setA k 0 g).2 u.1 u.2.1 u.2.2.1 u.2.2.2) := by
  refine CI.of (cc := cX3_settleNow) (maxL := 3) (rt := .int) (lv := [(0, .ref (ad 0)), (1, .int (nI k))]) (by decide) rfl (Nat.le_of_ble_eq_true rfl) rfl (Or.inl rfl) ?_
  intro p e s m ar below meth c A Qz ls hx hb hml hown hts hnm hA hS hP hK hD hl ret
  have h0 := ok.1
  have h1 := ok.2.1
  refine lv_iconst (v := nI 0) hx hb dX3_settleNow_0 (by decide) ?_
  refine lv_istore_n (lv' := [(2, .int (nI 0)), (0, .ref (ad 0)), (1, .int (nI k))]) hx hb dX3_settleNow_1 rfl hl (by decide) rfl (fun ls hl => ?_)
  have key_2 : ∀ (fu : Nat) (n : Nat) (f : Nat → Nat) (d1 : Nat → Nat) (d2 : Nat → Nat) (d3 : Nat → Nat) (d4 : Nat → Nat), (k - n) < fu → (n ≤ k) → (okG f) → (setA (k - n) n f = setA k 0 g) → ∀ (H : Heap) (locs : List Loc) (ls : Array Slot), va_P (dC, dI) vwCl (lW cI ad f d1 d2 d3 d4) H → va_D A (lW cI ad f d1 d2 d3 d4) → va_S A s.heap H locs → lv_has ls 3 [(2, .int (nI n)), (0, .ref (ad 0)), (1, .int (nI k))] → W p l e rm_X3_settleNow s m ar below meth c H locs 0 0 Qz (F0 m 2 ls []) := by
    intro fu
    induction fu with
    | zero => intro n f d1 d2 d3 d4 hmu; exact absurd hmu (Nat.not_lt_zero _)
    | succ fu ih_2 =>
      intro n f d1 d2 d3 d4 hmu_2 hn okf hE H locs ls hP hD hS hl
      refine lv_iload_n hx hb dX3_settleNow_2 rfl (lv_at hl 0 rfl) ?_
      refine lv_iload_n hx hb dX3_settleNow_3 rfl (lv_at hl 2 rfl) ?_
      refine my_icmp_ge (x := n) (y := k) (tgt := 22) hx hb (by omega) (by omega) dX3_settleNow_4 (by decide) (fun c_2 => ?_) (fun c_2 => ?_)
      · refine lv_aload_n hx hb dX3_settleNow_22 rfl (lv_at hl 1 rfl) ?_
        refine CI.callV (As := []) (rest := []) (w3 := (fun ⟨w_de, w_ss, w_up, w_dn⟩ => lW cI ad f w_de w_ss w_up w_dn)) (c_X3_activeNow l dC dI cI cZ cR cG ad f d1 d2 d3 d4  (okf)) ⟨hx, hb, hml, hown, hts⟩ (cwV 0 hts gX3_settleNow_X3_activeNow rfl rfl rfl (by decide +kernel) ⟨Nat.le_of_ble_eq_true rfl, Nat.le_of_ble_eq_true rfl⟩) rfl hl.1 (Nat.le_of_ble_eq_true rfl) dX3_settleNow_23 ⟨Nat.le_of_ble_eq_true rfl, Nat.le_of_ble_eq_true rfl⟩ hA hS hP hK hD [0, 1, 2, 3, 4, 5] [] rfl rfl (by decide) (by decide) (by decide) 0 3 rfl rfl [0, 1, 2, 3, 4, 5] (by decide) (fun _ => rfl) rfl (fun ⟨w_de, w_ss, w_up, w_dn⟩ H locs hp_3 hP hD hS => ?_)
        have hP : va_P (dC, dI) vwCl (lW cI ad f w_de w_ss w_up w_dn) H := hP
        have hD : va_D A (lW cI ad f w_de w_ss w_up w_dn) := hD
        refine my_if_neI (x := (msk (act f))) (tgt := 33) hx hb dX3_settleNow_26 (by decide) (fun c_4 => ?_) (fun c_4 => ?_)
        · refine lv_bipush (v := -7) hx hb dX3_settleNow_33 (by decide) ?_
          have hz : setA k 0 g = (-7, f) := by rw [← hE, show k - n = 0 by omega, setA_0, if_neg c_4]
          exact ret (w_de, w_ss, w_up, w_dn) _ _ _ _ _ _ _ _ (by show _ = (setA k 0 g).1; rw [hz]) (trivial) (by show lW cI ad (setA k 0 g).2 _ _ _ _ = _; rw [hz]) hP hD hS (Nat.le_of_ble_eq_true rfl) (Nat.le_of_ble_eq_true rfl) dX3_settleNow_35
        · refine lv_iload_n hx hb dX3_settleNow_29 rfl (lv_at hl 2 rfl) ?_
          refine lv_goto (tgt := 35) hx hb dX3_settleNow_30 (by decide) ?_
          have hz : setA k 0 g = (nI k, f) := by rw [← hE, show k - n = 0 by omega, setA_0, if_pos c_4]; rw [show n = k by omega]
          exact ret (w_de, w_ss, w_up, w_dn) _ _ _ _ _ _ _ _ (by show _ = (setA k 0 g).1; rw [hz]) (trivial) (by show lW cI ad (setA k 0 g).2 _ _ _ _ = _; rw [hz]) hP hD hS (Nat.le_of_ble_eq_true rfl) (Nat.le_of_ble_eq_true rfl) dX3_settleNow_35
      · refine lv_aload_n hx hb dX3_settleNow_7 rfl (lv_at hl 1 rfl) ?_
        refine CI.callV (As := []) (rest := []) (w3 := (fun ⟨w_de, w_ss, w_up, w_dn⟩ => lW cI ad (stp f) w_de w_ss w_up w_dn)) (c_X3_stepNow l dC dI cI cZ cR cG ad f d1 d2 d3 d4  (okf)) ⟨hx, hb, hml, hown, hts⟩ (cwV 0 hts gX3_settleNow_X3_stepNow rfl rfl rfl (by decide +kernel) ⟨Nat.le_of_ble_eq_true rfl, Nat.le_of_ble_eq_true rfl⟩) rfl hl.1 (Nat.le_of_ble_eq_true rfl) dX3_settleNow_8 ⟨Nat.le_of_ble_eq_true rfl, Nat.le_of_ble_eq_true rfl⟩ hA hS hP hK hD [0, 1, 2, 3, 4, 5] [] rfl rfl (by decide) (by decide) (by decide) 0 3 rfl rfl [0, 1, 2, 3, 4, 5] (by decide) (fun _ => rfl) rfl (fun ⟨w_de, w_ss, w_up, w_dn⟩ H locs hp_5 hP hD hS => ?_)
        have hP : va_P (dC, dI) vwCl (lW cI ad (stp f) w_de w_ss w_up w_dn) H := hP
        have hD : va_D A (lW cI ad (stp f) w_de w_ss w_up w_dn) := hD
        refine my_if_neI (x := (msk (act f))) (tgt := 16) hx hb dX3_settleNow_11 (by decide) (fun c_6 => ?_) (fun c_6 => ?_)
        · refine my_iinc (k := 0) (x := n) (d := 1) (lv' := [(2, .int (nI (n + 1))), (0, .ref (ad 0)), (1, .int (nI k))]) hx hb dX3_settleNow_16 hl rfl (by decide) (by decide) rfl (fun ls hl => ?_)
          refine lv_goto (tgt := 2) hx hb dX3_settleNow_19 (by decide) ?_
          exact ih_2 (n + 1) (stp f) w_de w_ss w_up w_dn (by omega) (by omega) (stp_ok okf) (by rw [show k - (n + 1) = k - n - 1 by omega, ← hE, show k - n = (k - n - 1) + 1 by omega, setA_s, if_neg c_6]; rfl) _ _ _ hP hD hS (lv_sub hl [0, 1, 2] rfl)
        · refine lv_iload_n hx hb dX3_settleNow_14 rfl (lv_at hl 0 rfl) ?_
          have hz : setA k 0 g = (nI n, f) := by rw [← hE]; exact setA_stable c_6
          exact ret (w_de, w_ss, w_up, w_dn) _ _ _ _ _ _ _ _ (by show _ = (setA k 0 g).1; rw [hz]) (trivial) (by show lW cI ad (setA k 0 g).2 _ _ _ _ = _; rw [hz, act_stp okf c_6]) hP hD hS (Nat.le_of_ble_eq_true rfl) (Nat.le_of_ble_eq_true rfl) dX3_settleNow_15
  exact key_2 _ 0 g de ss up dn (Nat.lt_succ_self _) (Nat.zero_le _) ok rfl _ _ _ hP hD hS (lv_sub hl [0, 1, 2] rfl)
abbrev rm_X3_settle : Room := { frames := 7, cells := 0, slots := 0, locals := 159 }
set_option maxHeartbeats 4000000 in
set_option maxRecDepth 100000 in
theorem c_X3_settle (l : Launch) (dC : Nat → ClassId) (dI : Nat → Nat → Nat) (cI cZ cR cG : ClassId) (ad : Nat → Nat) (g de ss up dn : Nat → Nat) (x : Int32) (ok : okG g) : CI l (dC, dI) (tyL cI cZ cR cG) yX3_settle wsX3_settle rm_X3_settle [.ref (ad 0), .int x] (lW cI ad g de ss up dn) (S := F4) (fun _ => aSet g x) (fun _ => True) (fun u => lW cI ad (gSet g x) u.1 u.2.1 u.2.2.1 u.2.2.2) := by
  refine CI.of (cc := cX3_settle) (maxL := 2) (rt := .int) (lv := [(0, .ref (ad 0)), (1, .int x)]) (by decide) rfl (Nat.le_of_ble_eq_true rfl) rfl (Or.inl rfl) ?_
  intro p e s m ar below meth c A Qz ls hx hb hml hown hts hnm hA hS hP hK hD hl ret
  have h0 := ok.1
  have h1 := ok.2.1
  refine lv_iload_n hx hb dX3_settle_0 rfl (lv_at hl 1 rfl) ?_
  refine CI.callS (As := [.int x]) (rest := []) (w3 := (fun _ => lW cI ad g de ss up dn)) (c_X3_isLimit l dC dI cI cZ cR cG x) ⟨hx, hb, hml, hown, hts⟩ (va_cwS 1 hts gX3_settle_X3_isLimit rfl rfl rfl (by decide +kernel) ⟨Nat.le_of_ble_eq_true rfl, Nat.le_of_ble_eq_true rfl⟩) rfl hl.1 (Nat.le_of_ble_eq_true rfl) dX3_settle_1 ⟨Nat.le_of_ble_eq_true rfl, Nat.le_of_ble_eq_true rfl⟩ hA hS hP hK hD [] [0, 1, 2, 3, 4, 5] rfl rfl (by decide) (by decide) (by decide) [0, 1, 2, 3, 4, 5] (by decide) (fun _ => rfl) rfl (fun _ H locs hp_1 hP hD hS => ?_)
  refine my_if_eqB (x := (inR x 1 100)) (tgt := 15) hx hb dX3_settle_4 (by decide) (fun c_2 => ?_) (fun c_2 => ?_)
  · refine lv_bipush (v := -3) hx hb dX3_settle_15 (by decide) ?_
    exact ret (de, ss, up, dn) _ _ _ _ _ _ _ _ (by show _ = aSet g x; unfold aSet; rw [if_neg (by rw [c_2]; decide)]) (trivial) (by show lW cI ad (gSet g x) _ _ _ _ = _; unfold gSet; rw [if_neg (by rw [c_2]; decide)]) hP hD hS (Nat.le_of_ble_eq_true rfl) (Nat.le_of_ble_eq_true rfl) dX3_settle_17
  · obtain ⟨j, hj1, hj2, hj3, rfl, hjc⟩ := inR_at c_2
    refine lv_aload_n hx hb dX3_settle_7 rfl (lv_at hl 0 rfl) ?_
    refine lv_iload_n hx hb dX3_settle_8 rfl (lv_at hl 1 rfl) ?_
    refine CI.callV (As := [.int (nI j)]) (rest := []) (w3 := (fun ⟨w_de, w_ss, w_up, w_dn⟩ => lW cI ad ((setA j 0 g).2) w_de w_ss w_up w_dn)) (c_X3_settleNow l dC dI cI cZ cR cG ad g de ss up dn j (ok) (by omega)) ⟨hx, hb, hml, hown, hts⟩ (cwV 1 hts gX3_settle_X3_settleNow rfl rfl rfl (by decide +kernel) ⟨Nat.le_of_ble_eq_true rfl, Nat.le_of_ble_eq_true rfl⟩) rfl hl.1 (Nat.le_of_ble_eq_true rfl) dX3_settle_9 ⟨Nat.le_of_ble_eq_true rfl, Nat.le_of_ble_eq_true rfl⟩ hA hS hP hK hD [0, 1, 2, 3, 4, 5] [] rfl rfl (by decide) (by decide) (by decide) 0 3 rfl rfl [0, 1, 2, 3, 4, 5] (by decide) (fun _ => rfl) rfl (fun ⟨w_de, w_ss, w_up, w_dn⟩ H locs hp_3 hP hD hS => ?_)
    have hP : va_P (dC, dI) vwCl (lW cI ad ((setA j 0 g).2) w_de w_ss w_up w_dn) H := hP
    have hD : va_D A (lW cI ad ((setA j 0 g).2) w_de w_ss w_up w_dn) := hD
    refine lv_goto (tgt := 17) hx hb dX3_settle_12 (by decide) ?_
    exact ret (w_de, w_ss, w_up, w_dn) _ _ _ _ _ _ _ _ (by show _ = aSet g (nI j); unfold aSet; rw [if_pos c_2, show nx (nI j) = j from hjc]) (trivial) (by show lW cI ad (gSet g (nI j)) _ _ _ _ = _; unfold gSet; rw [if_pos c_2, show nx (nI j) = j from hjc]) hP hD hS (Nat.le_of_ble_eq_true rfl) (Nat.le_of_ble_eq_true rfl) dX3_settle_17
