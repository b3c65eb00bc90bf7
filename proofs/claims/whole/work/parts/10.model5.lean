abbrev rm_X3_keep : Room := { frames := 0, cells := 0, slots := 0, locals := 0 }
set_option maxHeartbeats 4000000 in
set_option maxRecDepth 100000 in
theorem c_X3_keep (l : Launch) (dC : Nat → ClassId) (dI : Nat → Nat → Nat) (cI cZ cR cG : ClassId) (ad : Nat → Nat) (g be : Nat → Nat) : CV l (dC, dI) (tyL cI cZ cR cG) yX3_keep wsX3_keep rm_X3_keep [.ref (ad 0)] (kW cI ad g be) (S := Unit) (fun _ => True) (fun _ => kW cI ad g g) := by
  refine CV.of (cc := cX3_keep) (maxL := 2) (lv := [(0, .ref (ad 0))]) (by decide) rfl (Nat.le_of_ble_eq_true rfl) rfl ?_
  intro p e s m ar below meth c A Qz ls hx hb hml hown hts hnm hA hS hP hK hD hl ret
  refine lv_iconst (v := nI 0) hx hb dX3_keep_0 (by decide) ?_
  refine lv_istore_n (lv' := [(1, .int (nI 0)), (0, .ref (ad 0))]) hx hb dX3_keep_1 rfl hl (by decide) rfl (fun ls hl => ?_)
  have key_2 : ∀ (fu : Nat) (n : Nat) (f : Nat → Nat), (290 - n) < fu → (n ≤ 290) → (∀ j, j < n → f j = g j) → ∀ (H : Heap) (locs : List Loc) (ls : Array Slot), va_P (dC, dI) vwCl (kW cI ad g f) H → va_D A (kW cI ad g f) → va_S A s.heap H locs → lv_has ls 2 [(1, .int (nI n)), (0, .ref (ad 0))] → W p l e rm_X3_keep s m ar below meth c H locs 0 0 Qz (F0 m 2 ls []) := by
    intro fu
    induction fu with
    | zero => intro n f hmu; exact absurd hmu (Nat.not_lt_zero _)
    | succ fu ih_2 =>
      intro n f hmu_2 hn hf H locs ls hP hD hS hl
      refine lv_iload_n hx hb dX3_keep_2 rfl (lv_at hl 0 rfl) ?_
      refine lv_sipush (v := nI 290) hx hb dX3_keep_3 (by decide) ?_
      refine my_icmp_ge (x := n) (y := 290) (tgt := 27) hx hb (by omega) (by omega) dX3_keep_6 (by decide) (fun c_2 => ?_) (fun c_2 => ?_)
      · have hP : va_P (dC, dI) vwCl (kW cI ad g g) H := my_congr hP 2 rfl (fun j hj => congrArg nI (hf j (by omega))) rfl
        have hD : va_D A (kW cI ad g g) := hD.set (p := 2) rfl
        exact ret () _ _ _ _ _ _ _ (trivial) (rfl) hP hD hS (Nat.le_of_ble_eq_true rfl) (Nat.le_of_ble_eq_true rfl) dX3_keep_27
      · refine lv_aload_n hx hb dX3_keep_9 rfl (lv_at hl 1 rfl) ?_
        refine va_get (D := (dC, dI)) (ci := 3) (v := .ref (ad 8)) (C := RX3) (T := TX3) (N := 8) hx hb hts (fun _ h9 => List.mem_cons_of_mem _ (List.mem_append_right _ h9)) hown hK hP 0 rfl rfl 7 (by decide) (hts (.fieldLink RX3 32 "SwitchLevelSimulatorModel" "before" "[I") (List.mem_of_getElem? (i := 1) rfl)) (fun _ h9 => h9) rfl dX3_keep_10 ?_
        refine lv_iload_n hx hb dX3_keep_13 rfl (lv_at hl 0 rfl) ?_
        refine lv_aload_n hx hb dX3_keep_14 rfl (lv_at hl 1 rfl) ?_
        refine va_get (D := (dC, dI)) (ci := 3) (v := .ref (ad 1)) (C := RX3) (T := TX3) (N := 8) hx hb hts (fun _ h9 => List.mem_cons_of_mem _ (List.mem_append_right _ h9)) hown hK hP 0 rfl rfl 0 (by decide) (hts (.fieldLink RX3 7 "SwitchLevelSimulatorModel" "state" "[I") (List.mem_of_getElem? (i := 2) rfl)) (fun _ h9 => h9) rfl dX3_keep_15 ?_
        refine lv_iload_n hx hb dX3_keep_18 rfl (lv_at hl 0 rfl) ?_
        refine my_iald (i := n) hx hb hK hP 1 0 rfl rfl (by omega) (by decide) dX3_keep_19 ?_
        refine my_iastN (i := n) (x := (g n)) (g := f) (ws' := kW cI ad g (up1 f n (g n))) hx hb hK hP hD hS 2 0 rfl rfl (by omega) (by decide) dX3_keep_20 rfl (fun H locs hP hD hS => ?_)
        refine my_iinc (k := 0) (x := n) (d := 1) (lv' := [(1, .int (nI (n + 1))), (0, .ref (ad 0))]) hx hb dX3_keep_21 hl rfl (by decide) (by decide) rfl (fun ls hl => ?_)
        refine lv_goto (tgt := 2) hx hb dX3_keep_24 (by decide) ?_
        exact ih_2 (n + 1) (up1 f n (g n)) (by omega) (by omega) (fill_s hf rfl) _ _ _ hP hD hS (lv_sub hl [0, 1] rfl)
  exact key_2 _ 0 be (Nat.lt_succ_self _) (Nat.zero_le _) fill_0 _ _ _ hP hD hS (lv_sub hl [0, 1] rfl)
abbrev rm_X3_putBack : Room := { frames := 0, cells := 0, slots := 0, locals := 0 }
set_option maxHeartbeats 4000000 in
set_option maxRecDepth 100000 in
theorem c_X3_putBack (l : Launch) (dC : Nat → ClassId) (dI : Nat → Nat → Nat) (cI cZ cR cG : ClassId) (ad : Nat → Nat) (g be : Nat → Nat) : CV l (dC, dI) (tyL cI cZ cR cG) yX3_putBack wsX3_putBack rm_X3_putBack [.ref (ad 0)] (kW cI ad g be) (S := Unit) (fun _ => True) (fun _ => kW cI ad be be) := by
  refine CV.of (cc := cX3_putBack) (maxL := 2) (lv := [(0, .ref (ad 0))]) (by decide) rfl (Nat.le_of_ble_eq_true rfl) rfl ?_
  intro p e s m ar below meth c A Qz ls hx hb hml hown hts hnm hA hS hP hK hD hl ret
  refine lv_iconst (v := nI 0) hx hb dX3_putBack_0 (by decide) ?_
  refine lv_istore_n (lv' := [(1, .int (nI 0)), (0, .ref (ad 0))]) hx hb dX3_putBack_1 rfl hl (by decide) rfl (fun ls hl => ?_)
  have key_2 : ∀ (fu : Nat) (n : Nat) (f : Nat → Nat), (290 - n) < fu → (n ≤ 290) → (∀ j, j < n → f j = be j) → ∀ (H : Heap) (locs : List Loc) (ls : Array Slot), va_P (dC, dI) vwCl (kW cI ad f be) H → va_D A (kW cI ad f be) → va_S A s.heap H locs → lv_has ls 2 [(1, .int (nI n)), (0, .ref (ad 0))] → W p l e rm_X3_putBack s m ar below meth c H locs 0 0 Qz (F0 m 2 ls []) := by
    intro fu
    induction fu with
    | zero => intro n f hmu; exact absurd hmu (Nat.not_lt_zero _)
    | succ fu ih_2 =>
      intro n f hmu_2 hn hf H locs ls hP hD hS hl
      refine lv_iload_n hx hb dX3_putBack_2 rfl (lv_at hl 0 rfl) ?_
      refine lv_sipush (v := nI 290) hx hb dX3_putBack_3 (by decide) ?_
      refine my_icmp_ge (x := n) (y := 290) (tgt := 27) hx hb (by omega) (by omega) dX3_putBack_6 (by decide) (fun c_2 => ?_) (fun c_2 => ?_)
      · have hP : va_P (dC, dI) vwCl (kW cI ad be be) H := my_congr hP 1 rfl (fun j hj => congrArg nI (hf j (by omega))) rfl
        have hD : va_D A (kW cI ad be be) := hD.set (p := 1) rfl
        exact ret () _ _ _ _ _ _ _ (trivial) (rfl) hP hD hS (Nat.le_of_ble_eq_true rfl) (Nat.le_of_ble_eq_true rfl) dX3_putBack_27
      · refine lv_aload_n hx hb dX3_putBack_9 rfl (lv_at hl 1 rfl) ?_
        refine va_get (D := (dC, dI)) (ci := 3) (v := .ref (ad 1)) (C := RX3) (T := TX3) (N := 8) hx hb hts (fun _ h9 => List.mem_cons_of_mem _ (List.mem_append_right _ h9)) hown hK hP 0 rfl rfl 0 (by decide) (hts (.fieldLink RX3 7 "SwitchLevelSimulatorModel" "state" "[I") (List.mem_of_getElem? (i := 1) rfl)) (fun _ h9 => h9) rfl dX3_putBack_10 ?_
        refine lv_iload_n hx hb dX3_putBack_13 rfl (lv_at hl 0 rfl) ?_
        refine lv_aload_n hx hb dX3_putBack_14 rfl (lv_at hl 1 rfl) ?_
        refine va_get (D := (dC, dI)) (ci := 3) (v := .ref (ad 8)) (C := RX3) (T := TX3) (N := 8) hx hb hts (fun _ h9 => List.mem_cons_of_mem _ (List.mem_append_right _ h9)) hown hK hP 0 rfl rfl 7 (by decide) (hts (.fieldLink RX3 32 "SwitchLevelSimulatorModel" "before" "[I") (List.mem_of_getElem? (i := 2) rfl)) (fun _ h9 => h9) rfl dX3_putBack_15 ?_
        refine lv_iload_n hx hb dX3_putBack_18 rfl (lv_at hl 0 rfl) ?_
        refine my_iald (i := n) hx hb hK hP 2 0 rfl rfl (by omega) (by decide) dX3_putBack_19 ?_
        refine my_iastN (i := n) (x := (be n)) (g := f) (ws' := kW cI ad (up1 f n (be n)) be) hx hb hK hP hD hS 1 0 rfl rfl (by omega) (by decide) dX3_putBack_20 rfl (fun H locs hP hD hS => ?_)
        refine my_iinc (k := 0) (x := n) (d := 1) (lv' := [(1, .int (nI (n + 1))), (0, .ref (ad 0))]) hx hb dX3_putBack_21 hl rfl (by decide) (by decide) rfl (fun ls hl => ?_)
        refine lv_goto (tgt := 2) hx hb dX3_putBack_24 (by decide) ?_
        exact ih_2 (n + 1) (up1 f n (be n)) (by omega) (by omega) (fill_s hf rfl) _ _ _ hP hD hS (lv_sub hl [0, 1] rfl)
  exact key_2 _ 0 g (Nat.lt_succ_self _) (Nat.zero_le _) fill_0 _ _ _ hP hD hS (lv_sub hl [0, 1] rfl)
abbrev rm_X3_settledValue : Room := { frames := 7, cells := 0, slots := 0, locals := 159 }
set_option maxHeartbeats 4000000 in
set_option maxRecDepth 100000 in
theorem c_X3_settledValue (l : Launch) (dC : Nat → ClassId) (dI : Nat → Nat → Nat) (cI cZ cR cG : ClassId) (ad : Nat → Nat) (g de ss up dn be : Nat → Nat) (n k : Nat) (ok : okG g) (hk : k < 2 ^ 30) (hn : n < 24) : CI l (dC, dI) (tyL cI cZ cR cG) yX3_settledValue wsX3_settledValue rm_X3_settledValue [.ref (ad 0), .int (nI n), .int (nI k)] (pW cI ad g de ss up dn be) (S := F4) (fun _ => mvl k n g) (fun _ => True) (fun u => pW cI ad be u.1 u.2.1 u.2.2.1 u.2.2.2 be) := by
  refine CI.of (cc := cX3_settledValue) (maxL := 5) (rt := .int) (lv := [(0, .ref (ad 0)), (1, .int (nI n)), (2, .int (nI k))]) (by decide) rfl (Nat.le_of_ble_eq_true rfl) rfl (Or.inl rfl) ?_
  intro p e s m ar below meth c A Qz ls hx hb hml hown hts hnm hA hS hP hK hD hl ret
  have h0 := ok.1
  have h1 := ok.2.1
  refine lv_aload_n hx hb dX3_settledValue_0 rfl (lv_at hl 0 rfl) ?_
  refine lv_iload_n hx hb dX3_settledValue_1 rfl (lv_at hl 2 rfl) ?_
  refine CI.callV (As := [.int (nI k)]) (rest := []) (w3 := (fun ⟨w_de, w_ss, w_up, w_dn⟩ => pW cI ad ((setA k 0 g).2) w_de w_ss w_up w_dn be)) (c_X3_settleNow l dC dI cI cZ cR cG ad g de ss up dn k (ok) (by omega)) ⟨hx, hb, hml, hown, hts⟩ (cwV 1 hts gX3_settledValue_X3_settleNow rfl rfl rfl (by decide +kernel) ⟨Nat.le_of_ble_eq_true rfl, Nat.le_of_ble_eq_true rfl⟩) rfl hl.1 (Nat.le_of_ble_eq_true rfl) dX3_settledValue_2 ⟨Nat.le_of_ble_eq_true rfl, Nat.le_of_ble_eq_true rfl⟩ hA hS hP hK hD [0, 1, 2, 3, 4, 5] [6] rfl rfl (by decide) (by decide) (by decide) 0 3 rfl rfl [1, 2, 3, 4, 5, 6, 0] (by decide) (fun _ => rfl) rfl (fun ⟨w_de, w_ss, w_up, w_dn⟩ H locs hp_1 hP hD hS => ?_)
  have hP : va_P (dC, dI) vwCl (pW cI ad ((setA k 0 g).2) w_de w_ss w_up w_dn be) H := hP
  have hD : va_D A (pW cI ad ((setA k 0 g).2) w_de w_ss w_up w_dn be) := hD
  refine lv_istore_n (lv' := [(3, .int ((setA k 0 g).1)), (0, .ref (ad 0)), (1, .int (nI n)), (2, .int (nI k))]) hx hb dX3_settledValue_5 rfl hl (by decide) rfl (fun ls hl => ?_)
  refine lv_iload_n hx hb dX3_settledValue_6 rfl (lv_at hl 0 rfl) ?_
  refine lv_if_ge (x := ((setA k 0 g).1)) (tgt := 15) hx hb dX3_settledValue_7 (by decide) (fun c_2 => ?_) (fun c_2 => ?_)
  · refine lv_aload_n hx hb dX3_settledValue_15 rfl (lv_at hl 1 rfl) ?_
    refine va_get (D := (dC, dI)) (ci := 3) (v := .ref (ad 1)) (C := RX3) (T := TX3) (N := 8) hx hb hts (fun _ h9 => List.mem_cons_of_mem _ (List.mem_append_right _ h9)) hown hK hP 0 rfl rfl 0 (by decide) (hts (.fieldLink RX3 7 "SwitchLevelSimulatorModel" "state" "[I") (List.mem_of_getElem? (i := 1) rfl)) (fun _ h9 => h9) rfl dX3_settledValue_16 ?_
    refine lv_bipush (v := nI 26) hx hb dX3_settledValue_19 (by decide) ?_
    refine lv_iload_n hx hb dX3_settledValue_21 rfl (lv_at hl 2 rfl) ?_
    refine my_iadd (x := 26) (y := n) hx hb dX3_settledValue_22 ?_
    refine my_iald (i := (26 + n)) hx hb hK hP 1 0 rfl rfl (by omega) (by decide) dX3_settledValue_23 ?_
    refine my_cast (show nI (((setA k 0 g).2) (26 + n)) = mvl k n g from by show _ = mvl k n g; unfold mvl; rw [if_neg (fun z => absurd c_2 (by rw [z]; decide))]; try rfl) ?_
    refine lv_istore (lv' := [(4, .int (mvl k n g)), (3, .int ((setA k 0 g).1)), (0, .ref (ad 0)), (1, .int (nI n)), (2, .int (nI k))]) hx hb dX3_settledValue_24 hl (by decide) rfl (fun ls hl => ?_)
    refine lv_aload_n hx hb dX3_settledValue_26 rfl (lv_at hl 2 rfl) ?_
    refine CV.callV (As := []) (rest := []) (w3 := (fun _ => pW cI ad be w_de w_ss w_up w_dn be)) (c_X3_putBack l dC dI cI cZ cR cG ad ((setA k 0 g).2) be) ⟨hx, hb, hml, hown, hts⟩ (cwV 0 hts gX3_settledValue_X3_putBack rfl rfl rfl (by decide +kernel) ⟨Nat.le_of_ble_eq_true rfl, Nat.le_of_ble_eq_true rfl⟩) rfl hl.1 (Nat.le_of_ble_eq_true rfl) dX3_settledValue_27 ⟨Nat.le_of_ble_eq_true rfl, Nat.le_of_ble_eq_true rfl⟩ hA hS hP hK hD [0, 1, 6] [2, 3, 4, 5] rfl rfl (by decide) (by decide) (by decide) 0 3 rfl rfl [4, 5, 0, 1, 2, 3, 6] (by decide) (fun _ => rfl) rfl (fun _ H locs hp_3 hP hD hS => ?_)
    refine lv_iload hx hb dX3_settledValue_30 (lv_at hl 0 rfl) ?_
    exact ret (w_de, w_ss, w_up, w_dn) _ _ _ _ _ _ _ _ (rfl) (trivial) (rfl) hP hD hS (Nat.le_of_ble_eq_true rfl) (Nat.le_of_ble_eq_true rfl) dX3_settledValue_32
  · refine lv_bipush (v := -8) hx hb dX3_settledValue_10 (by decide) ?_
    refine lv_goto (tgt := 24) hx hb dX3_settledValue_12 (by decide) ?_
    refine my_cast (show -8 = mvl k n g from by show _ = mvl k n g; unfold mvl; rw [if_pos ((setA_r k 0 g).elim (fun z => by obtain ⟨j9, hj9, e9⟩ := z; exact absurd (show (0 : Int32) ≤ (setA k 0 g).1 from by rw [e9, Nat.zero_add]; exact nI_pos' (by omega)) (by first | exact c_2 | exact Int32.not_le.mpr c_2)) (fun z => z))]) ?_
    refine lv_istore (lv' := [(4, .int (mvl k n g)), (3, .int ((setA k 0 g).1)), (0, .ref (ad 0)), (1, .int (nI n)), (2, .int (nI k))]) hx hb dX3_settledValue_24 hl (by decide) rfl (fun ls hl => ?_)
    refine lv_aload_n hx hb dX3_settledValue_26 rfl (lv_at hl 2 rfl) ?_
    refine CV.callV (As := []) (rest := []) (w3 := (fun _ => pW cI ad be w_de w_ss w_up w_dn be)) (c_X3_putBack l dC dI cI cZ cR cG ad ((setA k 0 g).2) be) ⟨hx, hb, hml, hown, hts⟩ (cwV 0 hts gX3_settledValue_X3_putBack rfl rfl rfl (by decide +kernel) ⟨Nat.le_of_ble_eq_true rfl, Nat.le_of_ble_eq_true rfl⟩) rfl hl.1 (Nat.le_of_ble_eq_true rfl) dX3_settledValue_27 ⟨Nat.le_of_ble_eq_true rfl, Nat.le_of_ble_eq_true rfl⟩ hA hS hP hK hD [0, 1, 6] [2, 3, 4, 5] rfl rfl (by decide) (by decide) (by decide) 0 3 rfl rfl [4, 5, 0, 1, 2, 3, 6] (by decide) (fun _ => rfl) rfl (fun _ H locs hp_4 hP hD hS => ?_)
    refine lv_iload hx hb dX3_settledValue_30 (lv_at hl 0 rfl) ?_
    exact ret (w_de, w_ss, w_up, w_dn) _ _ _ _ _ _ _ _ (rfl) (trivial) (rfl) hP hD hS (Nat.le_of_ble_eq_true rfl) (Nat.le_of_ble_eq_true rfl) dX3_settledValue_32
abbrev rm_X3_isDetected : Room := { frames := 8, cells := 0, slots := 0, locals := 183 }
set_option maxHeartbeats 4000000 in
set_option maxRecDepth 100000 in
theorem c_X3_isDetected (l : Launch) (dC : Nat → ClassId) (dI : Nat → Nat → Nat) (cI cZ cR cG : ClassId) (ad : Nat → Nat) (g de ss up dn be : Nat → Nat) (t f n k : Nat) (gd : Int32) (okf : okG (up1 g (250 + t) f)) (ht : t < 40) (hk : k < 2 ^ 30) (hn : n < 24) : CI l (dC, dI) (tyL cI cZ cR cG) yX3_isDetected wsX3_isDetected rm_X3_isDetected [.ref (ad 0), .int (nI t), .int (nI f), .int (nI n), .int (nI k), .int gd] (pW cI ad g de ss up dn be) (S := F4) (fun _ => bI (oppI gd (mvl k n (up1 g (250 + t) f)))) (fun _ => True) (fun u => pW cI ad be u.1 u.2.1 u.2.2.1 u.2.2.2 be) := by
  refine CI.of (cc := cX3_isDetected) (maxL := 7) (rt := .boolean) (lv := [(0, .ref (ad 0)), (1, .int (nI t)), (2, .int (nI f)), (3, .int (nI n)), (4, .int (nI k)), (5, .int gd)]) (by decide) rfl (Nat.le_of_ble_eq_true rfl) rfl (Or.inr ⟨rfl, fun _ => nar_bI _⟩) ?_
  intro p e s m ar below meth c A Qz ls hx hb hml hown hts hnm hA hS hP hK hD hl ret
  refine lv_aload_n hx hb dX3_isDetected_0 rfl (lv_at hl 0 rfl) ?_
  refine va_get (D := (dC, dI)) (ci := 3) (v := .ref (ad 1)) (C := RX3) (T := TX3) (N := 8) hx hb hts (fun _ h9 => List.mem_cons_of_mem _ (List.mem_append_right _ h9)) hown hK hP 0 rfl rfl 0 (by decide) (hts (.fieldLink RX3 7 "SwitchLevelSimulatorModel" "state" "[I") (List.mem_of_getElem? (i := 1) rfl)) (fun _ h9 => h9) rfl dX3_isDetected_1 ?_
  refine lv_sipush (v := nI 250) hx hb dX3_isDetected_4 (by decide) ?_
  refine lv_iload_n hx hb dX3_isDetected_7 rfl (lv_at hl 1 rfl) ?_
  refine my_iadd (x := 250) (y := t) hx hb dX3_isDetected_8 ?_
  refine lv_iload_n hx hb dX3_isDetected_9 rfl (lv_at hl 2 rfl) ?_
  refine my_iastN (i := (250 + t)) (x := f) (g := g) (ws' := pW cI ad (up1 g (250 + t) f) de ss up dn be) hx hb hK hP hD hS 1 0 rfl rfl (by omega) (by decide) dX3_isDetected_10 rfl (fun H locs hP hD hS => ?_)
  refine lv_aload_n hx hb dX3_isDetected_11 rfl (lv_at hl 0 rfl) ?_
  refine lv_iload_n hx hb dX3_isDetected_12 rfl (lv_at hl 3 rfl) ?_
  refine lv_iload hx hb dX3_isDetected_13 (lv_at hl 4 rfl) ?_
  refine CI.callV (As := [.int (nI n), .int (nI k)]) (rest := []) (w3 := (fun ⟨w_de, w_ss, w_up, w_dn⟩ => pW cI ad be w_de w_ss w_up w_dn be)) (c_X3_settledValue l dC dI cI cZ cR cG ad (up1 g (250 + t) f) de ss up dn be n k (okf) (by omega) (by omega)) ⟨hx, hb, hml, hown, hts⟩ (cwV 2 hts gX3_isDetected_X3_settledValue rfl rfl rfl (by decide +kernel) ⟨Nat.le_of_ble_eq_true rfl, Nat.le_of_ble_eq_true rfl⟩) rfl hl.1 (Nat.le_of_ble_eq_true rfl) dX3_isDetected_15 ⟨Nat.le_of_ble_eq_true rfl, Nat.le_of_ble_eq_true rfl⟩ hA hS hP hK hD [0, 1, 2, 3, 4, 5, 6] [] rfl rfl (by decide) (by decide) (by decide) 0 3 rfl rfl [0, 1, 2, 3, 4, 5, 6] (by decide) (fun _ => rfl) rfl (fun ⟨w_de, w_ss, w_up, w_dn⟩ H locs hp_1 hP hD hS => ?_)
  have hP : va_P (dC, dI) vwCl (pW cI ad be w_de w_ss w_up w_dn be) H := hP
  have hD : va_D A (pW cI ad be w_de w_ss w_up w_dn be) := hD
  refine lv_istore (lv' := [(6, .int (mvl k n (up1 g (250 + t) f))), (0, .ref (ad 0)), (1, .int (nI t)), (2, .int (nI f)), (3, .int (nI n)), (4, .int (nI k)), (5, .int gd)]) hx hb dX3_isDetected_18 hl (by decide) rfl (fun ls hl => ?_)
  refine lv_iload hx hb dX3_isDetected_20 (lv_at hl 6 rfl) ?_
  refine my_if_neI (x := gd) (tgt := 31) hx hb dX3_isDetected_22 (by decide) (fun c_2 => ?_) (fun c_2 => ?_)
  · refine lv_iload hx hb dX3_isDetected_31 (lv_at hl 6 rfl) ?_
    refine lv_iconst (v := nI 1) hx hb dX3_isDetected_33 (by decide) ?_
    refine my_icmp_neI (x := gd) (y := (nI 1)) (tgt := 46) hx hb dX3_isDetected_34 (by decide) (fun c_3 => ?_) (fun c_3 => ?_)
    · refine lv_iconst (v := nI 0) hx hb dX3_isDetected_46 (by decide) ?_
      have d_c_3 : gd ≠ 1 := c_3
      exact ret (w_de, w_ss, w_up, w_dn) _ _ _ _ _ _ _ _ (by show _ = bI (oppI gd (mvl k n (up1 g (250 + t) f))); unfold oppI; simp [c_2, d_c_3, bI, nI]) (trivial) (rfl) hP hD hS (Nat.le_of_ble_eq_true rfl) (Nat.le_of_ble_eq_true rfl) dX3_isDetected_47
    · refine lv_iload hx hb dX3_isDetected_37 (lv_at hl 0 rfl) ?_
      refine my_if_neI (x := (mvl k n (up1 g (250 + t) f))) (tgt := 46) hx hb dX3_isDetected_39 (by decide) (fun c_4 => ?_) (fun c_4 => ?_)
      · refine lv_iconst (v := nI 0) hx hb dX3_isDetected_46 (by decide) ?_
        have d_c_3 : gd = 1 := c_3
        exact ret (w_de, w_ss, w_up, w_dn) _ _ _ _ _ _ _ _ (by show _ = bI (oppI gd (mvl k n (up1 g (250 + t) f))); unfold oppI; simp [c_2, d_c_3, c_4, bI, nI]) (trivial) (rfl) hP hD hS (Nat.le_of_ble_eq_true rfl) (Nat.le_of_ble_eq_true rfl) dX3_isDetected_47
      · refine lv_iconst (v := nI 1) hx hb dX3_isDetected_42 (by decide) ?_
        refine lv_goto (tgt := 47) hx hb dX3_isDetected_43 (by decide) ?_
        have d_c_3 : gd = 1 := c_3
        exact ret (w_de, w_ss, w_up, w_dn) _ _ _ _ _ _ _ _ (by show _ = bI (oppI gd (mvl k n (up1 g (250 + t) f))); unfold oppI; simp [c_2, d_c_3, c_4, bI, nI]) (trivial) (rfl) hP hD hS (Nat.le_of_ble_eq_true rfl) (Nat.le_of_ble_eq_true rfl) dX3_isDetected_47
  · refine lv_iload hx hb dX3_isDetected_25 (lv_at hl 0 rfl) ?_
    refine lv_iconst (v := nI 1) hx hb dX3_isDetected_27 (by decide) ?_
    refine lv_icmp_eq (x := (mvl k n (up1 g (250 + t) f))) (y := (nI 1)) (tgt := 42) hx hb dX3_isDetected_28 (by decide) (fun c_5 => ?_) (fun c_5 => ?_)
    · refine lv_iconst (v := nI 1) hx hb dX3_isDetected_42 (by decide) ?_
      refine lv_goto (tgt := 47) hx hb dX3_isDetected_43 (by decide) ?_
      have d_c_5 : mvl k n (up1 g (250 + t) f) = 1 := c_5
      exact ret (w_de, w_ss, w_up, w_dn) _ _ _ _ _ _ _ _ (by show _ = bI (oppI gd (mvl k n (up1 g (250 + t) f))); unfold oppI; simp [c_2, d_c_5, bI, nI]) (trivial) (rfl) hP hD hS (Nat.le_of_ble_eq_true rfl) (Nat.le_of_ble_eq_true rfl) dX3_isDetected_47
    · refine lv_iload hx hb dX3_isDetected_31 (lv_at hl 6 rfl) ?_
      refine lv_iconst (v := nI 1) hx hb dX3_isDetected_33 (by decide) ?_
      refine my_icmp_neI (x := gd) (y := (nI 1)) (tgt := 46) hx hb dX3_isDetected_34 (by decide) (fun c_6 => ?_) (fun c_6 => ?_)
      · refine lv_iconst (v := nI 0) hx hb dX3_isDetected_46 (by decide) ?_
        have d_c_5 : ¬ mvl k n (up1 g (250 + t) f) = 1 := c_5
        have d_c_6 : gd ≠ 1 := c_6
        exact ret (w_de, w_ss, w_up, w_dn) _ _ _ _ _ _ _ _ (by show _ = bI (oppI gd (mvl k n (up1 g (250 + t) f))); unfold oppI; simp [c_2, d_c_5, d_c_6, bI, nI]) (trivial) (rfl) hP hD hS (Nat.le_of_ble_eq_true rfl) (Nat.le_of_ble_eq_true rfl) dX3_isDetected_47
      · refine lv_iload hx hb dX3_isDetected_37 (lv_at hl 0 rfl) ?_
        refine my_if_neI (x := (mvl k n (up1 g (250 + t) f))) (tgt := 46) hx hb dX3_isDetected_39 (by decide) (fun c_7 => ?_) (fun c_7 => ?_)
        · refine lv_iconst (v := nI 0) hx hb dX3_isDetected_46 (by decide) ?_
          have d_c_5 : ¬ mvl k n (up1 g (250 + t) f) = 1 := c_5
          have d_c_6 : gd = 1 := c_6
          exact ret (w_de, w_ss, w_up, w_dn) _ _ _ _ _ _ _ _ (absurd (c_2.symm.trans d_c_6) (by decide)) (trivial) (rfl) hP hD hS (Nat.le_of_ble_eq_true rfl) (Nat.le_of_ble_eq_true rfl) dX3_isDetected_47
        · refine lv_iconst (v := nI 1) hx hb dX3_isDetected_42 (by decide) ?_
          refine lv_goto (tgt := 47) hx hb dX3_isDetected_43 (by decide) ?_
          have d_c_5 : ¬ mvl k n (up1 g (250 + t) f) = 1 := c_5
          have d_c_6 : gd = 1 := c_6
          exact ret (w_de, w_ss, w_up, w_dn) _ _ _ _ _ _ _ _ (absurd (c_2.symm.trans d_c_6) (by decide)) (trivial) (rfl) hP hD hS (Nat.le_of_ble_eq_true rfl) (Nat.le_of_ble_eq_true rfl) dX3_isDetected_47
abbrev rm_X3_detects : Room := { frames := 9, cells := 0, slots := 0, locals := 209 }
set_option maxHeartbeats 4000000 in
set_option maxRecDepth 100000 in
theorem c_X3_detects (l : Launch) (dC : Nat → ClassId) (dI : Nat → Nat → Nat) (cI cZ cR cG : ClassId) (ad : Nat → Nat) (g de ss up dn be : Nat → Nat) (t f n k : Int32) (ok : okG g) : CI l (dC, dI) (tyL cI cZ cR cG) yX3_detects wsX3_detects rm_X3_detects [.ref (ad 0), .int t, .int f, .int n, .int k] (pW cI ad g de ss up dn be) (S := F5) (fun _ => aDet g t f n k) (fun _ => True) (fun u => pW cI ad g u.1 u.2.1 u.2.2.1 u.2.2.2.1 u.2.2.2.2) := by
  refine CI.of (cc := cX3_detects) (maxL := 6) (rt := .int) (lv := [(0, .ref (ad 0)), (1, .int t), (2, .int f), (3, .int n), (4, .int k)]) (by decide) rfl (Nat.le_of_ble_eq_true rfl) rfl (Or.inl rfl) ?_
  intro p e s m ar below meth c A Qz ls hx hb hml hown hts hnm hA hS hP hK hD hl ret
  have h0 := ok.1
  have h1 := ok.2.1
  refine lv_aload_n hx hb dX3_detects_0 rfl (lv_at hl 0 rfl) ?_
  refine lv_iload_n hx hb dX3_detects_1 rfl (lv_at hl 1 rfl) ?_
  refine CI.callV (As := [.int t]) (rest := []) (w3 := (fun _ => pW cI ad g de ss up dn be)) (c_X3_isTransistor l dC dI cI cZ cR cG ad g t (ok.2.1)) ⟨hx, hb, hml, hown, hts⟩ (cwV 1 hts gX3_detects_X3_isTransistor rfl rfl rfl (by decide +kernel) ⟨Nat.le_of_ble_eq_true rfl, Nat.le_of_ble_eq_true rfl⟩) rfl hl.1 (Nat.le_of_ble_eq_true rfl) dX3_detects_2 ⟨Nat.le_of_ble_eq_true rfl, Nat.le_of_ble_eq_true rfl⟩ hA hS hP hK hD [0, 1] [2, 3, 4, 5, 6] rfl rfl (by decide) (by decide) (by decide) 0 3 rfl rfl [5, 6, 0, 1, 2, 3, 4] (by decide) (fun _ => rfl) rfl (fun _ H locs hp_1 hP hD hS => ?_)
  refine my_if_neB (x := (inN t (g 1))) (tgt := 11) hx hb dX3_detects_5 (by decide) (fun c_2 => ?_) (fun c_2 => ?_)
  · refine lv_aload_n hx hb dX3_detects_11 rfl (lv_at hl 0 rfl) ?_
    refine lv_iload_n hx hb dX3_detects_12 rfl (lv_at hl 3 rfl) ?_
    refine CI.callV (As := [.int n]) (rest := []) (w3 := (fun _ => pW cI ad g de ss up dn be)) (c_X3_isNode l dC dI cI cZ cR cG ad g n (ok.1)) ⟨hx, hb, hml, hown, hts⟩ (cwV 1 hts gX3_detects_X3_isNode rfl rfl rfl (by decide +kernel) ⟨Nat.le_of_ble_eq_true rfl, Nat.le_of_ble_eq_true rfl⟩) rfl hl.1 (Nat.le_of_ble_eq_true rfl) dX3_detects_13 ⟨Nat.le_of_ble_eq_true rfl, Nat.le_of_ble_eq_true rfl⟩ hA hS hP hK hD [0, 1] [2, 3, 4, 5, 6] rfl rfl (by decide) (by decide) (by decide) 0 3 rfl rfl [5, 6, 0, 1, 2, 3, 4] (by decide) (fun _ => rfl) rfl (fun _ H locs hp_3 hP hD hS => ?_)
    refine my_if_neB (x := (inN n (g 0))) (tgt := 21) hx hb dX3_detects_16 (by decide) (fun c_4 => ?_) (fun c_4 => ?_)
    · refine lv_iload_n hx hb dX3_detects_21 rfl (lv_at hl 2 rfl) ?_
      refine lv_iconst (v := nI 1) hx hb dX3_detects_22 (by decide) ?_
      refine lv_iconst (v := nI 2) hx hb dX3_detects_23 (by decide) ?_
      refine CI.callS (As := [.int f, .int (nI 1), .int (nI 2)]) (rest := []) (w3 := (fun _ => pW cI ad g de ss up dn be)) (c_X3_inR l dC dI cI cZ cR cG f 1 2 (by decide) (by decide)) ⟨hx, hb, hml, hown, hts⟩ (va_cwS 3 hts gX3_detects_X3_in rfl rfl rfl (by decide +kernel) ⟨Nat.le_of_ble_eq_true rfl, Nat.le_of_ble_eq_true rfl⟩) rfl hl.1 (Nat.le_of_ble_eq_true rfl) dX3_detects_24 ⟨Nat.le_of_ble_eq_true rfl, Nat.le_of_ble_eq_true rfl⟩ hA hS hP hK hD [] [0, 1, 2, 3, 4, 5, 6] rfl rfl (by decide) (by decide) (by decide) [0, 1, 2, 3, 4, 5, 6] (by decide) (fun _ => rfl) rfl (fun _ H locs hp_5 hP hD hS => ?_)
      refine my_if_eqB (x := (inR f 1 2)) (tgt := 38) hx hb dX3_detects_27 (by decide) (fun c_6 => ?_) (fun c_6 => ?_)
      · refine lv_bipush (v := -3) hx hb dX3_detects_38 (by decide) ?_
        exact ret (de, ss, up, dn, be) _ _ _ _ _ _ _ _ (by show _ = aDet g t f n k; unfold aDet; rw [if_pos c_2, if_pos c_4, if_neg (by rw [c_6]; simp)]) (trivial) (rfl) hP hD hS (Nat.le_of_ble_eq_true rfl) (Nat.le_of_ble_eq_true rfl) dX3_detects_40
      · refine lv_iload hx hb dX3_detects_30 (lv_at hl 4 rfl) ?_
        refine CI.callS (As := [.int k]) (rest := []) (w3 := (fun _ => pW cI ad g de ss up dn be)) (c_X3_isLimit l dC dI cI cZ cR cG k) ⟨hx, hb, hml, hown, hts⟩ (va_cwS 1 hts gX3_detects_X3_isLimit rfl rfl rfl (by decide +kernel) ⟨Nat.le_of_ble_eq_true rfl, Nat.le_of_ble_eq_true rfl⟩) rfl hl.1 (Nat.le_of_ble_eq_true rfl) dX3_detects_32 ⟨Nat.le_of_ble_eq_true rfl, Nat.le_of_ble_eq_true rfl⟩ hA hS hP hK hD [] [0, 1, 2, 3, 4, 5, 6] rfl rfl (by decide) (by decide) (by decide) [0, 1, 2, 3, 4, 5, 6] (by decide) (fun _ => rfl) rfl (fun _ H locs hp_7 hP hD hS => ?_)
        refine my_if_neB (x := (inR k 1 100)) (tgt := 41) hx hb dX3_detects_35 (by decide) (fun c_8 => ?_) (fun c_8 => ?_)
        · obtain ⟨jt, hjt1, hjt2, rfl, hjtc⟩ := inN_at c_2
          obtain ⟨jn, hjn1, hjn2, rfl, hjnc⟩ := inN_at c_4
          obtain ⟨jf, hjf1, hjf2, hjf3, rfl, hjfc⟩ := inR_at c_6
          obtain ⟨jk, hjk1, hjk2, hjk3, rfl, hjkc⟩ := inR_at c_8
          have okF := okG_flt ok (show jf ≤ 2 by omega) (show jt < 40 by omega)
          refine lv_aload_n hx hb dX3_detects_41 rfl (lv_at hl 0 rfl) ?_
          refine CV.callV (As := []) (rest := []) (w3 := (fun _ => pW cI ad g de ss up dn g)) (c_X3_keep l dC dI cI cZ cR cG ad g be) ⟨hx, hb, hml, hown, hts⟩ (cwV 0 hts gX3_detects_X3_keep rfl rfl rfl (by decide +kernel) ⟨Nat.le_of_ble_eq_true rfl, Nat.le_of_ble_eq_true rfl⟩) rfl hl.1 (Nat.le_of_ble_eq_true rfl) dX3_detects_42 ⟨Nat.le_of_ble_eq_true rfl, Nat.le_of_ble_eq_true rfl⟩ hA hS hP hK hD [0, 1, 6] [2, 3, 4, 5] rfl rfl (by decide) (by decide) (by decide) 0 3 rfl rfl [4, 5, 0, 1, 2, 3, 6] (by decide) (fun _ => rfl) rfl (fun _ H locs hp_9 hP hD hS => ?_)
          refine lv_aload_n hx hb dX3_detects_45 rfl (lv_at hl 0 rfl) ?_
          refine lv_iload_n hx hb dX3_detects_46 rfl (lv_at hl 3 rfl) ?_
          refine lv_iload hx hb dX3_detects_47 (lv_at hl 4 rfl) ?_
          refine CI.callV (As := [.int (nI jn), .int (nI jk)]) (rest := []) (w3 := (fun ⟨w_de, w_ss, w_up, w_dn⟩ => pW cI ad g w_de w_ss w_up w_dn g)) (c_X3_settledValue l dC dI cI cZ cR cG ad g de ss up dn g jn jk (ok) (by omega) (by omega)) ⟨hx, hb, hml, hown, hts⟩ (cwV 2 hts gX3_detects_X3_settledValue rfl rfl rfl (by decide +kernel) ⟨Nat.le_of_ble_eq_true rfl, Nat.le_of_ble_eq_true rfl⟩) rfl hl.1 (Nat.le_of_ble_eq_true rfl) dX3_detects_49 ⟨Nat.le_of_ble_eq_true rfl, Nat.le_of_ble_eq_true rfl⟩ hA hS hP hK hD [0, 1, 2, 3, 4, 5, 6] [] rfl rfl (by decide) (by decide) (by decide) 0 3 rfl rfl [0, 1, 2, 3, 4, 5, 6] (by decide) (fun _ => rfl) rfl (fun ⟨w_de, w_ss, w_up, w_dn⟩ H locs hp_10 hP hD hS => ?_)
          have hP : va_P (dC, dI) vwCl (pW cI ad g w_de w_ss w_up w_dn g) H := hP
          have hD : va_D A (pW cI ad g w_de w_ss w_up w_dn g) := hD
          refine lv_istore (lv' := [(5, .int (mvl jk jn g)), (0, .ref (ad 0)), (1, .int (nI jt)), (2, .int (nI jf)), (3, .int (nI jn)), (4, .int (nI jk))]) hx hb dX3_detects_52 hl (by decide) rfl (fun ls hl => ?_)
          refine lv_aload_n hx hb dX3_detects_54 rfl (lv_at hl 1 rfl) ?_
          refine lv_iload_n hx hb dX3_detects_55 rfl (lv_at hl 2 rfl) ?_
          refine lv_iload_n hx hb dX3_detects_56 rfl (lv_at hl 3 rfl) ?_
          refine lv_iload_n hx hb dX3_detects_57 rfl (lv_at hl 4 rfl) ?_
          refine lv_iload hx hb dX3_detects_58 (lv_at hl 5 rfl) ?_
          refine lv_iload hx hb dX3_detects_60 (lv_at hl 0 rfl) ?_
          refine CI.callV (As := [.int (nI jt), .int (nI jf), .int (nI jn), .int (nI jk), .int (mvl jk jn g)]) (rest := []) (w3 := (fun ⟨w_de, w_ss, w_up, w_dn⟩ => pW cI ad g w_de w_ss w_up w_dn g)) (c_X3_isDetected l dC dI cI cZ cR cG ad g w_de w_ss w_up w_dn g jt jf jn jk (mvl jk jn g) (okF) (by omega) (by omega) (by omega)) ⟨hx, hb, hml, hown, hts⟩ (cwV 5 hts gX3_detects_X3_isDetected rfl rfl rfl (by decide +kernel) ⟨Nat.le_of_ble_eq_true rfl, Nat.le_of_ble_eq_true rfl⟩) rfl hl.1 (Nat.le_of_ble_eq_true rfl) dX3_detects_62 ⟨Nat.le_of_ble_eq_true rfl, Nat.le_of_ble_eq_true rfl⟩ hA hS hP hK hD [0, 1, 2, 3, 4, 5, 6] [] rfl rfl (by decide) (by decide) (by decide) 0 3 rfl rfl [0, 1, 2, 3, 4, 5, 6] (by decide) (fun _ => rfl) rfl (fun ⟨w_de, w_ss, w_up, w_dn⟩ H locs hp_11 hP hD hS => ?_)
          have hP : va_P (dC, dI) vwCl (pW cI ad g w_de w_ss w_up w_dn g) H := hP
          have hD : va_D A (pW cI ad g w_de w_ss w_up w_dn g) := hD
          refine my_if_eqB (x := (oppI (mvl jk jn g) (mvl jk jn (up1 g (250 + jt) jf)))) (tgt := 72) hx hb dX3_detects_65 (by decide) (fun c_12 => ?_) (fun c_12 => ?_)
          · refine lv_iconst (v := nI 0) hx hb dX3_detects_72 (by decide) ?_
            exact ret (w_de, w_ss, w_up, w_dn, g) _ _ _ _ _ _ _ _ (by show _ = aDet g (nI jt) (nI jf) (nI jn) (nI jk); unfold aDet; rw [if_pos c_2, if_pos c_4, if_pos (by rw [c_6, c_8]; rfl), show nx (nI jt) = jt from hjtc, show nx (nI jn) = jn from hjnc, show nx (nI jf) = jf from hjfc, show nx (nI jk) = jk from hjkc, ← opp_det ok (show jt < 40 by omega) (show jf ≤ 2 by omega) hjn1, c_12]; rfl) (trivial) (rfl) hP hD hS (Nat.le_of_ble_eq_true rfl) (Nat.le_of_ble_eq_true rfl) dX3_detects_73
          · refine lv_iconst (v := nI 1) hx hb dX3_detects_68 (by decide) ?_
            refine lv_goto (tgt := 73) hx hb dX3_detects_69 (by decide) ?_
            exact ret (w_de, w_ss, w_up, w_dn, g) _ _ _ _ _ _ _ _ (by show _ = aDet g (nI jt) (nI jf) (nI jn) (nI jk); unfold aDet; rw [if_pos c_2, if_pos c_4, if_pos (by rw [c_6, c_8]; rfl), show nx (nI jt) = jt from hjtc, show nx (nI jn) = jn from hjnc, show nx (nI jf) = jf from hjfc, show nx (nI jk) = jk from hjkc, ← opp_det ok (show jt < 40 by omega) (show jf ≤ 2 by omega) hjn1, c_12]; rfl) (trivial) (rfl) hP hD hS (Nat.le_of_ble_eq_true rfl) (Nat.le_of_ble_eq_true rfl) dX3_detects_73
        · refine lv_bipush (v := -3) hx hb dX3_detects_38 (by decide) ?_
          exact ret (de, ss, up, dn, be) _ _ _ _ _ _ _ _ (by show _ = aDet g t f n k; unfold aDet; rw [if_pos c_2, if_pos c_4, if_neg (by rw [c_6, c_8]; simp)]) (trivial) (rfl) hP hD hS (Nat.le_of_ble_eq_true rfl) (Nat.le_of_ble_eq_true rfl) dX3_detects_40
    · refine lv_iconst (v := -1) hx hb dX3_detects_19 (by decide) ?_
      exact ret (de, ss, up, dn, be) _ _ _ _ _ _ _ _ (by show _ = aDet g t f n k; unfold aDet; rw [if_pos c_2, if_neg (by rw [c_4]; decide)]) (trivial) (rfl) hP hD hS (Nat.le_of_ble_eq_true rfl) (Nat.le_of_ble_eq_true rfl) dX3_detects_20
  · refine lv_bipush (v := -2) hx hb dX3_detects_8 (by decide) ?_
    exact ret (de, ss, up, dn, be) _ _ _ _ _ _ _ _ (by show _ = aDet g t f n k; unfold aDet; rw [if_neg (by rw [c_2]; decide)]) (trivial) (rfl) hP hD hS (Nat.le_of_ble_eq_true rfl) (Nat.le_of_ble_eq_true rfl) dX3_detects_10
abbrev rm_X3_detectedFaults : Room := { frames := 9, cells := 0, slots := 0, locals := 209 }
set_option maxHeartbeats 4000000 in
set_option maxRecDepth 100000 in
theorem c_X3_detectedFaults (l : Launch) (dC : Nat → ClassId) (dI : Nat → Nat → Nat) (cI cZ cR cG : ClassId) (ad : Nat → Nat) (g de ss up dn be : Nat → Nat) (n k : Int32) (ok : okG g) : CI l (dC, dI) (tyL cI cZ cR cG) yX3_detectedFaults wsX3_detectedFaults rm_X3_detectedFaults [.ref (ad 0), .int n, .int k] (pW cI ad g de ss up dn be) (S := F5) (fun _ => aDfs g n k) (fun _ => True) (fun u => pW cI ad g u.1 u.2.1 u.2.2.1 u.2.2.2.1 u.2.2.2.2) := by
  refine CI.of (cc := cX3_detectedFaults) (maxL := 6) (rt := .int) (lv := [(0, .ref (ad 0)), (1, .int n), (2, .int k)]) (by decide) rfl (Nat.le_of_ble_eq_true rfl) rfl (Or.inl rfl) ?_
  intro p e s m ar below meth c A Qz ls hx hb hml hown hts hnm hA hS hP hK hD hl ret
  have h0 := ok.1
  have h1 := ok.2.1
  refine lv_aload_n hx hb dX3_detectedFaults_0 rfl (lv_at hl 0 rfl) ?_
  refine lv_iload_n hx hb dX3_detectedFaults_1 rfl (lv_at hl 1 rfl) ?_
  refine CI.callV (As := [.int n]) (rest := []) (w3 := (fun _ => pW cI ad g de ss up dn be)) (c_X3_isNode l dC dI cI cZ cR cG ad g n (ok.1)) ⟨hx, hb, hml, hown, hts⟩ (cwV 1 hts gX3_detectedFaults_X3_isNode rfl rfl rfl (by decide +kernel) ⟨Nat.le_of_ble_eq_true rfl, Nat.le_of_ble_eq_true rfl⟩) rfl hl.1 (Nat.le_of_ble_eq_true rfl) dX3_detectedFaults_2 ⟨Nat.le_of_ble_eq_true rfl, Nat.le_of_ble_eq_true rfl⟩ hA hS hP hK hD [0, 1] [2, 3, 4, 5, 6] rfl rfl (by decide) (by decide) (by decide) 0 3 rfl rfl [5, 6, 0, 1, 2, 3, 4] (by decide) (fun _ => rfl) rfl (fun _ H locs hp_1 hP hD hS => ?_)
  refine my_if_neB (x := (inN n (g 0))) (tgt := 10) hx hb dX3_detectedFaults_5 (by decide) (fun c_2 => ?_) (fun c_2 => ?_)
  · refine lv_iload_n hx hb dX3_detectedFaults_10 rfl (lv_at hl 2 rfl) ?_
    refine CI.callS (As := [.int k]) (rest := []) (w3 := (fun _ => pW cI ad g de ss up dn be)) (c_X3_isLimit l dC dI cI cZ cR cG k) ⟨hx, hb, hml, hown, hts⟩ (va_cwS 1 hts gX3_detectedFaults_X3_isLimit rfl rfl rfl (by decide +kernel) ⟨Nat.le_of_ble_eq_true rfl, Nat.le_of_ble_eq_true rfl⟩) rfl hl.1 (Nat.le_of_ble_eq_true rfl) dX3_detectedFaults_11 ⟨Nat.le_of_ble_eq_true rfl, Nat.le_of_ble_eq_true rfl⟩ hA hS hP hK hD [] [0, 1, 2, 3, 4, 5, 6] rfl rfl (by decide) (by decide) (by decide) [0, 1, 2, 3, 4, 5, 6] (by decide) (fun _ => rfl) rfl (fun _ H locs hp_3 hP hD hS => ?_)
    refine my_if_neB (x := (inR k 1 100)) (tgt := 20) hx hb dX3_detectedFaults_14 (by decide) (fun c_4 => ?_) (fun c_4 => ?_)
    · obtain ⟨jn, hjn1, hjn2, rfl, hjnc⟩ := inN_at c_2
      obtain ⟨jk, hjk1, hjk2, hjk3, rfl, hjkc⟩ := inR_at c_4
      refine lv_aload_n hx hb dX3_detectedFaults_20 rfl (lv_at hl 0 rfl) ?_
      refine CV.callV (As := []) (rest := []) (w3 := (fun _ => pW cI ad g de ss up dn g)) (c_X3_keep l dC dI cI cZ cR cG ad g be) ⟨hx, hb, hml, hown, hts⟩ (cwV 0 hts gX3_detectedFaults_X3_keep rfl rfl rfl (by decide +kernel) ⟨Nat.le_of_ble_eq_true rfl, Nat.le_of_ble_eq_true rfl⟩) rfl hl.1 (Nat.le_of_ble_eq_true rfl) dX3_detectedFaults_21 ⟨Nat.le_of_ble_eq_true rfl, Nat.le_of_ble_eq_true rfl⟩ hA hS hP hK hD [0, 1, 6] [2, 3, 4, 5] rfl rfl (by decide) (by decide) (by decide) 0 3 rfl rfl [4, 5, 0, 1, 2, 3, 6] (by decide) (fun _ => rfl) rfl (fun _ H locs hp_5 hP hD hS => ?_)
      refine lv_aload_n hx hb dX3_detectedFaults_24 rfl (lv_at hl 0 rfl) ?_
      refine lv_iload_n hx hb dX3_detectedFaults_25 rfl (lv_at hl 1 rfl) ?_
      refine lv_iload_n hx hb dX3_detectedFaults_26 rfl (lv_at hl 2 rfl) ?_
      refine CI.callV (As := [.int (nI jn), .int (nI jk)]) (rest := []) (w3 := (fun ⟨w_de, w_ss, w_up, w_dn⟩ => pW cI ad g w_de w_ss w_up w_dn g)) (c_X3_settledValue l dC dI cI cZ cR cG ad g de ss up dn g jn jk (ok) (by omega) (by omega)) ⟨hx, hb, hml, hown, hts⟩ (cwV 2 hts gX3_detectedFaults_X3_settledValue rfl rfl rfl (by decide +kernel) ⟨Nat.le_of_ble_eq_true rfl, Nat.le_of_ble_eq_true rfl⟩) rfl hl.1 (Nat.le_of_ble_eq_true rfl) dX3_detectedFaults_27 ⟨Nat.le_of_ble_eq_true rfl, Nat.le_of_ble_eq_true rfl⟩ hA hS hP hK hD [0, 1, 2, 3, 4, 5, 6] [] rfl rfl (by decide) (by decide) (by decide) 0 3 rfl rfl [0, 1, 2, 3, 4, 5, 6] (by decide) (fun _ => rfl) rfl (fun ⟨w_de, w_ss, w_up, w_dn⟩ H locs hp_6 hP hD hS => ?_)
      have hP : va_P (dC, dI) vwCl (pW cI ad g w_de w_ss w_up w_dn g) H := hP
      have hD : va_D A (pW cI ad g w_de w_ss w_up w_dn g) := hD
      refine lv_istore_n (lv' := [(3, .int (mvl jk jn g)), (0, .ref (ad 0)), (1, .int (nI jn)), (2, .int (nI jk))]) hx hb dX3_detectedFaults_30 rfl hl (by decide) rfl (fun ls hl => ?_)
      refine lv_iconst (v := nI 0) hx hb dX3_detectedFaults_31 (by decide) ?_
      refine lv_istore (lv' := [(4, .int (nI 0)), (3, .int (mvl jk jn g)), (0, .ref (ad 0)), (1, .int (nI jn)), (2, .int (nI jk))]) hx hb dX3_detectedFaults_32 hl (by decide) rfl (fun ls hl => ?_)
      refine lv_iconst (v := nI 0) hx hb dX3_detectedFaults_34 (by decide) ?_
      refine lv_istore (lv' := [(5, .int (nI 0)), (4, .int (nI 0)), (3, .int (mvl jk jn g)), (0, .ref (ad 0)), (1, .int (nI jn)), (2, .int (nI jk))]) hx hb dX3_detectedFaults_35 hl (by decide) rfl (fun ls hl => ?_)
      have key_37 : ∀ (fu : Nat) (i : Nat) (d1 : Nat → Nat) (d2 : Nat → Nat) (d3 : Nat → Nat) (d4 : Nat → Nat), (2 * g 1 - i) < fu → (i ≤ 2 * g 1) → ∀ (H : Heap) (locs : List Loc) (ls : Array Slot), va_P (dC, dI) vwCl (pW cI ad g d1 d2 d3 d4 g) H → va_D A (pW cI ad g d1 d2 d3 d4 g) → va_S A s.heap H locs → lv_has ls 6 [(5, .int (nI i)), (4, .int (nI (dct g jn jk i))), (3, .int (mvl jk jn g)), (0, .ref (ad 0)), (1, .int (nI jn)), (2, .int (nI jk))] → W p l e rm_X3_detectedFaults s m ar below meth c H locs 0 0 Qz (F0 m 37 ls []) := by
        intro fu
        induction fu with
        | zero => intro i d1 d2 d3 d4 hmu; exact absurd hmu (Nat.not_lt_zero _)
        | succ fu ih_37 =>
          intro i d1 d2 d3 d4 hmu_37 hi H locs ls hP hD hS hl
          refine lv_iload hx hb dX3_detectedFaults_37 (lv_at hl 0 rfl) ?_
          refine lv_iconst (v := nI 2) hx hb dX3_detectedFaults_39 (by decide) ?_
          refine lv_aload_n hx hb dX3_detectedFaults_40 rfl (lv_at hl 3 rfl) ?_
          refine CI.callV (As := []) (rest := [.int (nI 2), .int (nI i)]) (w3 := (fun _ => pW cI ad g d1 d2 d3 d4 g)) (c_X3_many l dC dI cI cZ cR cG ad g) ⟨hx, hb, hml, hown, hts⟩ (cwV 0 hts gX3_detectedFaults_X3_many rfl rfl rfl (by decide +kernel) ⟨Nat.le_of_ble_eq_true rfl, Nat.le_of_ble_eq_true rfl⟩) rfl hl.1 (Nat.le_of_ble_eq_true rfl) dX3_detectedFaults_41 ⟨Nat.le_of_ble_eq_true rfl, Nat.le_of_ble_eq_true rfl⟩ hA hS hP hK hD [0, 1] [2, 3, 4, 5, 6] rfl rfl (by decide) (by decide) (by decide) 0 3 rfl rfl [5, 6, 0, 1, 2, 3, 4] (by decide) (fun _ => rfl) rfl (fun _ H locs hp_8 hP hD hS => ?_)
          refine my_imul (x := 2) (y := (g 1)) hx hb dX3_detectedFaults_44 ?_
          refine my_icmp_ge (x := i) (y := (2 * g 1)) (tgt := 84) hx hb (by omega) (by omega) dX3_detectedFaults_45 (by decide) (fun c_9 => ?_) (fun c_9 => ?_)
          · refine lv_iload hx hb dX3_detectedFaults_84 (lv_at hl 1 rfl) ?_
            exact ret (d1, d2, d3, d4, g) _ _ _ _ _ _ _ _ (by show _ = aDfs g (nI jn) (nI jk); unfold aDfs; rw [if_pos c_2, if_pos c_4, show nx (nI jn) = jn from hjnc, show nx (nI jk) = jk from hjkc, show i = 2 * g 1 by omega]) (trivial) (rfl) hP hD hS (Nat.le_of_ble_eq_true rfl) (Nat.le_of_ble_eq_true rfl) dX3_detectedFaults_86
          · refine lv_iload hx hb dX3_detectedFaults_48 (lv_at hl 1 rfl) ?_
            refine lv_aload_n hx hb dX3_detectedFaults_50 rfl (lv_at hl 3 rfl) ?_
            refine lv_iload hx hb dX3_detectedFaults_51 (lv_at hl 0 rfl) ?_
            refine lv_iconst (v := nI 2) hx hb dX3_detectedFaults_53 (by decide) ?_
            refine my_idiv (x := i) (y := 2) hx hb (by omega) (by omega) (by omega) dX3_detectedFaults_54 ?_
            refine lv_iload hx hb dX3_detectedFaults_55 (lv_at hl 0 rfl) ?_
            refine lv_iconst (v := nI 2) hx hb dX3_detectedFaults_57 (by decide) ?_
            refine my_irem (x := i) (y := 2) hx hb (by omega) (by omega) (by omega) dX3_detectedFaults_58 ?_
            refine lv_iconst (v := nI 1) hx hb dX3_detectedFaults_59 (by decide) ?_
            refine my_iadd (x := (i % 2)) (y := 1) hx hb dX3_detectedFaults_60 ?_
            refine lv_iload_n hx hb dX3_detectedFaults_61 rfl (lv_at hl 4 rfl) ?_
            refine lv_iload_n hx hb dX3_detectedFaults_62 rfl (lv_at hl 5 rfl) ?_
            refine lv_iload_n hx hb dX3_detectedFaults_63 rfl (lv_at hl 2 rfl) ?_
            refine CI.callV (As := [.int (nI (i / 2)), .int (nI ((i % 2) + 1)), .int (nI jn), .int (nI jk), .int (mvl jk jn g)]) (rest := [.int (nI (dct g jn jk i))]) (w3 := (fun ⟨w_de, w_ss, w_up, w_dn⟩ => pW cI ad g w_de w_ss w_up w_dn g)) (c_X3_isDetected l dC dI cI cZ cR cG ad g d1 d2 d3 d4 g (i / 2) ((i % 2) + 1) jn jk (mvl jk jn g) (okG_flt ok (show i % 2 + 1 ≤ 2 by omega) (show i / 2 < 40 by omega)) (by omega) (by omega) (by omega)) ⟨hx, hb, hml, hown, hts⟩ (cwV 5 hts gX3_detectedFaults_X3_isDetected rfl rfl rfl (by decide +kernel) ⟨Nat.le_of_ble_eq_true rfl, Nat.le_of_ble_eq_true rfl⟩) rfl hl.1 (Nat.le_of_ble_eq_true rfl) dX3_detectedFaults_64 ⟨Nat.le_of_ble_eq_true rfl, Nat.le_of_ble_eq_true rfl⟩ hA hS hP hK hD [0, 1, 2, 3, 4, 5, 6] [] rfl rfl (by decide) (by decide) (by decide) 0 3 rfl rfl [0, 1, 2, 3, 4, 5, 6] (by decide) (fun _ => rfl) rfl (fun ⟨w_de, w_ss, w_up, w_dn⟩ H locs hp_10 hP hD hS => ?_)
            have hP : va_P (dC, dI) vwCl (pW cI ad g w_de w_ss w_up w_dn g) H := hP
            have hD : va_D A (pW cI ad g w_de w_ss w_up w_dn g) := hD
            refine my_if_eqB (x := (oppI (mvl jk jn g) (mvl jk jn (up1 g (250 + (i / 2)) ((i % 2) + 1))))) (tgt := 74) hx hb dX3_detectedFaults_67 (by decide) (fun c_11 => ?_) (fun c_11 => ?_)
            · refine lv_iconst (v := nI 0) hx hb dX3_detectedFaults_74 (by decide) ?_
              refine my_iadd (x := (dct g jn jk i)) (y := 0) hx hb dX3_detectedFaults_75 ?_
              refine my_cast (show nI (dct g jn jk i + 0) = nI (dct g jn jk (i + 1)) from by congr 1; rw [dct, ← opp_det ok (show i / 2 < 40 by omega) (show i % 2 + 1 ≤ 2 by omega) hjn1, c_11]; try rfl) ?_
              refine lv_istore (lv' := [(4, .int (nI (dct g jn jk (i + 1)))), (5, .int (nI i)), (3, .int (mvl jk jn g)), (0, .ref (ad 0)), (1, .int (nI jn)), (2, .int (nI jk))]) hx hb dX3_detectedFaults_76 hl (by decide) rfl (fun ls hl => ?_)
              refine my_iinc (k := 1) (x := i) (d := 1) (lv' := [(5, .int (nI (i + 1))), (4, .int (nI (dct g jn jk (i + 1)))), (3, .int (mvl jk jn g)), (0, .ref (ad 0)), (1, .int (nI jn)), (2, .int (nI jk))]) hx hb dX3_detectedFaults_78 hl rfl (by decide) (by decide) rfl (fun ls hl => ?_)
              refine lv_goto (tgt := 37) hx hb dX3_detectedFaults_81 (by decide) ?_
              exact ih_37 (i + 1) w_de w_ss w_up w_dn (by omega) (by omega) _ _ _ hP hD hS (lv_sub hl [0, 1, 2, 3, 4, 5] rfl)
            · refine lv_iconst (v := nI 1) hx hb dX3_detectedFaults_70 (by decide) ?_
              refine lv_goto (tgt := 75) hx hb dX3_detectedFaults_71 (by decide) ?_
              refine my_iadd (x := (dct g jn jk i)) (y := 1) hx hb dX3_detectedFaults_75 ?_
              refine my_cast (show nI (dct g jn jk i + 1) = nI (dct g jn jk (i + 1)) from by congr 1; rw [dct, ← opp_det ok (show i / 2 < 40 by omega) (show i % 2 + 1 ≤ 2 by omega) hjn1, c_11]; try rfl) ?_
              refine lv_istore (lv' := [(4, .int (nI (dct g jn jk (i + 1)))), (5, .int (nI i)), (3, .int (mvl jk jn g)), (0, .ref (ad 0)), (1, .int (nI jn)), (2, .int (nI jk))]) hx hb dX3_detectedFaults_76 hl (by decide) rfl (fun ls hl => ?_)
              refine my_iinc (k := 1) (x := i) (d := 1) (lv' := [(5, .int (nI (i + 1))), (4, .int (nI (dct g jn jk (i + 1)))), (3, .int (mvl jk jn g)), (0, .ref (ad 0)), (1, .int (nI jn)), (2, .int (nI jk))]) hx hb dX3_detectedFaults_78 hl rfl (by decide) (by decide) rfl (fun ls hl => ?_)
              refine lv_goto (tgt := 37) hx hb dX3_detectedFaults_81 (by decide) ?_
              exact ih_37 (i + 1) w_de w_ss w_up w_dn (by omega) (by omega) _ _ _ hP hD hS (lv_sub hl [0, 1, 2, 3, 4, 5] rfl)
      exact key_37 _ 0 w_de w_ss w_up w_dn (Nat.lt_succ_self _) (Nat.zero_le _) _ _ _ hP hD hS (lv_sub hl [0, 1, 2, 3, 4, 5] rfl)
    · refine lv_bipush (v := -3) hx hb dX3_detectedFaults_17 (by decide) ?_
      exact ret (de, ss, up, dn, be) _ _ _ _ _ _ _ _ (by show _ = aDfs g n k; unfold aDfs; rw [if_pos c_2, if_neg (by rw [c_4]; decide)]) (trivial) (rfl) hP hD hS (Nat.le_of_ble_eq_true rfl) (Nat.le_of_ble_eq_true rfl) dX3_detectedFaults_19
  · refine lv_iconst (v := -1) hx hb dX3_detectedFaults_8 (by decide) ?_
    exact ret (de, ss, up, dn, be) _ _ _ _ _ _ _ _ (by show _ = aDfs g n k; unfold aDfs; rw [if_neg (by rw [c_2]; decide)]) (trivial) (rfl) hP hD hS (Nat.le_of_ble_eq_true rfl) (Nat.le_of_ble_eq_true rfl) dX3_detectedFaults_9
abbrev rm_X3_period : Room := { frames := 6, cells := 0, slots := 0, locals := 137 }
set_option maxHeartbeats 4000000 in
set_option maxRecDepth 100000 in
theorem c_X3_period (l : Launch) (dC : Nat → ClassId) (dI : Nat → Nat → Nat) (cI cZ cR cG : ClassId) (ad : Nat → Nat) (g de ss up dn be : Nat → Nat) (x : Int32) (ok : okG g) : CI l (dC, dI) (tyL cI cZ cR cG) yX3_period wsX3_period rm_X3_period [.ref (ad 0), .int x] (pW cI ad g de ss up dn be) (S := F5) (fun _ => aPer g x) (fun _ => True) (fun u => pW cI ad g u.1 u.2.1 u.2.2.1 u.2.2.2.1 u.2.2.2.2) := by
  refine CI.of (cc := cX3_period) (maxL := 6) (rt := .int) (lv := [(0, .ref (ad 0)), (1, .int x)]) (by decide) rfl (Nat.le_of_ble_eq_true rfl) rfl (Or.inl rfl) ?_
  intro p e s m ar below meth c A Qz ls hx hb hml hown hts hnm hA hS hP hK hD hl ret
  have h0 := ok.1
  have h1 := ok.2.1
  refine lv_iload_n hx hb dX3_period_0 rfl (lv_at hl 1 rfl) ?_
  refine CI.callS (As := [.int x]) (rest := []) (w3 := (fun _ => pW cI ad g de ss up dn be)) (c_X3_isLimit l dC dI cI cZ cR cG x) ⟨hx, hb, hml, hown, hts⟩ (va_cwS 1 hts gX3_period_X3_isLimit rfl rfl rfl (by decide +kernel) ⟨Nat.le_of_ble_eq_true rfl, Nat.le_of_ble_eq_true rfl⟩) rfl hl.1 (Nat.le_of_ble_eq_true rfl) dX3_period_1 ⟨Nat.le_of_ble_eq_true rfl, Nat.le_of_ble_eq_true rfl⟩ hA hS hP hK hD [] [0, 1, 2, 3, 4, 5, 6] rfl rfl (by decide) (by decide) (by decide) [0, 1, 2, 3, 4, 5, 6] (by decide) (fun _ => rfl) rfl (fun _ H locs hp_1 hP hD hS => ?_)
  refine my_if_neB (x := (inR x 1 100)) (tgt := 10) hx hb dX3_period_4 (by decide) (fun c_2 => ?_) (fun c_2 => ?_)
  · obtain ⟨j, hj1, hj2, hj3, rfl, hjc⟩ := inR_at c_2
    refine lv_aload_n hx hb dX3_period_10 rfl (lv_at hl 0 rfl) ?_
    refine CV.callV (As := []) (rest := []) (w3 := (fun _ => pW cI ad g de ss up dn g)) (c_X3_keep l dC dI cI cZ cR cG ad g be) ⟨hx, hb, hml, hown, hts⟩ (cwV 0 hts gX3_period_X3_keep rfl rfl rfl (by decide +kernel) ⟨Nat.le_of_ble_eq_true rfl, Nat.le_of_ble_eq_true rfl⟩) rfl hl.1 (Nat.le_of_ble_eq_true rfl) dX3_period_11 ⟨Nat.le_of_ble_eq_true rfl, Nat.le_of_ble_eq_true rfl⟩ hA hS hP hK hD [0, 1, 6] [2, 3, 4, 5] rfl rfl (by decide) (by decide) (by decide) 0 3 rfl rfl [4, 5, 0, 1, 2, 3, 6] (by decide) (fun _ => rfl) rfl (fun _ H locs hp_3 hP hD hS => ?_)
    refine lv_bipush (v := -8) hx hb dX3_period_14 (by decide) ?_
    refine lv_istore_n (lv' := [(2, .int (-8)), (0, .ref (ad 0)), (1, .int (nI j))]) hx hb dX3_period_16 rfl hl (by decide) rfl (fun ls hl => ?_)
    refine lv_iconst (v := nI 1) hx hb dX3_period_17 (by decide) ?_
    refine lv_istore_n (lv' := [(3, .int (nI 1)), (2, .int (-8)), (0, .ref (ad 0)), (1, .int (nI j))]) hx hb dX3_period_18 rfl hl (by decide) rfl (fun ls hl => ?_)
    have key_19 : ∀ (fu : Nat) (n : Nat) (f : Nat → Nat) (fo : Int32) (d1 : Nat → Nat) (d2 : Nat → Nat) (d3 : Nat → Nat) (d4 : Nat → Nat), (j + 1 - n) < fu → (1 ≤ n ∧ n ≤ j + 1) → (okG f) → (f 0 = g 0) → ((fo = -8 ∧ perA (j + 1 - n) n f g = perA j 1 g g) ∨ (0 ≤ fo ∧ fo = perA j 1 g g)) → ∀ (H : Heap) (locs : List Loc) (ls : Array Slot), va_P (dC, dI) vwCl (pW cI ad f d1 d2 d3 d4 g) H → va_D A (pW cI ad f d1 d2 d3 d4 g) → va_S A s.heap H locs → lv_has ls 6 [(3, .int (nI n)), (2, .int fo), (0, .ref (ad 0)), (1, .int (nI j))] → W p l e rm_X3_period s m ar below meth c H locs 0 0 Qz (F0 m 19 ls []) := by
      intro fu
      induction fu with
      | zero => intro n f fo d1 d2 d3 d4 hmu; exact absurd hmu (Nat.not_lt_zero _)
      | succ fu ih_19 =>
        intro n f fo d1 d2 d3 d4 hmu_19 hn okf hN hI H locs ls hP hD hS hl
        refine lv_iload_n hx hb dX3_period_19 rfl (lv_at hl 0 rfl) ?_
        refine lv_iload_n hx hb dX3_period_20 rfl (lv_at hl 3 rfl) ?_
        refine my_icmp_gt (x := n) (y := j) (tgt := 107) hx hb (by omega) (by omega) dX3_period_21 (by decide) (fun c_5 => ?_) (fun c_5 => ?_)
        · refine lv_aload_n hx hb dX3_period_107 rfl (lv_at hl 2 rfl) ?_
          refine CV.callV (As := []) (rest := []) (w3 := (fun _ => pW cI ad g d1 d2 d3 d4 g)) (c_X3_putBack l dC dI cI cZ cR cG ad f g) ⟨hx, hb, hml, hown, hts⟩ (cwV 0 hts gX3_period_X3_putBack rfl rfl rfl (by decide +kernel) ⟨Nat.le_of_ble_eq_true rfl, Nat.le_of_ble_eq_true rfl⟩) rfl hl.1 (Nat.le_of_ble_eq_true rfl) dX3_period_108 ⟨Nat.le_of_ble_eq_true rfl, Nat.le_of_ble_eq_true rfl⟩ hA hS hP hK hD [0, 1, 6] [2, 3, 4, 5] rfl rfl (by decide) (by decide) (by decide) 0 3 rfl rfl [4, 5, 0, 1, 2, 3, 6] (by decide) (fun _ => rfl) rfl (fun _ H locs hp_6 hP hD hS => ?_)
          refine lv_iload_n hx hb dX3_period_111 rfl (lv_at hl 1 rfl) ?_
          exact ret (d1, d2, d3, d4, g) _ _ _ _ _ _ _ _ (by show _ = aPer g (nI j); unfold aPer; rw [if_pos c_2, show nx (nI j) = j from hjc]; exact hI.elim (fun z => by rw [z.1, ← z.2, show j + 1 - n = 0 by omega, perA_0]) (fun z => z.2)) (trivial) (rfl) hP hD hS (Nat.le_of_ble_eq_true rfl) (Nat.le_of_ble_eq_true rfl) dX3_period_112
        · refine lv_iload_n hx hb dX3_period_24 rfl (lv_at hl 1 rfl) ?_
          refine lv_if_ge (x := fo) (tgt := 107) hx hb dX3_period_25 (by decide) (fun c_7 => ?_) (fun c_7 => ?_)
          · refine lv_aload_n hx hb dX3_period_107 rfl (lv_at hl 2 rfl) ?_
            refine CV.callV (As := []) (rest := []) (w3 := (fun _ => pW cI ad g d1 d2 d3 d4 g)) (c_X3_putBack l dC dI cI cZ cR cG ad f g) ⟨hx, hb, hml, hown, hts⟩ (cwV 0 hts gX3_period_X3_putBack rfl rfl rfl (by decide +kernel) ⟨Nat.le_of_ble_eq_true rfl, Nat.le_of_ble_eq_true rfl⟩) rfl hl.1 (Nat.le_of_ble_eq_true rfl) dX3_period_108 ⟨Nat.le_of_ble_eq_true rfl, Nat.le_of_ble_eq_true rfl⟩ hA hS hP hK hD [0, 1, 6] [2, 3, 4, 5] rfl rfl (by decide) (by decide) (by decide) 0 3 rfl rfl [4, 5, 0, 1, 2, 3, 6] (by decide) (fun _ => rfl) rfl (fun _ H locs hp_8 hP hD hS => ?_)
            refine lv_iload_n hx hb dX3_period_111 rfl (lv_at hl 1 rfl) ?_
            exact ret (d1, d2, d3, d4, g) _ _ _ _ _ _ _ _ (by show _ = aPer g (nI j); unfold aPer; rw [if_pos c_2, show nx (nI j) = j from hjc]; exact hI.elim (fun z => absurd c_7 (by rw [z.1]; decide)) (fun z => z.2)) (trivial) (rfl) hP hD hS (Nat.le_of_ble_eq_true rfl) (Nat.le_of_ble_eq_true rfl) dX3_period_112
          · have hI2 : fo = -8 ∧ perA (j + 1 - n) n f g = perA j 1 g g := hI.elim (fun z => z) (fun z => absurd z.1 c_7)
            refine lv_aload_n hx hb dX3_period_28 rfl (lv_at hl 2 rfl) ?_
            refine CI.callV (As := []) (rest := []) (w3 := (fun ⟨w_de, w_ss, w_up, w_dn⟩ => pW cI ad (stp f) w_de w_ss w_up w_dn g)) (c_X3_stepNow l dC dI cI cZ cR cG ad f d1 d2 d3 d4  (okf)) ⟨hx, hb, hml, hown, hts⟩ (cwV 0 hts gX3_period_X3_stepNow rfl rfl rfl (by decide +kernel) ⟨Nat.le_of_ble_eq_true rfl, Nat.le_of_ble_eq_true rfl⟩) rfl hl.1 (Nat.le_of_ble_eq_true rfl) dX3_period_29 ⟨Nat.le_of_ble_eq_true rfl, Nat.le_of_ble_eq_true rfl⟩ hA hS hP hK hD [0, 1, 2, 3, 4, 5] [6] rfl rfl (by decide) (by decide) (by decide) 0 3 rfl rfl [1, 2, 3, 4, 5, 6, 0] (by decide) (fun _ => rfl) rfl (fun ⟨w_de, w_ss, w_up, w_dn⟩ H locs hp_9 hP hD hS => ?_)
            have hP : va_P (dC, dI) vwCl (pW cI ad (stp f) w_de w_ss w_up w_dn g) H := hP
            have hD : va_D A (pW cI ad (stp f) w_de w_ss w_up w_dn g) := hD
            refine lv_pop hx hb dX3_period_32 rfl ?_
            refine lv_iconst (v := nI 1) hx hb dX3_period_33 (by decide) ?_
            refine lv_istore (lv' := [(4, .int (nI 1)), (3, .int (nI n)), (2, .int fo), (0, .ref (ad 0)), (1, .int (nI j))]) hx hb dX3_period_34 hl (by decide) rfl (fun ls hl => ?_)
            refine lv_iconst (v := nI 0) hx hb dX3_period_36 (by decide) ?_
            refine lv_istore (lv' := [(5, .int (nI 0)), (4, .int (nI 1)), (3, .int (nI n)), (2, .int fo), (0, .ref (ad 0)), (1, .int (nI j))]) hx hb dX3_period_37 hl (by decide) rfl (fun ls hl => ?_)
            have key_39 : ∀ (fu : Nat) (q : Nat) (sa : Bool), (g 0 - q) < fu → (q ≤ g 0) → (sa = sameK (stp f) g q) → ∀ (H : Heap) (locs : List Loc) (ls : Array Slot), va_P (dC, dI) vwCl (pW cI ad (stp f) w_de w_ss w_up w_dn g) H → va_D A (pW cI ad (stp f) w_de w_ss w_up w_dn g) → va_S A s.heap H locs → lv_has ls 6 [(5, .int (nI q)), (4, .int (bI sa)), (3, .int (nI n)), (2, .int fo), (0, .ref (ad 0)), (1, .int (nI j))] → W p l e rm_X3_period s m ar below meth c H locs 0 0 Qz (F0 m 39 ls []) := by
              intro fu
              induction fu with
              | zero => intro q sa hmu; exact absurd hmu (Nat.not_lt_zero _)
              | succ fu ih_39 =>
                intro q sa hmu_39 hq hsa H locs ls hP hD hS hl
                refine lv_iload hx hb dX3_period_39 (lv_at hl 0 rfl) ?_
                refine lv_aload_n hx hb dX3_period_41 rfl (lv_at hl 4 rfl) ?_
                refine CI.callV (As := []) (rest := [.int (nI q)]) (w3 := (fun _ => pW cI ad (stp f) w_de w_ss w_up w_dn g)) (c_X3_nodes l dC dI cI cZ cR cG ad (stp f)) ⟨hx, hb, hml, hown, hts⟩ (cwV 0 hts gX3_period_X3_nodes rfl rfl rfl (by decide +kernel) ⟨Nat.le_of_ble_eq_true rfl, Nat.le_of_ble_eq_true rfl⟩) rfl hl.1 (Nat.le_of_ble_eq_true rfl) dX3_period_42 ⟨Nat.le_of_ble_eq_true rfl, Nat.le_of_ble_eq_true rfl⟩ hA hS hP hK hD [0, 1] [2, 3, 4, 5, 6] rfl rfl (by decide) (by decide) (by decide) 0 3 rfl rfl [5, 6, 0, 1, 2, 3, 4] (by decide) (fun _ => rfl) rfl (fun _ H locs hp_11 hP hD hS => ?_)
                refine my_cast (show nI ((stp f) 0) = nI (g 0) from by rw [stp_lo (by omega), hN]) ?_
                refine my_icmp_ge (x := q) (y := (g 0)) (tgt := 89) hx hb (by omega) (by omega) dX3_period_45 (by decide) (fun c_12 => ?_) (fun c_12 => ?_)
                · have hsm : sameV (stp f) g = sa := by rw [hsa, show q = g 0 by omega]; rfl
                  refine lv_iload hx hb dX3_period_89 (lv_at hl 1 rfl) ?_
                  refine my_if_eqB (x := sa) (tgt := 98) hx hb dX3_period_91 (by decide) (fun c_13 => ?_) (fun c_13 => ?_)
                  · refine lv_bipush (v := -8) hx hb dX3_period_98 (by decide) ?_
                    refine lv_istore_n (lv' := [(2, .int (-8)), (5, .int (nI q)), (4, .int (bI sa)), (3, .int (nI n)), (0, .ref (ad 0)), (1, .int (nI j))]) hx hb dX3_period_100 rfl hl (by decide) rfl (fun ls hl => ?_)
                    refine my_iinc (k := 3) (x := n) (d := 1) (lv' := [(3, .int (nI (n + 1))), (2, .int (-8)), (5, .int (nI q)), (4, .int (bI sa)), (0, .ref (ad 0)), (1, .int (nI j))]) hx hb dX3_period_101 hl rfl (by decide) (by decide) rfl (fun ls hl => ?_)
                    refine lv_goto (tgt := 19) hx hb dX3_period_104 (by decide) ?_
                    exact ih_19 (n + 1) (stp f) (-8) w_de w_ss w_up w_dn (by omega) (by omega) (stp_ok okf) (by rw [stp_lo (by omega)]; exact hN) (Or.inl ⟨rfl, by have e8 : j + 1 - n = (j + 1 - (n + 1)) + 1 := (by omega); have e9 := hI2.2; rw [e8, perA_s, if_neg (by rw [hsm, c_13]; decide)] at e9; exact e9⟩) _ _ _ hP hD hS (lv_sub hl [0, 1, 4, 5] rfl)
                  · refine lv_iload_n hx hb dX3_period_94 rfl (lv_at hl 2 rfl) ?_
                    refine lv_goto (tgt := 100) hx hb dX3_period_95 (by decide) ?_
                    refine lv_istore_n (lv' := [(2, .int (nI n)), (5, .int (nI q)), (4, .int (bI sa)), (3, .int (nI n)), (0, .ref (ad 0)), (1, .int (nI j))]) hx hb dX3_period_100 rfl hl (by decide) rfl (fun ls hl => ?_)
                    refine my_iinc (k := 3) (x := n) (d := 1) (lv' := [(3, .int (nI (n + 1))), (2, .int (nI n)), (5, .int (nI q)), (4, .int (bI sa)), (0, .ref (ad 0)), (1, .int (nI j))]) hx hb dX3_period_101 hl rfl (by decide) (by decide) rfl (fun ls hl => ?_)
                    refine lv_goto (tgt := 19) hx hb dX3_period_104 (by decide) ?_
                    exact ih_19 (n + 1) (stp f) (nI n) w_de w_ss w_up w_dn (by omega) (by omega) (stp_ok okf) (by rw [stp_lo (by omega)]; exact hN) (Or.inr ⟨nI_pos' (by omega), by have e8 : j + 1 - n = (j + 1 - (n + 1)) + 1 := (by omega); have e9 := hI2.2; rw [e8, perA_s, if_pos (by rw [hsm, c_13])] at e9; exact e9⟩) _ _ _ hP hD hS (lv_sub hl [0, 1, 4, 5] rfl)
                · refine lv_iload hx hb dX3_period_48 (lv_at hl 1 rfl) ?_
                  refine my_if_eqB (x := sa) (tgt := 80) hx hb dX3_period_50 (by decide) (fun c_14 => ?_) (fun c_14 => ?_)
                  · refine lv_iconst (v := nI 0) hx hb dX3_period_80 (by decide) ?_
                    refine lv_istore (lv' := [(4, .int (nI 0)), (5, .int (nI q)), (3, .int (nI n)), (2, .int fo), (0, .ref (ad 0)), (1, .int (nI j))]) hx hb dX3_period_81 hl (by decide) rfl (fun ls hl => ?_)
                    refine my_iinc (k := 1) (x := q) (d := 1) (lv' := [(5, .int (nI (q + 1))), (4, .int (nI 0)), (3, .int (nI n)), (2, .int fo), (0, .ref (ad 0)), (1, .int (nI j))]) hx hb dX3_period_83 hl rfl (by decide) (by decide) rfl (fun ls hl => ?_)
                    refine lv_goto (tgt := 39) hx hb dX3_period_86 (by decide) ?_
                    exact ih_39 (q + 1) false (by omega) (by omega) (by rw [sameK_f1 (by rw [← hsa]; exact c_14)]) _ _ _ hP hD hS (lv_sub hl [0, 1, 2, 3, 4, 5] rfl)
                  · have hb1 := (stp_ok okf).2.2.1 q (by rw [stp_lo (by omega)]; omega)
                    have hb2 := ok.2.2.1 q (by omega)
                    refine lv_aload_n hx hb dX3_period_53 rfl (lv_at hl 4 rfl) ?_
                    refine va_get (D := (dC, dI)) (ci := 3) (v := .ref (ad 1)) (C := RX3) (T := TX3) (N := 8) hx hb hts (fun _ h9 => List.mem_cons_of_mem _ (List.mem_append_right _ h9)) hown hK hP 0 rfl rfl 0 (by decide) (hts (.fieldLink RX3 7 "SwitchLevelSimulatorModel" "state" "[I") (List.mem_of_getElem? (i := 1) rfl)) (fun _ h9 => h9) rfl dX3_period_54 ?_
                    refine lv_bipush (v := nI 26) hx hb dX3_period_57 (by decide) ?_
                    refine lv_iload hx hb dX3_period_59 (lv_at hl 0 rfl) ?_
                    refine my_iadd (x := 26) (y := q) hx hb dX3_period_61 ?_
                    refine my_iald (i := (26 + q)) hx hb hK hP 1 0 rfl rfl (by omega) (by decide) dX3_period_62 ?_
                    refine lv_aload_n hx hb dX3_period_63 rfl (lv_at hl 4 rfl) ?_
                    refine va_get (D := (dC, dI)) (ci := 3) (v := .ref (ad 8)) (C := RX3) (T := TX3) (N := 8) hx hb hts (fun _ h9 => List.mem_cons_of_mem _ (List.mem_append_right _ h9)) hown hK hP 0 rfl rfl 7 (by decide) (hts (.fieldLink RX3 32 "SwitchLevelSimulatorModel" "before" "[I") (List.mem_of_getElem? (i := 2) rfl)) (fun _ h9 => h9) rfl dX3_period_64 ?_
                    refine lv_bipush (v := nI 26) hx hb dX3_period_67 (by decide) ?_
                    refine lv_iload hx hb dX3_period_69 (lv_at hl 0 rfl) ?_
                    refine my_iadd (x := 26) (y := q) hx hb dX3_period_71 ?_
                    refine my_iald (i := (26 + q)) hx hb hK hP 6 0 rfl rfl (by omega) (by decide) dX3_period_72 ?_
                    refine my_icmp_ne (x := ((stp f) (26 + q))) (y := (g (26 + q))) (tgt := 80) hx hb (by omega) (by omega) dX3_period_73 (by decide) (fun c_15 => ?_) (fun c_15 => ?_)
                    · refine lv_iconst (v := nI 0) hx hb dX3_period_80 (by decide) ?_
                      refine lv_istore (lv' := [(4, .int (nI 0)), (5, .int (nI q)), (3, .int (nI n)), (2, .int fo), (0, .ref (ad 0)), (1, .int (nI j))]) hx hb dX3_period_81 hl (by decide) rfl (fun ls hl => ?_)
                      refine my_iinc (k := 1) (x := q) (d := 1) (lv' := [(5, .int (nI (q + 1))), (4, .int (nI 0)), (3, .int (nI n)), (2, .int fo), (0, .ref (ad 0)), (1, .int (nI j))]) hx hb dX3_period_83 hl rfl (by decide) (by decide) rfl (fun ls hl => ?_)
                      refine lv_goto (tgt := 39) hx hb dX3_period_86 (by decide) ?_
                      exact ih_39 (q + 1) false (by omega) (by omega) (by rw [sameK_f2 c_15]) _ _ _ hP hD hS (lv_sub hl [0, 1, 2, 3, 4, 5] rfl)
                    · refine lv_iconst (v := nI 1) hx hb dX3_period_76 (by decide) ?_
                      refine lv_goto (tgt := 81) hx hb dX3_period_77 (by decide) ?_
                      refine lv_istore (lv' := [(4, .int (nI 1)), (5, .int (nI q)), (3, .int (nI n)), (2, .int fo), (0, .ref (ad 0)), (1, .int (nI j))]) hx hb dX3_period_81 hl (by decide) rfl (fun ls hl => ?_)
                      refine my_iinc (k := 1) (x := q) (d := 1) (lv' := [(5, .int (nI (q + 1))), (4, .int (nI 1)), (3, .int (nI n)), (2, .int fo), (0, .ref (ad 0)), (1, .int (nI j))]) hx hb dX3_period_83 hl rfl (by decide) (by decide) rfl (fun ls hl => ?_)
                      refine lv_goto (tgt := 39) hx hb dX3_period_86 (by decide) ?_
                      exact ih_39 (q + 1) true (by omega) (by omega) (by rw [sameK_t (by rw [← hsa]; exact c_14) c_15]) _ _ _ hP hD hS (lv_sub hl [0, 1, 2, 3, 4, 5] rfl)
            exact key_39 _ 0 true (Nat.lt_succ_self _) (Nat.zero_le _) ((sameK_0 _ _).symm) _ _ _ hP hD hS (lv_sub hl [0, 1, 2, 3, 4, 5] rfl)
    exact key_19 _ 1 g (-8) de ss up dn (Nat.lt_succ_self _) (by omega) ok rfl (Or.inl ⟨rfl, rfl⟩) _ _ _ hP hD hS (lv_sub hl [0, 1, 2, 3] rfl)
  · refine lv_bipush (v := -3) hx hb dX3_period_7 (by decide) ?_
    exact ret (de, ss, up, dn, be) _ _ _ _ _ _ _ _ (by show _ = aPer g x; unfold aPer; rw [if_neg (by rw [c_2]; decide)]) (trivial) (rfl) hP hD hS (Nat.le_of_ble_eq_true rfl) (Nat.le_of_ble_eq_true rfl) dX3_period_9
abbrev rm_X3_save : Room := { frames := 1, cells := 0, slots := 0, locals := 22 }
set_option maxHeartbeats 4000000 in
set_option maxRecDepth 100000 in
theorem c_X3_save (l : Launch) (dC : Nat → ClassId) (dI : Nat → Nat → Nat) (cI cZ cR cG : ClassId) (ad : Nat → Nat) (g sl : Nat → Nat) (sv : Nat → Int32) (x : Int32) : CI l (dC, dI) (tyL cI cZ cR cG) yX3_save wsX3_save rm_X3_save [.ref (ad 0), .int x] (vW cI cZ ad g sl sv) (S := Unit) (fun _ => aSave g x) (fun _ => True) (fun _ => vW cI cZ ad g (slSave g sl x) (svSave sv x)) := by
  refine CI.of (cc := cX3_save) (maxL := 3) (rt := .int) (lv := [(0, .ref (ad 0)), (1, .int x)]) (by decide) rfl (Nat.le_of_ble_eq_true rfl) rfl (Or.inl rfl) ?_
  intro p e s m ar below meth c A Qz ls hx hb hml hown hts hnm hA hS hP hK hD hl ret
  refine lv_iload_n hx hb dX3_save_0 rfl (lv_at hl 1 rfl) ?_
  refine lv_iconst (v := nI 0) hx hb dX3_save_1 (by decide) ?_
  refine lv_iconst (v := nI 1) hx hb dX3_save_2 (by decide) ?_
  refine CI.callS (As := [.int x, .int (nI 0), .int (nI 1)]) (rest := []) (w3 := (fun _ => vW cI cZ ad g sl sv)) (c_X3_inR l dC dI cI cZ cR cG x 0 1 (by decide) (by decide)) ⟨hx, hb, hml, hown, hts⟩ (va_cwS 3 hts gX3_save_X3_in rfl rfl rfl (by decide +kernel) ⟨Nat.le_of_ble_eq_true rfl, Nat.le_of_ble_eq_true rfl⟩) rfl hl.1 (Nat.le_of_ble_eq_true rfl) dX3_save_3 ⟨Nat.le_of_ble_eq_true rfl, Nat.le_of_ble_eq_true rfl⟩ hA hS hP hK hD [] [0, 1, 2, 3] rfl rfl (by decide) (by decide) (by decide) [0, 1, 2, 3] (by decide) (fun _ => rfl) rfl (fun _ H locs hp_1 hP hD hS => ?_)
  refine my_if_neB (x := (inR x 0 1)) (tgt := 12) hx hb dX3_save_6 (by decide) (fun c_2 => ?_) (fun c_2 => ?_)
  · obtain ⟨j, hj1, hj2, hj3, rfl, hjc⟩ := inR_at c_2
    refine lv_iconst (v := nI 0) hx hb dX3_save_12 (by decide) ?_
    refine lv_istore_n (lv' := [(2, .int (nI 0)), (0, .ref (ad 0)), (1, .int (nI j))]) hx hb dX3_save_13 rfl hl (by decide) rfl (fun ls hl => ?_)
    rw [← svS_0 sl j g] at hP hD
    have key_14 : ∀ (fu : Nat) (n : Nat), (290 - n) < fu → (n ≤ 290) → ∀ (H : Heap) (locs : List Loc) (ls : Array Slot), va_P (dC, dI) vwCl (vW cI cZ ad g (svS sl j g n) sv) H → va_D A (vW cI cZ ad g (svS sl j g n) sv) → va_S A s.heap H locs → lv_has ls 3 [(2, .int (nI n)), (0, .ref (ad 0)), (1, .int (nI j))] → W p l e rm_X3_save s m ar below meth c H locs 0 0 Qz (F0 m 14 ls []) := by
      intro fu
      induction fu with
      | zero => intro n hmu; exact absurd hmu (Nat.not_lt_zero _)
      | succ fu ih_14 =>
        intro n hmu_14 hn H locs ls hP hD hS hl
        refine lv_iload_n hx hb dX3_save_14 rfl (lv_at hl 0 rfl) ?_
        refine lv_sipush (v := nI 290) hx hb dX3_save_15 (by decide) ?_
        refine my_icmp_ge (x := n) (y := 290) (tgt := 45) hx hb (by omega) (by omega) dX3_save_18 (by decide) (fun c_4 => ?_) (fun c_4 => ?_)
        · refine lv_aload_n hx hb dX3_save_45 rfl (lv_at hl 1 rfl) ?_
          refine va_get (D := (dC, dI)) (ci := 3) (v := .ref (ad 3)) (C := RX3) (T := TX3) (N := 8) hx hb hts (fun _ h9 => List.mem_cons_of_mem _ (List.mem_append_right _ h9)) hown hK hP 0 rfl rfl 2 (by decide) (hts (.fieldLink RX3 16 "SwitchLevelSimulatorModel" "isSaved" "[Z") (List.mem_of_getElem? (i := 3) rfl)) (fun _ h9 => h9) rfl dX3_save_46 ?_
          refine lv_iload_n hx hb dX3_save_49 rfl (lv_at hl 2 rfl) ?_
          refine lv_iconst (v := nI 1) hx hb dX3_save_50 (by decide) ?_
          refine my_zast (i := j) (x := 1) (f := sv) (ws' := vW cI cZ ad g (svS sl j g n) (upd sv j 1)) hx hb hK hP hD hS 3 1 rfl rfl (vnar_bI true) (by omega) (by decide) dX3_save_51 rfl (fun H locs hP hD hS => ?_)
          refine lv_aload_n hx hb dX3_save_52 rfl (lv_at hl 1 rfl) ?_
          refine CI.callV (As := []) (rest := []) (w3 := (fun _ => vW cI cZ ad g (svS sl j g n) (upd sv j 1))) (c_X3_nodes l dC dI cI cZ cR cG ad g) ⟨hx, hb, hml, hown, hts⟩ (cwV 0 hts gX3_save_X3_nodes rfl rfl rfl (by decide +kernel) ⟨Nat.le_of_ble_eq_true rfl, Nat.le_of_ble_eq_true rfl⟩) rfl hl.1 (Nat.le_of_ble_eq_true rfl) dX3_save_53 ⟨Nat.le_of_ble_eq_true rfl, Nat.le_of_ble_eq_true rfl⟩ hA hS hP hK hD [0, 1] [2, 3] rfl rfl (by decide) (by decide) (by decide) 0 3 rfl rfl [2, 3, 0, 1] (by decide) (fun _ => rfl) rfl (fun _ H locs hp_5 hP hD hS => ?_)
          exact ret () _ _ _ _ _ _ _ _ (by show _ = aSave g (nI j); unfold aSave; rw [if_pos c_2]; try rfl) (trivial) (by show vW cI cZ ad g (slSave g sl (nI j)) (svSave sv (nI j)) = _; unfold slSave svSave; rw [if_pos c_2, if_pos c_2, show nx (nI j) = j from hjc, show n = 290 by omega]) hP hD hS (Nat.le_of_ble_eq_true rfl) (Nat.le_of_ble_eq_true rfl) dX3_save_56
        · refine lv_aload_n hx hb dX3_save_21 rfl (lv_at hl 1 rfl) ?_
          refine va_get (D := (dC, dI)) (ci := 3) (v := .ref (ad 2)) (C := RX3) (T := TX3) (N := 8) hx hb hts (fun _ h9 => List.mem_cons_of_mem _ (List.mem_append_right _ h9)) hown hK hP 0 rfl rfl 1 (by decide) (hts (.fieldLink RX3 13 "SwitchLevelSimulatorModel" "slots" "[I") (List.mem_of_getElem? (i := 1) rfl)) (fun _ h9 => h9) rfl dX3_save_22 ?_
          refine lv_sipush (v := nI 290) hx hb dX3_save_25 (by decide) ?_
          refine lv_iload_n hx hb dX3_save_28 rfl (lv_at hl 2 rfl) ?_
          refine my_imul (x := 290) (y := j) hx hb dX3_save_29 ?_
          refine lv_iload_n hx hb dX3_save_30 rfl (lv_at hl 0 rfl) ?_
          refine my_iadd (x := (290 * j)) (y := n) hx hb dX3_save_31 ?_
          refine lv_aload_n hx hb dX3_save_32 rfl (lv_at hl 1 rfl) ?_
          refine va_get (D := (dC, dI)) (ci := 3) (v := .ref (ad 1)) (C := RX3) (T := TX3) (N := 8) hx hb hts (fun _ h9 => List.mem_cons_of_mem _ (List.mem_append_right _ h9)) hown hK hP 0 rfl rfl 0 (by decide) (hts (.fieldLink RX3 7 "SwitchLevelSimulatorModel" "state" "[I") (List.mem_of_getElem? (i := 2) rfl)) (fun _ h9 => h9) rfl dX3_save_33 ?_
          refine lv_iload_n hx hb dX3_save_36 rfl (lv_at hl 0 rfl) ?_
          refine my_iald (i := n) hx hb hK hP 1 0 rfl rfl (by omega) (by decide) dX3_save_37 ?_
          refine my_iastN (i := ((290 * j) + n)) (x := (g n)) (g := (svS sl j g n)) (ws' := vW cI cZ ad g (up1 (svS sl j g n) ((290 * j) + n) (g n)) sv) hx hb hK hP hD hS 2 0 rfl rfl (by omega) (by decide) dX3_save_38 rfl (fun H locs hP hD hS => ?_)
          refine my_iinc (k := 0) (x := n) (d := 1) (lv' := [(2, .int (nI (n + 1))), (0, .ref (ad 0)), (1, .int (nI j))]) hx hb dX3_save_39 hl rfl (by decide) (by decide) rfl (fun ls hl => ?_)
          refine lv_goto (tgt := 14) hx hb dX3_save_42 (by decide) ?_
          rw [svS_s sl j g n] at hP hD
          exact ih_14 (n + 1) (by omega) (by omega) _ _ _ hP hD hS (lv_sub hl [0, 1, 2] rfl)
    exact key_14 _ 0 (Nat.lt_succ_self _) (Nat.zero_le _) _ _ _ hP hD hS (lv_sub hl [0, 1, 2] rfl)
  · refine lv_bipush (v := -3) hx hb dX3_save_9 (by decide) ?_
    exact ret () _ _ _ _ _ _ _ _ (by show _ = aSave g x; unfold aSave; rw [if_neg (by rw [c_2]; decide)]) (trivial) (by show vW cI cZ ad g (slSave g sl x) (svSave sv x) = _; unfold slSave svSave; rw [if_neg (by rw [c_2]; decide), if_neg (by rw [c_2]; decide)]) hP hD hS (Nat.le_of_ble_eq_true rfl) (Nat.le_of_ble_eq_true rfl) dX3_save_11
abbrev rm_X3_restore : Room := { frames := 1, cells := 0, slots := 0, locals := 22 }
set_option maxHeartbeats 4000000 in
set_option maxRecDepth 100000 in
theorem c_X3_restore (l : Launch) (dC : Nat → ClassId) (dI : Nat → Nat → Nat) (cI cZ cR cG : ClassId) (ad : Nat → Nat) (g sl : Nat → Nat) (sv : Nat → Int32) (x : Int32) : CI l (dC, dI) (tyL cI cZ cR cG) yX3_restore wsX3_restore rm_X3_restore [.ref (ad 0), .int x] (vW cI cZ ad g sl sv) (S := Unit) (fun _ => aRes sl sv x) (fun _ => True) (fun _ => vW cI cZ ad (gRes g sl sv x) sl sv) := by
  refine CI.of (cc := cX3_restore) (maxL := 3) (rt := .int) (lv := [(0, .ref (ad 0)), (1, .int x)]) (by decide) rfl (Nat.le_of_ble_eq_true rfl) rfl (Or.inl rfl) ?_
  intro p e s m ar below meth c A Qz ls hx hb hml hown hts hnm hA hS hP hK hD hl ret
  refine lv_iload_n hx hb dX3_restore_0 rfl (lv_at hl 1 rfl) ?_
  refine lv_iconst (v := nI 0) hx hb dX3_restore_1 (by decide) ?_
  refine lv_iconst (v := nI 1) hx hb dX3_restore_2 (by decide) ?_
  refine CI.callS (As := [.int x, .int (nI 0), .int (nI 1)]) (rest := []) (w3 := (fun _ => vW cI cZ ad g sl sv)) (c_X3_inR l dC dI cI cZ cR cG x 0 1 (by decide) (by decide)) ⟨hx, hb, hml, hown, hts⟩ (va_cwS 3 hts gX3_restore_X3_in rfl rfl rfl (by decide +kernel) ⟨Nat.le_of_ble_eq_true rfl, Nat.le_of_ble_eq_true rfl⟩) rfl hl.1 (Nat.le_of_ble_eq_true rfl) dX3_restore_3 ⟨Nat.le_of_ble_eq_true rfl, Nat.le_of_ble_eq_true rfl⟩ hA hS hP hK hD [] [0, 1, 2, 3] rfl rfl (by decide) (by decide) (by decide) [0, 1, 2, 3] (by decide) (fun _ => rfl) rfl (fun _ H locs hp_1 hP hD hS => ?_)
  refine my_if_neB (x := (inR x 0 1)) (tgt := 12) hx hb dX3_restore_6 (by decide) (fun c_2 => ?_) (fun c_2 => ?_)
  · obtain ⟨j, hj1, hj2, hj3, rfl, hjc⟩ := inR_at c_2
    refine lv_aload_n hx hb dX3_restore_12 rfl (lv_at hl 0 rfl) ?_
    refine va_get (D := (dC, dI)) (ci := 3) (v := .ref (ad 3)) (C := RX3) (T := TX3) (N := 8) hx hb hts (fun _ h9 => List.mem_cons_of_mem _ (List.mem_append_right _ h9)) hown hK hP 0 rfl rfl 2 (by decide) (hts (.fieldLink RX3 16 "SwitchLevelSimulatorModel" "isSaved" "[Z") (List.mem_of_getElem? (i := 1) rfl)) (fun _ h9 => h9) rfl dX3_restore_13 ?_
    refine lv_iload_n hx hb dX3_restore_16 rfl (lv_at hl 1 rfl) ?_
    refine my_zald (i := j) hx hb hK hP 3 1 rfl rfl (by omega) (by decide) dX3_restore_17 ?_
    refine my_if_neI (x := (sv j)) (tgt := 24) hx hb dX3_restore_18 (by decide) (fun c_3 => ?_) (fun c_3 => ?_)
    · refine lv_iconst (v := nI 0) hx hb dX3_restore_24 (by decide) ?_
      refine lv_istore_n (lv' := [(2, .int (nI 0)), (0, .ref (ad 0)), (1, .int (nI j))]) hx hb dX3_restore_25 rfl hl (by decide) rfl (fun ls hl => ?_)
      have key_26 : ∀ (fu : Nat) (n : Nat) (f : Nat → Nat), (290 - n) < fu → (n ≤ 290) → (∀ i, i < n → f i = sl (290 * j + i)) → ∀ (H : Heap) (locs : List Loc) (ls : Array Slot), va_P (dC, dI) vwCl (vW cI cZ ad f sl sv) H → va_D A (vW cI cZ ad f sl sv) → va_S A s.heap H locs → lv_has ls 3 [(2, .int (nI n)), (0, .ref (ad 0)), (1, .int (nI j))] → W p l e rm_X3_restore s m ar below meth c H locs 0 0 Qz (F0 m 26 ls []) := by
        intro fu
        induction fu with
        | zero => intro n f hmu; exact absurd hmu (Nat.not_lt_zero _)
        | succ fu ih_26 =>
          intro n f hmu_26 hn hf H locs ls hP hD hS hl
          refine lv_iload_n hx hb dX3_restore_26 rfl (lv_at hl 0 rfl) ?_
          refine lv_sipush (v := nI 290) hx hb dX3_restore_27 (by decide) ?_
          refine my_icmp_ge (x := n) (y := 290) (tgt := 57) hx hb (by omega) (by omega) dX3_restore_30 (by decide) (fun c_5 => ?_) (fun c_5 => ?_)
          · refine lv_aload_n hx hb dX3_restore_57 rfl (lv_at hl 1 rfl) ?_
            refine CI.callV (As := []) (rest := []) (w3 := (fun _ => vW cI cZ ad f sl sv)) (c_X3_nodes l dC dI cI cZ cR cG ad f) ⟨hx, hb, hml, hown, hts⟩ (cwV 0 hts gX3_restore_X3_nodes rfl rfl rfl (by decide +kernel) ⟨Nat.le_of_ble_eq_true rfl, Nat.le_of_ble_eq_true rfl⟩) rfl hl.1 (Nat.le_of_ble_eq_true rfl) dX3_restore_58 ⟨Nat.le_of_ble_eq_true rfl, Nat.le_of_ble_eq_true rfl⟩ hA hS hP hK hD [0, 1] [2, 3] rfl rfl (by decide) (by decide) (by decide) 0 3 rfl rfl [2, 3, 0, 1] (by decide) (fun _ => rfl) rfl (fun _ H locs hp_6 hP hD hS => ?_)
            have hP : va_P (dC, dI) vwCl (vW cI cZ ad (fun i => sl (290 * j + i)) sl sv) H := my_congr hP 1 rfl (fun i hi => congrArg nI (hf i (by omega))) rfl
            have hD : va_D A (vW cI cZ ad (fun i => sl (290 * j + i)) sl sv) := hD.set (p := 1) rfl
            exact ret () _ _ _ _ _ _ _ _ (by show _ = aRes sl sv (nI j); unfold aRes; rw [if_pos c_2, if_neg (by rw [show nx (nI j) = j from hjc]; exact c_3), show nx (nI j) = j from hjc]; exact congrArg nI (hf 0 (by omega))) (trivial) (by show vW cI cZ ad (gRes g sl sv (nI j)) sl sv = _; unfold gRes; rw [if_pos c_2, if_neg (by rw [show nx (nI j) = j from hjc]; exact c_3), show nx (nI j) = j from hjc]) hP hD hS (Nat.le_of_ble_eq_true rfl) (Nat.le_of_ble_eq_true rfl) dX3_restore_61
          · refine lv_aload_n hx hb dX3_restore_33 rfl (lv_at hl 1 rfl) ?_
            refine va_get (D := (dC, dI)) (ci := 3) (v := .ref (ad 1)) (C := RX3) (T := TX3) (N := 8) hx hb hts (fun _ h9 => List.mem_cons_of_mem _ (List.mem_append_right _ h9)) hown hK hP 0 rfl rfl 0 (by decide) (hts (.fieldLink RX3 7 "SwitchLevelSimulatorModel" "state" "[I") (List.mem_of_getElem? (i := 2) rfl)) (fun _ h9 => h9) rfl dX3_restore_34 ?_
            refine lv_iload_n hx hb dX3_restore_37 rfl (lv_at hl 0 rfl) ?_
            refine lv_aload_n hx hb dX3_restore_38 rfl (lv_at hl 1 rfl) ?_
            refine va_get (D := (dC, dI)) (ci := 3) (v := .ref (ad 2)) (C := RX3) (T := TX3) (N := 8) hx hb hts (fun _ h9 => List.mem_cons_of_mem _ (List.mem_append_right _ h9)) hown hK hP 0 rfl rfl 1 (by decide) (hts (.fieldLink RX3 13 "SwitchLevelSimulatorModel" "slots" "[I") (List.mem_of_getElem? (i := 3) rfl)) (fun _ h9 => h9) rfl dX3_restore_39 ?_
            refine lv_sipush (v := nI 290) hx hb dX3_restore_42 (by decide) ?_
            refine lv_iload_n hx hb dX3_restore_45 rfl (lv_at hl 2 rfl) ?_
            refine my_imul (x := 290) (y := j) hx hb dX3_restore_46 ?_
            refine lv_iload_n hx hb dX3_restore_47 rfl (lv_at hl 0 rfl) ?_
            refine my_iadd (x := (290 * j)) (y := n) hx hb dX3_restore_48 ?_
            refine my_iald (i := ((290 * j) + n)) hx hb hK hP 2 0 rfl rfl (by omega) (by decide) dX3_restore_49 ?_
            refine my_iastN (i := n) (x := (sl ((290 * j) + n))) (g := f) (ws' := vW cI cZ ad (up1 f n (sl ((290 * j) + n))) sl sv) hx hb hK hP hD hS 1 0 rfl rfl (by omega) (by decide) dX3_restore_50 rfl (fun H locs hP hD hS => ?_)
            refine my_iinc (k := 0) (x := n) (d := 1) (lv' := [(2, .int (nI (n + 1))), (0, .ref (ad 0)), (1, .int (nI j))]) hx hb dX3_restore_51 hl rfl (by decide) (by decide) rfl (fun ls hl => ?_)
            refine lv_goto (tgt := 26) hx hb dX3_restore_54 (by decide) ?_
            exact ih_26 (n + 1) (up1 f n (sl ((290 * j) + n))) (by omega) (by omega) (fill_s (F := fun i => sl (290 * j + i)) hf rfl) _ _ _ hP hD hS (lv_sub hl [0, 1, 2] rfl)
      exact key_26 _ 0 g (Nat.lt_succ_self _) (Nat.zero_le _) (fun i hi => absurd hi (Nat.not_lt_zero i)) _ _ _ hP hD hS (lv_sub hl [0, 1, 2] rfl)
    · refine lv_bipush (v := -9) hx hb dX3_restore_21 (by decide) ?_
      exact ret () _ _ _ _ _ _ _ _ (by show _ = aRes sl sv (nI j); unfold aRes; rw [if_pos c_2, if_pos (by rw [show nx (nI j) = j from hjc]; exact c_3)]) (trivial) (by show vW cI cZ ad (gRes g sl sv (nI j)) sl sv = _; unfold gRes; rw [if_pos c_2, if_pos (by rw [show nx (nI j) = j from hjc]; exact c_3)]) hP hD hS (Nat.le_of_ble_eq_true rfl) (Nat.le_of_ble_eq_true rfl) dX3_restore_23
  · refine lv_bipush (v := -3) hx hb dX3_restore_9 (by decide) ?_
    exact ret () _ _ _ _ _ _ _ _ (by show _ = aRes sl sv x; unfold aRes; rw [if_neg (by rw [c_2]; decide)]) (trivial) (by show vW cI cZ ad (gRes g sl sv x) sl sv = _; unfold gRes; rw [if_neg (by rw [c_2]; decide)]) hP hD hS (Nat.le_of_ble_eq_true rfl) (Nat.le_of_ble_eq_true rfl) dX3_restore_11
abbrev rm_X3_vicinity : Room := { frames := 2, cells := 0, slots := 0, locals := 43 }
set_option maxHeartbeats 4000000 in
set_option maxRecDepth 100000 in
theorem c_X3_vicinity (l : Launch) (dC : Nat → ClassId) (dI : Nat → Nat → Nat) (cI cZ cR cG : ClassId) (ad : Nat → Nat) (g : Nat → Nat) (x : Int32) (ok : okG g) : CI l (dC, dI) (tyL cI cZ cR cG) yX3_vicinity wsX3_vicinity rm_X3_vicinity [.ref (ad 0), .int x] (sW cI ad g) (S := Unit) (fun _ => aVic g x) (fun _ => True) (fun _ => sW cI ad g) := by
  refine CI.of (cc := cX3_vicinity) (maxL := 8) (rt := .int) (lv := [(0, .ref (ad 0)), (1, .int x)]) (by decide) rfl (Nat.le_of_ble_eq_true rfl) rfl (Or.inl rfl) ?_
  intro p e s m ar below meth c A Qz ls hx hb hml hown hts hnm hA hS hP hK hD hl ret
  have h0 := ok.1
  have h1 := ok.2.1
  refine lv_aload_n hx hb dX3_vicinity_0 rfl (lv_at hl 0 rfl) ?_
  refine lv_iload_n hx hb dX3_vicinity_1 rfl (lv_at hl 1 rfl) ?_
  refine CI.callV (As := [.int x]) (rest := []) (w3 := (fun _ => sW cI ad g)) (c_X3_isNode l dC dI cI cZ cR cG ad g x (ok.1)) ⟨hx, hb, hml, hown, hts⟩ (cwV 1 hts gX3_vicinity_X3_isNode rfl rfl rfl (by decide +kernel) ⟨Nat.le_of_ble_eq_true rfl, Nat.le_of_ble_eq_true rfl⟩) rfl hl.1 (Nat.le_of_ble_eq_true rfl) dX3_vicinity_2 ⟨Nat.le_of_ble_eq_true rfl, Nat.le_of_ble_eq_true rfl⟩ hA hS hP hK hD [0, 1] [] rfl rfl (by decide) (by decide) (by decide) 0 3 rfl rfl [0, 1] (by decide) (fun _ => rfl) rfl (fun _ H locs hp_1 hP hD hS => ?_)
  refine my_if_neB (x := (inN x (g 0))) (tgt := 10) hx hb dX3_vicinity_5 (by decide) (fun c_2 => ?_) (fun c_2 => ?_)
  · obtain ⟨j, hj1, hj2, rfl, hjc⟩ := inN_at c_2
    refine lv_aload_n hx hb dX3_vicinity_10 rfl (lv_at hl 0 rfl) ?_
    refine lv_iload_n hx hb dX3_vicinity_11 rfl (lv_at hl 1 rfl) ?_
    refine CI.callV (As := [.int (nI j)]) (rest := []) (w3 := (fun _ => sW cI ad g)) (c_X3_isInput l dC dI cI cZ cR cG ad g j (by omega) ((ok.2.2.1 _ (by omega)).1)) ⟨hx, hb, hml, hown, hts⟩ (cwV 1 hts gX3_vicinity_X3_isInput rfl rfl rfl (by decide +kernel) ⟨Nat.le_of_ble_eq_true rfl, Nat.le_of_ble_eq_true rfl⟩) rfl hl.1 (Nat.le_of_ble_eq_true rfl) dX3_vicinity_12 ⟨Nat.le_of_ble_eq_true rfl, Nat.le_of_ble_eq_true rfl⟩ hA hS hP hK hD [0, 1] [] rfl rfl (by decide) (by decide) (by decide) 0 3 rfl rfl [0, 1] (by decide) (fun _ => rfl) rfl (fun _ H locs hp_3 hP hD hS => ?_)
    refine my_if_eqB (x := (decide (g (2 + j) = 0))) (tgt := 22) hx hb dX3_vicinity_15 (by decide) (fun c_4 => ?_) (fun c_4 => ?_)
    · refine lv_iconst (v := nI 1) hx hb dX3_vicinity_22 (by decide) ?_
      refine lv_iload_n hx hb dX3_vicinity_23 rfl (lv_at hl 1 rfl) ?_
      refine lv_ishl hx hb dX3_vicinity_24 ?_
      refine my_cast (show (1 : Int32) <<< (nI j &&& 31) = msk (fun i => decide (i = j) && !decide (g (2 + j) = 0)) from by rw [msk_bit j (by omega)]; apply msk_cong; intro i _; rw [c_4]; simp) ?_
      refine lv_istore_n (lv' := [(2, .int (msk (fun i => decide (i = j) && !decide (g (2 + j) = 0)))), (0, .ref (ad 0)), (1, .int (nI j))]) hx hb dX3_vicinity_25 rfl hl (by decide) rfl (fun ls hl => ?_)
      refine lv_iconst (v := -1) hx hb dX3_vicinity_26 (by decide) ?_
      refine lv_istore_n (lv' := [(3, .int (-1)), (2, .int (msk (fun i => decide (i = j) && !decide (g (2 + j) = 0)))), (0, .ref (ad 0)), (1, .int (nI j))]) hx hb dX3_vicinity_27 rfl hl (by decide) rfl (fun ls hl => ?_)
      have key_28 : ∀ (fu : Nat) (S : Nat → Bool) (wa : Int32), (2 * (24 - ct S 24) + (if wa = msk S then 0 else 1)) < fu → (VI g j S) → (wa = msk S → ClV g S (g 1)) → ∀ (H : Heap) (locs : List Loc) (ls : Array Slot), va_P (dC, dI) vwCl (sW cI ad g) H → va_D A (sW cI ad g) → va_S A s.heap H locs → lv_has ls 8 [(3, .int wa), (2, .int (msk S)), (0, .ref (ad 0)), (1, .int (nI j))] → W p l e rm_X3_vicinity s m ar below meth c H locs 0 0 Qz (F0 m 28 ls []) := by
        intro fu
        induction fu with
        | zero => intro S wa hmu; exact absurd hmu (Nat.not_lt_zero _)
        | succ fu ih_28 =>
          intro S wa hmu_28 hV hcl H locs ls hP hD hS hl
          refine lv_iload_n hx hb dX3_vicinity_28 rfl (lv_at hl 1 rfl) ?_
          refine lv_iload_n hx hb dX3_vicinity_29 rfl (lv_at hl 0 rfl) ?_
          refine lv_icmp_eq (x := (msk S)) (y := wa) (tgt := 150) hx hb dX3_vicinity_30 (by decide) (fun c_6 => ?_) (fun c_6 => ?_)
          · refine lv_iload_n hx hb dX3_vicinity_150 rfl (lv_at hl 1 rfl) ?_
            exact ret () _ _ _ _ _ _ _ _ (by show _ = aVic g (nI j); unfold aVic; rw [if_pos c_2, show nx (nI j) = j from hjc]; exact msk_cong (fun i _ => VI_end hj1 hV (hcl c_6.symm) (VI_cong hV hj1) i)) (trivial) (rfl) hP hD hS (Nat.le_of_ble_eq_true rfl) (Nat.le_of_ble_eq_true rfl) dX3_vicinity_151
          · refine lv_iload_n hx hb dX3_vicinity_33 rfl (lv_at hl 1 rfl) ?_
            refine lv_istore_n (lv' := [(3, .int (msk S)), (2, .int (msk S)), (0, .ref (ad 0)), (1, .int (nI j))]) hx hb dX3_vicinity_34 rfl hl (by decide) rfl (fun ls hl => ?_)
            refine lv_iconst (v := nI 0) hx hb dX3_vicinity_35 (by decide) ?_
            refine lv_istore (lv' := [(4, .int (nI 0)), (3, .int (msk S)), (2, .int (msk S)), (0, .ref (ad 0)), (1, .int (nI j))]) hx hb dX3_vicinity_36 hl (by decide) rfl (fun ls hl => ?_)
            have key_38 : ∀ (fu : Nat) (t : Nat) (S1 : Nat → Bool), (g 1 - t) < fu → (t ≤ g 1) → (PsV g j S S1 t) → ∀ (H : Heap) (locs : List Loc) (ls : Array Slot), va_P (dC, dI) vwCl (sW cI ad g) H → va_D A (sW cI ad g) → va_S A s.heap H locs → lv_has ls 8 [(4, .int (nI t)), (3, .int (msk S)), (2, .int (msk S1)), (0, .ref (ad 0)), (1, .int (nI j))] → W p l e rm_X3_vicinity s m ar below meth c H locs 0 0 Qz (F0 m 38 ls []) := by
              intro fu
              induction fu with
              | zero => intro t S1 hmu; exact absurd hmu (Nat.not_lt_zero _)
              | succ fu ih_38 =>
                intro t S1 hmu_38 ht hR H locs ls hP hD hS hl
                refine lv_iload hx hb dX3_vicinity_38 (lv_at hl 0 rfl) ?_
                refine lv_aload_n hx hb dX3_vicinity_40 rfl (lv_at hl 3 rfl) ?_
                refine CI.callV (As := []) (rest := [.int (nI t)]) (w3 := (fun _ => sW cI ad g)) (c_X3_many l dC dI cI cZ cR cG ad g) ⟨hx, hb, hml, hown, hts⟩ (cwV 0 hts gX3_vicinity_X3_many rfl rfl rfl (by decide +kernel) ⟨Nat.le_of_ble_eq_true rfl, Nat.le_of_ble_eq_true rfl⟩) rfl hl.1 (Nat.le_of_ble_eq_true rfl) dX3_vicinity_41 ⟨Nat.le_of_ble_eq_true rfl, Nat.le_of_ble_eq_true rfl⟩ hA hS hP hK hD [0, 1] [] rfl rfl (by decide) (by decide) (by decide) 0 3 rfl rfl [0, 1] (by decide) (fun _ => rfl) rfl (fun _ H locs hp_8 hP hD hS => ?_)
                refine my_icmp_ge (x := t) (y := (g 1)) (tgt := 147) hx hb (by omega) (by omega) dX3_vicinity_44 (by decide) (fun c_9 => ?_) (fun c_9 => ?_)
                · refine lv_goto (tgt := 28) hx hb dX3_vicinity_147 (by decide) ?_
                  exact ih_28 S1 (msk S) (by rw [if_neg (fun z => c_6 z.symm)] at hmu_28; have hle := ct_le S1 24; have hle0 := ct_le S 24; have hm := (ct_lt (k := 0) hR.2.1 24).1; by_cases z : msk S = msk S1; (rw [if_pos z, show ct S1 24 = ct S 24 from ct_cong (fun i hi => (msk_inj z i hi).symm)]; omega); (rw [if_neg z]; have hne : ¬ ct S1 24 ≤ ct S 24 := (fun q => z (msk_cong (fun i hi => ((hR.2.2 q).1 i hi).symm))); omega)) hR.1 (fun z => by rw [show t = g 1 by omega] at hR; exact (hR.2.2 (Nat.le_of_eq (ct_cong (fun i hi => (msk_inj z i hi).symm)))).2) _ _ _ hP hD hS (lv_sub hl [1, 2, 3, 4] rfl)
                · have hT := ok.2.2.2 t (by omega)
                  have hsl := swS_le g t
                  refine lv_aload_n hx hb dX3_vicinity_47 rfl (lv_at hl 3 rfl) ?_
                  refine va_get (D := (dC, dI)) (ci := 3) (v := .ref (ad 1)) (C := RX3) (T := TX3) (N := 8) hx hb hts (fun _ h9 => List.mem_cons_of_mem _ (List.mem_append_right _ h9)) hown hK hP 0 rfl rfl 0 (by decide) (hts (.fieldLink RX3 7 "SwitchLevelSimulatorModel" "state" "[I") (List.mem_of_getElem? (i := 1) rfl)) (fun _ h9 => h9) rfl dX3_vicinity_48 ?_
                  refine lv_sipush (v := nI 170) hx hb dX3_vicinity_51 (by decide) ?_
                  refine lv_iload hx hb dX3_vicinity_54 (lv_at hl 0 rfl) ?_
                  refine my_iadd (x := 170) (y := t) hx hb dX3_vicinity_56 ?_
                  refine my_iald (i := (170 + t)) hx hb hK hP 1 0 rfl rfl (by omega) (by decide) dX3_vicinity_57 ?_
                  refine lv_istore (lv' := [(5, .int (nI (g (170 + t)))), (4, .int (nI t)), (3, .int (msk S)), (2, .int (msk S1)), (0, .ref (ad 0)), (1, .int (nI j))]) hx hb dX3_vicinity_58 hl (by decide) rfl (fun ls hl => ?_)
                  refine lv_aload_n hx hb dX3_vicinity_60 rfl (lv_at hl 4 rfl) ?_
                  refine va_get (D := (dC, dI)) (ci := 3) (v := .ref (ad 1)) (C := RX3) (T := TX3) (N := 8) hx hb hts (fun _ h9 => List.mem_cons_of_mem _ (List.mem_append_right _ h9)) hown hK hP 0 rfl rfl 0 (by decide) (hts (.fieldLink RX3 7 "SwitchLevelSimulatorModel" "state" "[I") (List.mem_of_getElem? (i := 1) rfl)) (fun _ h9 => h9) rfl dX3_vicinity_61 ?_
                  refine lv_sipush (v := nI 210) hx hb dX3_vicinity_64 (by decide) ?_
                  refine lv_iload hx hb dX3_vicinity_67 (lv_at hl 1 rfl) ?_
                  refine my_iadd (x := 210) (y := t) hx hb dX3_vicinity_69 ?_
                  refine my_iald (i := (210 + t)) hx hb hK hP 1 0 rfl rfl (by omega) (by decide) dX3_vicinity_70 ?_
                  refine lv_istore (lv' := [(6, .int (nI (g (210 + t)))), (5, .int (nI (g (170 + t)))), (4, .int (nI t)), (3, .int (msk S)), (2, .int (msk S1)), (0, .ref (ad 0)), (1, .int (nI j))]) hx hb dX3_vicinity_71 hl (by decide) rfl (fun ls hl => ?_)
                  refine lv_aload_n hx hb dX3_vicinity_73 rfl (lv_at hl 5 rfl) ?_
                  refine lv_iload hx hb dX3_vicinity_74 (lv_at hl 2 rfl) ?_
                  refine CI.callV (As := [.int (nI t)]) (rest := []) (w3 := (fun _ => sW cI ad g)) (c_X3_stateOf l dC dI cI cZ cR cG ad g t (ok) (by omega)) ⟨hx, hb, hml, hown, hts⟩ (cwV 1 hts gX3_vicinity_X3_stateOf rfl rfl rfl (by decide +kernel) ⟨Nat.le_of_ble_eq_true rfl, Nat.le_of_ble_eq_true rfl⟩) rfl hl.1 (Nat.le_of_ble_eq_true rfl) dX3_vicinity_76 ⟨Nat.le_of_ble_eq_true rfl, Nat.le_of_ble_eq_true rfl⟩ hA hS hP hK hD [0, 1] [] rfl rfl (by decide) (by decide) (by decide) 0 3 rfl rfl [0, 1] (by decide) (fun _ => rfl) rfl (fun _ H locs hp_10 hP hD hS => ?_)
                  refine my_if_eqN (x := (swS g t)) (tgt := 104) hx hb (by omega) dX3_vicinity_79 (by decide) (fun c_11 => ?_) (fun c_11 => ?_)
                  · refine lv_iconst (v := nI 0) hx hb dX3_vicinity_104 (by decide) ?_
                    refine lv_istore (lv' := [(7, .int (nI 0)), (6, .int (nI (g (210 + t)))), (5, .int (nI (g (170 + t)))), (4, .int (nI t)), (3, .int (msk S)), (2, .int (msk S1)), (0, .ref (ad 0)), (1, .int (nI j))]) hx hb dX3_vicinity_105 hl (by decide) rfl (fun ls hl => ?_)
                    refine lv_iload hx hb dX3_vicinity_107 (lv_at hl 0 rfl) ?_
                    refine my_if_eqN (x := 0) (tgt := 141) hx hb (by omega) dX3_vicinity_109 (by decide) (fun _ => ?_) (fun c_12 => absurd c_12 (by decide))
                    refine my_iinc (k := 3) (x := t) (d := 1) (lv' := [(4, .int (nI (t + 1))), (7, .int (nI 0)), (6, .int (nI (g (210 + t)))), (5, .int (nI (g (170 + t)))), (3, .int (msk S)), (2, .int (msk S1)), (0, .ref (ad 0)), (1, .int (nI j))]) hx hb dX3_vicinity_141 hl rfl (by decide) (by decide) rfl (fun ls hl => ?_)
                    refine lv_goto (tgt := 38) hx hb dX3_vicinity_144 (by decide) ?_
                    exact ih_38 (t + 1) S1 (by omega) (by omega) (PsV_skip hR (Or.inl (by unfold thr; rw [decide_eq_true c_11]; rfl))) _ _ _ hP hD hS (lv_sub hl [0, 4, 5, 6, 7] rfl)
                  · refine lv_aload_n hx hb dX3_vicinity_82 rfl (lv_at hl 5 rfl) ?_
                    refine lv_iload hx hb dX3_vicinity_83 (lv_at hl 1 rfl) ?_
                    refine CI.callV (As := [.int (nI (g (170 + t)))]) (rest := []) (w3 := (fun _ => sW cI ad g)) (c_X3_isInput l dC dI cI cZ cR cG ad g (g (170 + t)) (by omega) ((ok.2.2.1 _ (by omega)).1)) ⟨hx, hb, hml, hown, hts⟩ (cwV 1 hts gX3_vicinity_X3_isInput rfl rfl rfl (by decide +kernel) ⟨Nat.le_of_ble_eq_true rfl, Nat.le_of_ble_eq_true rfl⟩) rfl hl.1 (Nat.le_of_ble_eq_true rfl) dX3_vicinity_85 ⟨Nat.le_of_ble_eq_true rfl, Nat.le_of_ble_eq_true rfl⟩ hA hS hP hK hD [0, 1] [] rfl rfl (by decide) (by decide) (by decide) 0 3 rfl rfl [0, 1] (by decide) (fun _ => rfl) rfl (fun _ H locs hp_13 hP hD hS => ?_)
                    refine my_if_neB (x := (decide (g (2 + (g (170 + t))) = 0))) (tgt := 104) hx hb dX3_vicinity_88 (by decide) (fun c_14 => ?_) (fun c_14 => ?_)
                    · refine lv_iconst (v := nI 0) hx hb dX3_vicinity_104 (by decide) ?_
                      refine lv_istore (lv' := [(7, .int (nI 0)), (6, .int (nI (g (210 + t)))), (5, .int (nI (g (170 + t)))), (4, .int (nI t)), (3, .int (msk S)), (2, .int (msk S1)), (0, .ref (ad 0)), (1, .int (nI j))]) hx hb dX3_vicinity_105 hl (by decide) rfl (fun ls hl => ?_)
                      refine lv_iload hx hb dX3_vicinity_107 (lv_at hl 0 rfl) ?_
                      refine my_if_eqN (x := 0) (tgt := 141) hx hb (by omega) dX3_vicinity_109 (by decide) (fun _ => ?_) (fun c_15 => absurd c_15 (by decide))
                      refine my_iinc (k := 3) (x := t) (d := 1) (lv' := [(4, .int (nI (t + 1))), (7, .int (nI 0)), (6, .int (nI (g (210 + t)))), (5, .int (nI (g (170 + t)))), (3, .int (msk S)), (2, .int (msk S1)), (0, .ref (ad 0)), (1, .int (nI j))]) hx hb dX3_vicinity_141 hl rfl (by decide) (by decide) rfl (fun ls hl => ?_)
                      refine lv_goto (tgt := 38) hx hb dX3_vicinity_144 (by decide) ?_
                      exact ih_38 (t + 1) S1 (by omega) (by omega) (PsV_skip hR (Or.inl (by unfold thr; rw [c_14]; simp))) _ _ _ hP hD hS (lv_sub hl [0, 4, 5, 6, 7] rfl)
                    · refine lv_aload_n hx hb dX3_vicinity_91 rfl (lv_at hl 5 rfl) ?_
                      refine lv_iload hx hb dX3_vicinity_92 (lv_at hl 0 rfl) ?_
                      refine CI.callV (As := [.int (nI (g (210 + t)))]) (rest := []) (w3 := (fun _ => sW cI ad g)) (c_X3_isInput l dC dI cI cZ cR cG ad g (g (210 + t)) (by omega) ((ok.2.2.1 _ (by omega)).1)) ⟨hx, hb, hml, hown, hts⟩ (cwV 1 hts gX3_vicinity_X3_isInput rfl rfl rfl (by decide +kernel) ⟨Nat.le_of_ble_eq_true rfl, Nat.le_of_ble_eq_true rfl⟩) rfl hl.1 (Nat.le_of_ble_eq_true rfl) dX3_vicinity_94 ⟨Nat.le_of_ble_eq_true rfl, Nat.le_of_ble_eq_true rfl⟩ hA hS hP hK hD [0, 1] [] rfl rfl (by decide) (by decide) (by decide) 0 3 rfl rfl [0, 1] (by decide) (fun _ => rfl) rfl (fun _ H locs hp_16 hP hD hS => ?_)
                      refine my_if_neB (x := (decide (g (2 + (g (210 + t))) = 0))) (tgt := 104) hx hb dX3_vicinity_97 (by decide) (fun c_17 => ?_) (fun c_17 => ?_)
                      · refine lv_iconst (v := nI 0) hx hb dX3_vicinity_104 (by decide) ?_
                        refine lv_istore (lv' := [(7, .int (nI 0)), (6, .int (nI (g (210 + t)))), (5, .int (nI (g (170 + t)))), (4, .int (nI t)), (3, .int (msk S)), (2, .int (msk S1)), (0, .ref (ad 0)), (1, .int (nI j))]) hx hb dX3_vicinity_105 hl (by decide) rfl (fun ls hl => ?_)
                        refine lv_iload hx hb dX3_vicinity_107 (lv_at hl 0 rfl) ?_
                        refine my_if_eqN (x := 0) (tgt := 141) hx hb (by omega) dX3_vicinity_109 (by decide) (fun _ => ?_) (fun c_18 => absurd c_18 (by decide))
                        refine my_iinc (k := 3) (x := t) (d := 1) (lv' := [(4, .int (nI (t + 1))), (7, .int (nI 0)), (6, .int (nI (g (210 + t)))), (5, .int (nI (g (170 + t)))), (3, .int (msk S)), (2, .int (msk S1)), (0, .ref (ad 0)), (1, .int (nI j))]) hx hb dX3_vicinity_141 hl rfl (by decide) (by decide) rfl (fun ls hl => ?_)
                        refine lv_goto (tgt := 38) hx hb dX3_vicinity_144 (by decide) ?_
                        exact ih_38 (t + 1) S1 (by omega) (by omega) (PsV_skip hR (Or.inl (by unfold thr; rw [c_17]; simp))) _ _ _ hP hD hS (lv_sub hl [0, 4, 5, 6, 7] rfl)
                      · refine lv_iconst (v := nI 1) hx hb dX3_vicinity_100 (by decide) ?_
                        refine lv_goto (tgt := 105) hx hb dX3_vicinity_101 (by decide) ?_
                        refine lv_istore (lv' := [(7, .int (nI 1)), (6, .int (nI (g (210 + t)))), (5, .int (nI (g (170 + t)))), (4, .int (nI t)), (3, .int (msk S)), (2, .int (msk S1)), (0, .ref (ad 0)), (1, .int (nI j))]) hx hb dX3_vicinity_105 hl (by decide) rfl (fun ls hl => ?_)
                        refine lv_iload hx hb dX3_vicinity_107 (lv_at hl 0 rfl) ?_
                        refine my_if_eqN (x := 1) (tgt := 141) hx hb (by omega) dX3_vicinity_109 (by decide) (fun c_19 => absurd c_19 (by decide)) (fun _ => ?_)
                        refine lv_iload_n hx hb dX3_vicinity_112 rfl (lv_at hl 5 rfl) ?_
                        refine lv_iload hx hb dX3_vicinity_113 (lv_at hl 2 rfl) ?_
                        refine lv_ishr hx hb dX3_vicinity_115 ?_
                        refine lv_iconst (v := nI 1) hx hb dX3_vicinity_116 (by decide) ?_
                        refine lv_iand hx hb dX3_vicinity_117 ?_
                        refine lv_iload_n hx hb dX3_vicinity_118 rfl (lv_at hl 5 rfl) ?_
                        refine lv_iload hx hb dX3_vicinity_119 (lv_at hl 1 rfl) ?_
                        refine lv_ishr hx hb dX3_vicinity_121 ?_
                        refine lv_iconst (v := nI 1) hx hb dX3_vicinity_122 (by decide) ?_
                        refine lv_iand hx hb dX3_vicinity_123 ?_
                        refine lv_ior hx hb dX3_vicinity_124 ?_
                        refine my_cast (show (((msk S1) >>> (nI (g (170 + t)) &&& 31)) &&& (nI 1)) ||| (((msk S1) >>> (nI (g (210 + t)) &&& 31)) &&& (nI 1)) = bI (S1 (g (170 + t)) || S1 (g (210 + t))) from msk_sh2 S1 (by omega) (by omega)) ?_
                        refine lv_iconst (v := nI 1) hx hb dX3_vicinity_125 (by decide) ?_
                        refine my_icmp_neI (x := (bI (S1 (g (170 + t)) || S1 (g (210 + t))))) (y := (nI 1)) (tgt := 141) hx hb dX3_vicinity_126 (by decide) (fun c_20 => ?_) (fun c_20 => ?_)
                        · refine my_iinc (k := 3) (x := t) (d := 1) (lv' := [(4, .int (nI (t + 1))), (7, .int (nI 1)), (6, .int (nI (g (210 + t)))), (5, .int (nI (g (170 + t)))), (3, .int (msk S)), (2, .int (msk S1)), (0, .ref (ad 0)), (1, .int (nI j))]) hx hb dX3_vicinity_141 hl rfl (by decide) (by decide) rfl (fun ls hl => ?_)
                          refine lv_goto (tgt := 38) hx hb dX3_vicinity_144 (by decide) ?_
                          exact ih_38 (t + 1) S1 (by omega) (by omega) (PsV_skip hR (Or.inr (by cases h9 : (S1 (g (170 + t)) || S1 (g (210 + t))) <;> first | rfl | (exact absurd (by rw [h9]; rfl) c_20)))) _ _ _ hP hD hS (lv_sub hl [0, 4, 5, 6, 7] rfl)
                        · refine lv_iload_n hx hb dX3_vicinity_129 rfl (lv_at hl 5 rfl) ?_
                          refine lv_iconst (v := nI 1) hx hb dX3_vicinity_130 (by decide) ?_
                          refine lv_iload hx hb dX3_vicinity_131 (lv_at hl 2 rfl) ?_
                          refine lv_ishl hx hb dX3_vicinity_133 ?_
                          refine lv_iconst (v := nI 1) hx hb dX3_vicinity_134 (by decide) ?_
                          refine lv_iload hx hb dX3_vicinity_135 (lv_at hl 1 rfl) ?_
                          refine lv_ishl hx hb dX3_vicinity_137 ?_
                          refine lv_ior hx hb dX3_vicinity_138 ?_
                          refine lv_ior hx hb dX3_vicinity_139 ?_
                          refine my_cast (show (msk S1) ||| (((1 : Int32) <<< (nI (g (170 + t)) &&& 31)) ||| ((1 : Int32) <<< (nI (g (210 + t)) &&& 31))) = msk (fun i => S1 i || (decide (i = g (170 + t)) || decide (i = g (210 + t)))) from msk_or2 S1 (by omega) (by omega)) ?_
                          refine lv_istore_n (lv' := [(2, .int (msk (fun i => S1 i || (decide (i = g (170 + t)) || decide (i = g (210 + t)))))), (7, .int (nI 1)), (6, .int (nI (g (210 + t)))), (5, .int (nI (g (170 + t)))), (4, .int (nI t)), (3, .int (msk S)), (0, .ref (ad 0)), (1, .int (nI j))]) hx hb dX3_vicinity_140 rfl hl (by decide) rfl (fun ls hl => ?_)
                          refine my_iinc (k := 4) (x := t) (d := 1) (lv' := [(4, .int (nI (t + 1))), (2, .int (msk (fun i => S1 i || (decide (i = g (170 + t)) || decide (i = g (210 + t)))))), (7, .int (nI 1)), (6, .int (nI (g (210 + t)))), (5, .int (nI (g (170 + t)))), (3, .int (msk S)), (0, .ref (ad 0)), (1, .int (nI j))]) hx hb dX3_vicinity_141 hl rfl (by decide) (by decide) rfl (fun ls hl => ?_)
                          refine lv_goto (tgt := 38) hx hb dX3_vicinity_144 (by decide) ?_
                          exact ih_38 (t + 1) (fun i => S1 i || (decide (i = g (170 + t)) || decide (i = g (210 + t)))) (by omega) (by omega) (PsV_add ok hR (by omega) (by unfold thr; rw [decide_eq_false c_11, c_14, c_17]; rfl) (by cases h9 : (S1 (g (170 + t)) || S1 (g (210 + t))) <;> first | rfl | (exact absurd c_20 (by rw [h9]; decide)))) _ _ _ hP hD hS (lv_sub hl [0, 5, 1, 6, 7] rfl)
            exact key_38 _ 0 S (Nat.lt_succ_self _) (Nat.zero_le _) (PsV_0 hV) _ _ _ hP hD hS (lv_sub hl [0, 1, 2, 3, 4] rfl)
      exact key_28 _ (fun i => decide (i = j) && !decide (g (2 + j) = 0)) (-1) (Nat.lt_succ_self _) (VI_start g j) (fun z => absurd (congrArg (fun y => bt y 31) z) (by show ¬ bt (-1) 31 = bt (msk _) 31; rw [b_msk _ 31 (by omega), decide_eq_false (show ¬ 31 < 24 by omega), Bool.false_and]; decide)) _ _ _ hP hD hS (lv_sub hl [0, 1, 2, 3] rfl)
    · refine lv_iconst (v := nI 0) hx hb dX3_vicinity_18 (by decide) ?_
      refine lv_goto (tgt := 25) hx hb dX3_vicinity_19 (by decide) ?_
      refine my_cast (show nI 0 = msk (fun i => decide (i = j) && !decide (g (2 + j) = 0)) from by rw [c_4]; exact (msk_cong (fun i _ => by simp)).trans msk_none |>.symm) ?_
      refine lv_istore_n (lv' := [(2, .int (msk (fun i => decide (i = j) && !decide (g (2 + j) = 0)))), (0, .ref (ad 0)), (1, .int (nI j))]) hx hb dX3_vicinity_25 rfl hl (by decide) rfl (fun ls hl => ?_)
      refine lv_iconst (v := -1) hx hb dX3_vicinity_26 (by decide) ?_
      refine lv_istore_n (lv' := [(3, .int (-1)), (2, .int (msk (fun i => decide (i = j) && !decide (g (2 + j) = 0)))), (0, .ref (ad 0)), (1, .int (nI j))]) hx hb dX3_vicinity_27 rfl hl (by decide) rfl (fun ls hl => ?_)
      have key_28 : ∀ (fu : Nat) (S : Nat → Bool) (wa : Int32), (2 * (24 - ct S 24) + (if wa = msk S then 0 else 1)) < fu → (VI g j S) → (wa = msk S → ClV g S (g 1)) → ∀ (H : Heap) (locs : List Loc) (ls : Array Slot), va_P (dC, dI) vwCl (sW cI ad g) H → va_D A (sW cI ad g) → va_S A s.heap H locs → lv_has ls 8 [(3, .int wa), (2, .int (msk S)), (0, .ref (ad 0)), (1, .int (nI j))] → W p l e rm_X3_vicinity s m ar below meth c H locs 0 0 Qz (F0 m 28 ls []) := by
        intro fu
        induction fu with
        | zero => intro S wa hmu; exact absurd hmu (Nat.not_lt_zero _)
        | succ fu ih_28 =>
          intro S wa hmu_28 hV hcl H locs ls hP hD hS hl
          refine lv_iload_n hx hb dX3_vicinity_28 rfl (lv_at hl 1 rfl) ?_
          refine lv_iload_n hx hb dX3_vicinity_29 rfl (lv_at hl 0 rfl) ?_
          refine lv_icmp_eq (x := (msk S)) (y := wa) (tgt := 150) hx hb dX3_vicinity_30 (by decide) (fun c_22 => ?_) (fun c_22 => ?_)
          · refine lv_iload_n hx hb dX3_vicinity_150 rfl (lv_at hl 1 rfl) ?_
            exact ret () _ _ _ _ _ _ _ _ (by show _ = aVic g (nI j); unfold aVic; rw [if_pos c_2, show nx (nI j) = j from hjc]; exact msk_cong (fun i _ => VI_end hj1 hV (hcl c_22.symm) (VI_cong hV hj1) i)) (trivial) (rfl) hP hD hS (Nat.le_of_ble_eq_true rfl) (Nat.le_of_ble_eq_true rfl) dX3_vicinity_151
          · refine lv_iload_n hx hb dX3_vicinity_33 rfl (lv_at hl 1 rfl) ?_
            refine lv_istore_n (lv' := [(3, .int (msk S)), (2, .int (msk S)), (0, .ref (ad 0)), (1, .int (nI j))]) hx hb dX3_vicinity_34 rfl hl (by decide) rfl (fun ls hl => ?_)
            refine lv_iconst (v := nI 0) hx hb dX3_vicinity_35 (by decide) ?_
            refine lv_istore (lv' := [(4, .int (nI 0)), (3, .int (msk S)), (2, .int (msk S)), (0, .ref (ad 0)), (1, .int (nI j))]) hx hb dX3_vicinity_36 hl (by decide) rfl (fun ls hl => ?_)
            have key_38 : ∀ (fu : Nat) (t : Nat) (S1 : Nat → Bool), (g 1 - t) < fu → (t ≤ g 1) → (PsV g j S S1 t) → ∀ (H : Heap) (locs : List Loc) (ls : Array Slot), va_P (dC, dI) vwCl (sW cI ad g) H → va_D A (sW cI ad g) → va_S A s.heap H locs → lv_has ls 8 [(4, .int (nI t)), (3, .int (msk S)), (2, .int (msk S1)), (0, .ref (ad 0)), (1, .int (nI j))] → W p l e rm_X3_vicinity s m ar below meth c H locs 0 0 Qz (F0 m 38 ls []) := by
              intro fu
              induction fu with
              | zero => intro t S1 hmu; exact absurd hmu (Nat.not_lt_zero _)
              | succ fu ih_38 =>
                intro t S1 hmu_38 ht hR H locs ls hP hD hS hl
                refine lv_iload hx hb dX3_vicinity_38 (lv_at hl 0 rfl) ?_
                refine lv_aload_n hx hb dX3_vicinity_40 rfl (lv_at hl 3 rfl) ?_
                refine CI.callV (As := []) (rest := [.int (nI t)]) (w3 := (fun _ => sW cI ad g)) (c_X3_many l dC dI cI cZ cR cG ad g) ⟨hx, hb, hml, hown, hts⟩ (cwV 0 hts gX3_vicinity_X3_many rfl rfl rfl (by decide +kernel) ⟨Nat.le_of_ble_eq_true rfl, Nat.le_of_ble_eq_true rfl⟩) rfl hl.1 (Nat.le_of_ble_eq_true rfl) dX3_vicinity_41 ⟨Nat.le_of_ble_eq_true rfl, Nat.le_of_ble_eq_true rfl⟩ hA hS hP hK hD [0, 1] [] rfl rfl (by decide) (by decide) (by decide) 0 3 rfl rfl [0, 1] (by decide) (fun _ => rfl) rfl (fun _ H locs hp_24 hP hD hS => ?_)
                refine my_icmp_ge (x := t) (y := (g 1)) (tgt := 147) hx hb (by omega) (by omega) dX3_vicinity_44 (by decide) (fun c_25 => ?_) (fun c_25 => ?_)
                · refine lv_goto (tgt := 28) hx hb dX3_vicinity_147 (by decide) ?_
                  exact ih_28 S1 (msk S) (by rw [if_neg (fun z => c_22 z.symm)] at hmu_28; have hle := ct_le S1 24; have hle0 := ct_le S 24; have hm := (ct_lt (k := 0) hR.2.1 24).1; by_cases z : msk S = msk S1; (rw [if_pos z, show ct S1 24 = ct S 24 from ct_cong (fun i hi => (msk_inj z i hi).symm)]; omega); (rw [if_neg z]; have hne : ¬ ct S1 24 ≤ ct S 24 := (fun q => z (msk_cong (fun i hi => ((hR.2.2 q).1 i hi).symm))); omega)) hR.1 (fun z => by rw [show t = g 1 by omega] at hR; exact (hR.2.2 (Nat.le_of_eq (ct_cong (fun i hi => (msk_inj z i hi).symm)))).2) _ _ _ hP hD hS (lv_sub hl [1, 2, 3, 4] rfl)
                · have hT := ok.2.2.2 t (by omega)
                  have hsl := swS_le g t
                  refine lv_aload_n hx hb dX3_vicinity_47 rfl (lv_at hl 3 rfl) ?_
                  refine va_get (D := (dC, dI)) (ci := 3) (v := .ref (ad 1)) (C := RX3) (T := TX3) (N := 8) hx hb hts (fun _ h9 => List.mem_cons_of_mem _ (List.mem_append_right _ h9)) hown hK hP 0 rfl rfl 0 (by decide) (hts (.fieldLink RX3 7 "SwitchLevelSimulatorModel" "state" "[I") (List.mem_of_getElem? (i := 1) rfl)) (fun _ h9 => h9) rfl dX3_vicinity_48 ?_
                  refine lv_sipush (v := nI 170) hx hb dX3_vicinity_51 (by decide) ?_
                  refine lv_iload hx hb dX3_vicinity_54 (lv_at hl 0 rfl) ?_
                  refine my_iadd (x := 170) (y := t) hx hb dX3_vicinity_56 ?_
                  refine my_iald (i := (170 + t)) hx hb hK hP 1 0 rfl rfl (by omega) (by decide) dX3_vicinity_57 ?_
                  refine lv_istore (lv' := [(5, .int (nI (g (170 + t)))), (4, .int (nI t)), (3, .int (msk S)), (2, .int (msk S1)), (0, .ref (ad 0)), (1, .int (nI j))]) hx hb dX3_vicinity_58 hl (by decide) rfl (fun ls hl => ?_)
                  refine lv_aload_n hx hb dX3_vicinity_60 rfl (lv_at hl 4 rfl) ?_
                  refine va_get (D := (dC, dI)) (ci := 3) (v := .ref (ad 1)) (C := RX3) (T := TX3) (N := 8) hx hb hts (fun _ h9 => List.mem_cons_of_mem _ (List.mem_append_right _ h9)) hown hK hP 0 rfl rfl 0 (by decide) (hts (.fieldLink RX3 7 "SwitchLevelSimulatorModel" "state" "[I") (List.mem_of_getElem? (i := 1) rfl)) (fun _ h9 => h9) rfl dX3_vicinity_61 ?_
                  refine lv_sipush (v := nI 210) hx hb dX3_vicinity_64 (by decide) ?_
                  refine lv_iload hx hb dX3_vicinity_67 (lv_at hl 1 rfl) ?_
                  refine my_iadd (x := 210) (y := t) hx hb dX3_vicinity_69 ?_
                  refine my_iald (i := (210 + t)) hx hb hK hP 1 0 rfl rfl (by omega) (by decide) dX3_vicinity_70 ?_
                  refine lv_istore (lv' := [(6, .int (nI (g (210 + t)))), (5, .int (nI (g (170 + t)))), (4, .int (nI t)), (3, .int (msk S)), (2, .int (msk S1)), (0, .ref (ad 0)), (1, .int (nI j))]) hx hb dX3_vicinity_71 hl (by decide) rfl (fun ls hl => ?_)
                  refine lv_aload_n hx hb dX3_vicinity_73 rfl (lv_at hl 5 rfl) ?_
                  refine lv_iload hx hb dX3_vicinity_74 (lv_at hl 2 rfl) ?_
                  refine CI.callV (As := [.int (nI t)]) (rest := []) (w3 := (fun _ => sW cI ad g)) (c_X3_stateOf l dC dI cI cZ cR cG ad g t (ok) (by omega)) ⟨hx, hb, hml, hown, hts⟩ (cwV 1 hts gX3_vicinity_X3_stateOf rfl rfl rfl (by decide +kernel) ⟨Nat.le_of_ble_eq_true rfl, Nat.le_of_ble_eq_true rfl⟩) rfl hl.1 (Nat.le_of_ble_eq_true rfl) dX3_vicinity_76 ⟨Nat.le_of_ble_eq_true rfl, Nat.le_of_ble_eq_true rfl⟩ hA hS hP hK hD [0, 1] [] rfl rfl (by decide) (by decide) (by decide) 0 3 rfl rfl [0, 1] (by decide) (fun _ => rfl) rfl (fun _ H locs hp_26 hP hD hS => ?_)
                  refine my_if_eqN (x := (swS g t)) (tgt := 104) hx hb (by omega) dX3_vicinity_79 (by decide) (fun c_27 => ?_) (fun c_27 => ?_)
                  · refine lv_iconst (v := nI 0) hx hb dX3_vicinity_104 (by decide) ?_
                    refine lv_istore (lv' := [(7, .int (nI 0)), (6, .int (nI (g (210 + t)))), (5, .int (nI (g (170 + t)))), (4, .int (nI t)), (3, .int (msk S)), (2, .int (msk S1)), (0, .ref (ad 0)), (1, .int (nI j))]) hx hb dX3_vicinity_105 hl (by decide) rfl (fun ls hl => ?_)
                    refine lv_iload hx hb dX3_vicinity_107 (lv_at hl 0 rfl) ?_
                    refine my_if_eqN (x := 0) (tgt := 141) hx hb (by omega) dX3_vicinity_109 (by decide) (fun _ => ?_) (fun c_28 => absurd c_28 (by decide))
                    refine my_iinc (k := 3) (x := t) (d := 1) (lv' := [(4, .int (nI (t + 1))), (7, .int (nI 0)), (6, .int (nI (g (210 + t)))), (5, .int (nI (g (170 + t)))), (3, .int (msk S)), (2, .int (msk S1)), (0, .ref (ad 0)), (1, .int (nI j))]) hx hb dX3_vicinity_141 hl rfl (by decide) (by decide) rfl (fun ls hl => ?_)
                    refine lv_goto (tgt := 38) hx hb dX3_vicinity_144 (by decide) ?_
                    exact ih_38 (t + 1) S1 (by omega) (by omega) (PsV_skip hR (Or.inl (by unfold thr; rw [decide_eq_true c_27]; rfl))) _ _ _ hP hD hS (lv_sub hl [0, 4, 5, 6, 7] rfl)
                  · refine lv_aload_n hx hb dX3_vicinity_82 rfl (lv_at hl 5 rfl) ?_
                    refine lv_iload hx hb dX3_vicinity_83 (lv_at hl 1 rfl) ?_
                    refine CI.callV (As := [.int (nI (g (170 + t)))]) (rest := []) (w3 := (fun _ => sW cI ad g)) (c_X3_isInput l dC dI cI cZ cR cG ad g (g (170 + t)) (by omega) ((ok.2.2.1 _ (by omega)).1)) ⟨hx, hb, hml, hown, hts⟩ (cwV 1 hts gX3_vicinity_X3_isInput rfl rfl rfl (by decide +kernel) ⟨Nat.le_of_ble_eq_true rfl, Nat.le_of_ble_eq_true rfl⟩) rfl hl.1 (Nat.le_of_ble_eq_true rfl) dX3_vicinity_85 ⟨Nat.le_of_ble_eq_true rfl, Nat.le_of_ble_eq_true rfl⟩ hA hS hP hK hD [0, 1] [] rfl rfl (by decide) (by decide) (by decide) 0 3 rfl rfl [0, 1] (by decide) (fun _ => rfl) rfl (fun _ H locs hp_29 hP hD hS => ?_)
                    refine my_if_neB (x := (decide (g (2 + (g (170 + t))) = 0))) (tgt := 104) hx hb dX3_vicinity_88 (by decide) (fun c_30 => ?_) (fun c_30 => ?_)
                    · refine lv_iconst (v := nI 0) hx hb dX3_vicinity_104 (by decide) ?_
                      refine lv_istore (lv' := [(7, .int (nI 0)), (6, .int (nI (g (210 + t)))), (5, .int (nI (g (170 + t)))), (4, .int (nI t)), (3, .int (msk S)), (2, .int (msk S1)), (0, .ref (ad 0)), (1, .int (nI j))]) hx hb dX3_vicinity_105 hl (by decide) rfl (fun ls hl => ?_)
                      refine lv_iload hx hb dX3_vicinity_107 (lv_at hl 0 rfl) ?_
                      refine my_if_eqN (x := 0) (tgt := 141) hx hb (by omega) dX3_vicinity_109 (by decide) (fun _ => ?_) (fun c_31 => absurd c_31 (by decide))
                      refine my_iinc (k := 3) (x := t) (d := 1) (lv' := [(4, .int (nI (t + 1))), (7, .int (nI 0)), (6, .int (nI (g (210 + t)))), (5, .int (nI (g (170 + t)))), (3, .int (msk S)), (2, .int (msk S1)), (0, .ref (ad 0)), (1, .int (nI j))]) hx hb dX3_vicinity_141 hl rfl (by decide) (by decide) rfl (fun ls hl => ?_)
                      refine lv_goto (tgt := 38) hx hb dX3_vicinity_144 (by decide) ?_
                      exact ih_38 (t + 1) S1 (by omega) (by omega) (PsV_skip hR (Or.inl (by unfold thr; rw [c_30]; simp))) _ _ _ hP hD hS (lv_sub hl [0, 4, 5, 6, 7] rfl)
                    · refine lv_aload_n hx hb dX3_vicinity_91 rfl (lv_at hl 5 rfl) ?_
                      refine lv_iload hx hb dX3_vicinity_92 (lv_at hl 0 rfl) ?_
                      refine CI.callV (As := [.int (nI (g (210 + t)))]) (rest := []) (w3 := (fun _ => sW cI ad g)) (c_X3_isInput l dC dI cI cZ cR cG ad g (g (210 + t)) (by omega) ((ok.2.2.1 _ (by omega)).1)) ⟨hx, hb, hml, hown, hts⟩ (cwV 1 hts gX3_vicinity_X3_isInput rfl rfl rfl (by decide +kernel) ⟨Nat.le_of_ble_eq_true rfl, Nat.le_of_ble_eq_true rfl⟩) rfl hl.1 (Nat.le_of_ble_eq_true rfl) dX3_vicinity_94 ⟨Nat.le_of_ble_eq_true rfl, Nat.le_of_ble_eq_true rfl⟩ hA hS hP hK hD [0, 1] [] rfl rfl (by decide) (by decide) (by decide) 0 3 rfl rfl [0, 1] (by decide) (fun _ => rfl) rfl (fun _ H locs hp_32 hP hD hS => ?_)
                      refine my_if_neB (x := (decide (g (2 + (g (210 + t))) = 0))) (tgt := 104) hx hb dX3_vicinity_97 (by decide) (fun c_33 => ?_) (fun c_33 => ?_)
                      · refine lv_iconst (v := nI 0) hx hb dX3_vicinity_104 (by decide) ?_
                        refine lv_istore (lv' := [(7, .int (nI 0)), (6, .int (nI (g (210 + t)))), (5, .int (nI (g (170 + t)))), (4, .int (nI t)), (3, .int (msk S)), (2, .int (msk S1)), (0, .ref (ad 0)), (1, .int (nI j))]) hx hb dX3_vicinity_105 hl (by decide) rfl (fun ls hl => ?_)
                        refine lv_iload hx hb dX3_vicinity_107 (lv_at hl 0 rfl) ?_
                        refine my_if_eqN (x := 0) (tgt := 141) hx hb (by omega) dX3_vicinity_109 (by decide) (fun _ => ?_) (fun c_34 => absurd c_34 (by decide))
                        refine my_iinc (k := 3) (x := t) (d := 1) (lv' := [(4, .int (nI (t + 1))), (7, .int (nI 0)), (6, .int (nI (g (210 + t)))), (5, .int (nI (g (170 + t)))), (3, .int (msk S)), (2, .int (msk S1)), (0, .ref (ad 0)), (1, .int (nI j))]) hx hb dX3_vicinity_141 hl rfl (by decide) (by decide) rfl (fun ls hl => ?_)
                        refine lv_goto (tgt := 38) hx hb dX3_vicinity_144 (by decide) ?_
                        exact ih_38 (t + 1) S1 (by omega) (by omega) (PsV_skip hR (Or.inl (by unfold thr; rw [c_33]; simp))) _ _ _ hP hD hS (lv_sub hl [0, 4, 5, 6, 7] rfl)
                      · refine lv_iconst (v := nI 1) hx hb dX3_vicinity_100 (by decide) ?_
                        refine lv_goto (tgt := 105) hx hb dX3_vicinity_101 (by decide) ?_
                        refine lv_istore (lv' := [(7, .int (nI 1)), (6, .int (nI (g (210 + t)))), (5, .int (nI (g (170 + t)))), (4, .int (nI t)), (3, .int (msk S)), (2, .int (msk S1)), (0, .ref (ad 0)), (1, .int (nI j))]) hx hb dX3_vicinity_105 hl (by decide) rfl (fun ls hl => ?_)
                        refine lv_iload hx hb dX3_vicinity_107 (lv_at hl 0 rfl) ?_
                        refine my_if_eqN (x := 1) (tgt := 141) hx hb (by omega) dX3_vicinity_109 (by decide) (fun c_35 => absurd c_35 (by decide)) (fun _ => ?_)
                        refine lv_iload_n hx hb dX3_vicinity_112 rfl (lv_at hl 5 rfl) ?_
                        refine lv_iload hx hb dX3_vicinity_113 (lv_at hl 2 rfl) ?_
                        refine lv_ishr hx hb dX3_vicinity_115 ?_
                        refine lv_iconst (v := nI 1) hx hb dX3_vicinity_116 (by decide) ?_
                        refine lv_iand hx hb dX3_vicinity_117 ?_
                        refine lv_iload_n hx hb dX3_vicinity_118 rfl (lv_at hl 5 rfl) ?_
                        refine lv_iload hx hb dX3_vicinity_119 (lv_at hl 1 rfl) ?_
                        refine lv_ishr hx hb dX3_vicinity_121 ?_
                        refine lv_iconst (v := nI 1) hx hb dX3_vicinity_122 (by decide) ?_
                        refine lv_iand hx hb dX3_vicinity_123 ?_
                        refine lv_ior hx hb dX3_vicinity_124 ?_
                        refine my_cast (show (((msk S1) >>> (nI (g (170 + t)) &&& 31)) &&& (nI 1)) ||| (((msk S1) >>> (nI (g (210 + t)) &&& 31)) &&& (nI 1)) = bI (S1 (g (170 + t)) || S1 (g (210 + t))) from msk_sh2 S1 (by omega) (by omega)) ?_
                        refine lv_iconst (v := nI 1) hx hb dX3_vicinity_125 (by decide) ?_
                        refine my_icmp_neI (x := (bI (S1 (g (170 + t)) || S1 (g (210 + t))))) (y := (nI 1)) (tgt := 141) hx hb dX3_vicinity_126 (by decide) (fun c_36 => ?_) (fun c_36 => ?_)
                        · refine my_iinc (k := 3) (x := t) (d := 1) (lv' := [(4, .int (nI (t + 1))), (7, .int (nI 1)), (6, .int (nI (g (210 + t)))), (5, .int (nI (g (170 + t)))), (3, .int (msk S)), (2, .int (msk S1)), (0, .ref (ad 0)), (1, .int (nI j))]) hx hb dX3_vicinity_141 hl rfl (by decide) (by decide) rfl (fun ls hl => ?_)
                          refine lv_goto (tgt := 38) hx hb dX3_vicinity_144 (by decide) ?_
                          exact ih_38 (t + 1) S1 (by omega) (by omega) (PsV_skip hR (Or.inr (by cases h9 : (S1 (g (170 + t)) || S1 (g (210 + t))) <;> first | rfl | (exact absurd (by rw [h9]; rfl) c_36)))) _ _ _ hP hD hS (lv_sub hl [0, 4, 5, 6, 7] rfl)
                        · refine lv_iload_n hx hb dX3_vicinity_129 rfl (lv_at hl 5 rfl) ?_
                          refine lv_iconst (v := nI 1) hx hb dX3_vicinity_130 (by decide) ?_
                          refine lv_iload hx hb dX3_vicinity_131 (lv_at hl 2 rfl) ?_
                          refine lv_ishl hx hb dX3_vicinity_133 ?_
                          refine lv_iconst (v := nI 1) hx hb dX3_vicinity_134 (by decide) ?_
                          refine lv_iload hx hb dX3_vicinity_135 (lv_at hl 1 rfl) ?_
                          refine lv_ishl hx hb dX3_vicinity_137 ?_
                          refine lv_ior hx hb dX3_vicinity_138 ?_
                          refine lv_ior hx hb dX3_vicinity_139 ?_
                          refine my_cast (show (msk S1) ||| (((1 : Int32) <<< (nI (g (170 + t)) &&& 31)) ||| ((1 : Int32) <<< (nI (g (210 + t)) &&& 31))) = msk (fun i => S1 i || (decide (i = g (170 + t)) || decide (i = g (210 + t)))) from msk_or2 S1 (by omega) (by omega)) ?_
                          refine lv_istore_n (lv' := [(2, .int (msk (fun i => S1 i || (decide (i = g (170 + t)) || decide (i = g (210 + t)))))), (7, .int (nI 1)), (6, .int (nI (g (210 + t)))), (5, .int (nI (g (170 + t)))), (4, .int (nI t)), (3, .int (msk S)), (0, .ref (ad 0)), (1, .int (nI j))]) hx hb dX3_vicinity_140 rfl hl (by decide) rfl (fun ls hl => ?_)
                          refine my_iinc (k := 4) (x := t) (d := 1) (lv' := [(4, .int (nI (t + 1))), (2, .int (msk (fun i => S1 i || (decide (i = g (170 + t)) || decide (i = g (210 + t)))))), (7, .int (nI 1)), (6, .int (nI (g (210 + t)))), (5, .int (nI (g (170 + t)))), (3, .int (msk S)), (0, .ref (ad 0)), (1, .int (nI j))]) hx hb dX3_vicinity_141 hl rfl (by decide) (by decide) rfl (fun ls hl => ?_)
                          refine lv_goto (tgt := 38) hx hb dX3_vicinity_144 (by decide) ?_
                          exact ih_38 (t + 1) (fun i => S1 i || (decide (i = g (170 + t)) || decide (i = g (210 + t)))) (by omega) (by omega) (PsV_add ok hR (by omega) (by unfold thr; rw [decide_eq_false c_27, c_30, c_33]; rfl) (by cases h9 : (S1 (g (170 + t)) || S1 (g (210 + t))) <;> first | rfl | (exact absurd c_36 (by rw [h9]; decide)))) _ _ _ hP hD hS (lv_sub hl [0, 5, 1, 6, 7] rfl)
            exact key_38 _ 0 S (Nat.lt_succ_self _) (Nat.zero_le _) (PsV_0 hV) _ _ _ hP hD hS (lv_sub hl [0, 1, 2, 3, 4] rfl)
      exact key_28 _ (fun i => decide (i = j) && !decide (g (2 + j) = 0)) (-1) (Nat.lt_succ_self _) (VI_start g j) (fun z => absurd (congrArg (fun y => bt y 31) z) (by show ¬ bt (-1) 31 = bt (msk _) 31; rw [b_msk _ 31 (by omega), decide_eq_false (show ¬ 31 < 24 by omega), Bool.false_and]; decide)) _ _ _ hP hD hS (lv_sub hl [0, 1, 2, 3] rfl)
  · refine lv_iconst (v := -1) hx hb dX3_vicinity_8 (by decide) ?_
    exact ret () _ _ _ _ _ _ _ _ (by show _ = aVic g x; unfold aVic; rw [if_neg (by rw [c_2]; decide)]) (trivial) (rfl) hP hD hS (Nat.le_of_ble_eq_true rfl) (Nat.le_of_ble_eq_true rfl) dX3_vicinity_9
