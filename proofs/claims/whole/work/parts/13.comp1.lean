abbrev rm_X0_hasNode : Room := { frames := 0, cells := 0, slots := 0, locals := 0 }
set_option maxHeartbeats 4000000 in
set_option maxRecDepth 100000 in
theorem c_X0_hasNode (l : Launch) (dC : Nat → ClassId) (dI : Nat → Nat → Nat) (cI cZ cR cG : ClassId) (cd : Nat → Nat) (c : Nat → Nat) (x : Int32) (ok : okG c) : CI l (dC, dI) (tyL cI cZ cR cG) yX0_hasNode wsX0_hasNode rm_X0_hasNode [.ref (cd 0), .int x] (cF cI cd (nI (c 0)) (msk (inp c)) (msk (sto c)) (msk (m0 c)) (msk (m1 c)) (nI (c 1)) (szA c) (pA c 50) (pA c 90) (pA c 130) (pA c 170) (pA c 210) (pA c 250)) (S := Unit) (fun _ => bI (inN x (c 0))) (fun _ => True) (fun _ => cW cI cd c) := by
  refine CI.of (cc := cX0_hasNode) (maxL := 2) (rt := .boolean) (lv := [(0, .ref (cd 0)), (1, .int x)]) (by decide) rfl (Nat.le_of_ble_eq_true rfl) rfl (Or.inr ⟨rfl, fun _ => nar_bI _⟩) ?_
  intro p e s m ar below meth kc A Qz ls hx hb hml hown hts hnm hA hS hP hK hD hl ret
  refine lv_iload_n hx hb dX0_hasNode_0 rfl (lv_at hl 1 rfl) ?_
  refine lv_if_lt (x := x) (tgt := 16) hx hb dX0_hasNode_1 (by decide) (fun c_1 => ?_) (fun c_1 => ?_)
  · refine lv_iconst (v := nI 0) hx hb dX0_hasNode_16 (by decide) ?_
    exact ret () _ _ _ _ _ _ _ _ (by show _ = bI (inN x (c 0)); rw [hasN_f1 c_1]; rfl) (trivial) (rfl) hP hD hS (Nat.le_of_ble_eq_true rfl) (Nat.le_of_ble_eq_true rfl) dX0_hasNode_17
  · refine lv_iload_n hx hb dX0_hasNode_4 rfl (lv_at hl 1 rfl) ?_
    refine lv_aload_n hx hb dX0_hasNode_5 rfl (lv_at hl 0 rfl) ?_
    refine va_get (D := (dC, dI)) (ci := 0) (v := .int (nI (c 0))) (C := RX0) (T := TX0) (N := 13) hx hb hts (fun _ h9 => List.mem_cons_of_mem _ (List.mem_append_right _ h9)) hown hK hP 0 rfl rfl 0 (by decide) (hts (.fieldLink RX0 33 "SwitchLevelSimulator$Circuit" "nodeTotal" "I") (List.mem_of_getElem? (i := 1) rfl)) (fun _ h9 => h9) rfl dX0_hasNode_6 ?_
    refine lv_icmp_ge (x := x) (y := (nI (c 0))) (tgt := 16) hx hb dX0_hasNode_9 (by decide) (fun c_2 => ?_) (fun c_2 => ?_)
    · refine lv_iconst (v := nI 0) hx hb dX0_hasNode_16 (by decide) ?_
      exact ret () _ _ _ _ _ _ _ _ (by show _ = bI (inN x (c 0)); rw [hasN_f2 (by have := ok.1; omega) c_2]; rfl) (trivial) (rfl) hP hD hS (Nat.le_of_ble_eq_true rfl) (Nat.le_of_ble_eq_true rfl) dX0_hasNode_17
    · refine lv_iconst (v := nI 1) hx hb dX0_hasNode_12 (by decide) ?_
      refine lv_goto (tgt := 17) hx hb dX0_hasNode_13 (by decide) ?_
      exact ret () _ _ _ _ _ _ _ _ (by show _ = bI (inN x (c 0)); rw [hasN_t (by have := ok.1; omega) c_1 c_2]; rfl) (trivial) (rfl) hP hD hS (Nat.le_of_ble_eq_true rfl) (Nat.le_of_ble_eq_true rfl) dX0_hasNode_17
abbrev rm_X0_hasTransistor : Room := { frames := 0, cells := 0, slots := 0, locals := 0 }
set_option maxHeartbeats 4000000 in
set_option maxRecDepth 100000 in
theorem c_X0_hasTransistor (l : Launch) (dC : Nat → ClassId) (dI : Nat → Nat → Nat) (cI cZ cR cG : ClassId) (cd : Nat → Nat) (c : Nat → Nat) (x : Int32) (ok : okG c) : CI l (dC, dI) (tyL cI cZ cR cG) yX0_hasTransistor wsX0_hasTransistor rm_X0_hasTransistor [.ref (cd 0), .int x] (cF cI cd (nI (c 0)) (msk (inp c)) (msk (sto c)) (msk (m0 c)) (msk (m1 c)) (nI (c 1)) (szA c) (pA c 50) (pA c 90) (pA c 130) (pA c 170) (pA c 210) (pA c 250)) (S := Unit) (fun _ => bI (inN x (c 1))) (fun _ => True) (fun _ => cW cI cd c) := by
  refine CI.of (cc := cX0_hasTransistor) (maxL := 2) (rt := .boolean) (lv := [(0, .ref (cd 0)), (1, .int x)]) (by decide) rfl (Nat.le_of_ble_eq_true rfl) rfl (Or.inr ⟨rfl, fun _ => nar_bI _⟩) ?_
  intro p e s m ar below meth kc A Qz ls hx hb hml hown hts hnm hA hS hP hK hD hl ret
  refine lv_iload_n hx hb dX0_hasTransistor_0 rfl (lv_at hl 1 rfl) ?_
  refine lv_if_lt (x := x) (tgt := 16) hx hb dX0_hasTransistor_1 (by decide) (fun c_1 => ?_) (fun c_1 => ?_)
  · refine lv_iconst (v := nI 0) hx hb dX0_hasTransistor_16 (by decide) ?_
    exact ret () _ _ _ _ _ _ _ _ (by show _ = bI (inN x (c 1)); rw [hasN_f1 c_1]; rfl) (trivial) (rfl) hP hD hS (Nat.le_of_ble_eq_true rfl) (Nat.le_of_ble_eq_true rfl) dX0_hasTransistor_17
  · refine lv_iload_n hx hb dX0_hasTransistor_4 rfl (lv_at hl 1 rfl) ?_
    refine lv_aload_n hx hb dX0_hasTransistor_5 rfl (lv_at hl 0 rfl) ?_
    refine va_get (D := (dC, dI)) (ci := 0) (v := .int (nI (c 1))) (C := RX0) (T := TX0) (N := 13) hx hb hts (fun _ h9 => List.mem_cons_of_mem _ (List.mem_append_right _ h9)) hown hK hP 0 rfl rfl 6 (by decide) (hts (.fieldLink RX0 37 "SwitchLevelSimulator$Circuit" "transistorTotal" "I") (List.mem_of_getElem? (i := 1) rfl)) (fun _ h9 => h9) rfl dX0_hasTransistor_6 ?_
    refine lv_icmp_ge (x := x) (y := (nI (c 1))) (tgt := 16) hx hb dX0_hasTransistor_9 (by decide) (fun c_2 => ?_) (fun c_2 => ?_)
    · refine lv_iconst (v := nI 0) hx hb dX0_hasTransistor_16 (by decide) ?_
      exact ret () _ _ _ _ _ _ _ _ (by show _ = bI (inN x (c 1)); rw [hasN_f2 (by have := ok.2.1; omega) c_2]; rfl) (trivial) (rfl) hP hD hS (Nat.le_of_ble_eq_true rfl) (Nat.le_of_ble_eq_true rfl) dX0_hasTransistor_17
    · refine lv_iconst (v := nI 1) hx hb dX0_hasTransistor_12 (by decide) ?_
      refine lv_goto (tgt := 17) hx hb dX0_hasTransistor_13 (by decide) ?_
      exact ret () _ _ _ _ _ _ _ _ (by show _ = bI (inN x (c 1)); rw [hasN_t (by have := ok.2.1; omega) c_1 c_2]; rfl) (trivial) (rfl) hP hD hS (Nat.le_of_ble_eq_true rfl) (Nat.le_of_ble_eq_true rfl) dX0_hasTransistor_17
abbrev rm_X0_isInput : Room := { frames := 0, cells := 0, slots := 0, locals := 0 }
set_option maxHeartbeats 4000000 in
set_option maxRecDepth 100000 in
theorem c_X0_isInput (l : Launch) (dC : Nat → ClassId) (dI : Nat → Nat → Nat) (cI cZ cR cG : ClassId) (cd : Nat → Nat) (c : Nat → Nat) (j : Nat) (hj : j < 24) : CI l (dC, dI) (tyL cI cZ cR cG) yX0_isInput wsX0_isInput rm_X0_isInput [.ref (cd 0), .int (nI j)] (cF cI cd (nI (c 0)) (msk (inp c)) (msk (sto c)) (msk (m0 c)) (msk (m1 c)) (nI (c 1)) (szA c) (pA c 50) (pA c 90) (pA c 130) (pA c 170) (pA c 210) (pA c 250)) (S := Unit) (fun _ => bI (inp c j)) (fun _ => True) (fun _ => cW cI cd c) := by
  refine CI.of (cc := cX0_isInput) (maxL := 2) (rt := .boolean) (lv := [(0, .ref (cd 0)), (1, .int (nI j))]) (by decide) rfl (Nat.le_of_ble_eq_true rfl) rfl (Or.inr ⟨rfl, fun _ => nar_bI _⟩) ?_
  intro p e s m ar below meth kc A Qz ls hx hb hml hown hts hnm hA hS hP hK hD hl ret
  refine lv_aload_n hx hb dX0_isInput_0 rfl (lv_at hl 0 rfl) ?_
  refine va_get (D := (dC, dI)) (ci := 0) (v := .int (msk (inp c))) (C := RX0) (T := TX0) (N := 13) hx hb hts (fun _ h9 => List.mem_cons_of_mem _ (List.mem_append_right _ h9)) hown hK hP 0 rfl rfl 1 (by decide) (hts (.fieldLink RX0 40 "SwitchLevelSimulator$Circuit" "inputNodes" "I") (List.mem_of_getElem? (i := 1) rfl)) (fun _ h9 => h9) rfl dX0_isInput_1 ?_
  refine lv_iconst (v := nI 1) hx hb dX0_isInput_4 (by decide) ?_
  refine lv_iload_n hx hb dX0_isInput_5 rfl (lv_at hl 1 rfl) ?_
  refine lv_ishl hx hb dX0_isInput_6 ?_
  refine lv_iand hx hb dX0_isInput_7 ?_
  refine lv_if_eq (x := ((msk (inp c)) &&& ((1 : Int32) <<< (nI j &&& 31)))) (tgt := 15) hx hb dX0_isInput_8 (by decide) (fun c_1 => ?_) (fun c_1 => ?_)
  · refine lv_iconst (v := nI 0) hx hb dX0_isInput_15 (by decide) ?_
    exact ret () _ _ _ _ _ _ _ _ (by show _ = bI (inp c j); rw [at_f hj c_1]; rfl) (trivial) (rfl) hP hD hS (Nat.le_of_ble_eq_true rfl) (Nat.le_of_ble_eq_true rfl) dX0_isInput_16
  · refine lv_iconst (v := nI 1) hx hb dX0_isInput_11 (by decide) ?_
    refine lv_goto (tgt := 16) hx hb dX0_isInput_12 (by decide) ?_
    exact ret () _ _ _ _ _ _ _ _ (by show _ = bI (inp c j); rw [at_t hj c_1]; rfl) (trivial) (rfl) hP hD hS (Nat.le_of_ble_eq_true rfl) (Nat.le_of_ble_eq_true rfl) dX0_isInput_16
abbrev rm_X0_putValue : Room := { frames := 0, cells := 0, slots := 0, locals := 0 }
set_option maxHeartbeats 4000000 in
set_option maxRecDepth 100000 in
theorem c_X0_putValue (l : Launch) (dC : Nat → ClassId) (dI : Nat → Nat → Nat) (cI cZ cR cG : ClassId) (cd : Nat → Nat) (zn zi zs zz zo zk : Int32) (asz : Nat → Int32) (aty ast aga aon aot afa : Nat → Nat) (j v : Nat) (hv : v ≤ 2) : CV l (dC, dI) (tyL cI cZ cR cG) yX0_putValue wsX0_putValue rm_X0_putValue [.ref (cd 0), .int (nI j), .int (nI v)] (cF cI cd zn zi zs zz zo zk asz aty ast aga aon aot afa) (S := Unit) (fun _ => True) (fun _ => cF cI cd zn zi zs (pvZ zz ((1 : Int32) <<< (nI j &&& 31)) (nI v)) (pvO zo ((1 : Int32) <<< (nI j &&& 31)) (nI v)) zk asz aty ast aga aon aot afa) := by
  refine CV.of (cc := cX0_putValue) (maxL := 4) (lv := [(0, .ref (cd 0)), (1, .int (nI j)), (2, .int (nI v))]) (by decide) rfl (Nat.le_of_ble_eq_true rfl) rfl ?_
  intro p e s m ar below meth kc A Qz ls hx hb hml hown hts hnm hA hS hP hK hD hl ret
  refine lv_iconst (v := nI 1) hx hb dX0_putValue_0 (by decide) ?_
  refine lv_iload_n hx hb dX0_putValue_1 rfl (lv_at hl 1 rfl) ?_
  refine lv_ishl hx hb dX0_putValue_2 ?_
  refine lv_istore_n (lv' := [(3, .int ((1 : Int32) <<< (nI j &&& 31))), (0, .ref (cd 0)), (1, .int (nI j)), (2, .int (nI v))]) hx hb dX0_putValue_3 rfl hl (by decide) rfl (fun ls hl => ?_)
  refine lv_aload_n hx hb dX0_putValue_4 rfl (lv_at hl 1 rfl) ?_
  refine lv_iload_n hx hb dX0_putValue_5 rfl (lv_at hl 3 rfl) ?_
  refine lv_iconst (v := nI 1) hx hb dX0_putValue_6 (by decide) ?_
  refine my_icmp_ne (x := v) (y := 1) (tgt := 21) hx hb (by omega) (by omega) dX0_putValue_7 (by decide) (fun c_1 => ?_) (fun c_1 => ?_)
  · refine lv_aload_n hx hb dX0_putValue_21 rfl (lv_at hl 1 rfl) ?_
    refine va_get (D := (dC, dI)) (ci := 0) (v := .int zz) (C := RX0) (T := TX0) (N := 13) hx hb hts (fun _ h9 => List.mem_cons_of_mem _ (List.mem_append_right _ h9)) hown hK hP 0 rfl rfl 4 (by decide) (hts (.fieldLink RX0 54 "SwitchLevelSimulator$Circuit" "mayBeZero" "I") (List.mem_of_getElem? (i := 1) rfl)) (fun _ h9 => h9) rfl dX0_putValue_22 ?_
    refine lv_iload_n hx hb dX0_putValue_25 rfl (lv_at hl 0 rfl) ?_
    refine lv_ior hx hb dX0_putValue_26 ?_
    refine va_put (D := (dC, dI)) (ci := 0) (v := .int (zz ||| ((1 : Int32) <<< (nI j &&& 31)))) (ty := .int) (C := RX0) (T := TX0) (N := 13) hx hb hts (fun _ h9 => List.mem_cons_of_mem _ (List.mem_append_right _ h9)) tyX0 tyX0_ok nmX0 hown hK hP hD hS 0 rfl rfl 4 (by decide) (hts (.fieldLink RX0 54 "SwitchLevelSimulator$Circuit" "mayBeZero" "I") (List.mem_of_getElem? (i := 1) rfl)) (fun _ h9 => h9) rfl (by decide +kernel) rfl rfl (Nat.le_of_ble_eq_true rfl) dX0_putValue_27 (fun H locs hP hD hS => ?_)
    have hP : va_P (dC, dI) vwCl (cF cI cd zn zi zs (zz ||| ((1 : Int32) <<< (nI j &&& 31))) zo zk asz aty ast aga aon aot afa) H := hP
    have hD : va_D A (cF cI cd zn zi zs (zz ||| ((1 : Int32) <<< (nI j &&& 31))) zo zk asz aty ast aga aon aot afa) := hD
    refine lv_aload_n hx hb dX0_putValue_30 rfl (lv_at hl 1 rfl) ?_
    refine lv_iload_n hx hb dX0_putValue_31 rfl (lv_at hl 3 rfl) ?_
    refine my_if_neN (x := v) (tgt := 46) hx hb (by omega) dX0_putValue_32 (by decide) (fun c_2 => ?_) (fun c_2 => ?_)
    · refine lv_aload_n hx hb dX0_putValue_46 rfl (lv_at hl 1 rfl) ?_
      refine va_get (D := (dC, dI)) (ci := 0) (v := .int zo) (C := RX0) (T := TX0) (N := 13) hx hb hts (fun _ h9 => List.mem_cons_of_mem _ (List.mem_append_right _ h9)) hown hK hP 0 rfl rfl 5 (by decide) (hts (.fieldLink RX0 57 "SwitchLevelSimulator$Circuit" "mayBeOne" "I") (List.mem_of_getElem? (i := 2) rfl)) (fun _ h9 => h9) rfl dX0_putValue_47 ?_
      refine lv_iload_n hx hb dX0_putValue_50 rfl (lv_at hl 0 rfl) ?_
      refine lv_ior hx hb dX0_putValue_51 ?_
      refine va_put (D := (dC, dI)) (ci := 0) (v := .int (zo ||| ((1 : Int32) <<< (nI j &&& 31)))) (ty := .int) (C := RX0) (T := TX0) (N := 13) hx hb hts (fun _ h9 => List.mem_cons_of_mem _ (List.mem_append_right _ h9)) tyX0 tyX0_ok nmX0 hown hK hP hD hS 0 rfl rfl 5 (by decide) (hts (.fieldLink RX0 57 "SwitchLevelSimulator$Circuit" "mayBeOne" "I") (List.mem_of_getElem? (i := 2) rfl)) (fun _ h9 => h9) rfl (by decide +kernel) rfl rfl (Nat.le_of_ble_eq_true rfl) dX0_putValue_52 (fun H locs hP hD hS => ?_)
      have hP : va_P (dC, dI) vwCl (cF cI cd zn zi zs (zz ||| ((1 : Int32) <<< (nI j &&& 31))) (zo ||| ((1 : Int32) <<< (nI j &&& 31))) zk asz aty ast aga aon aot afa) H := hP
      have hD : va_D A (cF cI cd zn zi zs (zz ||| ((1 : Int32) <<< (nI j &&& 31))) (zo ||| ((1 : Int32) <<< (nI j &&& 31))) zk asz aty ast aga aon aot afa) := hD
      exact ret () _ _ _ _ _ _ _ (trivial) (by show cF cI cd zn zi zs (pvZ zz _ _) (pvO zo _ _) zk asz aty ast aga aon aot afa = _; unfold pvZ pvO; rw [if_neg (show ¬ nI v = 1 from fun q => c_1 ((nI_eq (b := 1) (by omega) (by omega)).mp q)), if_neg (show ¬ nI v = 0 from fun q => c_2 ((nI_eq (b := 0) (by omega) (by omega)).mp q))]) hP hD hS (Nat.le_of_ble_eq_true rfl) (Nat.le_of_ble_eq_true rfl) dX0_putValue_55
    · refine lv_aload_n hx hb dX0_putValue_35 rfl (lv_at hl 1 rfl) ?_
      refine va_get (D := (dC, dI)) (ci := 0) (v := .int zo) (C := RX0) (T := TX0) (N := 13) hx hb hts (fun _ h9 => List.mem_cons_of_mem _ (List.mem_append_right _ h9)) hown hK hP 0 rfl rfl 5 (by decide) (hts (.fieldLink RX0 57 "SwitchLevelSimulator$Circuit" "mayBeOne" "I") (List.mem_of_getElem? (i := 2) rfl)) (fun _ h9 => h9) rfl dX0_putValue_36 ?_
      refine lv_iload_n hx hb dX0_putValue_39 rfl (lv_at hl 0 rfl) ?_
      refine lv_iconst (v := -1) hx hb dX0_putValue_40 (by decide) ?_
      refine lv_ixor hx hb dX0_putValue_41 ?_
      refine lv_iand hx hb dX0_putValue_42 ?_
      refine lv_goto (tgt := 52) hx hb dX0_putValue_43 (by decide) ?_
      refine va_put (D := (dC, dI)) (ci := 0) (v := .int (zo &&& (((1 : Int32) <<< (nI j &&& 31)) ^^^ (-1)))) (ty := .int) (C := RX0) (T := TX0) (N := 13) hx hb hts (fun _ h9 => List.mem_cons_of_mem _ (List.mem_append_right _ h9)) tyX0 tyX0_ok nmX0 hown hK hP hD hS 0 rfl rfl 5 (by decide) (hts (.fieldLink RX0 57 "SwitchLevelSimulator$Circuit" "mayBeOne" "I") (List.mem_of_getElem? (i := 2) rfl)) (fun _ h9 => h9) rfl (by decide +kernel) rfl rfl (Nat.le_of_ble_eq_true rfl) dX0_putValue_52 (fun H locs hP hD hS => ?_)
      have hP : va_P (dC, dI) vwCl (cF cI cd zn zi zs (zz ||| ((1 : Int32) <<< (nI j &&& 31))) (zo &&& (((1 : Int32) <<< (nI j &&& 31)) ^^^ (-1))) zk asz aty ast aga aon aot afa) H := hP
      have hD : va_D A (cF cI cd zn zi zs (zz ||| ((1 : Int32) <<< (nI j &&& 31))) (zo &&& (((1 : Int32) <<< (nI j &&& 31)) ^^^ (-1))) zk asz aty ast aga aon aot afa) := hD
      exact ret () _ _ _ _ _ _ _ (trivial) (by show cF cI cd zn zi zs (pvZ zz _ _) (pvO zo _ _) zk asz aty ast aga aon aot afa = _; unfold pvZ pvO; rw [if_neg (show ¬ nI v = 1 from fun q => c_1 ((nI_eq (b := 1) (by omega) (by omega)).mp q)), if_pos (show nI v = 0 from congrArg nI c_2)]) hP hD hS (Nat.le_of_ble_eq_true rfl) (Nat.le_of_ble_eq_true rfl) dX0_putValue_55
  · refine lv_aload_n hx hb dX0_putValue_10 rfl (lv_at hl 1 rfl) ?_
    refine va_get (D := (dC, dI)) (ci := 0) (v := .int zz) (C := RX0) (T := TX0) (N := 13) hx hb hts (fun _ h9 => List.mem_cons_of_mem _ (List.mem_append_right _ h9)) hown hK hP 0 rfl rfl 4 (by decide) (hts (.fieldLink RX0 54 "SwitchLevelSimulator$Circuit" "mayBeZero" "I") (List.mem_of_getElem? (i := 1) rfl)) (fun _ h9 => h9) rfl dX0_putValue_11 ?_
    refine lv_iload_n hx hb dX0_putValue_14 rfl (lv_at hl 0 rfl) ?_
    refine lv_iconst (v := -1) hx hb dX0_putValue_15 (by decide) ?_
    refine lv_ixor hx hb dX0_putValue_16 ?_
    refine lv_iand hx hb dX0_putValue_17 ?_
    refine lv_goto (tgt := 27) hx hb dX0_putValue_18 (by decide) ?_
    refine va_put (D := (dC, dI)) (ci := 0) (v := .int (zz &&& (((1 : Int32) <<< (nI j &&& 31)) ^^^ (-1)))) (ty := .int) (C := RX0) (T := TX0) (N := 13) hx hb hts (fun _ h9 => List.mem_cons_of_mem _ (List.mem_append_right _ h9)) tyX0 tyX0_ok nmX0 hown hK hP hD hS 0 rfl rfl 4 (by decide) (hts (.fieldLink RX0 54 "SwitchLevelSimulator$Circuit" "mayBeZero" "I") (List.mem_of_getElem? (i := 1) rfl)) (fun _ h9 => h9) rfl (by decide +kernel) rfl rfl (Nat.le_of_ble_eq_true rfl) dX0_putValue_27 (fun H locs hP hD hS => ?_)
    have hP : va_P (dC, dI) vwCl (cF cI cd zn zi zs (zz &&& (((1 : Int32) <<< (nI j &&& 31)) ^^^ (-1))) zo zk asz aty ast aga aon aot afa) H := hP
    have hD : va_D A (cF cI cd zn zi zs (zz &&& (((1 : Int32) <<< (nI j &&& 31)) ^^^ (-1))) zo zk asz aty ast aga aon aot afa) := hD
    refine lv_aload_n hx hb dX0_putValue_30 rfl (lv_at hl 1 rfl) ?_
    refine lv_iload_n hx hb dX0_putValue_31 rfl (lv_at hl 3 rfl) ?_
    refine my_if_neN (x := v) (tgt := 46) hx hb (by omega) dX0_putValue_32 (by decide) (fun c_3 => ?_) (fun c_3 => ?_)
    · refine lv_aload_n hx hb dX0_putValue_46 rfl (lv_at hl 1 rfl) ?_
      refine va_get (D := (dC, dI)) (ci := 0) (v := .int zo) (C := RX0) (T := TX0) (N := 13) hx hb hts (fun _ h9 => List.mem_cons_of_mem _ (List.mem_append_right _ h9)) hown hK hP 0 rfl rfl 5 (by decide) (hts (.fieldLink RX0 57 "SwitchLevelSimulator$Circuit" "mayBeOne" "I") (List.mem_of_getElem? (i := 2) rfl)) (fun _ h9 => h9) rfl dX0_putValue_47 ?_
      refine lv_iload_n hx hb dX0_putValue_50 rfl (lv_at hl 0 rfl) ?_
      refine lv_ior hx hb dX0_putValue_51 ?_
      refine va_put (D := (dC, dI)) (ci := 0) (v := .int (zo ||| ((1 : Int32) <<< (nI j &&& 31)))) (ty := .int) (C := RX0) (T := TX0) (N := 13) hx hb hts (fun _ h9 => List.mem_cons_of_mem _ (List.mem_append_right _ h9)) tyX0 tyX0_ok nmX0 hown hK hP hD hS 0 rfl rfl 5 (by decide) (hts (.fieldLink RX0 57 "SwitchLevelSimulator$Circuit" "mayBeOne" "I") (List.mem_of_getElem? (i := 2) rfl)) (fun _ h9 => h9) rfl (by decide +kernel) rfl rfl (Nat.le_of_ble_eq_true rfl) dX0_putValue_52 (fun H locs hP hD hS => ?_)
      have hP : va_P (dC, dI) vwCl (cF cI cd zn zi zs (zz &&& (((1 : Int32) <<< (nI j &&& 31)) ^^^ (-1))) (zo ||| ((1 : Int32) <<< (nI j &&& 31))) zk asz aty ast aga aon aot afa) H := hP
      have hD : va_D A (cF cI cd zn zi zs (zz &&& (((1 : Int32) <<< (nI j &&& 31)) ^^^ (-1))) (zo ||| ((1 : Int32) <<< (nI j &&& 31))) zk asz aty ast aga aon aot afa) := hD
      exact ret () _ _ _ _ _ _ _ (trivial) (by show cF cI cd zn zi zs (pvZ zz _ _) (pvO zo _ _) zk asz aty ast aga aon aot afa = _; unfold pvZ pvO; rw [if_pos (show nI v = 1 from congrArg nI c_1), if_neg (show ¬ nI v = 0 from fun q => c_3 ((nI_eq (b := 0) (by omega) (by omega)).mp q))]) hP hD hS (Nat.le_of_ble_eq_true rfl) (Nat.le_of_ble_eq_true rfl) dX0_putValue_55
    · refine lv_aload_n hx hb dX0_putValue_35 rfl (lv_at hl 1 rfl) ?_
      refine va_get (D := (dC, dI)) (ci := 0) (v := .int zo) (C := RX0) (T := TX0) (N := 13) hx hb hts (fun _ h9 => List.mem_cons_of_mem _ (List.mem_append_right _ h9)) hown hK hP 0 rfl rfl 5 (by decide) (hts (.fieldLink RX0 57 "SwitchLevelSimulator$Circuit" "mayBeOne" "I") (List.mem_of_getElem? (i := 2) rfl)) (fun _ h9 => h9) rfl dX0_putValue_36 ?_
      refine lv_iload_n hx hb dX0_putValue_39 rfl (lv_at hl 0 rfl) ?_
      refine lv_iconst (v := -1) hx hb dX0_putValue_40 (by decide) ?_
      refine lv_ixor hx hb dX0_putValue_41 ?_
      refine lv_iand hx hb dX0_putValue_42 ?_
      refine lv_goto (tgt := 52) hx hb dX0_putValue_43 (by decide) ?_
      refine va_put (D := (dC, dI)) (ci := 0) (v := .int (zo &&& (((1 : Int32) <<< (nI j &&& 31)) ^^^ (-1)))) (ty := .int) (C := RX0) (T := TX0) (N := 13) hx hb hts (fun _ h9 => List.mem_cons_of_mem _ (List.mem_append_right _ h9)) tyX0 tyX0_ok nmX0 hown hK hP hD hS 0 rfl rfl 5 (by decide) (hts (.fieldLink RX0 57 "SwitchLevelSimulator$Circuit" "mayBeOne" "I") (List.mem_of_getElem? (i := 2) rfl)) (fun _ h9 => h9) rfl (by decide +kernel) rfl rfl (Nat.le_of_ble_eq_true rfl) dX0_putValue_52 (fun H locs hP hD hS => ?_)
      have hP : va_P (dC, dI) vwCl (cF cI cd zn zi zs (zz &&& (((1 : Int32) <<< (nI j &&& 31)) ^^^ (-1))) (zo &&& (((1 : Int32) <<< (nI j &&& 31)) ^^^ (-1))) zk asz aty ast aga aon aot afa) H := hP
      have hD : va_D A (cF cI cd zn zi zs (zz &&& (((1 : Int32) <<< (nI j &&& 31)) ^^^ (-1))) (zo &&& (((1 : Int32) <<< (nI j &&& 31)) ^^^ (-1))) zk asz aty ast aga aon aot afa) := hD
      exact ret () _ _ _ _ _ _ _ (trivial) (by show cF cI cd zn zi zs (pvZ zz _ _) (pvO zo _ _) zk asz aty ast aga aon aot afa = _; unfold pvZ pvO; rw [if_pos (show nI v = 1 from congrArg nI c_1), if_pos (show nI v = 0 from congrArg nI c_3)]) hP hD hS (Nat.le_of_ble_eq_true rfl) (Nat.le_of_ble_eq_true rfl) dX0_putValue_55
abbrev rm_X0_appendUnknownNode : Room := { frames := 1, cells := 0, slots := 0, locals := 23 }
set_option maxHeartbeats 4000000 in
set_option maxRecDepth 100000 in
theorem c_X0_appendUnknownNode (l : Launch) (dC : Nat → ClassId) (dI : Nat → Nat → Nat) (cI cZ cR cG : ClassId) (cd : Nat → Nat) (N : Nat) (zi zs zz zo zk : Int32) (asz : Nat → Int32) (aty ast aga aon aot afa : Nat → Nat) : CI l (dC, dI) (tyL cI cZ cR cG) yX0_appendUnknownNode wsX0_appendUnknownNode rm_X0_appendUnknownNode [.ref (cd 0)] (cF cI cd (nI N) zi zs zz zo zk asz aty ast aga aon aot afa) (S := Unit) (fun _ => nI N) (fun _ => True) (fun _ => cF cI cd (nI (N + 1)) zi zs (pvZ zz ((1 : Int32) <<< (nI N &&& 31)) (nI 2)) (pvO zo ((1 : Int32) <<< (nI N &&& 31)) (nI 2)) zk asz aty ast aga aon aot afa) := by
  refine CI.of (cc := cX0_appendUnknownNode) (maxL := 2) (rt := .int) (lv := [(0, .ref (cd 0))]) (by decide) rfl (Nat.le_of_ble_eq_true rfl) rfl (Or.inl rfl) ?_
  intro p e s m ar below meth kc A Qz ls hx hb hml hown hts hnm hA hS hP hK hD hl ret
  refine lv_aload_n hx hb dX0_appendUnknownNode_0 rfl (lv_at hl 0 rfl) ?_
  refine va_get (D := (dC, dI)) (ci := 0) (v := .int (nI N)) (C := RX0) (T := TX0) (N := 13) hx hb hts (fun _ h9 => List.mem_cons_of_mem _ (List.mem_append_right _ h9)) hown hK hP 0 rfl rfl 0 (by decide) (hts (.fieldLink RX0 33 "SwitchLevelSimulator$Circuit" "nodeTotal" "I") (List.mem_of_getElem? (i := 1) rfl)) (fun _ h9 => h9) rfl dX0_appendUnknownNode_1 ?_
  refine lv_istore_n (lv' := [(1, .int (nI N)), (0, .ref (cd 0))]) hx hb dX0_appendUnknownNode_4 rfl hl (by decide) rfl (fun ls hl => ?_)
  refine lv_aload_n hx hb dX0_appendUnknownNode_5 rfl (lv_at hl 1 rfl) ?_
  refine lv_dup hx hb dX0_appendUnknownNode_6 rfl ?_
  refine va_get (D := (dC, dI)) (ci := 0) (v := .int (nI N)) (C := RX0) (T := TX0) (N := 13) hx hb hts (fun _ h9 => List.mem_cons_of_mem _ (List.mem_append_right _ h9)) hown hK hP 0 rfl rfl 0 (by decide) (hts (.fieldLink RX0 33 "SwitchLevelSimulator$Circuit" "nodeTotal" "I") (List.mem_of_getElem? (i := 1) rfl)) (fun _ h9 => h9) rfl dX0_appendUnknownNode_7 ?_
  refine lv_iconst (v := nI 1) hx hb dX0_appendUnknownNode_10 (by decide) ?_
  refine my_iadd (x := N) (y := 1) hx hb dX0_appendUnknownNode_11 ?_
  refine va_put (D := (dC, dI)) (ci := 0) (v := .int (nI (N + 1))) (ty := .int) (C := RX0) (T := TX0) (N := 13) hx hb hts (fun _ h9 => List.mem_cons_of_mem _ (List.mem_append_right _ h9)) tyX0 tyX0_ok nmX0 hown hK hP hD hS 0 rfl rfl 0 (by decide) (hts (.fieldLink RX0 33 "SwitchLevelSimulator$Circuit" "nodeTotal" "I") (List.mem_of_getElem? (i := 1) rfl)) (fun _ h9 => h9) rfl (by decide +kernel) rfl rfl (Nat.le_of_ble_eq_true rfl) dX0_appendUnknownNode_12 (fun H locs hP hD hS => ?_)
  have hP : va_P (dC, dI) vwCl (cF cI cd (nI (N + 1)) zi zs zz zo zk asz aty ast aga aon aot afa) H := hP
  have hD : va_D A (cF cI cd (nI (N + 1)) zi zs zz zo zk asz aty ast aga aon aot afa) := hD
  refine lv_aload_n hx hb dX0_appendUnknownNode_15 rfl (lv_at hl 1 rfl) ?_
  refine lv_iload_n hx hb dX0_appendUnknownNode_16 rfl (lv_at hl 0 rfl) ?_
  refine lv_iconst (v := nI 2) hx hb dX0_appendUnknownNode_17 (by decide) ?_
  refine CV.callV (As := [.int (nI N), .int (nI 2)]) (rest := []) (w3 := (fun _ => cF cI cd (nI (N + 1)) zi zs (pvZ zz ((1 : Int32) <<< (nI N &&& 31)) (nI 2)) (pvO zo ((1 : Int32) <<< (nI N &&& 31)) (nI 2)) zk asz aty ast aga aon aot afa)) (c_X0_putValue l dC dI cI cZ cR cG cd (nI (N + 1)) zi zs zz zo zk asz aty ast aga aon aot afa N 2 (by omega)) ⟨hx, hb, hml, hown, hts⟩ (cwV 2 hts gX0_appendUnknownNode_X0_putValue rfl rfl rfl (by decide +kernel) ⟨Nat.le_of_ble_eq_true rfl, Nat.le_of_ble_eq_true rfl⟩) rfl hl.1 (Nat.le_of_ble_eq_true rfl) dX0_appendUnknownNode_18 ⟨Nat.le_of_ble_eq_true rfl, Nat.le_of_ble_eq_true rfl⟩ hA hS hP hK hD [0, 1, 2, 3, 4, 5, 6, 7] [] rfl rfl (by decide) (by decide) (by decide) 0 0 rfl rfl [0, 1, 2, 3, 4, 5, 6, 7] (by decide) (fun _ => rfl) rfl (fun _ H locs hp_1 hP hD hS => ?_)
  refine lv_iload_n hx hb dX0_appendUnknownNode_21 rfl (lv_at hl 0 rfl) ?_
  exact ret () _ _ _ _ _ _ _ _ (rfl) (trivial) (rfl) hP hD hS (Nat.le_of_ble_eq_true rfl) (Nat.le_of_ble_eq_true rfl) dX0_appendUnknownNode_22
abbrev rm_X0_appendInput : Room := { frames := 2, cells := 0, slots := 0, locals := 44 }
set_option maxHeartbeats 4000000 in
set_option maxRecDepth 100000 in
theorem c_X0_appendInput (l : Launch) (dC : Nat → ClassId) (dI : Nat → Nat → Nat) (cI cZ cR cG : ClassId) (cd : Nat → Nat) (c : Nat → Nat) (h24 : c 0 < 24) : CI l (dC, dI) (tyL cI cZ cR cG) yX0_appendInput wsX0_appendInput rm_X0_appendInput [.ref (cd 0)] (cF cI cd (nI (c 0)) (msk (inp c)) (msk (sto c)) (msk (m0 c)) (msk (m1 c)) (nI (c 1)) (szA c) (pA c 50) (pA c 90) (pA c 130) (pA c 170) (pA c 210) (pA c 250)) (S := Unit) (fun _ => nI (c 0)) (fun _ => True) (fun _ => cW cI cd (addN c 0)) := by
  refine CI.of (cc := cX0_appendInput) (maxL := 1) (rt := .int) (lv := [(0, .ref (cd 0))]) (by decide) rfl (Nat.le_of_ble_eq_true rfl) rfl (Or.inl rfl) ?_
  intro p e s m ar below meth kc A Qz ls hx hb hml hown hts hnm hA hS hP hK hD hl ret
  refine lv_aload_n hx hb dX0_appendInput_0 rfl (lv_at hl 0 rfl) ?_
  refine lv_dup hx hb dX0_appendInput_1 rfl ?_
  refine va_get (D := (dC, dI)) (ci := 0) (v := .int (msk (inp c))) (C := RX0) (T := TX0) (N := 13) hx hb hts (fun _ h9 => List.mem_cons_of_mem _ (List.mem_append_right _ h9)) hown hK hP 0 rfl rfl 1 (by decide) (hts (.fieldLink RX0 40 "SwitchLevelSimulator$Circuit" "inputNodes" "I") (List.mem_of_getElem? (i := 1) rfl)) (fun _ h9 => h9) rfl dX0_appendInput_2 ?_
  refine lv_iconst (v := nI 1) hx hb dX0_appendInput_5 (by decide) ?_
  refine lv_aload_n hx hb dX0_appendInput_6 rfl (lv_at hl 0 rfl) ?_
  refine va_get (D := (dC, dI)) (ci := 0) (v := .int (nI (c 0))) (C := RX0) (T := TX0) (N := 13) hx hb hts (fun _ h9 => List.mem_cons_of_mem _ (List.mem_append_right _ h9)) hown hK hP 0 rfl rfl 0 (by decide) (hts (.fieldLink RX0 33 "SwitchLevelSimulator$Circuit" "nodeTotal" "I") (List.mem_of_getElem? (i := 2) rfl)) (fun _ h9 => h9) rfl dX0_appendInput_7 ?_
  refine lv_ishl hx hb dX0_appendInput_10 ?_
  refine lv_ior hx hb dX0_appendInput_11 ?_
  refine va_put (D := (dC, dI)) (ci := 0) (v := .int ((msk (inp c)) ||| ((1 : Int32) <<< (nI (c 0) &&& 31)))) (ty := .int) (C := RX0) (T := TX0) (N := 13) hx hb hts (fun _ h9 => List.mem_cons_of_mem _ (List.mem_append_right _ h9)) tyX0 tyX0_ok nmX0 hown hK hP hD hS 0 rfl rfl 1 (by decide) (hts (.fieldLink RX0 40 "SwitchLevelSimulator$Circuit" "inputNodes" "I") (List.mem_of_getElem? (i := 1) rfl)) (fun _ h9 => h9) rfl (by decide +kernel) rfl rfl (Nat.le_of_ble_eq_true rfl) dX0_appendInput_12 (fun H locs hP hD hS => ?_)
  have hP : va_P (dC, dI) vwCl (cF cI cd (nI (c 0)) ((msk (inp c)) ||| ((1 : Int32) <<< (nI (c 0) &&& 31))) (msk (sto c)) (msk (m0 c)) (msk (m1 c)) (nI (c 1)) (szA c) (pA c 50) (pA c 90) (pA c 130) (pA c 170) (pA c 210) (pA c 250)) H := hP
  have hD : va_D A (cF cI cd (nI (c 0)) ((msk (inp c)) ||| ((1 : Int32) <<< (nI (c 0) &&& 31))) (msk (sto c)) (msk (m0 c)) (msk (m1 c)) (nI (c 1)) (szA c) (pA c 50) (pA c 90) (pA c 130) (pA c 170) (pA c 210) (pA c 250)) := hD
  refine lv_aload_n hx hb dX0_appendInput_15 rfl (lv_at hl 0 rfl) ?_
  refine CI.callV (As := []) (rest := []) (w3 := (fun _ => cF cI cd (nI (c 0 + 1)) ((msk (inp c)) ||| ((1 : Int32) <<< (nI (c 0) &&& 31))) (msk (sto c)) (pvZ (msk (m0 c)) ((1 : Int32) <<< (nI (c 0) &&& 31)) (nI 2)) (pvO (msk (m1 c)) ((1 : Int32) <<< (nI (c 0) &&& 31)) (nI 2)) (nI (c 1)) (szA c) (pA c 50) (pA c 90) (pA c 130) (pA c 170) (pA c 210) (pA c 250))) (c_X0_appendUnknownNode l dC dI cI cZ cR cG cd (c 0) ((msk (inp c)) ||| ((1 : Int32) <<< (nI (c 0) &&& 31))) (msk (sto c)) (msk (m0 c)) (msk (m1 c)) (nI (c 1)) (szA c) (pA c 50) (pA c 90) (pA c 130) (pA c 170) (pA c 210) (pA c 250)) ⟨hx, hb, hml, hown, hts⟩ (cwV 0 hts gX0_appendInput_X0_appendUnknownNode rfl rfl rfl (by decide +kernel) ⟨Nat.le_of_ble_eq_true rfl, Nat.le_of_ble_eq_true rfl⟩) rfl hl.1 (Nat.le_of_ble_eq_true rfl) dX0_appendInput_16 ⟨Nat.le_of_ble_eq_true rfl, Nat.le_of_ble_eq_true rfl⟩ hA hS hP hK hD [0, 1, 2, 3, 4, 5, 6, 7] [] rfl rfl (by decide) (by decide) (by decide) 0 0 rfl rfl [0, 1, 2, 3, 4, 5, 6, 7] (by decide) (fun _ => rfl) rfl (fun _ H locs hp_1 hP hD hS => ?_)
  exact ret () _ _ _ _ _ _ _ _ (rfl) (trivial) (by show cW cI cd (addN c 0) = _; rw [cW_add h24, if_pos rfl, if_pos rfl, szL_1]) hP hD hS (Nat.le_of_ble_eq_true rfl) (Nat.le_of_ble_eq_true rfl) dX0_appendInput_19
abbrev rm_X0_appendStorage : Room := { frames := 2, cells := 0, slots := 0, locals := 44 }
set_option maxHeartbeats 4000000 in
set_option maxRecDepth 100000 in
theorem c_X0_appendStorage (l : Launch) (dC : Nat → ClassId) (dI : Nat → Nat → Nat) (cI cZ cR cG : ClassId) (cd : Nat → Nat) (c : Nat → Nat) (v : Nat) (h24 : c 0 < 24) (hv : 1 ≤ v ∧ v ≤ 3) : CI l (dC, dI) (tyL cI cZ cR cG) yX0_appendStorage wsX0_appendStorage rm_X0_appendStorage [.ref (cd 0), .int (nI v)] (cF cI cd (nI (c 0)) (msk (inp c)) (msk (sto c)) (msk (m0 c)) (msk (m1 c)) (nI (c 1)) (szA c) (pA c 50) (pA c 90) (pA c 130) (pA c 170) (pA c 210) (pA c 250)) (S := Unit) (fun _ => nI (c 0)) (fun _ => True) (fun _ => cW cI cd (addN c v)) := by
  refine CI.of (cc := cX0_appendStorage) (maxL := 3) (rt := .int) (lv := [(0, .ref (cd 0)), (1, .int (nI v))]) (by decide) rfl (Nat.le_of_ble_eq_true rfl) rfl (Or.inl rfl) ?_
  intro p e s m ar below meth kc A Qz ls hx hb hml hown hts hnm hA hS hP hK hD hl ret
  refine lv_aload_n hx hb dX0_appendStorage_0 rfl (lv_at hl 0 rfl) ?_
  refine lv_dup hx hb dX0_appendStorage_1 rfl ?_
  refine va_get (D := (dC, dI)) (ci := 0) (v := .int (msk (sto c))) (C := RX0) (T := TX0) (N := 13) hx hb hts (fun _ h9 => List.mem_cons_of_mem _ (List.mem_append_right _ h9)) hown hK hP 0 rfl rfl 2 (by decide) (hts (.fieldLink RX0 47 "SwitchLevelSimulator$Circuit" "storageNodes" "I") (List.mem_of_getElem? (i := 1) rfl)) (fun _ h9 => h9) rfl dX0_appendStorage_2 ?_
  refine lv_iconst (v := nI 1) hx hb dX0_appendStorage_5 (by decide) ?_
  refine lv_aload_n hx hb dX0_appendStorage_6 rfl (lv_at hl 0 rfl) ?_
  refine va_get (D := (dC, dI)) (ci := 0) (v := .int (nI (c 0))) (C := RX0) (T := TX0) (N := 13) hx hb hts (fun _ h9 => List.mem_cons_of_mem _ (List.mem_append_right _ h9)) hown hK hP 0 rfl rfl 0 (by decide) (hts (.fieldLink RX0 33 "SwitchLevelSimulator$Circuit" "nodeTotal" "I") (List.mem_of_getElem? (i := 2) rfl)) (fun _ h9 => h9) rfl dX0_appendStorage_7 ?_
  refine lv_ishl hx hb dX0_appendStorage_10 ?_
  refine lv_ior hx hb dX0_appendStorage_11 ?_
  refine va_put (D := (dC, dI)) (ci := 0) (v := .int ((msk (sto c)) ||| ((1 : Int32) <<< (nI (c 0) &&& 31)))) (ty := .int) (C := RX0) (T := TX0) (N := 13) hx hb hts (fun _ h9 => List.mem_cons_of_mem _ (List.mem_append_right _ h9)) tyX0 tyX0_ok nmX0 hown hK hP hD hS 0 rfl rfl 2 (by decide) (hts (.fieldLink RX0 47 "SwitchLevelSimulator$Circuit" "storageNodes" "I") (List.mem_of_getElem? (i := 1) rfl)) (fun _ h9 => h9) rfl (by decide +kernel) rfl rfl (Nat.le_of_ble_eq_true rfl) dX0_appendStorage_12 (fun H locs hP hD hS => ?_)
  have hP : va_P (dC, dI) vwCl (cF cI cd (nI (c 0)) (msk (inp c)) ((msk (sto c)) ||| ((1 : Int32) <<< (nI (c 0) &&& 31))) (msk (m0 c)) (msk (m1 c)) (nI (c 1)) (szA c) (pA c 50) (pA c 90) (pA c 130) (pA c 170) (pA c 210) (pA c 250)) H := hP
  have hD : va_D A (cF cI cd (nI (c 0)) (msk (inp c)) ((msk (sto c)) ||| ((1 : Int32) <<< (nI (c 0) &&& 31))) (msk (m0 c)) (msk (m1 c)) (nI (c 1)) (szA c) (pA c 50) (pA c 90) (pA c 130) (pA c 170) (pA c 210) (pA c 250)) := hD
  refine lv_iconst (v := nI 1) hx hb dX0_appendStorage_15 (by decide) ?_
  refine lv_istore_n (lv' := [(2, .int (nI 1)), (0, .ref (cd 0)), (1, .int (nI v))]) hx hb dX0_appendStorage_16 rfl hl (by decide) rfl (fun ls hl => ?_)
  rw [← szL_1 c] at hP hD
  have key_17 : ∀ (fu : Nat) (lv : Nat), (v + 1 - lv) < fu → (1 ≤ lv ∧ lv ≤ v + 1) → ∀ (H : Heap) (locs : List Loc) (ls : Array Slot), va_P (dC, dI) vwCl (cF cI cd (nI (c 0)) (msk (inp c)) ((msk (sto c)) ||| ((1 : Int32) <<< (nI (c 0) &&& 31))) (msk (m0 c)) (msk (m1 c)) (nI (c 1)) (szL c lv) (pA c 50) (pA c 90) (pA c 130) (pA c 170) (pA c 210) (pA c 250)) H → va_D A (cF cI cd (nI (c 0)) (msk (inp c)) ((msk (sto c)) ||| ((1 : Int32) <<< (nI (c 0) &&& 31))) (msk (m0 c)) (msk (m1 c)) (nI (c 1)) (szL c lv) (pA c 50) (pA c 90) (pA c 130) (pA c 170) (pA c 210) (pA c 250)) → va_S A s.heap H locs → lv_has ls 3 [(2, .int (nI lv)), (0, .ref (cd 0)), (1, .int (nI v))] → W p l e rm_X0_appendStorage s m ar below meth kc H locs 0 0 Qz (F0 m 17 ls []) := by
    intro fu
    induction fu with
    | zero => intro lv hmu; exact absurd hmu (Nat.not_lt_zero _)
    | succ fu ih_17 =>
      intro lv hmu_17 hlv H locs ls hP hD hS hl
      refine lv_iload_n hx hb dX0_appendStorage_17 rfl (lv_at hl 0 rfl) ?_
      refine lv_iload_n hx hb dX0_appendStorage_18 rfl (lv_at hl 2 rfl) ?_
      refine my_icmp_gt (x := lv) (y := v) (tgt := 43) hx hb (by omega) (by omega) dX0_appendStorage_19 (by decide) (fun c_2 => ?_) (fun c_2 => ?_)
      · refine lv_aload_n hx hb dX0_appendStorage_43 rfl (lv_at hl 1 rfl) ?_
        refine CI.callV (As := []) (rest := []) (w3 := (fun _ => cF cI cd (nI (c 0 + 1)) (msk (inp c)) ((msk (sto c)) ||| ((1 : Int32) <<< (nI (c 0) &&& 31))) (pvZ (msk (m0 c)) ((1 : Int32) <<< (nI (c 0) &&& 31)) (nI 2)) (pvO (msk (m1 c)) ((1 : Int32) <<< (nI (c 0) &&& 31)) (nI 2)) (nI (c 1)) (szL c lv) (pA c 50) (pA c 90) (pA c 130) (pA c 170) (pA c 210) (pA c 250))) (c_X0_appendUnknownNode l dC dI cI cZ cR cG cd (c 0) (msk (inp c)) ((msk (sto c)) ||| ((1 : Int32) <<< (nI (c 0) &&& 31))) (msk (m0 c)) (msk (m1 c)) (nI (c 1)) (szL c lv) (pA c 50) (pA c 90) (pA c 130) (pA c 170) (pA c 210) (pA c 250)) ⟨hx, hb, hml, hown, hts⟩ (cwV 0 hts gX0_appendStorage_X0_appendUnknownNode rfl rfl rfl (by decide +kernel) ⟨Nat.le_of_ble_eq_true rfl, Nat.le_of_ble_eq_true rfl⟩) rfl hl.1 (Nat.le_of_ble_eq_true rfl) dX0_appendStorage_44 ⟨Nat.le_of_ble_eq_true rfl, Nat.le_of_ble_eq_true rfl⟩ hA hS hP hK hD [0, 1, 2, 3, 4, 5, 6, 7] [] rfl rfl (by decide) (by decide) (by decide) 0 0 rfl rfl [0, 1, 2, 3, 4, 5, 6, 7] (by decide) (fun _ => rfl) rfl (fun _ H locs hp_3 hP hD hS => ?_)
        exact ret () _ _ _ _ _ _ _ _ (rfl) (trivial) (by show cW cI cd (addN c v) = _; rw [cW_add h24, if_neg (by omega), if_neg (by omega), show lv = v + 1 by omega]) hP hD hS (Nat.le_of_ble_eq_true rfl) (Nat.le_of_ble_eq_true rfl) dX0_appendStorage_47
      · refine lv_aload_n hx hb dX0_appendStorage_22 rfl (lv_at hl 1 rfl) ?_
        refine va_get (D := (dC, dI)) (ci := 0) (v := .ref (cd 1)) (C := RX0) (T := TX0) (N := 13) hx hb hts (fun _ h9 => List.mem_cons_of_mem _ (List.mem_append_right _ h9)) hown hK hP 0 rfl rfl 3 (by decide) (hts (.fieldLink RX0 9 "SwitchLevelSimulator$Circuit" "sizedAtLeast" "[I") (List.mem_of_getElem? (i := 3) rfl)) (fun _ h9 => h9) rfl dX0_appendStorage_23 ?_
        refine lv_iload_n hx hb dX0_appendStorage_26 rfl (lv_at hl 0 rfl) ?_
        refine lv_dup2_11 hx hb dX0_appendStorage_27 rfl rfl ?_
        refine my_iald (i := lv) hx hb hK hP 1 0 rfl rfl (by omega) (by decide) dX0_appendStorage_28 ?_
        refine lv_iconst (v := nI 1) hx hb dX0_appendStorage_29 (by decide) ?_
        refine lv_aload_n hx hb dX0_appendStorage_30 rfl (lv_at hl 1 rfl) ?_
        refine va_get (D := (dC, dI)) (ci := 0) (v := .int (nI (c 0))) (C := RX0) (T := TX0) (N := 13) hx hb hts (fun _ h9 => List.mem_cons_of_mem _ (List.mem_append_right _ h9)) hown hK hP 0 rfl rfl 0 (by decide) (hts (.fieldLink RX0 33 "SwitchLevelSimulator$Circuit" "nodeTotal" "I") (List.mem_of_getElem? (i := 2) rfl)) (fun _ h9 => h9) rfl dX0_appendStorage_31 ?_
        refine lv_ishl hx hb dX0_appendStorage_34 ?_
        refine lv_ior hx hb dX0_appendStorage_35 ?_
        refine my_iast (i := lv) (x := (((szL c lv) lv) ||| ((1 : Int32) <<< (nI (c 0) &&& 31)))) (f := (szL c lv)) (ws' := cF cI cd (nI (c 0)) (msk (inp c)) ((msk (sto c)) ||| ((1 : Int32) <<< (nI (c 0) &&& 31))) (msk (m0 c)) (msk (m1 c)) (nI (c 1)) (upd (szL c lv) lv (((szL c lv) lv) ||| ((1 : Int32) <<< (nI (c 0) &&& 31)))) (pA c 50) (pA c 90) (pA c 130) (pA c 170) (pA c 210) (pA c 250)) hx hb hK hP hD hS 1 0 rfl rfl (by omega) (by decide) dX0_appendStorage_36 rfl (fun H locs hP hD hS => ?_)
        refine my_iinc (k := 0) (x := lv) (d := 1) (lv' := [(2, .int (nI (lv + 1))), (0, .ref (cd 0)), (1, .int (nI v))]) hx hb dX0_appendStorage_37 hl rfl (by decide) (by decide) rfl (fun ls hl => ?_)
        refine lv_goto (tgt := 17) hx hb dX0_appendStorage_40 (by decide) ?_
        rw [szL_s c (show 1 ≤ lv by omega)] at hP hD
        exact ih_17 (lv + 1) (by omega) (by omega) _ _ _ hP hD hS (lv_sub hl [0, 1, 2] rfl)
  exact key_17 _ 1 (Nat.lt_succ_self _) (by omega) _ _ _ hP hD hS (lv_sub hl [0, 1, 2] rfl)
abbrev rm_X0_appendTransistor : Room := { frames := 0, cells := 0, slots := 0, locals := 0 }
set_option maxHeartbeats 4000000 in
set_option maxRecDepth 100000 in
theorem c_X0_appendTransistor (l : Launch) (dC : Nat → ClassId) (dI : Nat → Nat → Nat) (cI cZ cR cG : ClassId) (cd : Nat → Nat) (c : Nat → Nat) (jy js jg jo jt : Nat) (h24 : c 0 ≤ 24) (h40 : c 1 < 40) : CI l (dC, dI) (tyL cI cZ cR cG) yX0_appendTransistor wsX0_appendTransistor rm_X0_appendTransistor [.ref (cd 0), .int (nI jy), .int (nI js), .int (nI jg), .int (nI jo), .int (nI jt)] (cF cI cd (nI (c 0)) (msk (inp c)) (msk (sto c)) (msk (m0 c)) (msk (m1 c)) (nI (c 1)) (szA c) (pA c 50) (pA c 90) (pA c 130) (pA c 170) (pA c 210) (pA c 250)) (S := Unit) (fun _ => nI (c 1)) (fun _ => True) (fun _ => cW cI cd (addT c jy js jg jo jt)) := by
  refine CI.of (cc := cX0_appendTransistor) (maxL := 7) (rt := .int) (lv := [(0, .ref (cd 0)), (1, .int (nI jy)), (2, .int (nI js)), (3, .int (nI jg)), (4, .int (nI jo)), (5, .int (nI jt))]) (by decide) rfl (Nat.le_of_ble_eq_true rfl) rfl (Or.inl rfl) ?_
  intro p e s m ar below meth kc A Qz ls hx hb hml hown hts hnm hA hS hP hK hD hl ret
  refine lv_aload_n hx hb dX0_appendTransistor_0 rfl (lv_at hl 0 rfl) ?_
  refine va_get (D := (dC, dI)) (ci := 0) (v := .int (nI (c 1))) (C := RX0) (T := TX0) (N := 13) hx hb hts (fun _ h9 => List.mem_cons_of_mem _ (List.mem_append_right _ h9)) hown hK hP 0 rfl rfl 6 (by decide) (hts (.fieldLink RX0 37 "SwitchLevelSimulator$Circuit" "transistorTotal" "I") (List.mem_of_getElem? (i := 1) rfl)) (fun _ h9 => h9) rfl dX0_appendTransistor_1 ?_
  refine lv_istore (lv' := [(6, .int (nI (c 1))), (0, .ref (cd 0)), (1, .int (nI jy)), (2, .int (nI js)), (3, .int (nI jg)), (4, .int (nI jo)), (5, .int (nI jt))]) hx hb dX0_appendTransistor_4 hl (by decide) rfl (fun ls hl => ?_)
  refine lv_aload_n hx hb dX0_appendTransistor_6 rfl (lv_at hl 1 rfl) ?_
  refine lv_dup hx hb dX0_appendTransistor_7 rfl ?_
  refine va_get (D := (dC, dI)) (ci := 0) (v := .int (nI (c 1))) (C := RX0) (T := TX0) (N := 13) hx hb hts (fun _ h9 => List.mem_cons_of_mem _ (List.mem_append_right _ h9)) hown hK hP 0 rfl rfl 6 (by decide) (hts (.fieldLink RX0 37 "SwitchLevelSimulator$Circuit" "transistorTotal" "I") (List.mem_of_getElem? (i := 1) rfl)) (fun _ h9 => h9) rfl dX0_appendTransistor_8 ?_
  refine lv_iconst (v := nI 1) hx hb dX0_appendTransistor_11 (by decide) ?_
  refine my_iadd (x := (c 1)) (y := 1) hx hb dX0_appendTransistor_12 ?_
  refine va_put (D := (dC, dI)) (ci := 0) (v := .int (nI (c 1 + 1))) (ty := .int) (C := RX0) (T := TX0) (N := 13) hx hb hts (fun _ h9 => List.mem_cons_of_mem _ (List.mem_append_right _ h9)) tyX0 tyX0_ok nmX0 hown hK hP hD hS 0 rfl rfl 6 (by decide) (hts (.fieldLink RX0 37 "SwitchLevelSimulator$Circuit" "transistorTotal" "I") (List.mem_of_getElem? (i := 1) rfl)) (fun _ h9 => h9) rfl (by decide +kernel) rfl rfl (Nat.le_of_ble_eq_true rfl) dX0_appendTransistor_13 (fun H locs hP hD hS => ?_)
  have hP : va_P (dC, dI) vwCl (cF cI cd (nI (c 0)) (msk (inp c)) (msk (sto c)) (msk (m0 c)) (msk (m1 c)) (nI (c 1 + 1)) (szA c) (pA c 50) (pA c 90) (pA c 130) (pA c 170) (pA c 210) (pA c 250)) H := hP
  have hD : va_D A (cF cI cd (nI (c 0)) (msk (inp c)) (msk (sto c)) (msk (m0 c)) (msk (m1 c)) (nI (c 1 + 1)) (szA c) (pA c 50) (pA c 90) (pA c 130) (pA c 170) (pA c 210) (pA c 250)) := hD
  refine lv_aload_n hx hb dX0_appendTransistor_16 rfl (lv_at hl 1 rfl) ?_
  refine va_get (D := (dC, dI)) (ci := 0) (v := .ref (cd 2)) (C := RX0) (T := TX0) (N := 13) hx hb hts (fun _ h9 => List.mem_cons_of_mem _ (List.mem_append_right _ h9)) hown hK hP 0 rfl rfl 7 (by decide) (hts (.fieldLink RX0 15 "SwitchLevelSimulator$Circuit" "types" "[I") (List.mem_of_getElem? (i := 2) rfl)) (fun _ h9 => h9) rfl dX0_appendTransistor_17 ?_
  refine lv_iload hx hb dX0_appendTransistor_20 (lv_at hl 0 rfl) ?_
  refine lv_iload_n hx hb dX0_appendTransistor_22 rfl (lv_at hl 2 rfl) ?_
  refine my_iastN (i := (c 1)) (x := jy) (g := (pA c 50)) (ws' := cF cI cd (nI (c 0)) (msk (inp c)) (msk (sto c)) (msk (m0 c)) (msk (m1 c)) (nI (c 1 + 1)) (szA c) (up1 (pA c 50) (c 1) jy) (pA c 90) (pA c 130) (pA c 170) (pA c 210) (pA c 250)) hx hb hK hP hD hS 2 0 rfl rfl (by omega) (by decide) dX0_appendTransistor_23 rfl (fun H locs hP hD hS => ?_)
  refine lv_aload_n hx hb dX0_appendTransistor_24 rfl (lv_at hl 1 rfl) ?_
  refine va_get (D := (dC, dI)) (ci := 0) (v := .ref (cd 3)) (C := RX0) (T := TX0) (N := 13) hx hb hts (fun _ h9 => List.mem_cons_of_mem _ (List.mem_append_right _ h9)) hown hK hP 0 rfl rfl 8 (by decide) (hts (.fieldLink RX0 18 "SwitchLevelSimulator$Circuit" "strengths" "[I") (List.mem_of_getElem? (i := 3) rfl)) (fun _ h9 => h9) rfl dX0_appendTransistor_25 ?_
  refine lv_iload hx hb dX0_appendTransistor_28 (lv_at hl 0 rfl) ?_
  refine lv_iload_n hx hb dX0_appendTransistor_30 rfl (lv_at hl 3 rfl) ?_
  refine my_iastN (i := (c 1)) (x := js) (g := (pA c 90)) (ws' := cF cI cd (nI (c 0)) (msk (inp c)) (msk (sto c)) (msk (m0 c)) (msk (m1 c)) (nI (c 1 + 1)) (szA c) (up1 (pA c 50) (c 1) jy) (up1 (pA c 90) (c 1) js) (pA c 130) (pA c 170) (pA c 210) (pA c 250)) hx hb hK hP hD hS 3 0 rfl rfl (by omega) (by decide) dX0_appendTransistor_31 rfl (fun H locs hP hD hS => ?_)
  refine lv_aload_n hx hb dX0_appendTransistor_32 rfl (lv_at hl 1 rfl) ?_
  refine va_get (D := (dC, dI)) (ci := 0) (v := .ref (cd 4)) (C := RX0) (T := TX0) (N := 13) hx hb hts (fun _ h9 => List.mem_cons_of_mem _ (List.mem_append_right _ h9)) hown hK hP 0 rfl rfl 9 (by decide) (hts (.fieldLink RX0 21 "SwitchLevelSimulator$Circuit" "gates" "[I") (List.mem_of_getElem? (i := 4) rfl)) (fun _ h9 => h9) rfl dX0_appendTransistor_33 ?_
  refine lv_iload hx hb dX0_appendTransistor_36 (lv_at hl 0 rfl) ?_
  refine lv_iload_n hx hb dX0_appendTransistor_38 rfl (lv_at hl 4 rfl) ?_
  refine my_iastN (i := (c 1)) (x := jg) (g := (pA c 130)) (ws' := cF cI cd (nI (c 0)) (msk (inp c)) (msk (sto c)) (msk (m0 c)) (msk (m1 c)) (nI (c 1 + 1)) (szA c) (up1 (pA c 50) (c 1) jy) (up1 (pA c 90) (c 1) js) (up1 (pA c 130) (c 1) jg) (pA c 170) (pA c 210) (pA c 250)) hx hb hK hP hD hS 4 0 rfl rfl (by omega) (by decide) dX0_appendTransistor_39 rfl (fun H locs hP hD hS => ?_)
  refine lv_aload_n hx hb dX0_appendTransistor_40 rfl (lv_at hl 1 rfl) ?_
  refine va_get (D := (dC, dI)) (ci := 0) (v := .ref (cd 5)) (C := RX0) (T := TX0) (N := 13) hx hb hts (fun _ h9 => List.mem_cons_of_mem _ (List.mem_append_right _ h9)) hown hK hP 0 rfl rfl 10 (by decide) (hts (.fieldLink RX0 24 "SwitchLevelSimulator$Circuit" "ones" "[I") (List.mem_of_getElem? (i := 5) rfl)) (fun _ h9 => h9) rfl dX0_appendTransistor_41 ?_
  refine lv_iload hx hb dX0_appendTransistor_44 (lv_at hl 0 rfl) ?_
  refine lv_iload hx hb dX0_appendTransistor_46 (lv_at hl 5 rfl) ?_
  refine my_iastN (i := (c 1)) (x := jo) (g := (pA c 170)) (ws' := cF cI cd (nI (c 0)) (msk (inp c)) (msk (sto c)) (msk (m0 c)) (msk (m1 c)) (nI (c 1 + 1)) (szA c) (up1 (pA c 50) (c 1) jy) (up1 (pA c 90) (c 1) js) (up1 (pA c 130) (c 1) jg) (up1 (pA c 170) (c 1) jo) (pA c 210) (pA c 250)) hx hb hK hP hD hS 5 0 rfl rfl (by omega) (by decide) dX0_appendTransistor_48 rfl (fun H locs hP hD hS => ?_)
  refine lv_aload_n hx hb dX0_appendTransistor_49 rfl (lv_at hl 1 rfl) ?_
  refine va_get (D := (dC, dI)) (ci := 0) (v := .ref (cd 6)) (C := RX0) (T := TX0) (N := 13) hx hb hts (fun _ h9 => List.mem_cons_of_mem _ (List.mem_append_right _ h9)) hown hK hP 0 rfl rfl 11 (by decide) (hts (.fieldLink RX0 27 "SwitchLevelSimulator$Circuit" "others" "[I") (List.mem_of_getElem? (i := 6) rfl)) (fun _ h9 => h9) rfl dX0_appendTransistor_50 ?_
  refine lv_iload hx hb dX0_appendTransistor_53 (lv_at hl 0 rfl) ?_
  refine lv_iload hx hb dX0_appendTransistor_55 (lv_at hl 6 rfl) ?_
  refine my_iastN (i := (c 1)) (x := jt) (g := (pA c 210)) (ws' := cF cI cd (nI (c 0)) (msk (inp c)) (msk (sto c)) (msk (m0 c)) (msk (m1 c)) (nI (c 1 + 1)) (szA c) (up1 (pA c 50) (c 1) jy) (up1 (pA c 90) (c 1) js) (up1 (pA c 130) (c 1) jg) (up1 (pA c 170) (c 1) jo) (up1 (pA c 210) (c 1) jt) (pA c 250)) hx hb hK hP hD hS 6 0 rfl rfl (by omega) (by decide) dX0_appendTransistor_57 rfl (fun H locs hP hD hS => ?_)
  refine lv_aload_n hx hb dX0_appendTransistor_58 rfl (lv_at hl 1 rfl) ?_
  refine va_get (D := (dC, dI)) (ci := 0) (v := .ref (cd 7)) (C := RX0) (T := TX0) (N := 13) hx hb hts (fun _ h9 => List.mem_cons_of_mem _ (List.mem_append_right _ h9)) hown hK hP 0 rfl rfl 12 (by decide) (hts (.fieldLink RX0 30 "SwitchLevelSimulator$Circuit" "faults" "[I") (List.mem_of_getElem? (i := 7) rfl)) (fun _ h9 => h9) rfl dX0_appendTransistor_59 ?_
  refine lv_iload hx hb dX0_appendTransistor_62 (lv_at hl 0 rfl) ?_
  refine lv_iconst (v := nI 0) hx hb dX0_appendTransistor_64 (by decide) ?_
  refine my_iastN (i := (c 1)) (x := 0) (g := (pA c 250)) (ws' := cF cI cd (nI (c 0)) (msk (inp c)) (msk (sto c)) (msk (m0 c)) (msk (m1 c)) (nI (c 1 + 1)) (szA c) (up1 (pA c 50) (c 1) jy) (up1 (pA c 90) (c 1) js) (up1 (pA c 130) (c 1) jg) (up1 (pA c 170) (c 1) jo) (up1 (pA c 210) (c 1) jt) (up1 (pA c 250) (c 1) 0)) hx hb hK hP hD hS 7 0 rfl rfl (by omega) (by decide) dX0_appendTransistor_65 rfl (fun H locs hP hD hS => ?_)
  refine lv_iload hx hb dX0_appendTransistor_66 (lv_at hl 0 rfl) ?_
  exact ret () _ _ _ _ _ _ _ _ (rfl) (trivial) (by show cW cI cd (addT c jy js jg jo jt) = _; rw [cW_addT h24 h40]) hP hD hS (Nat.le_of_ble_eq_true rfl) (Nat.le_of_ble_eq_true rfl) dX0_appendTransistor_68
abbrev rm_X0_valueOf : Room := { frames := 0, cells := 0, slots := 0, locals := 0 }
set_option maxHeartbeats 4000000 in
set_option maxRecDepth 100000 in
theorem c_X0_valueOf (l : Launch) (dC : Nat → ClassId) (dI : Nat → Nat → Nat) (cI cZ cR cG : ClassId) (cd : Nat → Nat) (c : Nat → Nat) (j : Nat) (ok : okG c) (hj : j < c 0) : CI l (dC, dI) (tyL cI cZ cR cG) yX0_valueOf wsX0_valueOf rm_X0_valueOf [.ref (cd 0), .int (nI j)] (cF cI cd (nI (c 0)) (msk (inp c)) (msk (sto c)) (msk (m0 c)) (msk (m1 c)) (nI (c 1)) (szA c) (pA c 50) (pA c 90) (pA c 130) (pA c 170) (pA c 210) (pA c 250)) (S := Unit) (fun _ => nI (c (26 + j))) (fun _ => True) (fun _ => cW cI cd c) := by
  refine CI.of (cc := cX0_valueOf) (maxL := 4) (rt := .int) (lv := [(0, .ref (cd 0)), (1, .int (nI j))]) (by decide) rfl (Nat.le_of_ble_eq_true rfl) rfl (Or.inl rfl) ?_
  intro p e s m ar below meth kc A Qz ls hx hb hml hown hts hnm hA hS hP hK hD hl ret
  have h0 := ok.1
  have h1 := ok.2.1
  have hv2 := (ok.2.2.1 j hj).2
  refine lv_aload_n hx hb dX0_valueOf_0 rfl (lv_at hl 0 rfl) ?_
  refine va_get (D := (dC, dI)) (ci := 0) (v := .int (msk (m0 c))) (C := RX0) (T := TX0) (N := 13) hx hb hts (fun _ h9 => List.mem_cons_of_mem _ (List.mem_append_right _ h9)) hown hK hP 0 rfl rfl 4 (by decide) (hts (.fieldLink RX0 54 "SwitchLevelSimulator$Circuit" "mayBeZero" "I") (List.mem_of_getElem? (i := 1) rfl)) (fun _ h9 => h9) rfl dX0_valueOf_1 ?_
  refine lv_iconst (v := nI 1) hx hb dX0_valueOf_4 (by decide) ?_
  refine lv_iload_n hx hb dX0_valueOf_5 rfl (lv_at hl 1 rfl) ?_
  refine lv_ishl hx hb dX0_valueOf_6 ?_
  refine lv_iand hx hb dX0_valueOf_7 ?_
  refine lv_if_eq (x := ((msk (m0 c)) &&& ((1 : Int32) <<< (nI j &&& 31)))) (tgt := 15) hx hb dX0_valueOf_8 (by decide) (fun c_1 => ?_) (fun c_1 => ?_)
  · refine lv_iconst (v := nI 0) hx hb dX0_valueOf_15 (by decide) ?_
    refine lv_istore_n (lv' := [(2, .int (nI 0)), (0, .ref (cd 0)), (1, .int (nI j))]) hx hb dX0_valueOf_16 rfl hl (by decide) rfl (fun ls hl => ?_)
    refine lv_aload_n hx hb dX0_valueOf_17 rfl (lv_at hl 1 rfl) ?_
    refine va_get (D := (dC, dI)) (ci := 0) (v := .int (msk (m1 c))) (C := RX0) (T := TX0) (N := 13) hx hb hts (fun _ h9 => List.mem_cons_of_mem _ (List.mem_append_right _ h9)) hown hK hP 0 rfl rfl 5 (by decide) (hts (.fieldLink RX0 57 "SwitchLevelSimulator$Circuit" "mayBeOne" "I") (List.mem_of_getElem? (i := 2) rfl)) (fun _ h9 => h9) rfl dX0_valueOf_18 ?_
    refine lv_iconst (v := nI 1) hx hb dX0_valueOf_21 (by decide) ?_
    refine lv_iload_n hx hb dX0_valueOf_22 rfl (lv_at hl 2 rfl) ?_
    refine lv_ishl hx hb dX0_valueOf_23 ?_
    refine lv_iand hx hb dX0_valueOf_24 ?_
    refine lv_if_eq (x := ((msk (m1 c)) &&& ((1 : Int32) <<< (nI j &&& 31)))) (tgt := 32) hx hb dX0_valueOf_25 (by decide) (fun c_2 => ?_) (fun c_2 => ?_)
    · refine lv_iconst (v := nI 0) hx hb dX0_valueOf_32 (by decide) ?_
      refine lv_istore_n (lv' := [(3, .int (nI 0)), (2, .int (nI 0)), (0, .ref (cd 0)), (1, .int (nI j))]) hx hb dX0_valueOf_33 rfl hl (by decide) rfl (fun ls hl => ?_)
      refine lv_iload_n hx hb dX0_valueOf_34 rfl (lv_at hl 1 rfl) ?_
      refine my_if_eqN (x := 0) (tgt := 44) hx hb (by omega) dX0_valueOf_35 (by decide) (fun _ => ?_) (fun c_3 => absurd c_3 (by decide))
      refine lv_iload_n hx hb dX0_valueOf_44 rfl (lv_at hl 0 rfl) ?_
      refine my_if_eqN (x := 0) (tgt := 52) hx hb (by omega) dX0_valueOf_45 (by decide) (fun _ => ?_) (fun c_4 => absurd c_4 (by decide))
      refine lv_iconst (v := nI 0) hx hb dX0_valueOf_52 (by decide) ?_
      have dz := (m0_f hj).mp (at_f (by omega) c_1)
      have dw := (m1_f hj).mp (at_f (by omega) c_2)
      exact ret () _ _ _ _ _ _ _ _ (congrArg nI (show 0 = c (26 + j) by omega)) (trivial) (rfl) hP hD hS (Nat.le_of_ble_eq_true rfl) (Nat.le_of_ble_eq_true rfl) dX0_valueOf_53
    · refine lv_iconst (v := nI 1) hx hb dX0_valueOf_28 (by decide) ?_
      refine lv_goto (tgt := 33) hx hb dX0_valueOf_29 (by decide) ?_
      refine lv_istore_n (lv' := [(3, .int (nI 1)), (2, .int (nI 0)), (0, .ref (cd 0)), (1, .int (nI j))]) hx hb dX0_valueOf_33 rfl hl (by decide) rfl (fun ls hl => ?_)
      refine lv_iload_n hx hb dX0_valueOf_34 rfl (lv_at hl 1 rfl) ?_
      refine my_if_eqN (x := 0) (tgt := 44) hx hb (by omega) dX0_valueOf_35 (by decide) (fun _ => ?_) (fun c_5 => absurd c_5 (by decide))
      refine lv_iload_n hx hb dX0_valueOf_44 rfl (lv_at hl 0 rfl) ?_
      refine my_if_eqN (x := 1) (tgt := 52) hx hb (by omega) dX0_valueOf_45 (by decide) (fun c_6 => absurd c_6 (by decide)) (fun _ => ?_)
      refine lv_iconst (v := nI 1) hx hb dX0_valueOf_48 (by decide) ?_
      refine lv_goto (tgt := 53) hx hb dX0_valueOf_49 (by decide) ?_
      have dz := (m0_f hj).mp (at_f (by omega) c_1)
      have dw : ¬ c (26 + j) = 0 := fun q => absurd ((m1_f hj).mpr q) (by rw [at_t (p := m1 c) (by omega) c_2]; decide)
      exact ret () _ _ _ _ _ _ _ _ (congrArg nI (show 1 = c (26 + j) by omega)) (trivial) (rfl) hP hD hS (Nat.le_of_ble_eq_true rfl) (Nat.le_of_ble_eq_true rfl) dX0_valueOf_53
  · refine lv_iconst (v := nI 1) hx hb dX0_valueOf_11 (by decide) ?_
    refine lv_goto (tgt := 16) hx hb dX0_valueOf_12 (by decide) ?_
    refine lv_istore_n (lv' := [(2, .int (nI 1)), (0, .ref (cd 0)), (1, .int (nI j))]) hx hb dX0_valueOf_16 rfl hl (by decide) rfl (fun ls hl => ?_)
    refine lv_aload_n hx hb dX0_valueOf_17 rfl (lv_at hl 1 rfl) ?_
    refine va_get (D := (dC, dI)) (ci := 0) (v := .int (msk (m1 c))) (C := RX0) (T := TX0) (N := 13) hx hb hts (fun _ h9 => List.mem_cons_of_mem _ (List.mem_append_right _ h9)) hown hK hP 0 rfl rfl 5 (by decide) (hts (.fieldLink RX0 57 "SwitchLevelSimulator$Circuit" "mayBeOne" "I") (List.mem_of_getElem? (i := 2) rfl)) (fun _ h9 => h9) rfl dX0_valueOf_18 ?_
    refine lv_iconst (v := nI 1) hx hb dX0_valueOf_21 (by decide) ?_
    refine lv_iload_n hx hb dX0_valueOf_22 rfl (lv_at hl 2 rfl) ?_
    refine lv_ishl hx hb dX0_valueOf_23 ?_
    refine lv_iand hx hb dX0_valueOf_24 ?_
    refine lv_if_eq (x := ((msk (m1 c)) &&& ((1 : Int32) <<< (nI j &&& 31)))) (tgt := 32) hx hb dX0_valueOf_25 (by decide) (fun c_7 => ?_) (fun c_7 => ?_)
    · refine lv_iconst (v := nI 0) hx hb dX0_valueOf_32 (by decide) ?_
      refine lv_istore_n (lv' := [(3, .int (nI 0)), (2, .int (nI 1)), (0, .ref (cd 0)), (1, .int (nI j))]) hx hb dX0_valueOf_33 rfl hl (by decide) rfl (fun ls hl => ?_)
      refine lv_iload_n hx hb dX0_valueOf_34 rfl (lv_at hl 1 rfl) ?_
      refine my_if_eqN (x := 1) (tgt := 44) hx hb (by omega) dX0_valueOf_35 (by decide) (fun c_8 => absurd c_8 (by decide)) (fun _ => ?_)
      refine lv_iload_n hx hb dX0_valueOf_38 rfl (lv_at hl 0 rfl) ?_
      refine my_if_eqN (x := 0) (tgt := 44) hx hb (by omega) dX0_valueOf_39 (by decide) (fun _ => ?_) (fun c_9 => absurd c_9 (by decide))
      refine lv_iload_n hx hb dX0_valueOf_44 rfl (lv_at hl 0 rfl) ?_
      refine my_if_eqN (x := 0) (tgt := 52) hx hb (by omega) dX0_valueOf_45 (by decide) (fun _ => ?_) (fun c_10 => absurd c_10 (by decide))
      refine lv_iconst (v := nI 0) hx hb dX0_valueOf_52 (by decide) ?_
      have dz : ¬ c (26 + j) = 1 := fun q => absurd ((m0_f hj).mpr q) (by rw [at_t (p := m0 c) (by omega) c_1]; decide)
      have dw := (m1_f hj).mp (at_f (by omega) c_7)
      exact ret () _ _ _ _ _ _ _ _ (congrArg nI (show 0 = c (26 + j) by omega)) (trivial) (rfl) hP hD hS (Nat.le_of_ble_eq_true rfl) (Nat.le_of_ble_eq_true rfl) dX0_valueOf_53
    · refine lv_iconst (v := nI 1) hx hb dX0_valueOf_28 (by decide) ?_
      refine lv_goto (tgt := 33) hx hb dX0_valueOf_29 (by decide) ?_
      refine lv_istore_n (lv' := [(3, .int (nI 1)), (2, .int (nI 1)), (0, .ref (cd 0)), (1, .int (nI j))]) hx hb dX0_valueOf_33 rfl hl (by decide) rfl (fun ls hl => ?_)
      refine lv_iload_n hx hb dX0_valueOf_34 rfl (lv_at hl 1 rfl) ?_
      refine my_if_eqN (x := 1) (tgt := 44) hx hb (by omega) dX0_valueOf_35 (by decide) (fun c_11 => absurd c_11 (by decide)) (fun _ => ?_)
      refine lv_iload_n hx hb dX0_valueOf_38 rfl (lv_at hl 0 rfl) ?_
      refine my_if_eqN (x := 1) (tgt := 44) hx hb (by omega) dX0_valueOf_39 (by decide) (fun c_12 => absurd c_12 (by decide)) (fun _ => ?_)
      refine lv_iconst (v := nI 2) hx hb dX0_valueOf_42 (by decide) ?_
      have dz : ¬ c (26 + j) = 1 := fun q => absurd ((m0_f hj).mpr q) (by rw [at_t (p := m0 c) (by omega) c_1]; decide)
      have dw : ¬ c (26 + j) = 0 := fun q => absurd ((m1_f hj).mpr q) (by rw [at_t (p := m1 c) (by omega) c_7]; decide)
      exact ret () _ _ _ _ _ _ _ _ (congrArg nI (show 2 = c (26 + j) by omega)) (trivial) (rfl) hP hD hS (Nat.le_of_ble_eq_true rfl) (Nat.le_of_ble_eq_true rfl) dX0_valueOf_43
abbrev rm_X0_nodesOfValue : Room := { frames := 0, cells := 0, slots := 0, locals := 0 }
set_option maxHeartbeats 4000000 in
set_option maxRecDepth 100000 in
theorem c_X0_nodesOfValue (l : Launch) (dC : Nat → ClassId) (dI : Nat → Nat → Nat) (cI cZ cR cG : ClassId) (cd : Nat → Nat) (c : Nat → Nat) (v : Nat) (ok : okG c) (hv : v ≤ 2) : CI l (dC, dI) (tyL cI cZ cR cG) yX0_nodesOfValue wsX0_nodesOfValue rm_X0_nodesOfValue [.ref (cd 0), .int (nI v)] (cF cI cd (nI (c 0)) (msk (inp c)) (msk (sto c)) (msk (m0 c)) (msk (m1 c)) (nI (c 1)) (szA c) (pA c 50) (pA c 90) (pA c 130) (pA c 170) (pA c 210) (pA c 250)) (S := Unit) (fun _ => msk (vlM c v)) (fun _ => True) (fun _ => cW cI cd c) := by
  refine CI.of (cc := cX0_nodesOfValue) (maxL := 2) (rt := .int) (lv := [(0, .ref (cd 0)), (1, .int (nI v))]) (by decide) rfl (Nat.le_of_ble_eq_true rfl) rfl (Or.inl rfl) ?_
  intro p e s m ar below meth kc A Qz ls hx hb hml hown hts hnm hA hS hP hK hD hl ret
  refine lv_iload_n hx hb dX0_nodesOfValue_0 rfl (lv_at hl 1 rfl) ?_
  refine lv_iconst (v := nI 2) hx hb dX0_nodesOfValue_1 (by decide) ?_
  refine my_icmp_ne (x := v) (y := 2) (tgt := 15) hx hb (by omega) (by omega) dX0_nodesOfValue_2 (by decide) (fun c_1 => ?_) (fun c_1 => ?_)
  · refine lv_iload_n hx hb dX0_nodesOfValue_15 rfl (lv_at hl 1 rfl) ?_
    refine lv_iconst (v := nI 1) hx hb dX0_nodesOfValue_16 (by decide) ?_
    refine my_icmp_ne (x := v) (y := 1) (tgt := 34) hx hb (by omega) (by omega) dX0_nodesOfValue_17 (by decide) (fun c_2 => ?_) (fun c_2 => ?_)
    · refine lv_aload_n hx hb dX0_nodesOfValue_34 rfl (lv_at hl 0 rfl) ?_
      refine va_get (D := (dC, dI)) (ci := 0) (v := .int (msk (m0 c))) (C := RX0) (T := TX0) (N := 13) hx hb hts (fun _ h9 => List.mem_cons_of_mem _ (List.mem_append_right _ h9)) hown hK hP 0 rfl rfl 4 (by decide) (hts (.fieldLink RX0 54 "SwitchLevelSimulator$Circuit" "mayBeZero" "I") (List.mem_of_getElem? (i := 1) rfl)) (fun _ h9 => h9) rfl dX0_nodesOfValue_35 ?_
      refine lv_aload_n hx hb dX0_nodesOfValue_38 rfl (lv_at hl 0 rfl) ?_
      refine va_get (D := (dC, dI)) (ci := 0) (v := .int (msk (m1 c))) (C := RX0) (T := TX0) (N := 13) hx hb hts (fun _ h9 => List.mem_cons_of_mem _ (List.mem_append_right _ h9)) hown hK hP 0 rfl rfl 5 (by decide) (hts (.fieldLink RX0 57 "SwitchLevelSimulator$Circuit" "mayBeOne" "I") (List.mem_of_getElem? (i := 2) rfl)) (fun _ h9 => h9) rfl dX0_nodesOfValue_39 ?_
      refine lv_iconst (v := -1) hx hb dX0_nodesOfValue_42 (by decide) ?_
      refine lv_ixor hx hb dX0_nodesOfValue_43 ?_
      refine lv_iand hx hb dX0_nodesOfValue_44 ?_
      exact ret () _ _ _ _ _ _ _ _ (by show _ = msk (vlM c v); rw [show v = 0 by omega]; exact vlM_0 ok) (trivial) (rfl) hP hD hS (Nat.le_of_ble_eq_true rfl) (Nat.le_of_ble_eq_true rfl) dX0_nodesOfValue_45
    · refine lv_aload_n hx hb dX0_nodesOfValue_20 rfl (lv_at hl 0 rfl) ?_
      refine va_get (D := (dC, dI)) (ci := 0) (v := .int (msk (m1 c))) (C := RX0) (T := TX0) (N := 13) hx hb hts (fun _ h9 => List.mem_cons_of_mem _ (List.mem_append_right _ h9)) hown hK hP 0 rfl rfl 5 (by decide) (hts (.fieldLink RX0 57 "SwitchLevelSimulator$Circuit" "mayBeOne" "I") (List.mem_of_getElem? (i := 2) rfl)) (fun _ h9 => h9) rfl dX0_nodesOfValue_21 ?_
      refine lv_aload_n hx hb dX0_nodesOfValue_24 rfl (lv_at hl 0 rfl) ?_
      refine va_get (D := (dC, dI)) (ci := 0) (v := .int (msk (m0 c))) (C := RX0) (T := TX0) (N := 13) hx hb hts (fun _ h9 => List.mem_cons_of_mem _ (List.mem_append_right _ h9)) hown hK hP 0 rfl rfl 4 (by decide) (hts (.fieldLink RX0 54 "SwitchLevelSimulator$Circuit" "mayBeZero" "I") (List.mem_of_getElem? (i := 1) rfl)) (fun _ h9 => h9) rfl dX0_nodesOfValue_25 ?_
      refine lv_iconst (v := -1) hx hb dX0_nodesOfValue_28 (by decide) ?_
      refine lv_ixor hx hb dX0_nodesOfValue_29 ?_
      refine lv_iand hx hb dX0_nodesOfValue_30 ?_
      refine lv_goto (tgt := 45) hx hb dX0_nodesOfValue_31 (by decide) ?_
      exact ret () _ _ _ _ _ _ _ _ (by show _ = msk (vlM c v); rw [c_2]; exact vlM_1 ok) (trivial) (rfl) hP hD hS (Nat.le_of_ble_eq_true rfl) (Nat.le_of_ble_eq_true rfl) dX0_nodesOfValue_45
  · refine lv_aload_n hx hb dX0_nodesOfValue_5 rfl (lv_at hl 0 rfl) ?_
    refine va_get (D := (dC, dI)) (ci := 0) (v := .int (msk (m0 c))) (C := RX0) (T := TX0) (N := 13) hx hb hts (fun _ h9 => List.mem_cons_of_mem _ (List.mem_append_right _ h9)) hown hK hP 0 rfl rfl 4 (by decide) (hts (.fieldLink RX0 54 "SwitchLevelSimulator$Circuit" "mayBeZero" "I") (List.mem_of_getElem? (i := 1) rfl)) (fun _ h9 => h9) rfl dX0_nodesOfValue_6 ?_
    refine lv_aload_n hx hb dX0_nodesOfValue_9 rfl (lv_at hl 0 rfl) ?_
    refine va_get (D := (dC, dI)) (ci := 0) (v := .int (msk (m1 c))) (C := RX0) (T := TX0) (N := 13) hx hb hts (fun _ h9 => List.mem_cons_of_mem _ (List.mem_append_right _ h9)) hown hK hP 0 rfl rfl 5 (by decide) (hts (.fieldLink RX0 57 "SwitchLevelSimulator$Circuit" "mayBeOne" "I") (List.mem_of_getElem? (i := 2) rfl)) (fun _ h9 => h9) rfl dX0_nodesOfValue_10 ?_
    refine lv_iand hx hb dX0_nodesOfValue_13 ?_
    exact ret () _ _ _ _ _ _ _ _ (by show _ = msk (vlM c v); rw [c_1]; exact vlM_2 ok) (trivial) (rfl) hP hD hS (Nat.le_of_ble_eq_true rfl) (Nat.le_of_ble_eq_true rfl) dX0_nodesOfValue_14
abbrev rm_X0_stateOf : Room := { frames := 1, cells := 0, slots := 0, locals := 23 }
set_option maxHeartbeats 4000000 in
set_option maxRecDepth 100000 in
theorem c_X0_stateOf (l : Launch) (dC : Nat → ClassId) (dI : Nat → Nat → Nat) (cI cZ cR cG : ClassId) (cd : Nat → Nat) (c : Nat → Nat) (t : Nat) (ok : okG c) (ht : t < c 1) : CI l (dC, dI) (tyL cI cZ cR cG) yX0_stateOf wsX0_stateOf rm_X0_stateOf [.ref (cd 0), .int (nI t)] (cF cI cd (nI (c 0)) (msk (inp c)) (msk (sto c)) (msk (m0 c)) (msk (m1 c)) (nI (c 1)) (szA c) (pA c 50) (pA c 90) (pA c 130) (pA c 170) (pA c 210) (pA c 250)) (S := Unit) (fun _ => nI (swS c t)) (fun _ => True) (fun _ => cW cI cd c) := by
  refine CI.of (cc := cX0_stateOf) (maxL := 4) (rt := .int) (lv := [(0, .ref (cd 0)), (1, .int (nI t))]) (by decide) rfl (Nat.le_of_ble_eq_true rfl) rfl (Or.inl rfl) ?_
  intro p e s m ar below meth kc A Qz ls hx hb hml hown hts hnm hA hS hP hK hD hl ret
  have h0 := ok.1
  have h1 := ok.2.1
  have hT := ok.2.2.2 t ht
  have hG := (ok.2.2.1 _ hT.2.2.2.1).2
  refine lv_aload_n hx hb dX0_stateOf_0 rfl (lv_at hl 0 rfl) ?_
  refine va_get (D := (dC, dI)) (ci := 0) (v := .ref (cd 7)) (C := RX0) (T := TX0) (N := 13) hx hb hts (fun _ h9 => List.mem_cons_of_mem _ (List.mem_append_right _ h9)) hown hK hP 0 rfl rfl 12 (by decide) (hts (.fieldLink RX0 30 "SwitchLevelSimulator$Circuit" "faults" "[I") (List.mem_of_getElem? (i := 1) rfl)) (fun _ h9 => h9) rfl dX0_stateOf_1 ?_
  refine lv_iload_n hx hb dX0_stateOf_4 rfl (lv_at hl 1 rfl) ?_
  refine my_ialdP (i := t) (g := c) (b := 250) hx hb hK hP 7 0 rfl rfl (by omega) dX0_stateOf_5 ?_
  refine lv_iconst (v := nI 1) hx hb dX0_stateOf_6 (by decide) ?_
  refine my_icmp_ne (x := (c (250 + t))) (y := 1) (tgt := 12) hx hb (by omega) (by omega) dX0_stateOf_7 (by decide) (fun c_1 => ?_) (fun c_1 => ?_)
  · refine lv_aload_n hx hb dX0_stateOf_12 rfl (lv_at hl 0 rfl) ?_
    refine va_get (D := (dC, dI)) (ci := 0) (v := .ref (cd 7)) (C := RX0) (T := TX0) (N := 13) hx hb hts (fun _ h9 => List.mem_cons_of_mem _ (List.mem_append_right _ h9)) hown hK hP 0 rfl rfl 12 (by decide) (hts (.fieldLink RX0 30 "SwitchLevelSimulator$Circuit" "faults" "[I") (List.mem_of_getElem? (i := 1) rfl)) (fun _ h9 => h9) rfl dX0_stateOf_13 ?_
    refine lv_iload_n hx hb dX0_stateOf_16 rfl (lv_at hl 1 rfl) ?_
    refine my_ialdP (i := t) (g := c) (b := 250) hx hb hK hP 7 0 rfl rfl (by omega) dX0_stateOf_17 ?_
    refine lv_iconst (v := nI 2) hx hb dX0_stateOf_18 (by decide) ?_
    refine my_icmp_eq (x := (c (250 + t))) (y := 2) (tgt := 32) hx hb (by omega) (by omega) dX0_stateOf_19 (by decide) (fun c_2 => ?_) (fun c_2 => ?_)
    · refine lv_iconst (v := nI 1) hx hb dX0_stateOf_32 (by decide) ?_
      exact ret () _ _ _ _ _ _ _ _ (by show _ = nI (swS c t); unfold swS; rw [if_pos (by omega), if_neg c_1]) (trivial) (rfl) hP hD hS (Nat.le_of_ble_eq_true rfl) (Nat.le_of_ble_eq_true rfl) dX0_stateOf_33
    · refine lv_aload_n hx hb dX0_stateOf_22 rfl (lv_at hl 0 rfl) ?_
      refine va_get (D := (dC, dI)) (ci := 0) (v := .ref (cd 2)) (C := RX0) (T := TX0) (N := 13) hx hb hts (fun _ h9 => List.mem_cons_of_mem _ (List.mem_append_right _ h9)) hown hK hP 0 rfl rfl 7 (by decide) (hts (.fieldLink RX0 15 "SwitchLevelSimulator$Circuit" "types" "[I") (List.mem_of_getElem? (i := 2) rfl)) (fun _ h9 => h9) rfl dX0_stateOf_23 ?_
      refine lv_iload_n hx hb dX0_stateOf_26 rfl (lv_at hl 1 rfl) ?_
      refine my_ialdP (i := t) (g := c) (b := 50) hx hb hK hP 2 0 rfl rfl (by omega) dX0_stateOf_27 ?_
      refine lv_iconst (v := nI 2) hx hb dX0_stateOf_28 (by decide) ?_
      refine my_icmp_ne (x := (c (50 + t))) (y := 2) (tgt := 34) hx hb (by omega) (by omega) dX0_stateOf_29 (by decide) (fun c_3 => ?_) (fun c_3 => ?_)
      · refine lv_aload_n hx hb dX0_stateOf_34 rfl (lv_at hl 0 rfl) ?_
        refine lv_aload_n hx hb dX0_stateOf_35 rfl (lv_at hl 0 rfl) ?_
        refine va_get (D := (dC, dI)) (ci := 0) (v := .ref (cd 4)) (C := RX0) (T := TX0) (N := 13) hx hb hts (fun _ h9 => List.mem_cons_of_mem _ (List.mem_append_right _ h9)) hown hK hP 0 rfl rfl 9 (by decide) (hts (.fieldLink RX0 21 "SwitchLevelSimulator$Circuit" "gates" "[I") (List.mem_of_getElem? (i := 3) rfl)) (fun _ h9 => h9) rfl dX0_stateOf_36 ?_
        refine lv_iload_n hx hb dX0_stateOf_39 rfl (lv_at hl 1 rfl) ?_
        refine my_ialdP (i := t) (g := c) (b := 130) hx hb hK hP 4 0 rfl rfl (by omega) dX0_stateOf_40 ?_
        refine CI.callV (As := [.int (nI (c (130 + t)))]) (rest := []) (w3 := (fun _ => cF cI cd (nI (c 0)) (msk (inp c)) (msk (sto c)) (msk (m0 c)) (msk (m1 c)) (nI (c 1)) (szA c) (pA c 50) (pA c 90) (pA c 130) (pA c 170) (pA c 210) (pA c 250))) (c_X0_valueOf l dC dI cI cZ cR cG cd c (c (130 + t)) (ok) (by omega)) ⟨hx, hb, hml, hown, hts⟩ (cwV 1 hts gX0_stateOf_X0_valueOf rfl rfl rfl (by decide +kernel) ⟨Nat.le_of_ble_eq_true rfl, Nat.le_of_ble_eq_true rfl⟩) rfl hl.1 (Nat.le_of_ble_eq_true rfl) dX0_stateOf_41 ⟨Nat.le_of_ble_eq_true rfl, Nat.le_of_ble_eq_true rfl⟩ hA hS hP hK hD [0, 1, 2, 3, 4, 5, 6, 7] [] rfl rfl (by decide) (by decide) (by decide) 0 0 rfl rfl [0, 1, 2, 3, 4, 5, 6, 7] (by decide) (fun _ => rfl) rfl (fun _ H locs hp_4 hP hD hS => ?_)
        refine lv_istore_n (lv' := [(2, .int (nI (c (26 + (c (130 + t)))))), (0, .ref (cd 0)), (1, .int (nI t))]) hx hb dX0_stateOf_44 rfl hl (by decide) rfl (fun ls hl => ?_)
        refine lv_iload_n hx hb dX0_stateOf_45 rfl (lv_at hl 0 rfl) ?_
        refine lv_iconst (v := nI 2) hx hb dX0_stateOf_46 (by decide) ?_
        refine my_icmp_ne (x := (c (26 + (c (130 + t))))) (y := 2) (tgt := 52) hx hb (by omega) (by omega) dX0_stateOf_47 (by decide) (fun c_5 => ?_) (fun c_5 => ?_)
        · refine lv_aload_n hx hb dX0_stateOf_52 rfl (lv_at hl 1 rfl) ?_
          refine va_get (D := (dC, dI)) (ci := 0) (v := .ref (cd 2)) (C := RX0) (T := TX0) (N := 13) hx hb hts (fun _ h9 => List.mem_cons_of_mem _ (List.mem_append_right _ h9)) hown hK hP 0 rfl rfl 7 (by decide) (hts (.fieldLink RX0 15 "SwitchLevelSimulator$Circuit" "types" "[I") (List.mem_of_getElem? (i := 2) rfl)) (fun _ h9 => h9) rfl dX0_stateOf_53 ?_
          refine lv_iload_n hx hb dX0_stateOf_56 rfl (lv_at hl 2 rfl) ?_
          refine my_ialdP (i := t) (g := c) (b := 50) hx hb hK hP 2 0 rfl rfl (by omega) dX0_stateOf_57 ?_
          refine my_if_neN (x := (c (50 + t))) (tgt := 65) hx hb (by omega) dX0_stateOf_58 (by decide) (fun c_6 => ?_) (fun c_6 => ?_)
          · refine lv_iconst (v := nI 0) hx hb dX0_stateOf_65 (by decide) ?_
            refine lv_istore_n (lv' := [(3, .int (nI 0)), (2, .int (nI (c (26 + (c (130 + t)))))), (0, .ref (cd 0)), (1, .int (nI t))]) hx hb dX0_stateOf_66 rfl hl (by decide) rfl (fun ls hl => ?_)
            refine lv_iload_n hx hb dX0_stateOf_67 rfl (lv_at hl 1 rfl) ?_
            refine lv_iload_n hx hb dX0_stateOf_68 rfl (lv_at hl 0 rfl) ?_
            refine my_icmp_ne (x := (c (26 + (c (130 + t))))) (y := 0) (tgt := 76) hx hb (by omega) (by omega) dX0_stateOf_69 (by decide) (fun c_7 => ?_) (fun c_7 => ?_)
            · refine lv_iconst (v := nI 0) hx hb dX0_stateOf_76 (by decide) ?_
              exact ret () _ _ _ _ _ _ _ _ (by show _ = nI (swS c t); unfold swS; rw [if_neg (show ¬ c (250 + t) ≠ 0 by omega), if_neg c_3, if_neg c_5, decide_eq_true (show c (26 + c (130 + t)) = 1 by omega), decide_eq_false c_6]; rfl) (trivial) (rfl) hP hD hS (Nat.le_of_ble_eq_true rfl) (Nat.le_of_ble_eq_true rfl) dX0_stateOf_77
            · refine lv_iconst (v := nI 1) hx hb dX0_stateOf_72 (by decide) ?_
              refine lv_goto (tgt := 77) hx hb dX0_stateOf_73 (by decide) ?_
              exact ret () _ _ _ _ _ _ _ _ (by show _ = nI (swS c t); unfold swS; rw [if_neg (show ¬ c (250 + t) ≠ 0 by omega), if_neg c_3, if_neg c_5, decide_eq_false (show ¬ c (26 + c (130 + t)) = 1 by omega), decide_eq_false c_6]; rfl) (trivial) (rfl) hP hD hS (Nat.le_of_ble_eq_true rfl) (Nat.le_of_ble_eq_true rfl) dX0_stateOf_77
          · refine lv_iconst (v := nI 1) hx hb dX0_stateOf_61 (by decide) ?_
            refine lv_goto (tgt := 66) hx hb dX0_stateOf_62 (by decide) ?_
            refine lv_istore_n (lv' := [(3, .int (nI 1)), (2, .int (nI (c (26 + (c (130 + t)))))), (0, .ref (cd 0)), (1, .int (nI t))]) hx hb dX0_stateOf_66 rfl hl (by decide) rfl (fun ls hl => ?_)
            refine lv_iload_n hx hb dX0_stateOf_67 rfl (lv_at hl 1 rfl) ?_
            refine lv_iload_n hx hb dX0_stateOf_68 rfl (lv_at hl 0 rfl) ?_
            refine my_icmp_ne (x := (c (26 + (c (130 + t))))) (y := 1) (tgt := 76) hx hb (by omega) (by omega) dX0_stateOf_69 (by decide) (fun c_8 => ?_) (fun c_8 => ?_)
            · refine lv_iconst (v := nI 0) hx hb dX0_stateOf_76 (by decide) ?_
              exact ret () _ _ _ _ _ _ _ _ (by show _ = nI (swS c t); unfold swS; rw [if_neg (show ¬ c (250 + t) ≠ 0 by omega), if_neg c_3, if_neg c_5, decide_eq_false (show ¬ c (26 + c (130 + t)) = 1 by omega), decide_eq_true c_6]; rfl) (trivial) (rfl) hP hD hS (Nat.le_of_ble_eq_true rfl) (Nat.le_of_ble_eq_true rfl) dX0_stateOf_77
            · refine lv_iconst (v := nI 1) hx hb dX0_stateOf_72 (by decide) ?_
              refine lv_goto (tgt := 77) hx hb dX0_stateOf_73 (by decide) ?_
              exact ret () _ _ _ _ _ _ _ _ (by show _ = nI (swS c t); unfold swS; rw [if_neg (show ¬ c (250 + t) ≠ 0 by omega), if_neg c_3, if_neg c_5, decide_eq_true (show c (26 + c (130 + t)) = 1 by omega), decide_eq_true c_6]; rfl) (trivial) (rfl) hP hD hS (Nat.le_of_ble_eq_true rfl) (Nat.le_of_ble_eq_true rfl) dX0_stateOf_77
        · refine lv_iconst (v := nI 2) hx hb dX0_stateOf_50 (by decide) ?_
          exact ret () _ _ _ _ _ _ _ _ (by show _ = nI (swS c t); unfold swS; rw [if_neg (show ¬ c (250 + t) ≠ 0 by omega), if_neg c_3, if_pos c_5]) (trivial) (rfl) hP hD hS (Nat.le_of_ble_eq_true rfl) (Nat.le_of_ble_eq_true rfl) dX0_stateOf_51
      · refine lv_iconst (v := nI 1) hx hb dX0_stateOf_32 (by decide) ?_
        exact ret () _ _ _ _ _ _ _ _ (by show _ = nI (swS c t); unfold swS; rw [if_neg (show ¬ c (250 + t) ≠ 0 by omega), if_pos c_3]) (trivial) (rfl) hP hD hS (Nat.le_of_ble_eq_true rfl) (Nat.le_of_ble_eq_true rfl) dX0_stateOf_33
  · refine lv_iconst (v := nI 0) hx hb dX0_stateOf_10 (by decide) ?_
    exact ret () _ _ _ _ _ _ _ _ (by show _ = nI (swS c t); unfold swS; rw [if_pos (by omega), if_pos c_1]) (trivial) (rfl) hP hD hS (Nat.le_of_ble_eq_true rfl) (Nat.le_of_ble_eq_true rfl) dX0_stateOf_11
abbrev rm_X0_replaceFault : Room := { frames := 0, cells := 0, slots := 0, locals := 0 }
set_option maxHeartbeats 4000000 in
set_option maxRecDepth 100000 in
theorem c_X0_replaceFault (l : Launch) (dC : Nat → ClassId) (dI : Nat → Nat → Nat) (cI cZ cR cG : ClassId) (cd : Nat → Nat) (c : Nat → Nat) (t v : Nat) (hc : c 0 ≤ 24) (ht : t < 40) : CI l (dC, dI) (tyL cI cZ cR cG) yX0_replaceFault wsX0_replaceFault rm_X0_replaceFault [.ref (cd 0), .int (nI t), .int (nI v)] (cF cI cd (nI (c 0)) (msk (inp c)) (msk (sto c)) (msk (m0 c)) (msk (m1 c)) (nI (c 1)) (szA c) (pA c 50) (pA c 90) (pA c 130) (pA c 170) (pA c 210) (pA c 250)) (S := Unit) (fun _ => nI (c (250 + t))) (fun _ => True) (fun _ => cW cI cd (up1 c (250 + t) v)) := by
  refine CI.of (cc := cX0_replaceFault) (maxL := 4) (rt := .int) (lv := [(0, .ref (cd 0)), (1, .int (nI t)), (2, .int (nI v))]) (by decide) rfl (Nat.le_of_ble_eq_true rfl) rfl (Or.inl rfl) ?_
  intro p e s m ar below meth kc A Qz ls hx hb hml hown hts hnm hA hS hP hK hD hl ret
  refine lv_aload_n hx hb dX0_replaceFault_0 rfl (lv_at hl 0 rfl) ?_
  refine va_get (D := (dC, dI)) (ci := 0) (v := .ref (cd 7)) (C := RX0) (T := TX0) (N := 13) hx hb hts (fun _ h9 => List.mem_cons_of_mem _ (List.mem_append_right _ h9)) hown hK hP 0 rfl rfl 12 (by decide) (hts (.fieldLink RX0 30 "SwitchLevelSimulator$Circuit" "faults" "[I") (List.mem_of_getElem? (i := 1) rfl)) (fun _ h9 => h9) rfl dX0_replaceFault_1 ?_
  refine lv_iload_n hx hb dX0_replaceFault_4 rfl (lv_at hl 1 rfl) ?_
  refine my_ialdP (i := t) (g := c) (b := 250) hx hb hK hP 7 0 rfl rfl (by omega) dX0_replaceFault_5 ?_
  refine lv_istore_n (lv' := [(3, .int (nI (c (250 + t)))), (0, .ref (cd 0)), (1, .int (nI t)), (2, .int (nI v))]) hx hb dX0_replaceFault_6 rfl hl (by decide) rfl (fun ls hl => ?_)
  refine lv_aload_n hx hb dX0_replaceFault_7 rfl (lv_at hl 1 rfl) ?_
  refine va_get (D := (dC, dI)) (ci := 0) (v := .ref (cd 7)) (C := RX0) (T := TX0) (N := 13) hx hb hts (fun _ h9 => List.mem_cons_of_mem _ (List.mem_append_right _ h9)) hown hK hP 0 rfl rfl 12 (by decide) (hts (.fieldLink RX0 30 "SwitchLevelSimulator$Circuit" "faults" "[I") (List.mem_of_getElem? (i := 1) rfl)) (fun _ h9 => h9) rfl dX0_replaceFault_8 ?_
  refine lv_iload_n hx hb dX0_replaceFault_11 rfl (lv_at hl 2 rfl) ?_
  refine lv_iload_n hx hb dX0_replaceFault_12 rfl (lv_at hl 3 rfl) ?_
  refine my_iastN (i := t) (x := v) (g := (pA c 250)) (ws' := cF cI cd (nI (c 0)) (msk (inp c)) (msk (sto c)) (msk (m0 c)) (msk (m1 c)) (nI (c 1)) (szA c) (pA c 50) (pA c 90) (pA c 130) (pA c 170) (pA c 210) (up1 (pA c 250) t v)) hx hb hK hP hD hS 7 0 rfl rfl (by omega) (by decide) dX0_replaceFault_13 rfl (fun H locs hP hD hS => ?_)
  refine lv_iload_n hx hb dX0_replaceFault_14 rfl (lv_at hl 0 rfl) ?_
  exact ret () _ _ _ _ _ _ _ _ (rfl) (trivial) (by show cW cI cd (up1 c (250 + t) v) = _; rw [cW_flt hc ht]) hP hD hS (Nat.le_of_ble_eq_true rfl) (Nat.le_of_ble_eq_true rfl) dX0_replaceFault_15
abbrev rm_X0_removeFaults : Room := { frames := 1, cells := 0, slots := 0, locals := 23 }
set_option maxHeartbeats 4000000 in
set_option maxRecDepth 100000 in
theorem c_X0_removeFaults (l : Launch) (dC : Nat → ClassId) (dI : Nat → Nat → Nat) (cI cZ cR cG : ClassId) (cd : Nat → Nat) (c : Nat → Nat) (ok : okG c) : CI l (dC, dI) (tyL cI cZ cR cG) yX0_removeFaults wsX0_removeFaults rm_X0_removeFaults [.ref (cd 0)] (cF cI cd (nI (c 0)) (msk (inp c)) (msk (sto c)) (msk (m0 c)) (msk (m1 c)) (nI (c 1)) (szA c) (pA c 50) (pA c 90) (pA c 130) (pA c 170) (pA c 210) (pA c 250)) (S := Unit) (fun _ => aClr c) (fun _ => True) (fun _ => cW cI cd (clrK c (c 1))) := by
  refine CI.of (cc := cX0_removeFaults) (maxL := 3) (rt := .int) (lv := [(0, .ref (cd 0))]) (by decide) rfl (Nat.le_of_ble_eq_true rfl) rfl (Or.inl rfl) ?_
  intro p e s m ar below meth kc A Qz ls hx hb hml hown hts hnm hA hS hP hK hD hl ret
  have h0 := ok.1
  have h1 := ok.2.1
  refine lv_iconst (v := nI 0) hx hb dX0_removeFaults_0 (by decide) ?_
  refine lv_istore_n (lv' := [(1, .int (nI 0)), (0, .ref (cd 0))]) hx hb dX0_removeFaults_1 rfl hl (by decide) rfl (fun ls hl => ?_)
  refine lv_iconst (v := nI 0) hx hb dX0_removeFaults_2 (by decide) ?_
  refine lv_istore_n (lv' := [(2, .int (nI 0)), (1, .int (nI 0)), (0, .ref (cd 0))]) hx hb dX0_removeFaults_3 rfl hl (by decide) rfl (fun ls hl => ?_)
  rw [← clrK_0 c] at hP hD
  have key_4 : ∀ (fu : Nat) (n : Nat), (c 1 - n) < fu → (n ≤ c 1) → ∀ (H : Heap) (locs : List Loc) (ls : Array Slot), va_P (dC, dI) vwCl (cF cI cd (nI ((clrK c n) 0)) (msk (inp (clrK c n))) (msk (sto (clrK c n))) (msk (m0 (clrK c n))) (msk (m1 (clrK c n))) (nI ((clrK c n) 1)) (szA (clrK c n)) (pA (clrK c n) 50) (pA (clrK c n) 90) (pA (clrK c n) 130) (pA (clrK c n) 170) (pA (clrK c n) 210) (pA (clrK c n) 250)) H → va_D A (cF cI cd (nI ((clrK c n) 0)) (msk (inp (clrK c n))) (msk (sto (clrK c n))) (msk (m0 (clrK c n))) (msk (m1 (clrK c n))) (nI ((clrK c n) 1)) (szA (clrK c n)) (pA (clrK c n) 50) (pA (clrK c n) 90) (pA (clrK c n) 130) (pA (clrK c n) 170) (pA (clrK c n) 210) (pA (clrK c n) 250)) → va_S A s.heap H locs → lv_has ls 3 [(2, .int (nI n)), (1, .int (nI (ct (flw c) n))), (0, .ref (cd 0))] → W p l e rm_X0_removeFaults s m ar below meth kc H locs 0 0 Qz (F0 m 4 ls []) := by
    intro fu
    induction fu with
    | zero => intro n hmu; exact absurd hmu (Nat.not_lt_zero _)
    | succ fu ih_4 =>
      intro n hmu_4 hn H locs ls hP hD hS hl
      refine lv_iload_n hx hb dX0_removeFaults_4 rfl (lv_at hl 0 rfl) ?_
      refine lv_aload_n hx hb dX0_removeFaults_5 rfl (lv_at hl 2 rfl) ?_
      refine va_get (D := (dC, dI)) (ci := 0) (v := .int (nI ((clrK c n) 1))) (C := RX0) (T := TX0) (N := 13) hx hb hts (fun _ h9 => List.mem_cons_of_mem _ (List.mem_append_right _ h9)) hown hK hP 0 rfl rfl 6 (by decide) (hts (.fieldLink RX0 37 "SwitchLevelSimulator$Circuit" "transistorTotal" "I") (List.mem_of_getElem? (i := 1) rfl)) (fun _ h9 => h9) rfl dX0_removeFaults_6 ?_
      refine my_cast (show nI ((clrK c n) 1) = nI (c 1) from by rw [clrK_lo (Or.inl (by omega))]) ?_
      refine my_icmp_ge (x := n) (y := (c 1)) (tgt := 30) hx hb (by omega) (by omega) dX0_removeFaults_9 (by decide) (fun c_2 => ?_) (fun c_2 => ?_)
      · refine lv_iload_n hx hb dX0_removeFaults_30 rfl (lv_at hl 1 rfl) ?_
        exact ret () _ _ _ _ _ _ _ _ (by show nI (ct (flw c) n) = nI (ct (flw c) (c 1)); rw [show n = c 1 by omega]) (trivial) (by show cW cI cd (clrK c (c 1)) = _; rw [show n = c 1 by omega]) hP hD hS (Nat.le_of_ble_eq_true rfl) (Nat.le_of_ble_eq_true rfl) dX0_removeFaults_31
      · refine lv_aload_n hx hb dX0_removeFaults_12 rfl (lv_at hl 2 rfl) ?_
        refine lv_iload_n hx hb dX0_removeFaults_13 rfl (lv_at hl 0 rfl) ?_
        refine lv_iconst (v := nI 0) hx hb dX0_removeFaults_14 (by decide) ?_
        refine CI.callV (As := [.int (nI n), .int (nI 0)]) (rest := []) (w3 := (fun _ => cF cI cd (nI ((up1 (clrK c n) (250 + n) 0) 0)) (msk (inp (up1 (clrK c n) (250 + n) 0))) (msk (sto (up1 (clrK c n) (250 + n) 0))) (msk (m0 (up1 (clrK c n) (250 + n) 0))) (msk (m1 (up1 (clrK c n) (250 + n) 0))) (nI ((up1 (clrK c n) (250 + n) 0) 1)) (szA (up1 (clrK c n) (250 + n) 0)) (pA (up1 (clrK c n) (250 + n) 0) 50) (pA (up1 (clrK c n) (250 + n) 0) 90) (pA (up1 (clrK c n) (250 + n) 0) 130) (pA (up1 (clrK c n) (250 + n) 0) 170) (pA (up1 (clrK c n) (250 + n) 0) 210) (pA (up1 (clrK c n) (250 + n) 0) 250))) (c_X0_replaceFault l dC dI cI cZ cR cG cd (clrK c n) n 0 (by rw [clrK_lo (Or.inl (by omega))]; exact ok.1) (by omega)) ⟨hx, hb, hml, hown, hts⟩ (cwV 2 hts gX0_removeFaults_X0_replaceFault rfl rfl rfl (by decide +kernel) ⟨Nat.le_of_ble_eq_true rfl, Nat.le_of_ble_eq_true rfl⟩) rfl hl.1 (Nat.le_of_ble_eq_true rfl) dX0_removeFaults_15 ⟨Nat.le_of_ble_eq_true rfl, Nat.le_of_ble_eq_true rfl⟩ hA hS hP hK hD [0, 1, 2, 3, 4, 5, 6, 7] [] rfl rfl (by decide) (by decide) (by decide) 0 0 rfl rfl [0, 1, 2, 3, 4, 5, 6, 7] (by decide) (fun _ => rfl) rfl (fun _ H locs hp_3 hP hD hS => ?_)
        refine my_cast (show nI ((clrK c n) (250 + n)) = nI (c (250 + n)) from by rw [clrK_lo (Or.inr (by omega))]) ?_
        refine my_if_eqN (x := (c (250 + n))) (tgt := 24) hx hb (by have := ok.2.2.2 n (by omega); omega) dX0_removeFaults_18 (by decide) (fun c_4 => ?_) (fun c_4 => ?_)
        · have hcn : ct (flw c) n = ct (flw c) (n + 1) := by rw [ct, if_neg (by unfold flw; simp [c_4])]; rfl
          rw [hcn] at hl
          refine my_iinc (k := 0) (x := n) (d := 1) (lv' := [(2, .int (nI (n + 1))), (1, .int (nI (ct (flw c) (n + 1)))), (0, .ref (cd 0))]) hx hb dX0_removeFaults_24 hl rfl (by decide) (by decide) rfl (fun ls hl => ?_)
          refine lv_goto (tgt := 4) hx hb dX0_removeFaults_27 (by decide) ?_
          rw [clrK_s c n] at hP hD
          exact ih_4 (n + 1) (by omega) (by omega) _ _ _ hP hD hS (lv_sub hl [0, 1, 2] rfl)
        · refine my_iinc (k := 1) (x := (ct (flw c) n)) (d := 1) (lv' := [(1, .int (nI (ct (flw c) n + 1))), (2, .int (nI n)), (0, .ref (cd 0))]) hx hb dX0_removeFaults_21 hl rfl (by decide) (by decide) rfl (fun ls hl => ?_)
          have hcn : ct (flw c) n + 1 = ct (flw c) (n + 1) := by rw [ct, if_pos (by unfold flw; simp [c_4])]
          rw [hcn] at hl
          refine my_iinc (k := 1) (x := n) (d := 1) (lv' := [(2, .int (nI (n + 1))), (1, .int (nI (ct (flw c) (n + 1)))), (0, .ref (cd 0))]) hx hb dX0_removeFaults_24 hl rfl (by decide) (by decide) rfl (fun ls hl => ?_)
          refine lv_goto (tgt := 4) hx hb dX0_removeFaults_27 (by decide) ?_
          rw [clrK_s c n] at hP hD
          exact ih_4 (n + 1) (by omega) (by omega) _ _ _ hP hD hS (lv_sub hl [0, 1, 2] rfl)
  exact key_4 _ 0 (Nat.lt_succ_self _) (Nat.zero_le _) _ _ _ hP hD hS (lv_sub hl [0, 1, 2] rfl)
abbrev rm_X0_hasValuesOf : Room := { frames := 0, cells := 0, slots := 0, locals := 0 }
set_option maxHeartbeats 4000000 in
set_option maxRecDepth 100000 in
theorem c_X0_hasValuesOf (l : Launch) (dC : Nat → ClassId) (dI : Nat → Nat → Nat) (cI cZ cR cG : ClassId) (cd ce : Nat → Nat) (c d : Nat → Nat) : CI l (dC, dI) (tyL cI cZ cR cG) yX0_hasValuesOf wsX0_hasValuesOf rm_X0_hasValuesOf [.ref (cd 0), .ref (ce 0)] ((cF cI cd (nI (c 0)) (msk (inp c)) (msk (sto c)) (msk (m0 c)) (msk (m1 c)) (nI (c 1)) (szA c) (pA c 50) (pA c 90) (pA c 130) (pA c 170) (pA c 210) (pA c 250)) ++ (cF cI ce (nI (d 0)) (msk (inp d)) (msk (sto d)) (msk (m0 d)) (msk (m1 d)) (nI (d 1)) (szA d) (pA d 50) (pA d 90) (pA d 130) (pA d 170) (pA d 210) (pA d 250))) (S := Unit) (fun _ => bI (decide (msk (m0 c) = msk (m0 d) ∧ msk (m1 c) = msk (m1 d)))) (fun _ => True) (fun _ => cW cI cd c ++ cW cI ce d) := by
  refine CI.of (cc := cX0_hasValuesOf) (maxL := 2) (rt := .boolean) (lv := [(0, .ref (cd 0)), (1, .ref (ce 0))]) (by decide) rfl (Nat.le_of_ble_eq_true rfl) rfl (Or.inr ⟨rfl, fun _ => nar_bI _⟩) ?_
  intro p e s m ar below meth kc A Qz ls hx hb hml hown hts hnm hA hS hP hK hD hl ret
  refine lv_aload_n hx hb dX0_hasValuesOf_0 rfl (lv_at hl 0 rfl) ?_
  refine va_get (D := (dC, dI)) (ci := 0) (v := .int (msk (m0 c))) (C := RX0) (T := TX0) (N := 13) hx hb hts (fun _ h9 => List.mem_cons_of_mem _ (List.mem_append_right _ h9)) hown hK hP 0 rfl rfl 4 (by decide) (hts (.fieldLink RX0 54 "SwitchLevelSimulator$Circuit" "mayBeZero" "I") (List.mem_of_getElem? (i := 1) rfl)) (fun _ h9 => h9) rfl dX0_hasValuesOf_1 ?_
  refine lv_aload_n hx hb dX0_hasValuesOf_4 rfl (lv_at hl 1 rfl) ?_
  refine va_get (D := (dC, dI)) (ci := 0) (v := .int (msk (m0 d))) (C := RX0) (T := TX0) (N := 13) hx hb hts (fun _ h9 => List.mem_cons_of_mem _ (List.mem_append_right _ h9)) hown hK hP 8 rfl rfl 4 (by decide) (hts (.fieldLink RX0 54 "SwitchLevelSimulator$Circuit" "mayBeZero" "I") (List.mem_of_getElem? (i := 1) rfl)) (fun _ h9 => h9) rfl dX0_hasValuesOf_5 ?_
  refine my_icmp_neI (x := (msk (m0 c))) (y := (msk (m0 d))) (tgt := 26) hx hb dX0_hasValuesOf_8 (by decide) (fun c_1 => ?_) (fun c_1 => ?_)
  · refine lv_iconst (v := nI 0) hx hb dX0_hasValuesOf_26 (by decide) ?_
    exact ret () _ _ _ _ _ _ _ _ (by show _ = bI (decide (msk (m0 c) = msk (m0 d) ∧ msk (m1 c) = msk (m1 d))); rw [decide_eq_false (fun z => c_1 z.1)]; rfl) (trivial) (rfl) hP hD hS (Nat.le_of_ble_eq_true rfl) (Nat.le_of_ble_eq_true rfl) dX0_hasValuesOf_27
  · refine lv_aload_n hx hb dX0_hasValuesOf_11 rfl (lv_at hl 0 rfl) ?_
    refine va_get (D := (dC, dI)) (ci := 0) (v := .int (msk (m1 c))) (C := RX0) (T := TX0) (N := 13) hx hb hts (fun _ h9 => List.mem_cons_of_mem _ (List.mem_append_right _ h9)) hown hK hP 0 rfl rfl 5 (by decide) (hts (.fieldLink RX0 57 "SwitchLevelSimulator$Circuit" "mayBeOne" "I") (List.mem_of_getElem? (i := 2) rfl)) (fun _ h9 => h9) rfl dX0_hasValuesOf_12 ?_
    refine lv_aload_n hx hb dX0_hasValuesOf_15 rfl (lv_at hl 1 rfl) ?_
    refine va_get (D := (dC, dI)) (ci := 0) (v := .int (msk (m1 d))) (C := RX0) (T := TX0) (N := 13) hx hb hts (fun _ h9 => List.mem_cons_of_mem _ (List.mem_append_right _ h9)) hown hK hP 8 rfl rfl 5 (by decide) (hts (.fieldLink RX0 57 "SwitchLevelSimulator$Circuit" "mayBeOne" "I") (List.mem_of_getElem? (i := 2) rfl)) (fun _ h9 => h9) rfl dX0_hasValuesOf_16 ?_
    refine my_icmp_neI (x := (msk (m1 c))) (y := (msk (m1 d))) (tgt := 26) hx hb dX0_hasValuesOf_19 (by decide) (fun c_2 => ?_) (fun c_2 => ?_)
    · refine lv_iconst (v := nI 0) hx hb dX0_hasValuesOf_26 (by decide) ?_
      exact ret () _ _ _ _ _ _ _ _ (by show _ = bI (decide (msk (m0 c) = msk (m0 d) ∧ msk (m1 c) = msk (m1 d))); rw [decide_eq_false (fun z => c_2 z.2)]; rfl) (trivial) (rfl) hP hD hS (Nat.le_of_ble_eq_true rfl) (Nat.le_of_ble_eq_true rfl) dX0_hasValuesOf_27
    · refine lv_iconst (v := nI 1) hx hb dX0_hasValuesOf_22 (by decide) ?_
      refine lv_goto (tgt := 27) hx hb dX0_hasValuesOf_23 (by decide) ?_
      exact ret () _ _ _ _ _ _ _ _ (by show _ = bI (decide (msk (m0 c) = msk (m0 d) ∧ msk (m1 c) = msk (m1 d))); rw [decide_eq_true ⟨c_1, c_2⟩]; rfl) (trivial) (rfl) hP hD hS (Nat.le_of_ble_eq_true rfl) (Nat.le_of_ble_eq_true rfl) dX0_hasValuesOf_27
abbrev rm_X0_copyFrom : Room := { frames := 1, cells := 0, slots := 0, locals := 30 }
set_option maxHeartbeats 4000000 in
set_option maxRecDepth 100000 in
theorem c_X0_copyFrom (l : Launch) (dC : Nat → ClassId) (dI : Nat → Nat → Nat) (cI cZ cR cG : ClassId) (cd ce : Nat → Nat) (c d : Nat → Nat) (h0 : d 0 ≤ 24) (h1 : d 1 ≤ 40) : CV l (dC, dI) (tyL cI cZ cR cG) yX0_copyFrom wsX0_copyFrom rm_X0_copyFrom [.ref (cd 0), .ref (ce 0)] ((cF cI cd (nI (c 0)) (msk (inp c)) (msk (sto c)) (msk (m0 c)) (msk (m1 c)) (nI (c 1)) (szA c) (pA c 50) (pA c 90) (pA c 130) (pA c 170) (pA c 210) (pA c 250)) ++ (cF cI ce (nI (d 0)) (msk (inp d)) (msk (sto d)) (msk (m0 d)) (msk (m1 d)) (nI (d 1)) (szA d) (pA d 50) (pA d 90) (pA d 130) (pA d 170) (pA d 210) (pA d 250))) (S := Unit) (fun _ => True) (fun _ => cW cI cd (cpy d c) ++ cW cI ce d) := by
  refine CV.of (cc := cX0_copyFrom) (maxL := 2) (lv := [(0, .ref (cd 0)), (1, .ref (ce 0))]) (by decide) rfl (Nat.le_of_ble_eq_true rfl) rfl ?_
  intro p e s m ar below meth kc A Qz ls hx hb hml hown hts hnm hA hS hP hK hD hl ret
  refine lv_aload_n hx hb dX0_copyFrom_0 rfl (lv_at hl 0 rfl) ?_
  refine lv_aload_n hx hb dX0_copyFrom_1 rfl (lv_at hl 1 rfl) ?_
  refine va_get (D := (dC, dI)) (ci := 0) (v := .int (nI (d 0))) (C := RX0) (T := TX0) (N := 13) hx hb hts (fun _ h9 => List.mem_cons_of_mem _ (List.mem_append_right _ h9)) hown hK hP 8 rfl rfl 0 (by decide) (hts (.fieldLink RX0 33 "SwitchLevelSimulator$Circuit" "nodeTotal" "I") (List.mem_of_getElem? (i := 1) rfl)) (fun _ h9 => h9) rfl dX0_copyFrom_2 ?_
  refine va_put (D := (dC, dI)) (ci := 0) (v := .int (nI (d 0))) (ty := .int) (C := RX0) (T := TX0) (N := 13) hx hb hts (fun _ h9 => List.mem_cons_of_mem _ (List.mem_append_right _ h9)) tyX0 tyX0_ok nmX0 hown hK hP hD hS 0 rfl rfl 0 (by decide) (hts (.fieldLink RX0 33 "SwitchLevelSimulator$Circuit" "nodeTotal" "I") (List.mem_of_getElem? (i := 1) rfl)) (fun _ h9 => h9) rfl (by decide +kernel) rfl rfl (Nat.le_of_ble_eq_true rfl) dX0_copyFrom_5 (fun H locs hP hD hS => ?_)
  have hP : va_P (dC, dI) vwCl ((cF cI cd (nI (d 0)) (msk (inp c)) (msk (sto c)) (msk (m0 c)) (msk (m1 c)) (nI (c 1)) (szA c) (pA c 50) (pA c 90) (pA c 130) (pA c 170) (pA c 210) (pA c 250)) ++ (cF cI ce (nI (d 0)) (msk (inp d)) (msk (sto d)) (msk (m0 d)) (msk (m1 d)) (nI (d 1)) (szA d) (pA d 50) (pA d 90) (pA d 130) (pA d 170) (pA d 210) (pA d 250))) H := hP
  have hD : va_D A ((cF cI cd (nI (d 0)) (msk (inp c)) (msk (sto c)) (msk (m0 c)) (msk (m1 c)) (nI (c 1)) (szA c) (pA c 50) (pA c 90) (pA c 130) (pA c 170) (pA c 210) (pA c 250)) ++ (cF cI ce (nI (d 0)) (msk (inp d)) (msk (sto d)) (msk (m0 d)) (msk (m1 d)) (nI (d 1)) (szA d) (pA d 50) (pA d 90) (pA d 130) (pA d 170) (pA d 210) (pA d 250))) := hD
  refine lv_aload_n hx hb dX0_copyFrom_8 rfl (lv_at hl 0 rfl) ?_
  refine lv_aload_n hx hb dX0_copyFrom_9 rfl (lv_at hl 1 rfl) ?_
  refine va_get (D := (dC, dI)) (ci := 0) (v := .int (msk (inp d))) (C := RX0) (T := TX0) (N := 13) hx hb hts (fun _ h9 => List.mem_cons_of_mem _ (List.mem_append_right _ h9)) hown hK hP 8 rfl rfl 1 (by decide) (hts (.fieldLink RX0 40 "SwitchLevelSimulator$Circuit" "inputNodes" "I") (List.mem_of_getElem? (i := 2) rfl)) (fun _ h9 => h9) rfl dX0_copyFrom_10 ?_
  refine va_put (D := (dC, dI)) (ci := 0) (v := .int (msk (inp d))) (ty := .int) (C := RX0) (T := TX0) (N := 13) hx hb hts (fun _ h9 => List.mem_cons_of_mem _ (List.mem_append_right _ h9)) tyX0 tyX0_ok nmX0 hown hK hP hD hS 0 rfl rfl 1 (by decide) (hts (.fieldLink RX0 40 "SwitchLevelSimulator$Circuit" "inputNodes" "I") (List.mem_of_getElem? (i := 2) rfl)) (fun _ h9 => h9) rfl (by decide +kernel) rfl rfl (Nat.le_of_ble_eq_true rfl) dX0_copyFrom_13 (fun H locs hP hD hS => ?_)
  have hP : va_P (dC, dI) vwCl ((cF cI cd (nI (d 0)) (msk (inp d)) (msk (sto c)) (msk (m0 c)) (msk (m1 c)) (nI (c 1)) (szA c) (pA c 50) (pA c 90) (pA c 130) (pA c 170) (pA c 210) (pA c 250)) ++ (cF cI ce (nI (d 0)) (msk (inp d)) (msk (sto d)) (msk (m0 d)) (msk (m1 d)) (nI (d 1)) (szA d) (pA d 50) (pA d 90) (pA d 130) (pA d 170) (pA d 210) (pA d 250))) H := hP
  have hD : va_D A ((cF cI cd (nI (d 0)) (msk (inp d)) (msk (sto c)) (msk (m0 c)) (msk (m1 c)) (nI (c 1)) (szA c) (pA c 50) (pA c 90) (pA c 130) (pA c 170) (pA c 210) (pA c 250)) ++ (cF cI ce (nI (d 0)) (msk (inp d)) (msk (sto d)) (msk (m0 d)) (msk (m1 d)) (nI (d 1)) (szA d) (pA d 50) (pA d 90) (pA d 130) (pA d 170) (pA d 210) (pA d 250))) := hD
  refine lv_aload_n hx hb dX0_copyFrom_16 rfl (lv_at hl 0 rfl) ?_
  refine lv_aload_n hx hb dX0_copyFrom_17 rfl (lv_at hl 1 rfl) ?_
  refine va_get (D := (dC, dI)) (ci := 0) (v := .int (msk (sto d))) (C := RX0) (T := TX0) (N := 13) hx hb hts (fun _ h9 => List.mem_cons_of_mem _ (List.mem_append_right _ h9)) hown hK hP 8 rfl rfl 2 (by decide) (hts (.fieldLink RX0 47 "SwitchLevelSimulator$Circuit" "storageNodes" "I") (List.mem_of_getElem? (i := 3) rfl)) (fun _ h9 => h9) rfl dX0_copyFrom_18 ?_
  refine va_put (D := (dC, dI)) (ci := 0) (v := .int (msk (sto d))) (ty := .int) (C := RX0) (T := TX0) (N := 13) hx hb hts (fun _ h9 => List.mem_cons_of_mem _ (List.mem_append_right _ h9)) tyX0 tyX0_ok nmX0 hown hK hP hD hS 0 rfl rfl 2 (by decide) (hts (.fieldLink RX0 47 "SwitchLevelSimulator$Circuit" "storageNodes" "I") (List.mem_of_getElem? (i := 3) rfl)) (fun _ h9 => h9) rfl (by decide +kernel) rfl rfl (Nat.le_of_ble_eq_true rfl) dX0_copyFrom_21 (fun H locs hP hD hS => ?_)
  have hP : va_P (dC, dI) vwCl ((cF cI cd (nI (d 0)) (msk (inp d)) (msk (sto d)) (msk (m0 c)) (msk (m1 c)) (nI (c 1)) (szA c) (pA c 50) (pA c 90) (pA c 130) (pA c 170) (pA c 210) (pA c 250)) ++ (cF cI ce (nI (d 0)) (msk (inp d)) (msk (sto d)) (msk (m0 d)) (msk (m1 d)) (nI (d 1)) (szA d) (pA d 50) (pA d 90) (pA d 130) (pA d 170) (pA d 210) (pA d 250))) H := hP
  have hD : va_D A ((cF cI cd (nI (d 0)) (msk (inp d)) (msk (sto d)) (msk (m0 c)) (msk (m1 c)) (nI (c 1)) (szA c) (pA c 50) (pA c 90) (pA c 130) (pA c 170) (pA c 210) (pA c 250)) ++ (cF cI ce (nI (d 0)) (msk (inp d)) (msk (sto d)) (msk (m0 d)) (msk (m1 d)) (nI (d 1)) (szA d) (pA d 50) (pA d 90) (pA d 130) (pA d 170) (pA d 210) (pA d 250))) := hD
  refine lv_aload_n hx hb dX0_copyFrom_24 rfl (lv_at hl 1 rfl) ?_
  refine va_get (D := (dC, dI)) (ci := 0) (v := .ref (ce 1)) (C := RX0) (T := TX0) (N := 13) hx hb hts (fun _ h9 => List.mem_cons_of_mem _ (List.mem_append_right _ h9)) hown hK hP 8 rfl rfl 3 (by decide) (hts (.fieldLink RX0 9 "SwitchLevelSimulator$Circuit" "sizedAtLeast" "[I") (List.mem_of_getElem? (i := 4) rfl)) (fun _ h9 => h9) rfl dX0_copyFrom_25 ?_
  refine lv_iconst (v := nI 0) hx hb dX0_copyFrom_28 (by decide) ?_
  refine lv_aload_n hx hb dX0_copyFrom_29 rfl (lv_at hl 0 rfl) ?_
  refine va_get (D := (dC, dI)) (ci := 0) (v := .ref (cd 1)) (C := RX0) (T := TX0) (N := 13) hx hb hts (fun _ h9 => List.mem_cons_of_mem _ (List.mem_append_right _ h9)) hown hK hP 0 rfl rfl 3 (by decide) (hts (.fieldLink RX0 9 "SwitchLevelSimulator$Circuit" "sizedAtLeast" "[I") (List.mem_of_getElem? (i := 4) rfl)) (fun _ h9 => h9) rfl dX0_copyFrom_30 ?_
  refine lv_iconst (v := nI 0) hx hb dX0_copyFrom_33 (by decide) ?_
  refine lv_aload_n hx hb dX0_copyFrom_34 rfl (lv_at hl 0 rfl) ?_
  refine va_get (D := (dC, dI)) (ci := 0) (v := .ref (cd 1)) (C := RX0) (T := TX0) (N := 13) hx hb hts (fun _ h9 => List.mem_cons_of_mem _ (List.mem_append_right _ h9)) hown hK hP 0 rfl rfl 3 (by decide) (hts (.fieldLink RX0 9 "SwitchLevelSimulator$Circuit" "sizedAtLeast" "[I") (List.mem_of_getElem? (i := 4) rfl)) (fun _ h9 => h9) rfl dX0_copyFrom_35 ?_
  refine my_alen (n := 8) hx hb hK hP 1 0 rfl rfl rfl dX0_copyFrom_38 ?_
  refine my_copy8 (ws' := (cF cI cd (nI (d 0)) (msk (inp d)) (msk (sto d)) (msk (m0 c)) (msk (m1 c)) (nI (c 1)) (szA d) (pA c 50) (pA c 90) (pA c 130) (pA c 170) (pA c 210) (pA c 250)) ++ (cF cI ce (nI (d 0)) (msk (inp d)) (msk (sto d)) (msk (m0 d)) (msk (m1 d)) (nI (d 1)) (szA d) (pA d 50) (pA d 90) (pA d 130) (pA d 170) (pA d 210) (pA d 250))) hx hb (by rw [hml]; exact hl.1.symm) hown (hts _ (List.mem_of_getElem? (i := 5) rfl)) (hts _ (List.mem_of_getElem? (i := 6) rfl)) (hts _ (List.mem_of_getElem? (i := 7) rfl)) (hts _ (List.mem_of_getElem? (i := 8) rfl)) hK hP hD hS 9 1 0 rfl rfl rfl (by decide) (by decide +kernel) dX0_copyFrom_39 rfl (fun H locs hP hD hS => ?_)
  refine lv_aload_n hx hb dX0_copyFrom_42 rfl (lv_at hl 0 rfl) ?_
  refine lv_aload_n hx hb dX0_copyFrom_43 rfl (lv_at hl 1 rfl) ?_
  refine va_get (D := (dC, dI)) (ci := 0) (v := .int (msk (m0 d))) (C := RX0) (T := TX0) (N := 13) hx hb hts (fun _ h9 => List.mem_cons_of_mem _ (List.mem_append_right _ h9)) hown hK hP 8 rfl rfl 4 (by decide) (hts (.fieldLink RX0 54 "SwitchLevelSimulator$Circuit" "mayBeZero" "I") (List.mem_of_getElem? (i := 9) rfl)) (fun _ h9 => h9) rfl dX0_copyFrom_44 ?_
  refine va_put (D := (dC, dI)) (ci := 0) (v := .int (msk (m0 d))) (ty := .int) (C := RX0) (T := TX0) (N := 13) hx hb hts (fun _ h9 => List.mem_cons_of_mem _ (List.mem_append_right _ h9)) tyX0 tyX0_ok nmX0 hown hK hP hD hS 0 rfl rfl 4 (by decide) (hts (.fieldLink RX0 54 "SwitchLevelSimulator$Circuit" "mayBeZero" "I") (List.mem_of_getElem? (i := 9) rfl)) (fun _ h9 => h9) rfl (by decide +kernel) rfl rfl (Nat.le_of_ble_eq_true rfl) dX0_copyFrom_47 (fun H locs hP hD hS => ?_)
  have hP : va_P (dC, dI) vwCl ((cF cI cd (nI (d 0)) (msk (inp d)) (msk (sto d)) (msk (m0 d)) (msk (m1 c)) (nI (c 1)) (szA d) (pA c 50) (pA c 90) (pA c 130) (pA c 170) (pA c 210) (pA c 250)) ++ (cF cI ce (nI (d 0)) (msk (inp d)) (msk (sto d)) (msk (m0 d)) (msk (m1 d)) (nI (d 1)) (szA d) (pA d 50) (pA d 90) (pA d 130) (pA d 170) (pA d 210) (pA d 250))) H := hP
  have hD : va_D A ((cF cI cd (nI (d 0)) (msk (inp d)) (msk (sto d)) (msk (m0 d)) (msk (m1 c)) (nI (c 1)) (szA d) (pA c 50) (pA c 90) (pA c 130) (pA c 170) (pA c 210) (pA c 250)) ++ (cF cI ce (nI (d 0)) (msk (inp d)) (msk (sto d)) (msk (m0 d)) (msk (m1 d)) (nI (d 1)) (szA d) (pA d 50) (pA d 90) (pA d 130) (pA d 170) (pA d 210) (pA d 250))) := hD
  refine lv_aload_n hx hb dX0_copyFrom_50 rfl (lv_at hl 0 rfl) ?_
  refine lv_aload_n hx hb dX0_copyFrom_51 rfl (lv_at hl 1 rfl) ?_
  refine va_get (D := (dC, dI)) (ci := 0) (v := .int (msk (m1 d))) (C := RX0) (T := TX0) (N := 13) hx hb hts (fun _ h9 => List.mem_cons_of_mem _ (List.mem_append_right _ h9)) hown hK hP 8 rfl rfl 5 (by decide) (hts (.fieldLink RX0 57 "SwitchLevelSimulator$Circuit" "mayBeOne" "I") (List.mem_of_getElem? (i := 10) rfl)) (fun _ h9 => h9) rfl dX0_copyFrom_52 ?_
  refine va_put (D := (dC, dI)) (ci := 0) (v := .int (msk (m1 d))) (ty := .int) (C := RX0) (T := TX0) (N := 13) hx hb hts (fun _ h9 => List.mem_cons_of_mem _ (List.mem_append_right _ h9)) tyX0 tyX0_ok nmX0 hown hK hP hD hS 0 rfl rfl 5 (by decide) (hts (.fieldLink RX0 57 "SwitchLevelSimulator$Circuit" "mayBeOne" "I") (List.mem_of_getElem? (i := 10) rfl)) (fun _ h9 => h9) rfl (by decide +kernel) rfl rfl (Nat.le_of_ble_eq_true rfl) dX0_copyFrom_55 (fun H locs hP hD hS => ?_)
  have hP : va_P (dC, dI) vwCl ((cF cI cd (nI (d 0)) (msk (inp d)) (msk (sto d)) (msk (m0 d)) (msk (m1 d)) (nI (c 1)) (szA d) (pA c 50) (pA c 90) (pA c 130) (pA c 170) (pA c 210) (pA c 250)) ++ (cF cI ce (nI (d 0)) (msk (inp d)) (msk (sto d)) (msk (m0 d)) (msk (m1 d)) (nI (d 1)) (szA d) (pA d 50) (pA d 90) (pA d 130) (pA d 170) (pA d 210) (pA d 250))) H := hP
  have hD : va_D A ((cF cI cd (nI (d 0)) (msk (inp d)) (msk (sto d)) (msk (m0 d)) (msk (m1 d)) (nI (c 1)) (szA d) (pA c 50) (pA c 90) (pA c 130) (pA c 170) (pA c 210) (pA c 250)) ++ (cF cI ce (nI (d 0)) (msk (inp d)) (msk (sto d)) (msk (m0 d)) (msk (m1 d)) (nI (d 1)) (szA d) (pA d 50) (pA d 90) (pA d 130) (pA d 170) (pA d 210) (pA d 250))) := hD
  refine lv_aload_n hx hb dX0_copyFrom_58 rfl (lv_at hl 0 rfl) ?_
  refine lv_aload_n hx hb dX0_copyFrom_59 rfl (lv_at hl 1 rfl) ?_
  refine va_get (D := (dC, dI)) (ci := 0) (v := .int (nI (d 1))) (C := RX0) (T := TX0) (N := 13) hx hb hts (fun _ h9 => List.mem_cons_of_mem _ (List.mem_append_right _ h9)) hown hK hP 8 rfl rfl 6 (by decide) (hts (.fieldLink RX0 37 "SwitchLevelSimulator$Circuit" "transistorTotal" "I") (List.mem_of_getElem? (i := 11) rfl)) (fun _ h9 => h9) rfl dX0_copyFrom_60 ?_
  refine va_put (D := (dC, dI)) (ci := 0) (v := .int (nI (d 1))) (ty := .int) (C := RX0) (T := TX0) (N := 13) hx hb hts (fun _ h9 => List.mem_cons_of_mem _ (List.mem_append_right _ h9)) tyX0 tyX0_ok nmX0 hown hK hP hD hS 0 rfl rfl 6 (by decide) (hts (.fieldLink RX0 37 "SwitchLevelSimulator$Circuit" "transistorTotal" "I") (List.mem_of_getElem? (i := 11) rfl)) (fun _ h9 => h9) rfl (by decide +kernel) rfl rfl (Nat.le_of_ble_eq_true rfl) dX0_copyFrom_63 (fun H locs hP hD hS => ?_)
  have hP : va_P (dC, dI) vwCl ((cF cI cd (nI (d 0)) (msk (inp d)) (msk (sto d)) (msk (m0 d)) (msk (m1 d)) (nI (d 1)) (szA d) (pA c 50) (pA c 90) (pA c 130) (pA c 170) (pA c 210) (pA c 250)) ++ (cF cI ce (nI (d 0)) (msk (inp d)) (msk (sto d)) (msk (m0 d)) (msk (m1 d)) (nI (d 1)) (szA d) (pA d 50) (pA d 90) (pA d 130) (pA d 170) (pA d 210) (pA d 250))) H := hP
  have hD : va_D A ((cF cI cd (nI (d 0)) (msk (inp d)) (msk (sto d)) (msk (m0 d)) (msk (m1 d)) (nI (d 1)) (szA d) (pA c 50) (pA c 90) (pA c 130) (pA c 170) (pA c 210) (pA c 250)) ++ (cF cI ce (nI (d 0)) (msk (inp d)) (msk (sto d)) (msk (m0 d)) (msk (m1 d)) (nI (d 1)) (szA d) (pA d 50) (pA d 90) (pA d 130) (pA d 170) (pA d 210) (pA d 250))) := hD
  refine lv_aload_n hx hb dX0_copyFrom_66 rfl (lv_at hl 1 rfl) ?_
  refine va_get (D := (dC, dI)) (ci := 0) (v := .ref (ce 2)) (C := RX0) (T := TX0) (N := 13) hx hb hts (fun _ h9 => List.mem_cons_of_mem _ (List.mem_append_right _ h9)) hown hK hP 8 rfl rfl 7 (by decide) (hts (.fieldLink RX0 15 "SwitchLevelSimulator$Circuit" "types" "[I") (List.mem_of_getElem? (i := 12) rfl)) (fun _ h9 => h9) rfl dX0_copyFrom_67 ?_
  refine lv_iconst (v := nI 0) hx hb dX0_copyFrom_70 (by decide) ?_
  refine lv_aload_n hx hb dX0_copyFrom_71 rfl (lv_at hl 0 rfl) ?_
  refine va_get (D := (dC, dI)) (ci := 0) (v := .ref (cd 2)) (C := RX0) (T := TX0) (N := 13) hx hb hts (fun _ h9 => List.mem_cons_of_mem _ (List.mem_append_right _ h9)) hown hK hP 0 rfl rfl 7 (by decide) (hts (.fieldLink RX0 15 "SwitchLevelSimulator$Circuit" "types" "[I") (List.mem_of_getElem? (i := 12) rfl)) (fun _ h9 => h9) rfl dX0_copyFrom_72 ?_
  refine lv_iconst (v := nI 0) hx hb dX0_copyFrom_75 (by decide) ?_
  refine lv_aload_n hx hb dX0_copyFrom_76 rfl (lv_at hl 0 rfl) ?_
  refine va_get (D := (dC, dI)) (ci := 0) (v := .int (nI (d 1))) (C := RX0) (T := TX0) (N := 13) hx hb hts (fun _ h9 => List.mem_cons_of_mem _ (List.mem_append_right _ h9)) hown hK hP 0 rfl rfl 6 (by decide) (hts (.fieldLink RX0 37 "SwitchLevelSimulator$Circuit" "transistorTotal" "I") (List.mem_of_getElem? (i := 11) rfl)) (fun _ h9 => h9) rfl dX0_copyFrom_77 ?_
  refine my_copyN (ws' := (cF cI cd (nI (d 0)) (msk (inp d)) (msk (sto d)) (msk (m0 d)) (msk (m1 d)) (nI (d 1)) (szA d) (cpN (pA d 50) (pA c 50) (d 1)) (pA c 90) (pA c 130) (pA c 170) (pA c 210) (pA c 250)) ++ (cF cI ce (nI (d 0)) (msk (inp d)) (msk (sto d)) (msk (m0 d)) (msk (m1 d)) (nI (d 1)) (szA d) (pA d 50) (pA d 90) (pA d 130) (pA d 170) (pA d 210) (pA d 250))) hx hb (by rw [hml]; exact hl.1.symm) hown (hts _ (List.mem_of_getElem? (i := 5) rfl)) (hts _ (List.mem_of_getElem? (i := 6) rfl)) (hts _ (List.mem_of_getElem? (i := 7) rfl)) (hts _ (List.mem_of_getElem? (i := 8) rfl)) hK hP hD hS 10 2 0 rfl rfl rfl (by omega) (by decide) (by decide +kernel) dX0_copyFrom_80 rfl (fun H locs hP hD hS => ?_)
  refine lv_aload_n hx hb dX0_copyFrom_83 rfl (lv_at hl 1 rfl) ?_
  refine va_get (D := (dC, dI)) (ci := 0) (v := .ref (ce 3)) (C := RX0) (T := TX0) (N := 13) hx hb hts (fun _ h9 => List.mem_cons_of_mem _ (List.mem_append_right _ h9)) hown hK hP 8 rfl rfl 8 (by decide) (hts (.fieldLink RX0 18 "SwitchLevelSimulator$Circuit" "strengths" "[I") (List.mem_of_getElem? (i := 13) rfl)) (fun _ h9 => h9) rfl dX0_copyFrom_84 ?_
  refine lv_iconst (v := nI 0) hx hb dX0_copyFrom_87 (by decide) ?_
  refine lv_aload_n hx hb dX0_copyFrom_88 rfl (lv_at hl 0 rfl) ?_
  refine va_get (D := (dC, dI)) (ci := 0) (v := .ref (cd 3)) (C := RX0) (T := TX0) (N := 13) hx hb hts (fun _ h9 => List.mem_cons_of_mem _ (List.mem_append_right _ h9)) hown hK hP 0 rfl rfl 8 (by decide) (hts (.fieldLink RX0 18 "SwitchLevelSimulator$Circuit" "strengths" "[I") (List.mem_of_getElem? (i := 13) rfl)) (fun _ h9 => h9) rfl dX0_copyFrom_89 ?_
  refine lv_iconst (v := nI 0) hx hb dX0_copyFrom_92 (by decide) ?_
  refine lv_aload_n hx hb dX0_copyFrom_93 rfl (lv_at hl 0 rfl) ?_
  refine va_get (D := (dC, dI)) (ci := 0) (v := .int (nI (d 1))) (C := RX0) (T := TX0) (N := 13) hx hb hts (fun _ h9 => List.mem_cons_of_mem _ (List.mem_append_right _ h9)) hown hK hP 0 rfl rfl 6 (by decide) (hts (.fieldLink RX0 37 "SwitchLevelSimulator$Circuit" "transistorTotal" "I") (List.mem_of_getElem? (i := 11) rfl)) (fun _ h9 => h9) rfl dX0_copyFrom_94 ?_
  refine my_copyN (ws' := (cF cI cd (nI (d 0)) (msk (inp d)) (msk (sto d)) (msk (m0 d)) (msk (m1 d)) (nI (d 1)) (szA d) (cpN (pA d 50) (pA c 50) (d 1)) (cpN (pA d 90) (pA c 90) (d 1)) (pA c 130) (pA c 170) (pA c 210) (pA c 250)) ++ (cF cI ce (nI (d 0)) (msk (inp d)) (msk (sto d)) (msk (m0 d)) (msk (m1 d)) (nI (d 1)) (szA d) (pA d 50) (pA d 90) (pA d 130) (pA d 170) (pA d 210) (pA d 250))) hx hb (by rw [hml]; exact hl.1.symm) hown (hts _ (List.mem_of_getElem? (i := 5) rfl)) (hts _ (List.mem_of_getElem? (i := 6) rfl)) (hts _ (List.mem_of_getElem? (i := 7) rfl)) (hts _ (List.mem_of_getElem? (i := 8) rfl)) hK hP hD hS 11 3 0 rfl rfl rfl (by omega) (by decide) (by decide +kernel) dX0_copyFrom_97 rfl (fun H locs hP hD hS => ?_)
  refine lv_aload_n hx hb dX0_copyFrom_100 rfl (lv_at hl 1 rfl) ?_
  refine va_get (D := (dC, dI)) (ci := 0) (v := .ref (ce 4)) (C := RX0) (T := TX0) (N := 13) hx hb hts (fun _ h9 => List.mem_cons_of_mem _ (List.mem_append_right _ h9)) hown hK hP 8 rfl rfl 9 (by decide) (hts (.fieldLink RX0 21 "SwitchLevelSimulator$Circuit" "gates" "[I") (List.mem_of_getElem? (i := 14) rfl)) (fun _ h9 => h9) rfl dX0_copyFrom_101 ?_
  refine lv_iconst (v := nI 0) hx hb dX0_copyFrom_104 (by decide) ?_
  refine lv_aload_n hx hb dX0_copyFrom_105 rfl (lv_at hl 0 rfl) ?_
  refine va_get (D := (dC, dI)) (ci := 0) (v := .ref (cd 4)) (C := RX0) (T := TX0) (N := 13) hx hb hts (fun _ h9 => List.mem_cons_of_mem _ (List.mem_append_right _ h9)) hown hK hP 0 rfl rfl 9 (by decide) (hts (.fieldLink RX0 21 "SwitchLevelSimulator$Circuit" "gates" "[I") (List.mem_of_getElem? (i := 14) rfl)) (fun _ h9 => h9) rfl dX0_copyFrom_106 ?_
  refine lv_iconst (v := nI 0) hx hb dX0_copyFrom_109 (by decide) ?_
  refine lv_aload_n hx hb dX0_copyFrom_110 rfl (lv_at hl 0 rfl) ?_
  refine va_get (D := (dC, dI)) (ci := 0) (v := .int (nI (d 1))) (C := RX0) (T := TX0) (N := 13) hx hb hts (fun _ h9 => List.mem_cons_of_mem _ (List.mem_append_right _ h9)) hown hK hP 0 rfl rfl 6 (by decide) (hts (.fieldLink RX0 37 "SwitchLevelSimulator$Circuit" "transistorTotal" "I") (List.mem_of_getElem? (i := 11) rfl)) (fun _ h9 => h9) rfl dX0_copyFrom_111 ?_
  refine my_copyN (ws' := (cF cI cd (nI (d 0)) (msk (inp d)) (msk (sto d)) (msk (m0 d)) (msk (m1 d)) (nI (d 1)) (szA d) (cpN (pA d 50) (pA c 50) (d 1)) (cpN (pA d 90) (pA c 90) (d 1)) (cpN (pA d 130) (pA c 130) (d 1)) (pA c 170) (pA c 210) (pA c 250)) ++ (cF cI ce (nI (d 0)) (msk (inp d)) (msk (sto d)) (msk (m0 d)) (msk (m1 d)) (nI (d 1)) (szA d) (pA d 50) (pA d 90) (pA d 130) (pA d 170) (pA d 210) (pA d 250))) hx hb (by rw [hml]; exact hl.1.symm) hown (hts _ (List.mem_of_getElem? (i := 5) rfl)) (hts _ (List.mem_of_getElem? (i := 6) rfl)) (hts _ (List.mem_of_getElem? (i := 7) rfl)) (hts _ (List.mem_of_getElem? (i := 8) rfl)) hK hP hD hS 12 4 0 rfl rfl rfl (by omega) (by decide) (by decide +kernel) dX0_copyFrom_114 rfl (fun H locs hP hD hS => ?_)
  refine lv_aload_n hx hb dX0_copyFrom_117 rfl (lv_at hl 1 rfl) ?_
  refine va_get (D := (dC, dI)) (ci := 0) (v := .ref (ce 5)) (C := RX0) (T := TX0) (N := 13) hx hb hts (fun _ h9 => List.mem_cons_of_mem _ (List.mem_append_right _ h9)) hown hK hP 8 rfl rfl 10 (by decide) (hts (.fieldLink RX0 24 "SwitchLevelSimulator$Circuit" "ones" "[I") (List.mem_of_getElem? (i := 15) rfl)) (fun _ h9 => h9) rfl dX0_copyFrom_118 ?_
  refine lv_iconst (v := nI 0) hx hb dX0_copyFrom_121 (by decide) ?_
  refine lv_aload_n hx hb dX0_copyFrom_122 rfl (lv_at hl 0 rfl) ?_
  refine va_get (D := (dC, dI)) (ci := 0) (v := .ref (cd 5)) (C := RX0) (T := TX0) (N := 13) hx hb hts (fun _ h9 => List.mem_cons_of_mem _ (List.mem_append_right _ h9)) hown hK hP 0 rfl rfl 10 (by decide) (hts (.fieldLink RX0 24 "SwitchLevelSimulator$Circuit" "ones" "[I") (List.mem_of_getElem? (i := 15) rfl)) (fun _ h9 => h9) rfl dX0_copyFrom_123 ?_
  refine lv_iconst (v := nI 0) hx hb dX0_copyFrom_126 (by decide) ?_
  refine lv_aload_n hx hb dX0_copyFrom_127 rfl (lv_at hl 0 rfl) ?_
  refine va_get (D := (dC, dI)) (ci := 0) (v := .int (nI (d 1))) (C := RX0) (T := TX0) (N := 13) hx hb hts (fun _ h9 => List.mem_cons_of_mem _ (List.mem_append_right _ h9)) hown hK hP 0 rfl rfl 6 (by decide) (hts (.fieldLink RX0 37 "SwitchLevelSimulator$Circuit" "transistorTotal" "I") (List.mem_of_getElem? (i := 11) rfl)) (fun _ h9 => h9) rfl dX0_copyFrom_128 ?_
  refine my_copyN (ws' := (cF cI cd (nI (d 0)) (msk (inp d)) (msk (sto d)) (msk (m0 d)) (msk (m1 d)) (nI (d 1)) (szA d) (cpN (pA d 50) (pA c 50) (d 1)) (cpN (pA d 90) (pA c 90) (d 1)) (cpN (pA d 130) (pA c 130) (d 1)) (cpN (pA d 170) (pA c 170) (d 1)) (pA c 210) (pA c 250)) ++ (cF cI ce (nI (d 0)) (msk (inp d)) (msk (sto d)) (msk (m0 d)) (msk (m1 d)) (nI (d 1)) (szA d) (pA d 50) (pA d 90) (pA d 130) (pA d 170) (pA d 210) (pA d 250))) hx hb (by rw [hml]; exact hl.1.symm) hown (hts _ (List.mem_of_getElem? (i := 5) rfl)) (hts _ (List.mem_of_getElem? (i := 6) rfl)) (hts _ (List.mem_of_getElem? (i := 7) rfl)) (hts _ (List.mem_of_getElem? (i := 8) rfl)) hK hP hD hS 13 5 0 rfl rfl rfl (by omega) (by decide) (by decide +kernel) dX0_copyFrom_131 rfl (fun H locs hP hD hS => ?_)
  refine lv_aload_n hx hb dX0_copyFrom_134 rfl (lv_at hl 1 rfl) ?_
  refine va_get (D := (dC, dI)) (ci := 0) (v := .ref (ce 6)) (C := RX0) (T := TX0) (N := 13) hx hb hts (fun _ h9 => List.mem_cons_of_mem _ (List.mem_append_right _ h9)) hown hK hP 8 rfl rfl 11 (by decide) (hts (.fieldLink RX0 27 "SwitchLevelSimulator$Circuit" "others" "[I") (List.mem_of_getElem? (i := 16) rfl)) (fun _ h9 => h9) rfl dX0_copyFrom_135 ?_
  refine lv_iconst (v := nI 0) hx hb dX0_copyFrom_138 (by decide) ?_
  refine lv_aload_n hx hb dX0_copyFrom_139 rfl (lv_at hl 0 rfl) ?_
  refine va_get (D := (dC, dI)) (ci := 0) (v := .ref (cd 6)) (C := RX0) (T := TX0) (N := 13) hx hb hts (fun _ h9 => List.mem_cons_of_mem _ (List.mem_append_right _ h9)) hown hK hP 0 rfl rfl 11 (by decide) (hts (.fieldLink RX0 27 "SwitchLevelSimulator$Circuit" "others" "[I") (List.mem_of_getElem? (i := 16) rfl)) (fun _ h9 => h9) rfl dX0_copyFrom_140 ?_
  refine lv_iconst (v := nI 0) hx hb dX0_copyFrom_143 (by decide) ?_
  refine lv_aload_n hx hb dX0_copyFrom_144 rfl (lv_at hl 0 rfl) ?_
  refine va_get (D := (dC, dI)) (ci := 0) (v := .int (nI (d 1))) (C := RX0) (T := TX0) (N := 13) hx hb hts (fun _ h9 => List.mem_cons_of_mem _ (List.mem_append_right _ h9)) hown hK hP 0 rfl rfl 6 (by decide) (hts (.fieldLink RX0 37 "SwitchLevelSimulator$Circuit" "transistorTotal" "I") (List.mem_of_getElem? (i := 11) rfl)) (fun _ h9 => h9) rfl dX0_copyFrom_145 ?_
  refine my_copyN (ws' := (cF cI cd (nI (d 0)) (msk (inp d)) (msk (sto d)) (msk (m0 d)) (msk (m1 d)) (nI (d 1)) (szA d) (cpN (pA d 50) (pA c 50) (d 1)) (cpN (pA d 90) (pA c 90) (d 1)) (cpN (pA d 130) (pA c 130) (d 1)) (cpN (pA d 170) (pA c 170) (d 1)) (cpN (pA d 210) (pA c 210) (d 1)) (pA c 250)) ++ (cF cI ce (nI (d 0)) (msk (inp d)) (msk (sto d)) (msk (m0 d)) (msk (m1 d)) (nI (d 1)) (szA d) (pA d 50) (pA d 90) (pA d 130) (pA d 170) (pA d 210) (pA d 250))) hx hb (by rw [hml]; exact hl.1.symm) hown (hts _ (List.mem_of_getElem? (i := 5) rfl)) (hts _ (List.mem_of_getElem? (i := 6) rfl)) (hts _ (List.mem_of_getElem? (i := 7) rfl)) (hts _ (List.mem_of_getElem? (i := 8) rfl)) hK hP hD hS 14 6 0 rfl rfl rfl (by omega) (by decide) (by decide +kernel) dX0_copyFrom_148 rfl (fun H locs hP hD hS => ?_)
  refine lv_aload_n hx hb dX0_copyFrom_151 rfl (lv_at hl 1 rfl) ?_
  refine va_get (D := (dC, dI)) (ci := 0) (v := .ref (ce 7)) (C := RX0) (T := TX0) (N := 13) hx hb hts (fun _ h9 => List.mem_cons_of_mem _ (List.mem_append_right _ h9)) hown hK hP 8 rfl rfl 12 (by decide) (hts (.fieldLink RX0 30 "SwitchLevelSimulator$Circuit" "faults" "[I") (List.mem_of_getElem? (i := 17) rfl)) (fun _ h9 => h9) rfl dX0_copyFrom_152 ?_
  refine lv_iconst (v := nI 0) hx hb dX0_copyFrom_155 (by decide) ?_
  refine lv_aload_n hx hb dX0_copyFrom_156 rfl (lv_at hl 0 rfl) ?_
  refine va_get (D := (dC, dI)) (ci := 0) (v := .ref (cd 7)) (C := RX0) (T := TX0) (N := 13) hx hb hts (fun _ h9 => List.mem_cons_of_mem _ (List.mem_append_right _ h9)) hown hK hP 0 rfl rfl 12 (by decide) (hts (.fieldLink RX0 30 "SwitchLevelSimulator$Circuit" "faults" "[I") (List.mem_of_getElem? (i := 17) rfl)) (fun _ h9 => h9) rfl dX0_copyFrom_157 ?_
  refine lv_iconst (v := nI 0) hx hb dX0_copyFrom_160 (by decide) ?_
  refine lv_aload_n hx hb dX0_copyFrom_161 rfl (lv_at hl 0 rfl) ?_
  refine va_get (D := (dC, dI)) (ci := 0) (v := .int (nI (d 1))) (C := RX0) (T := TX0) (N := 13) hx hb hts (fun _ h9 => List.mem_cons_of_mem _ (List.mem_append_right _ h9)) hown hK hP 0 rfl rfl 6 (by decide) (hts (.fieldLink RX0 37 "SwitchLevelSimulator$Circuit" "transistorTotal" "I") (List.mem_of_getElem? (i := 11) rfl)) (fun _ h9 => h9) rfl dX0_copyFrom_162 ?_
  refine my_copyN (ws' := (cF cI cd (nI (d 0)) (msk (inp d)) (msk (sto d)) (msk (m0 d)) (msk (m1 d)) (nI (d 1)) (szA d) (cpN (pA d 50) (pA c 50) (d 1)) (cpN (pA d 90) (pA c 90) (d 1)) (cpN (pA d 130) (pA c 130) (d 1)) (cpN (pA d 170) (pA c 170) (d 1)) (cpN (pA d 210) (pA c 210) (d 1)) (cpN (pA d 250) (pA c 250) (d 1))) ++ (cF cI ce (nI (d 0)) (msk (inp d)) (msk (sto d)) (msk (m0 d)) (msk (m1 d)) (nI (d 1)) (szA d) (pA d 50) (pA d 90) (pA d 130) (pA d 170) (pA d 210) (pA d 250))) hx hb (by rw [hml]; exact hl.1.symm) hown (hts _ (List.mem_of_getElem? (i := 5) rfl)) (hts _ (List.mem_of_getElem? (i := 6) rfl)) (hts _ (List.mem_of_getElem? (i := 7) rfl)) (hts _ (List.mem_of_getElem? (i := 8) rfl)) hK hP hD hS 15 7 0 rfl rfl rfl (by omega) (by decide) (by decide +kernel) dX0_copyFrom_165 rfl (fun H locs hP hD hS => ?_)
  exact ret () _ _ _ _ _ _ _ (trivial) (by show cW cI cd (cpy d c) ++ cW cI ce d = _; rw [cW_cpy h0 h1]) hP hD hS (Nat.le_of_ble_eq_true rfl) (Nat.le_of_ble_eq_true rfl) dX0_copyFrom_168
abbrev rm_X0_copyWithFault : Room := { frames := 2, cells := 0, slots := 0, locals := 51 }
set_option maxHeartbeats 4000000 in
set_option maxRecDepth 100000 in
theorem c_X0_copyWithFault (l : Launch) (dC : Nat → ClassId) (dI : Nat → Nat → Nat) (cI cZ cR cG : ClassId) (cd ce : Nat → Nat) (c d : Nat → Nat) (t v : Nat) (h0 : d 0 ≤ 24) (h1 : d 1 ≤ 40) (ht : t < 40) : CV l (dC, dI) (tyL cI cZ cR cG) yX0_copyWithFault wsX0_copyWithFault rm_X0_copyWithFault [.ref (cd 0), .ref (ce 0), .int (nI t), .int (nI v)] ((cF cI cd (nI (c 0)) (msk (inp c)) (msk (sto c)) (msk (m0 c)) (msk (m1 c)) (nI (c 1)) (szA c) (pA c 50) (pA c 90) (pA c 130) (pA c 170) (pA c 210) (pA c 250)) ++ (cF cI ce (nI (d 0)) (msk (inp d)) (msk (sto d)) (msk (m0 d)) (msk (m1 d)) (nI (d 1)) (szA d) (pA d 50) (pA d 90) (pA d 130) (pA d 170) (pA d 210) (pA d 250))) (S := Unit) (fun _ => True) (fun _ => cW cI cd (up1 (cpy d c) (250 + t) v) ++ cW cI ce d) := by
  refine CV.of (cc := cX0_copyWithFault) (maxL := 4) (lv := [(0, .ref (cd 0)), (1, .ref (ce 0)), (2, .int (nI t)), (3, .int (nI v))]) (by decide) rfl (Nat.le_of_ble_eq_true rfl) rfl ?_
  intro p e s m ar below meth kc A Qz ls hx hb hml hown hts hnm hA hS hP hK hD hl ret
  refine lv_aload_n hx hb dX0_copyWithFault_0 rfl (lv_at hl 0 rfl) ?_
  refine lv_aload_n hx hb dX0_copyWithFault_1 rfl (lv_at hl 1 rfl) ?_
  refine CV.callV (As := [.ref (ce 0)]) (rest := []) (w3 := (fun _ => (cF cI cd (nI ((cpy d c) 0)) (msk (inp (cpy d c))) (msk (sto (cpy d c))) (msk (m0 (cpy d c))) (msk (m1 (cpy d c))) (nI ((cpy d c) 1)) (szA (cpy d c)) (pA (cpy d c) 50) (pA (cpy d c) 90) (pA (cpy d c) 130) (pA (cpy d c) 170) (pA (cpy d c) 210) (pA (cpy d c) 250)) ++ (cF cI ce (nI (d 0)) (msk (inp d)) (msk (sto d)) (msk (m0 d)) (msk (m1 d)) (nI (d 1)) (szA d) (pA d 50) (pA d 90) (pA d 130) (pA d 170) (pA d 210) (pA d 250)))) (c_X0_copyFrom l dC dI cI cZ cR cG cd ce c d (by omega) (by omega)) ⟨hx, hb, hml, hown, hts⟩ (cwV 1 hts gX0_copyWithFault_X0_copyFrom rfl rfl rfl (by decide +kernel) ⟨Nat.le_of_ble_eq_true rfl, Nat.le_of_ble_eq_true rfl⟩) rfl hl.1 (Nat.le_of_ble_eq_true rfl) dX0_copyWithFault_2 ⟨Nat.le_of_ble_eq_true rfl, Nat.le_of_ble_eq_true rfl⟩ hA hS hP hK hD [0, 1, 2, 3, 4, 5, 6, 7, 8, 9, 10, 11, 12, 13, 14, 15] [] rfl rfl (by decide) (by decide) (by decide) 0 0 rfl rfl [0, 1, 2, 3, 4, 5, 6, 7, 8, 9, 10, 11, 12, 13, 14, 15] (by decide) (fun _ => rfl) rfl (fun _ H locs hp_1 hP hD hS => ?_)
  refine lv_aload_n hx hb dX0_copyWithFault_5 rfl (lv_at hl 0 rfl) ?_
  refine va_get (D := (dC, dI)) (ci := 0) (v := .ref (cd 7)) (C := RX0) (T := TX0) (N := 13) hx hb hts (fun _ h9 => List.mem_cons_of_mem _ (List.mem_append_right _ h9)) hown hK hP 0 rfl rfl 12 (by decide) (hts (.fieldLink RX0 30 "SwitchLevelSimulator$Circuit" "faults" "[I") (List.mem_of_getElem? (i := 1) rfl)) (fun _ h9 => h9) rfl dX0_copyWithFault_6 ?_
  refine lv_iload_n hx hb dX0_copyWithFault_9 rfl (lv_at hl 2 rfl) ?_
  refine lv_iload_n hx hb dX0_copyWithFault_10 rfl (lv_at hl 3 rfl) ?_
  refine my_iastN (i := t) (x := v) (g := (pA (cpy d c) 250)) (ws' := (cF cI cd (nI ((cpy d c) 0)) (msk (inp (cpy d c))) (msk (sto (cpy d c))) (msk (m0 (cpy d c))) (msk (m1 (cpy d c))) (nI ((cpy d c) 1)) (szA (cpy d c)) (pA (cpy d c) 50) (pA (cpy d c) 90) (pA (cpy d c) 130) (pA (cpy d c) 170) (pA (cpy d c) 210) (up1 (pA (cpy d c) 250) t v)) ++ (cF cI ce (nI (d 0)) (msk (inp d)) (msk (sto d)) (msk (m0 d)) (msk (m1 d)) (nI (d 1)) (szA d) (pA d 50) (pA d 90) (pA d 130) (pA d 170) (pA d 210) (pA d 250))) hx hb hK hP hD hS 7 0 rfl rfl (by omega) (by decide) dX0_copyWithFault_11 rfl (fun H locs hP hD hS => ?_)
  exact ret () _ _ _ _ _ _ _ (trivial) (by show cW cI cd (up1 (cpy d c) (250 + t) v) ++ cW cI ce d = _; rw [cW_flt (by rw [cpy_lo (by omega)]; exact h0) ht]) hP hD hS (Nat.le_of_ble_eq_true rfl) (Nat.le_of_ble_eq_true rfl) dX0_copyWithFault_12
