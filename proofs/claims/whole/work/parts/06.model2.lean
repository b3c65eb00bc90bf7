abbrev rm_X3_addInput : Room := { frames := 2, cells := 0, slots := 0, locals := 42 }
set_option maxHeartbeats 4000000 in
set_option maxRecDepth 100000 in
theorem c_X3_addInput (l : Launch) (dC : Nat → ClassId) (dI : Nat → Nat → Nat) (cI cZ cR cG : ClassId) (ad : Nat → Nat) (g : Nat → Nat) (ok : okG g) : CI l (dC, dI) (tyL cI cZ cR cG) yX3_addInput wsX3_addInput rm_X3_addInput [.ref (ad 0)] (sW cI ad g) (S := Unit) (fun _ => aAddI g) (fun _ => True) (fun _ => sW cI ad (gAddI g)) := by
  refine CI.of (cc := cX3_addInput) (maxL := 1) (rt := .int) (lv := [(0, .ref (ad 0))]) (by decide) rfl (Nat.le_of_ble_eq_true rfl) rfl (Or.inl rfl) ?_
  intro p e s m ar below meth c A Qz ls hx hb hml hown hts hnm hA hS hP hK hD hl ret
  have h0 := ok.1
  have h1 := ok.2.1
  refine lv_aload_n hx hb dX3_addInput_0 rfl (lv_at hl 0 rfl) ?_
  refine CI.callV (As := []) (rest := []) (w3 := (fun _ => sW cI ad g)) (c_X3_nodes l dC dI cI cZ cR cG ad g) ⟨hx, hb, hml, hown, hts⟩ (cwV 0 hts gX3_addInput_X3_nodes rfl rfl rfl (by decide +kernel) ⟨Nat.le_of_ble_eq_true rfl, Nat.le_of_ble_eq_true rfl⟩) rfl hl.1 (Nat.le_of_ble_eq_true rfl) dX3_addInput_1 ⟨Nat.le_of_ble_eq_true rfl, Nat.le_of_ble_eq_true rfl⟩ hA hS hP hK hD [0, 1] [] rfl rfl (by decide) (by decide) (by decide) 0 3 rfl rfl [0, 1] (by decide) (fun _ => rfl) rfl (fun _ H locs hp_1 hP hD hS => ?_)
  refine lv_bipush (v := nI 24) hx hb dX3_addInput_4 (by decide) ?_
  refine my_icmp_ne (x := (g 0)) (y := 24) (tgt := 14) hx hb (by omega) (by omega) dX3_addInput_6 (by decide) (fun c_2 => ?_) (fun c_2 => ?_)
  · refine lv_aload_n hx hb dX3_addInput_14 rfl (lv_at hl 0 rfl) ?_
    refine lv_iconst (v := nI 0) hx hb dX3_addInput_15 (by decide) ?_
    refine CI.callV (As := [.int (nI 0)]) (rest := []) (w3 := (fun _ => sW cI ad (addN g 0))) (c_X3_addNode l dC dI cI cZ cR cG ad g 0 (by omega)) ⟨hx, hb, hml, hown, hts⟩ (cwV 1 hts gX3_addInput_X3_addNode rfl rfl rfl (by decide +kernel) ⟨Nat.le_of_ble_eq_true rfl, Nat.le_of_ble_eq_true rfl⟩) rfl hl.1 (Nat.le_of_ble_eq_true rfl) dX3_addInput_16 ⟨Nat.le_of_ble_eq_true rfl, Nat.le_of_ble_eq_true rfl⟩ hA hS hP hK hD [0, 1] [] rfl rfl (by decide) (by decide) (by decide) 0 3 rfl rfl [0, 1] (by decide) (fun _ => rfl) rfl (fun _ H locs hp_3 hP hD hS => ?_)
    exact ret () _ _ _ _ _ _ _ _ (by show _ = aAddI g; unfold aAddI; rw [if_neg c_2]) (trivial) (by show sW cI ad (gAddI g) = _; unfold gAddI; rw [if_neg c_2]) hP hD hS (Nat.le_of_ble_eq_true rfl) (Nat.le_of_ble_eq_true rfl) dX3_addInput_19
  · refine lv_bipush (v := -6) hx hb dX3_addInput_9 (by decide) ?_
    refine lv_goto (tgt := 19) hx hb dX3_addInput_11 (by decide) ?_
    exact ret () _ _ _ _ _ _ _ _ (by show _ = aAddI g; unfold aAddI; rw [if_pos c_2]) (trivial) (by show sW cI ad (gAddI g) = _; unfold gAddI; rw [if_pos c_2]) hP hD hS (Nat.le_of_ble_eq_true rfl) (Nat.le_of_ble_eq_true rfl) dX3_addInput_19
abbrev rm_X3_addStorage : Room := { frames := 2, cells := 0, slots := 0, locals := 42 }
set_option maxHeartbeats 4000000 in
set_option maxRecDepth 100000 in
theorem c_X3_addStorage (l : Launch) (dC : Nat → ClassId) (dI : Nat → Nat → Nat) (cI cZ cR cG : ClassId) (ad : Nat → Nat) (g : Nat → Nat) (x : Int32) (ok : okG g) : CI l (dC, dI) (tyL cI cZ cR cG) yX3_addStorage wsX3_addStorage rm_X3_addStorage [.ref (ad 0), .int x] (sW cI ad g) (S := Unit) (fun _ => aAddS g x) (fun _ => True) (fun _ => sW cI ad (gAddS g x)) := by
  refine CI.of (cc := cX3_addStorage) (maxL := 2) (rt := .int) (lv := [(0, .ref (ad 0)), (1, .int x)]) (by decide) rfl (Nat.le_of_ble_eq_true rfl) rfl (Or.inl rfl) ?_
  intro p e s m ar below meth c A Qz ls hx hb hml hown hts hnm hA hS hP hK hD hl ret
  have h0 := ok.1
  have h1 := ok.2.1
  refine lv_iload_n hx hb dX3_addStorage_0 rfl (lv_at hl 1 rfl) ?_
  refine lv_iconst (v := nI 1) hx hb dX3_addStorage_1 (by decide) ?_
  refine lv_iconst (v := nI 3) hx hb dX3_addStorage_2 (by decide) ?_
  refine CI.callS (As := [.int x, .int (nI 1), .int (nI 3)]) (rest := []) (w3 := (fun _ => sW cI ad g)) (c_X3_inR l dC dI cI cZ cR cG x 1 3 (by decide) (by decide)) ⟨hx, hb, hml, hown, hts⟩ (va_cwS 3 hts gX3_addStorage_X3_in rfl rfl rfl (by decide +kernel) ⟨Nat.le_of_ble_eq_true rfl, Nat.le_of_ble_eq_true rfl⟩) rfl hl.1 (Nat.le_of_ble_eq_true rfl) dX3_addStorage_3 ⟨Nat.le_of_ble_eq_true rfl, Nat.le_of_ble_eq_true rfl⟩ hA hS hP hK hD [] [0, 1] rfl rfl (by decide) (by decide) (by decide) [0, 1] (by decide) (fun _ => rfl) rfl (fun _ H locs hp_1 hP hD hS => ?_)
  refine my_if_neB (x := (inR x 1 3)) (tgt := 12) hx hb dX3_addStorage_6 (by decide) (fun c_2 => ?_) (fun c_2 => ?_)
  · refine lv_aload_n hx hb dX3_addStorage_12 rfl (lv_at hl 0 rfl) ?_
    refine CI.callV (As := []) (rest := []) (w3 := (fun _ => sW cI ad g)) (c_X3_nodes l dC dI cI cZ cR cG ad g) ⟨hx, hb, hml, hown, hts⟩ (cwV 0 hts gX3_addStorage_X3_nodes rfl rfl rfl (by decide +kernel) ⟨Nat.le_of_ble_eq_true rfl, Nat.le_of_ble_eq_true rfl⟩) rfl hl.1 (Nat.le_of_ble_eq_true rfl) dX3_addStorage_13 ⟨Nat.le_of_ble_eq_true rfl, Nat.le_of_ble_eq_true rfl⟩ hA hS hP hK hD [0, 1] [] rfl rfl (by decide) (by decide) (by decide) 0 3 rfl rfl [0, 1] (by decide) (fun _ => rfl) rfl (fun _ H locs hp_3 hP hD hS => ?_)
    refine lv_bipush (v := nI 24) hx hb dX3_addStorage_16 (by decide) ?_
    refine my_icmp_ne (x := (g 0)) (y := 24) (tgt := 26) hx hb (by omega) (by omega) dX3_addStorage_18 (by decide) (fun c_4 => ?_) (fun c_4 => ?_)
    · obtain ⟨j, hj1, hj2, hj3, rfl, hjc⟩ := inR_at c_2
      refine lv_aload_n hx hb dX3_addStorage_26 rfl (lv_at hl 0 rfl) ?_
      refine lv_iload_n hx hb dX3_addStorage_27 rfl (lv_at hl 1 rfl) ?_
      refine CI.callV (As := [.int (nI j)]) (rest := []) (w3 := (fun _ => sW cI ad (addN g j))) (c_X3_addNode l dC dI cI cZ cR cG ad g j (by omega)) ⟨hx, hb, hml, hown, hts⟩ (cwV 1 hts gX3_addStorage_X3_addNode rfl rfl rfl (by decide +kernel) ⟨Nat.le_of_ble_eq_true rfl, Nat.le_of_ble_eq_true rfl⟩) rfl hl.1 (Nat.le_of_ble_eq_true rfl) dX3_addStorage_28 ⟨Nat.le_of_ble_eq_true rfl, Nat.le_of_ble_eq_true rfl⟩ hA hS hP hK hD [0, 1] [] rfl rfl (by decide) (by decide) (by decide) 0 3 rfl rfl [0, 1] (by decide) (fun _ => rfl) rfl (fun _ H locs hp_5 hP hD hS => ?_)
      exact ret () _ _ _ _ _ _ _ _ (by show _ = aAddS g (nI j); unfold aAddS; rw [if_pos c_2, if_neg c_4]) (trivial) (by show sW cI ad (gAddS g (nI j)) = _; unfold gAddS; rw [if_pos c_2, if_neg c_4, show nx (nI j) = j from hjc]) hP hD hS (Nat.le_of_ble_eq_true rfl) (Nat.le_of_ble_eq_true rfl) dX3_addStorage_31
    · refine lv_bipush (v := -6) hx hb dX3_addStorage_21 (by decide) ?_
      refine lv_goto (tgt := 31) hx hb dX3_addStorage_23 (by decide) ?_
      exact ret () _ _ _ _ _ _ _ _ (by show _ = aAddS g x; unfold aAddS; rw [if_pos c_2, if_pos c_4]) (trivial) (by show sW cI ad (gAddS g x) = _; unfold gAddS; rw [if_pos c_2, if_pos c_4]) hP hD hS (Nat.le_of_ble_eq_true rfl) (Nat.le_of_ble_eq_true rfl) dX3_addStorage_31
  · refine lv_bipush (v := -3) hx hb dX3_addStorage_9 (by decide) ?_
    exact ret () _ _ _ _ _ _ _ _ (by show _ = aAddS g x; unfold aAddS; rw [if_neg (by rw [c_2]; decide)]) (trivial) (by show sW cI ad (gAddS g x) = _; unfold gAddS; rw [if_neg (by rw [c_2]; decide)]) hP hD hS (Nat.le_of_ble_eq_true rfl) (Nat.le_of_ble_eq_true rfl) dX3_addStorage_11
abbrev rm_X3_addTransistor : Room := { frames := 2, cells := 0, slots := 0, locals := 43 }
set_option maxHeartbeats 4000000 in
set_option maxRecDepth 100000 in
theorem c_X3_addTransistor (l : Launch) (dC : Nat → ClassId) (dI : Nat → Nat → Nat) (cI cZ cR cG : ClassId) (ad : Nat → Nat) (g : Nat → Nat) (ty sg ga on ot : Int32) (ok : okG g) : CI l (dC, dI) (tyL cI cZ cR cG) yX3_addTransistor wsX3_addTransistor rm_X3_addTransistor [.ref (ad 0), .int ty, .int sg, .int ga, .int on, .int ot] (sW cI ad g) (S := Unit) (fun _ => aAddT g ty sg ga on ot) (fun _ => True) (fun _ => sW cI ad (gAddT g ty sg ga on ot)) := by
  refine CI.of (cc := cX3_addTransistor) (maxL := 7) (rt := .int) (lv := [(0, .ref (ad 0)), (1, .int ty), (2, .int sg), (3, .int ga), (4, .int on), (5, .int ot)]) (by decide) rfl (Nat.le_of_ble_eq_true rfl) rfl (Or.inl rfl) ?_
  intro p e s m ar below meth c A Qz ls hx hb hml hown hts hnm hA hS hP hK hD hl ret
  have h0 := ok.1
  have h1 := ok.2.1
  refine lv_aload_n hx hb dX3_addTransistor_0 rfl (lv_at hl 0 rfl) ?_
  refine lv_iload_n hx hb dX3_addTransistor_1 rfl (lv_at hl 3 rfl) ?_
  refine CI.callV (As := [.int ga]) (rest := []) (w3 := (fun _ => sW cI ad g)) (c_X3_isNode l dC dI cI cZ cR cG ad g ga (ok.1)) ⟨hx, hb, hml, hown, hts⟩ (cwV 1 hts gX3_addTransistor_X3_isNode rfl rfl rfl (by decide +kernel) ⟨Nat.le_of_ble_eq_true rfl, Nat.le_of_ble_eq_true rfl⟩) rfl hl.1 (Nat.le_of_ble_eq_true rfl) dX3_addTransistor_2 ⟨Nat.le_of_ble_eq_true rfl, Nat.le_of_ble_eq_true rfl⟩ hA hS hP hK hD [0, 1] [] rfl rfl (by decide) (by decide) (by decide) 0 3 rfl rfl [0, 1] (by decide) (fun _ => rfl) rfl (fun _ H locs hp_1 hP hD hS => ?_)
  refine my_if_eqB (x := (inN ga (g 0))) (tgt := 26) hx hb dX3_addTransistor_5 (by decide) (fun c_2 => ?_) (fun c_2 => ?_)
  · refine lv_iconst (v := -1) hx hb dX3_addTransistor_26 (by decide) ?_
    exact ret () _ _ _ _ _ _ _ _ (by show _ = aAddT g ty sg ga on ot; unfold aAddT okT; rw [c_2]; rfl) (trivial) (by show sW cI ad (gAddT g ty sg ga on ot) = _; unfold gAddT okT; rw [c_2]; rfl) hP hD hS (Nat.le_of_ble_eq_true rfl) (Nat.le_of_ble_eq_true rfl) dX3_addTransistor_27
  · refine lv_aload_n hx hb dX3_addTransistor_8 rfl (lv_at hl 0 rfl) ?_
    refine lv_iload hx hb dX3_addTransistor_9 (lv_at hl 4 rfl) ?_
    refine CI.callV (As := [.int on]) (rest := []) (w3 := (fun _ => sW cI ad g)) (c_X3_isNode l dC dI cI cZ cR cG ad g on (ok.1)) ⟨hx, hb, hml, hown, hts⟩ (cwV 1 hts gX3_addTransistor_X3_isNode rfl rfl rfl (by decide +kernel) ⟨Nat.le_of_ble_eq_true rfl, Nat.le_of_ble_eq_true rfl⟩) rfl hl.1 (Nat.le_of_ble_eq_true rfl) dX3_addTransistor_11 ⟨Nat.le_of_ble_eq_true rfl, Nat.le_of_ble_eq_true rfl⟩ hA hS hP hK hD [0, 1] [] rfl rfl (by decide) (by decide) (by decide) 0 3 rfl rfl [0, 1] (by decide) (fun _ => rfl) rfl (fun _ H locs hp_3 hP hD hS => ?_)
    refine my_if_eqB (x := (inN on (g 0))) (tgt := 26) hx hb dX3_addTransistor_14 (by decide) (fun c_4 => ?_) (fun c_4 => ?_)
    · refine lv_iconst (v := -1) hx hb dX3_addTransistor_26 (by decide) ?_
      exact ret () _ _ _ _ _ _ _ _ (by show _ = aAddT g ty sg ga on ot; unfold aAddT okT; rw [c_2, c_4]; rfl) (trivial) (by show sW cI ad (gAddT g ty sg ga on ot) = _; unfold gAddT okT; rw [c_2, c_4]; rfl) hP hD hS (Nat.le_of_ble_eq_true rfl) (Nat.le_of_ble_eq_true rfl) dX3_addTransistor_27
    · refine lv_aload_n hx hb dX3_addTransistor_17 rfl (lv_at hl 0 rfl) ?_
      refine lv_iload hx hb dX3_addTransistor_18 (lv_at hl 5 rfl) ?_
      refine CI.callV (As := [.int ot]) (rest := []) (w3 := (fun _ => sW cI ad g)) (c_X3_isNode l dC dI cI cZ cR cG ad g ot (ok.1)) ⟨hx, hb, hml, hown, hts⟩ (cwV 1 hts gX3_addTransistor_X3_isNode rfl rfl rfl (by decide +kernel) ⟨Nat.le_of_ble_eq_true rfl, Nat.le_of_ble_eq_true rfl⟩) rfl hl.1 (Nat.le_of_ble_eq_true rfl) dX3_addTransistor_20 ⟨Nat.le_of_ble_eq_true rfl, Nat.le_of_ble_eq_true rfl⟩ hA hS hP hK hD [0, 1] [] rfl rfl (by decide) (by decide) (by decide) 0 3 rfl rfl [0, 1] (by decide) (fun _ => rfl) rfl (fun _ H locs hp_5 hP hD hS => ?_)
      refine my_if_neB (x := (inN ot (g 0))) (tgt := 28) hx hb dX3_addTransistor_23 (by decide) (fun c_6 => ?_) (fun c_6 => ?_)
      · refine lv_iload hx hb dX3_addTransistor_28 (lv_at hl 4 rfl) ?_
        refine lv_iload hx hb dX3_addTransistor_30 (lv_at hl 5 rfl) ?_
        refine my_icmp_neI (x := on) (y := ot) (tgt := 38) hx hb dX3_addTransistor_32 (by decide) (fun c_7 => ?_) (fun c_7 => ?_)
        · refine lv_iload_n hx hb dX3_addTransistor_38 rfl (lv_at hl 1 rfl) ?_
          refine lv_iconst (v := nI 0) hx hb dX3_addTransistor_39 (by decide) ?_
          refine lv_iconst (v := nI 2) hx hb dX3_addTransistor_40 (by decide) ?_
          refine CI.callS (As := [.int ty, .int (nI 0), .int (nI 2)]) (rest := []) (w3 := (fun _ => sW cI ad g)) (c_X3_inR l dC dI cI cZ cR cG ty 0 2 (by decide) (by decide)) ⟨hx, hb, hml, hown, hts⟩ (va_cwS 3 hts gX3_addTransistor_X3_in rfl rfl rfl (by decide +kernel) ⟨Nat.le_of_ble_eq_true rfl, Nat.le_of_ble_eq_true rfl⟩) rfl hl.1 (Nat.le_of_ble_eq_true rfl) dX3_addTransistor_41 ⟨Nat.le_of_ble_eq_true rfl, Nat.le_of_ble_eq_true rfl⟩ hA hS hP hK hD [] [0, 1] rfl rfl (by decide) (by decide) (by decide) [0, 1] (by decide) (fun _ => rfl) rfl (fun _ H locs hp_8 hP hD hS => ?_)
          refine my_if_eqB (x := (inR ty 0 2)) (tgt := 56) hx hb dX3_addTransistor_44 (by decide) (fun c_9 => ?_) (fun c_9 => ?_)
          · refine lv_bipush (v := -3) hx hb dX3_addTransistor_56 (by decide) ?_
            exact ret () _ _ _ _ _ _ _ _ (by show _ = aAddT g ty sg ga on ot; unfold aAddT okT; rw [if_pos (by rw [c_2, c_4, c_6]; rfl), if_neg c_7, if_neg (by rw [c_9]; simp)]) (trivial) (by show sW cI ad (gAddT g ty sg ga on ot) = _; unfold gAddT okT; rw [if_pos (by rw [c_2, c_4, c_6]; rfl), if_neg c_7, if_neg (by rw [c_9]; simp)]) hP hD hS (Nat.le_of_ble_eq_true rfl) (Nat.le_of_ble_eq_true rfl) dX3_addTransistor_58
          · refine lv_iload_n hx hb dX3_addTransistor_47 rfl (lv_at hl 2 rfl) ?_
            refine lv_iconst (v := nI 1) hx hb dX3_addTransistor_48 (by decide) ?_
            refine lv_iconst (v := nI 3) hx hb dX3_addTransistor_49 (by decide) ?_
            refine CI.callS (As := [.int sg, .int (nI 1), .int (nI 3)]) (rest := []) (w3 := (fun _ => sW cI ad g)) (c_X3_inR l dC dI cI cZ cR cG sg 1 3 (by decide) (by decide)) ⟨hx, hb, hml, hown, hts⟩ (va_cwS 3 hts gX3_addTransistor_X3_in rfl rfl rfl (by decide +kernel) ⟨Nat.le_of_ble_eq_true rfl, Nat.le_of_ble_eq_true rfl⟩) rfl hl.1 (Nat.le_of_ble_eq_true rfl) dX3_addTransistor_50 ⟨Nat.le_of_ble_eq_true rfl, Nat.le_of_ble_eq_true rfl⟩ hA hS hP hK hD [] [0, 1] rfl rfl (by decide) (by decide) (by decide) [0, 1] (by decide) (fun _ => rfl) rfl (fun _ H locs hp_10 hP hD hS => ?_)
            refine my_if_neB (x := (inR sg 1 3)) (tgt := 59) hx hb dX3_addTransistor_53 (by decide) (fun c_11 => ?_) (fun c_11 => ?_)
            · refine lv_aload_n hx hb dX3_addTransistor_59 rfl (lv_at hl 0 rfl) ?_
              refine CI.callV (As := []) (rest := []) (w3 := (fun _ => sW cI ad g)) (c_X3_many l dC dI cI cZ cR cG ad g) ⟨hx, hb, hml, hown, hts⟩ (cwV 0 hts gX3_addTransistor_X3_many rfl rfl rfl (by decide +kernel) ⟨Nat.le_of_ble_eq_true rfl, Nat.le_of_ble_eq_true rfl⟩) rfl hl.1 (Nat.le_of_ble_eq_true rfl) dX3_addTransistor_60 ⟨Nat.le_of_ble_eq_true rfl, Nat.le_of_ble_eq_true rfl⟩ hA hS hP hK hD [0, 1] [] rfl rfl (by decide) (by decide) (by decide) 0 3 rfl rfl [0, 1] (by decide) (fun _ => rfl) rfl (fun _ H locs hp_12 hP hD hS => ?_)
              refine lv_bipush (v := nI 40) hx hb dX3_addTransistor_63 (by decide) ?_
              refine my_icmp_ne (x := (g 1)) (y := 40) (tgt := 71) hx hb (by omega) (by omega) dX3_addTransistor_65 (by decide) (fun c_13 => ?_) (fun c_13 => ?_)
              · obtain ⟨jg, hjg1, hjg2, rfl, hjgc⟩ := inN_at c_2
                obtain ⟨jo, hjo1, hjo2, rfl, hjoc⟩ := inN_at c_4
                obtain ⟨jt, hjt1, hjt2, rfl, hjtc⟩ := inN_at c_6
                obtain ⟨jy, hjy1, hjy2, hjy3, rfl, hjyc⟩ := inR_at c_9
                obtain ⟨js, hjs1, hjs2, hjs3, rfl, hjsc⟩ := inR_at c_11
                refine lv_aload_n hx hb dX3_addTransistor_71 rfl (lv_at hl 0 rfl) ?_
                refine CI.callV (As := []) (rest := []) (w3 := (fun _ => sW cI ad g)) (c_X3_many l dC dI cI cZ cR cG ad g) ⟨hx, hb, hml, hown, hts⟩ (cwV 0 hts gX3_addTransistor_X3_many rfl rfl rfl (by decide +kernel) ⟨Nat.le_of_ble_eq_true rfl, Nat.le_of_ble_eq_true rfl⟩) rfl hl.1 (Nat.le_of_ble_eq_true rfl) dX3_addTransistor_72 ⟨Nat.le_of_ble_eq_true rfl, Nat.le_of_ble_eq_true rfl⟩ hA hS hP hK hD [0, 1] [] rfl rfl (by decide) (by decide) (by decide) 0 3 rfl rfl [0, 1] (by decide) (fun _ => rfl) rfl (fun _ H locs hp_14 hP hD hS => ?_)
                refine lv_istore (lv' := [(6, .int (nI (g 1))), (0, .ref (ad 0)), (1, .int (nI jy)), (2, .int (nI js)), (3, .int (nI jg)), (4, .int (nI jo)), (5, .int (nI jt))]) hx hb dX3_addTransistor_75 hl (by decide) rfl (fun ls hl => ?_)
                refine lv_aload_n hx hb dX3_addTransistor_77 rfl (lv_at hl 1 rfl) ?_
                refine va_get (D := (dC, dI)) (ci := 3) (v := .ref (ad 1)) (C := RX3) (T := TX3) (N := 8) hx hb hts (fun _ h9 => List.mem_cons_of_mem _ (List.mem_append_right _ h9)) hown hK hP 0 rfl rfl 0 (by decide) (hts (.fieldLink RX3 7 "SwitchLevelSimulatorModel" "state" "[I") (List.mem_of_getElem? (i := 1) rfl)) (fun _ h9 => h9) rfl dX3_addTransistor_78 ?_
                refine lv_bipush (v := nI 50) hx hb dX3_addTransistor_81 (by decide) ?_
                refine lv_iload hx hb dX3_addTransistor_83 (lv_at hl 0 rfl) ?_
                refine my_iadd (x := 50) (y := (g 1)) hx hb dX3_addTransistor_85 ?_
                refine lv_iload_n hx hb dX3_addTransistor_86 rfl (lv_at hl 2 rfl) ?_
                refine my_iastN (i := (50 + g 1)) (x := jy) (g := g) (ws' := sW cI ad (up1 g (50 + g 1) jy)) hx hb hK hP hD hS 1 0 rfl rfl (by omega) (by decide) dX3_addTransistor_87 rfl (fun H locs hP hD hS => ?_)
                refine lv_aload_n hx hb dX3_addTransistor_88 rfl (lv_at hl 1 rfl) ?_
                refine va_get (D := (dC, dI)) (ci := 3) (v := .ref (ad 1)) (C := RX3) (T := TX3) (N := 8) hx hb hts (fun _ h9 => List.mem_cons_of_mem _ (List.mem_append_right _ h9)) hown hK hP 0 rfl rfl 0 (by decide) (hts (.fieldLink RX3 7 "SwitchLevelSimulatorModel" "state" "[I") (List.mem_of_getElem? (i := 1) rfl)) (fun _ h9 => h9) rfl dX3_addTransistor_89 ?_
                refine lv_bipush (v := nI 90) hx hb dX3_addTransistor_92 (by decide) ?_
                refine lv_iload hx hb dX3_addTransistor_94 (lv_at hl 0 rfl) ?_
                refine my_iadd (x := 90) (y := (g 1)) hx hb dX3_addTransistor_96 ?_
                refine lv_iload_n hx hb dX3_addTransistor_97 rfl (lv_at hl 3 rfl) ?_
                refine my_iastN (i := (90 + g 1)) (x := js) (g := (up1 g (50 + g 1) jy)) (ws' := sW cI ad (up1 (up1 g (50 + g 1) jy) (90 + g 1) js)) hx hb hK hP hD hS 1 0 rfl rfl (by omega) (by decide) dX3_addTransistor_98 rfl (fun H locs hP hD hS => ?_)
                refine lv_aload_n hx hb dX3_addTransistor_99 rfl (lv_at hl 1 rfl) ?_
                refine va_get (D := (dC, dI)) (ci := 3) (v := .ref (ad 1)) (C := RX3) (T := TX3) (N := 8) hx hb hts (fun _ h9 => List.mem_cons_of_mem _ (List.mem_append_right _ h9)) hown hK hP 0 rfl rfl 0 (by decide) (hts (.fieldLink RX3 7 "SwitchLevelSimulatorModel" "state" "[I") (List.mem_of_getElem? (i := 1) rfl)) (fun _ h9 => h9) rfl dX3_addTransistor_100 ?_
                refine lv_sipush (v := nI 130) hx hb dX3_addTransistor_103 (by decide) ?_
                refine lv_iload hx hb dX3_addTransistor_106 (lv_at hl 0 rfl) ?_
                refine my_iadd (x := 130) (y := (g 1)) hx hb dX3_addTransistor_108 ?_
                refine lv_iload_n hx hb dX3_addTransistor_109 rfl (lv_at hl 4 rfl) ?_
                refine my_iastN (i := (130 + g 1)) (x := jg) (g := (up1 (up1 g (50 + g 1) jy) (90 + g 1) js)) (ws' := sW cI ad (up1 (up1 (up1 g (50 + g 1) jy) (90 + g 1) js) (130 + g 1) jg)) hx hb hK hP hD hS 1 0 rfl rfl (by omega) (by decide) dX3_addTransistor_110 rfl (fun H locs hP hD hS => ?_)
                refine lv_aload_n hx hb dX3_addTransistor_111 rfl (lv_at hl 1 rfl) ?_
                refine va_get (D := (dC, dI)) (ci := 3) (v := .ref (ad 1)) (C := RX3) (T := TX3) (N := 8) hx hb hts (fun _ h9 => List.mem_cons_of_mem _ (List.mem_append_right _ h9)) hown hK hP 0 rfl rfl 0 (by decide) (hts (.fieldLink RX3 7 "SwitchLevelSimulatorModel" "state" "[I") (List.mem_of_getElem? (i := 1) rfl)) (fun _ h9 => h9) rfl dX3_addTransistor_112 ?_
                refine lv_sipush (v := nI 170) hx hb dX3_addTransistor_115 (by decide) ?_
                refine lv_iload hx hb dX3_addTransistor_118 (lv_at hl 0 rfl) ?_
                refine my_iadd (x := 170) (y := (g 1)) hx hb dX3_addTransistor_120 ?_
                refine lv_iload hx hb dX3_addTransistor_121 (lv_at hl 5 rfl) ?_
                refine my_iastN (i := (170 + g 1)) (x := jo) (g := (up1 (up1 (up1 g (50 + g 1) jy) (90 + g 1) js) (130 + g 1) jg)) (ws' := sW cI ad (up1 (up1 (up1 (up1 g (50 + g 1) jy) (90 + g 1) js) (130 + g 1) jg) (170 + g 1) jo)) hx hb hK hP hD hS 1 0 rfl rfl (by omega) (by decide) dX3_addTransistor_123 rfl (fun H locs hP hD hS => ?_)
                refine lv_aload_n hx hb dX3_addTransistor_124 rfl (lv_at hl 1 rfl) ?_
                refine va_get (D := (dC, dI)) (ci := 3) (v := .ref (ad 1)) (C := RX3) (T := TX3) (N := 8) hx hb hts (fun _ h9 => List.mem_cons_of_mem _ (List.mem_append_right _ h9)) hown hK hP 0 rfl rfl 0 (by decide) (hts (.fieldLink RX3 7 "SwitchLevelSimulatorModel" "state" "[I") (List.mem_of_getElem? (i := 1) rfl)) (fun _ h9 => h9) rfl dX3_addTransistor_125 ?_
                refine lv_sipush (v := nI 210) hx hb dX3_addTransistor_128 (by decide) ?_
                refine lv_iload hx hb dX3_addTransistor_131 (lv_at hl 0 rfl) ?_
                refine my_iadd (x := 210) (y := (g 1)) hx hb dX3_addTransistor_133 ?_
                refine lv_iload hx hb dX3_addTransistor_134 (lv_at hl 6 rfl) ?_
                refine my_iastN (i := (210 + g 1)) (x := jt) (g := (up1 (up1 (up1 (up1 g (50 + g 1) jy) (90 + g 1) js) (130 + g 1) jg) (170 + g 1) jo)) (ws' := sW cI ad (up1 (up1 (up1 (up1 (up1 g (50 + g 1) jy) (90 + g 1) js) (130 + g 1) jg) (170 + g 1) jo) (210 + g 1) jt)) hx hb hK hP hD hS 1 0 rfl rfl (by omega) (by decide) dX3_addTransistor_136 rfl (fun H locs hP hD hS => ?_)
                refine lv_aload_n hx hb dX3_addTransistor_137 rfl (lv_at hl 1 rfl) ?_
                refine va_get (D := (dC, dI)) (ci := 3) (v := .ref (ad 1)) (C := RX3) (T := TX3) (N := 8) hx hb hts (fun _ h9 => List.mem_cons_of_mem _ (List.mem_append_right _ h9)) hown hK hP 0 rfl rfl 0 (by decide) (hts (.fieldLink RX3 7 "SwitchLevelSimulatorModel" "state" "[I") (List.mem_of_getElem? (i := 1) rfl)) (fun _ h9 => h9) rfl dX3_addTransistor_138 ?_
                refine lv_sipush (v := nI 250) hx hb dX3_addTransistor_141 (by decide) ?_
                refine lv_iload hx hb dX3_addTransistor_144 (lv_at hl 0 rfl) ?_
                refine my_iadd (x := 250) (y := (g 1)) hx hb dX3_addTransistor_146 ?_
                refine lv_iconst (v := nI 0) hx hb dX3_addTransistor_147 (by decide) ?_
                refine my_iastN (i := (250 + g 1)) (x := 0) (g := (up1 (up1 (up1 (up1 (up1 g (50 + g 1) jy) (90 + g 1) js) (130 + g 1) jg) (170 + g 1) jo) (210 + g 1) jt)) (ws' := sW cI ad (up1 (up1 (up1 (up1 (up1 (up1 g (50 + g 1) jy) (90 + g 1) js) (130 + g 1) jg) (170 + g 1) jo) (210 + g 1) jt) (250 + g 1) 0)) hx hb hK hP hD hS 1 0 rfl rfl (by omega) (by decide) dX3_addTransistor_148 rfl (fun H locs hP hD hS => ?_)
                refine lv_aload_n hx hb dX3_addTransistor_149 rfl (lv_at hl 1 rfl) ?_
                refine va_get (D := (dC, dI)) (ci := 3) (v := .ref (ad 1)) (C := RX3) (T := TX3) (N := 8) hx hb hts (fun _ h9 => List.mem_cons_of_mem _ (List.mem_append_right _ h9)) hown hK hP 0 rfl rfl 0 (by decide) (hts (.fieldLink RX3 7 "SwitchLevelSimulatorModel" "state" "[I") (List.mem_of_getElem? (i := 1) rfl)) (fun _ h9 => h9) rfl dX3_addTransistor_150 ?_
                refine lv_iconst (v := nI 1) hx hb dX3_addTransistor_153 (by decide) ?_
                refine lv_dup2_11 hx hb dX3_addTransistor_154 rfl rfl ?_
                refine my_iald (i := 1) hx hb hK hP 1 0 rfl rfl (by omega) (by decide) dX3_addTransistor_155 ?_
                refine lv_iconst (v := nI 1) hx hb dX3_addTransistor_156 (by decide) ?_
                refine my_iadd (x := ((up1 (up1 (up1 (up1 (up1 (up1 g (50 + g 1) jy) (90 + g 1) js) (130 + g 1) jg) (170 + g 1) jo) (210 + g 1) jt) (250 + g 1) 0) 1)) (y := 1) hx hb dX3_addTransistor_157 ?_
                refine my_iastN (i := 1) (x := (((up1 (up1 (up1 (up1 (up1 (up1 g (50 + g 1) jy) (90 + g 1) js) (130 + g 1) jg) (170 + g 1) jo) (210 + g 1) jt) (250 + g 1) 0) 1) + 1)) (g := (up1 (up1 (up1 (up1 (up1 (up1 g (50 + g 1) jy) (90 + g 1) js) (130 + g 1) jg) (170 + g 1) jo) (210 + g 1) jt) (250 + g 1) 0)) (ws' := sW cI ad (up1 (up1 (up1 (up1 (up1 (up1 (up1 g (50 + g 1) jy) (90 + g 1) js) (130 + g 1) jg) (170 + g 1) jo) (210 + g 1) jt) (250 + g 1) 0) 1 (((up1 (up1 (up1 (up1 (up1 (up1 g (50 + g 1) jy) (90 + g 1) js) (130 + g 1) jg) (170 + g 1) jo) (210 + g 1) jt) (250 + g 1) 0) 1) + 1))) hx hb hK hP hD hS 1 0 rfl rfl (by omega) (by decide) dX3_addTransistor_158 rfl (fun H locs hP hD hS => ?_)
                refine lv_iload hx hb dX3_addTransistor_159 (lv_at hl 0 rfl) ?_
                have hone : up1 (up1 (up1 (up1 (up1 (up1 g (50 + g 1) jy) (90 + g 1) js) (130 + g 1) jg) (170 + g 1) jo) (210 + g 1) jt) (250 + g 1) 0 1 = g 1 := by rw [up1_n (by omega), up1_n (by omega), up1_n (by omega), up1_n (by omega), up1_n (by omega), up1_n (by omega)]
                exact ret () _ _ _ _ _ _ _ _ (by show _ = aAddT g (nI jy) (nI js) (nI jg) (nI jo) (nI jt); unfold aAddT okT; rw [if_pos (by rw [c_2, c_4, c_6]; rfl), if_neg c_7, if_pos (by rw [c_9, c_11]; rfl), if_neg c_13]) (trivial) (by show sW cI ad (gAddT g (nI jy) (nI js) (nI jg) (nI jo) (nI jt)) = _; unfold gAddT okT; rw [if_pos (by rw [c_2, c_4, c_6]; rfl), if_neg c_7, if_pos (by rw [c_9, c_11]; rfl), if_neg c_13]; unfold nx; rw [hjyc, hjsc, hjgc, hjoc, hjtc]; unfold addT; rw [hone]) hP hD hS (Nat.le_of_ble_eq_true rfl) (Nat.le_of_ble_eq_true rfl) dX3_addTransistor_161
              · refine lv_bipush (v := -6) hx hb dX3_addTransistor_68 (by decide) ?_
                exact ret () _ _ _ _ _ _ _ _ (by show _ = aAddT g ty sg ga on ot; unfold aAddT okT; rw [if_pos (by rw [c_2, c_4, c_6]; rfl), if_neg c_7, if_pos (by rw [c_9, c_11]; rfl), if_pos c_13]) (trivial) (by show sW cI ad (gAddT g ty sg ga on ot) = _; unfold gAddT okT; rw [if_pos (by rw [c_2, c_4, c_6]; rfl), if_neg c_7, if_pos (by rw [c_9, c_11]; rfl), if_pos c_13]) hP hD hS (Nat.le_of_ble_eq_true rfl) (Nat.le_of_ble_eq_true rfl) dX3_addTransistor_70
            · refine lv_bipush (v := -3) hx hb dX3_addTransistor_56 (by decide) ?_
              exact ret () _ _ _ _ _ _ _ _ (by show _ = aAddT g ty sg ga on ot; unfold aAddT okT; rw [if_pos (by rw [c_2, c_4, c_6]; rfl), if_neg c_7, if_neg (by rw [c_9, c_11]; simp)]) (trivial) (by show sW cI ad (gAddT g ty sg ga on ot) = _; unfold gAddT okT; rw [if_pos (by rw [c_2, c_4, c_6]; rfl), if_neg c_7, if_neg (by rw [c_9, c_11]; simp)]) hP hD hS (Nat.le_of_ble_eq_true rfl) (Nat.le_of_ble_eq_true rfl) dX3_addTransistor_58
        · refine lv_bipush (v := -4) hx hb dX3_addTransistor_35 (by decide) ?_
          exact ret () _ _ _ _ _ _ _ _ (by show _ = aAddT g ty sg ga on ot; unfold aAddT okT; rw [if_pos (by rw [c_2, c_4, c_6]; rfl), if_pos c_7]) (trivial) (by show sW cI ad (gAddT g ty sg ga on ot) = _; unfold gAddT okT; rw [if_pos (by rw [c_2, c_4, c_6]; rfl), if_pos c_7]) hP hD hS (Nat.le_of_ble_eq_true rfl) (Nat.le_of_ble_eq_true rfl) dX3_addTransistor_37
      · refine lv_iconst (v := -1) hx hb dX3_addTransistor_26 (by decide) ?_
        exact ret () _ _ _ _ _ _ _ _ (by show _ = aAddT g ty sg ga on ot; unfold aAddT okT; rw [c_2, c_4, c_6]; rfl) (trivial) (by show sW cI ad (gAddT g ty sg ga on ot) = _; unfold gAddT okT; rw [c_2, c_4, c_6]; rfl) hP hD hS (Nat.le_of_ble_eq_true rfl) (Nat.le_of_ble_eq_true rfl) dX3_addTransistor_27
abbrev rm_X3_nodeCount : Room := { frames := 1, cells := 0, slots := 0, locals := 20 }
set_option maxHeartbeats 4000000 in
set_option maxRecDepth 100000 in
theorem c_X3_nodeCount (l : Launch) (dC : Nat → ClassId) (dI : Nat → Nat → Nat) (cI cZ cR cG : ClassId) (ad : Nat → Nat) (g : Nat → Nat) : CI l (dC, dI) (tyL cI cZ cR cG) yX3_nodeCount wsX3_nodeCount rm_X3_nodeCount [.ref (ad 0)] (sW cI ad g) (S := Unit) (fun _ => nI (g 0)) (fun _ => True) (fun _ => sW cI ad g) := by
  refine CI.of (cc := cX3_nodeCount) (maxL := 1) (rt := .int) (lv := [(0, .ref (ad 0))]) (by decide) rfl (Nat.le_of_ble_eq_true rfl) rfl (Or.inl rfl) ?_
  intro p e s m ar below meth c A Qz ls hx hb hml hown hts hnm hA hS hP hK hD hl ret
  refine lv_aload_n hx hb dX3_nodeCount_0 rfl (lv_at hl 0 rfl) ?_
  refine CI.callV (As := []) (rest := []) (w3 := (fun _ => sW cI ad g)) (c_X3_nodes l dC dI cI cZ cR cG ad g) ⟨hx, hb, hml, hown, hts⟩ (cwV 0 hts gX3_nodeCount_X3_nodes rfl rfl rfl (by decide +kernel) ⟨Nat.le_of_ble_eq_true rfl, Nat.le_of_ble_eq_true rfl⟩) rfl hl.1 (Nat.le_of_ble_eq_true rfl) dX3_nodeCount_1 ⟨Nat.le_of_ble_eq_true rfl, Nat.le_of_ble_eq_true rfl⟩ hA hS hP hK hD [0, 1] [] rfl rfl (by decide) (by decide) (by decide) 0 3 rfl rfl [0, 1] (by decide) (fun _ => rfl) rfl (fun _ H locs hp_1 hP hD hS => ?_)
  exact ret () _ _ _ _ _ _ _ _ (rfl) (trivial) (rfl) hP hD hS (Nat.le_of_ble_eq_true rfl) (Nat.le_of_ble_eq_true rfl) dX3_nodeCount_4
abbrev rm_X3_transistorCount : Room := { frames := 1, cells := 0, slots := 0, locals := 20 }
set_option maxHeartbeats 4000000 in
set_option maxRecDepth 100000 in
theorem c_X3_transistorCount (l : Launch) (dC : Nat → ClassId) (dI : Nat → Nat → Nat) (cI cZ cR cG : ClassId) (ad : Nat → Nat) (g : Nat → Nat) : CI l (dC, dI) (tyL cI cZ cR cG) yX3_transistorCount wsX3_transistorCount rm_X3_transistorCount [.ref (ad 0)] (sW cI ad g) (S := Unit) (fun _ => nI (g 1)) (fun _ => True) (fun _ => sW cI ad g) := by
  refine CI.of (cc := cX3_transistorCount) (maxL := 1) (rt := .int) (lv := [(0, .ref (ad 0))]) (by decide) rfl (Nat.le_of_ble_eq_true rfl) rfl (Or.inl rfl) ?_
  intro p e s m ar below meth c A Qz ls hx hb hml hown hts hnm hA hS hP hK hD hl ret
  refine lv_aload_n hx hb dX3_transistorCount_0 rfl (lv_at hl 0 rfl) ?_
  refine CI.callV (As := []) (rest := []) (w3 := (fun _ => sW cI ad g)) (c_X3_many l dC dI cI cZ cR cG ad g) ⟨hx, hb, hml, hown, hts⟩ (cwV 0 hts gX3_transistorCount_X3_many rfl rfl rfl (by decide +kernel) ⟨Nat.le_of_ble_eq_true rfl, Nat.le_of_ble_eq_true rfl⟩) rfl hl.1 (Nat.le_of_ble_eq_true rfl) dX3_transistorCount_1 ⟨Nat.le_of_ble_eq_true rfl, Nat.le_of_ble_eq_true rfl⟩ hA hS hP hK hD [0, 1] [] rfl rfl (by decide) (by decide) (by decide) 0 3 rfl rfl [0, 1] (by decide) (fun _ => rfl) rfl (fun _ H locs hp_1 hP hD hS => ?_)
  exact ret () _ _ _ _ _ _ _ _ (rfl) (trivial) (rfl) hP hD hS (Nat.le_of_ble_eq_true rfl) (Nat.le_of_ble_eq_true rfl) dX3_transistorCount_4
abbrev rm_X3_inputs : Room := { frames := 1, cells := 0, slots := 0, locals := 21 }
set_option maxHeartbeats 4000000 in
set_option maxRecDepth 100000 in
theorem c_X3_inputs (l : Launch) (dC : Nat → ClassId) (dI : Nat → Nat → Nat) (cI cZ cR cG : ClassId) (ad : Nat → Nat) (g : Nat → Nat) (ok : okG g) : CI l (dC, dI) (tyL cI cZ cR cG) yX3_inputs wsX3_inputs rm_X3_inputs [.ref (ad 0)] (sW cI ad g) (S := Unit) (fun _ => mk (fun k => decide (g (2 + k) = 0)) (g 0)) (fun _ => True) (fun _ => sW cI ad g) := by
  refine CI.of (cc := cX3_inputs) (maxL := 3) (rt := .int) (lv := [(0, .ref (ad 0))]) (by decide) rfl (Nat.le_of_ble_eq_true rfl) rfl (Or.inl rfl) ?_
  intro p e s m ar below meth c A Qz ls hx hb hml hown hts hnm hA hS hP hK hD hl ret
  have h0 := ok.1
  have h1 := ok.2.1
  refine lv_iconst (v := nI 0) hx hb dX3_inputs_0 (by decide) ?_
  refine lv_istore_n (lv' := [(1, .int (nI 0)), (0, .ref (ad 0))]) hx hb dX3_inputs_1 rfl hl (by decide) rfl (fun ls hl => ?_)
  refine lv_iconst (v := nI 0) hx hb dX3_inputs_2 (by decide) ?_
  refine lv_istore_n (lv' := [(2, .int (nI 0)), (1, .int (nI 0)), (0, .ref (ad 0))]) hx hb dX3_inputs_3 rfl hl (by decide) rfl (fun ls hl => ?_)
  have key_4 : ∀ (fu : Nat) (n : Nat), (g 0 - n) < fu → (n ≤ g 0) → ∀ (H : Heap) (locs : List Loc) (ls : Array Slot), va_P (dC, dI) vwCl (sW cI ad g) H → va_D A (sW cI ad g) → va_S A s.heap H locs → lv_has ls 3 [(2, .int (nI n)), (1, .int (mk (fun k => decide (g (2 + k) = 0)) n)), (0, .ref (ad 0))] → W p l e rm_X3_inputs s m ar below meth c H locs 0 0 Qz (F0 m 4 ls []) := by
    intro fu
    induction fu with
    | zero => intro n hmu; exact absurd hmu (Nat.not_lt_zero _)
    | succ fu ih_4 =>
      intro n hmu_4 hn H locs ls hP hD hS hl
      refine lv_iload_n hx hb dX3_inputs_4 rfl (lv_at hl 0 rfl) ?_
      refine lv_aload_n hx hb dX3_inputs_5 rfl (lv_at hl 2 rfl) ?_
      refine CI.callV (As := []) (rest := [.int (nI n)]) (w3 := (fun _ => sW cI ad g)) (c_X3_nodes l dC dI cI cZ cR cG ad g) ⟨hx, hb, hml, hown, hts⟩ (cwV 0 hts gX3_inputs_X3_nodes rfl rfl rfl (by decide +kernel) ⟨Nat.le_of_ble_eq_true rfl, Nat.le_of_ble_eq_true rfl⟩) rfl hl.1 (Nat.le_of_ble_eq_true rfl) dX3_inputs_6 ⟨Nat.le_of_ble_eq_true rfl, Nat.le_of_ble_eq_true rfl⟩ hA hS hP hK hD [0, 1] [] rfl rfl (by decide) (by decide) (by decide) 0 3 rfl rfl [0, 1] (by decide) (fun _ => rfl) rfl (fun _ H locs hp_2 hP hD hS => ?_)
      refine my_icmp_ge (x := n) (y := (g 0)) (tgt := 36) hx hb (by omega) (by omega) dX3_inputs_9 (by decide) (fun c_3 => ?_) (fun c_3 => ?_)
      · refine lv_iload_n hx hb dX3_inputs_36 rfl (lv_at hl 1 rfl) ?_
        exact ret () _ _ _ _ _ _ _ _ (by show mk (fun k => decide (g (2 + k) = 0)) n = mk (fun k => decide (g (2 + k) = 0)) (g 0); rw [show n = g 0 by omega]) (trivial) (rfl) hP hD hS (Nat.le_of_ble_eq_true rfl) (Nat.le_of_ble_eq_true rfl) dX3_inputs_37
      · refine lv_iload_n hx hb dX3_inputs_12 rfl (lv_at hl 1 rfl) ?_
        refine lv_aload_n hx hb dX3_inputs_13 rfl (lv_at hl 2 rfl) ?_
        refine lv_iload_n hx hb dX3_inputs_14 rfl (lv_at hl 0 rfl) ?_
        refine CI.callV (As := [.int (nI n)]) (rest := [.int (mk (fun k => decide (g (2 + k) = 0)) n)]) (w3 := (fun _ => sW cI ad g)) (c_X3_isInput l dC dI cI cZ cR cG ad g n (by omega) ((ok.2.2.1 _ (by omega)).1)) ⟨hx, hb, hml, hown, hts⟩ (cwV 1 hts gX3_inputs_X3_isInput rfl rfl rfl (by decide +kernel) ⟨Nat.le_of_ble_eq_true rfl, Nat.le_of_ble_eq_true rfl⟩) rfl hl.1 (Nat.le_of_ble_eq_true rfl) dX3_inputs_15 ⟨Nat.le_of_ble_eq_true rfl, Nat.le_of_ble_eq_true rfl⟩ hA hS hP hK hD [0, 1] [] rfl rfl (by decide) (by decide) (by decide) 0 3 rfl rfl [0, 1] (by decide) (fun _ => rfl) rfl (fun _ H locs hp_4 hP hD hS => ?_)
        refine my_if_eqB (x := (decide (g (2 + n) = 0))) (tgt := 27) hx hb dX3_inputs_18 (by decide) (fun c_5 => ?_) (fun c_5 => ?_)
        · refine lv_iconst (v := nI 0) hx hb dX3_inputs_27 (by decide) ?_
          refine lv_ior hx hb dX3_inputs_28 ?_
          refine my_cast (show (mk (fun k => decide (g (2 + k) = 0)) n) ||| (nI 0) = mk (fun k => decide (g (2 + k) = 0)) (n + 1) from by show _ = mk (fun k => decide (g (2 + k) = 0)) n ||| (if decide (g (2 + n) = 0) = true then (1 : Int32) <<< (nI n &&& 31) else 0); rw [if_neg (by rw [c_5]; decide)]; try rfl) ?_
          refine lv_istore_n (lv' := [(1, .int (mk (fun k => decide (g (2 + k) = 0)) (n + 1))), (2, .int (nI n)), (0, .ref (ad 0))]) hx hb dX3_inputs_29 rfl hl (by decide) rfl (fun ls hl => ?_)
          refine my_iinc (k := 1) (x := n) (d := 1) (lv' := [(2, .int (nI (n + 1))), (1, .int (mk (fun k => decide (g (2 + k) = 0)) (n + 1))), (0, .ref (ad 0))]) hx hb dX3_inputs_30 hl rfl (by decide) (by decide) rfl (fun ls hl => ?_)
          refine lv_goto (tgt := 4) hx hb dX3_inputs_33 (by decide) ?_
          exact ih_4 (n + 1) (by omega) (by omega) _ _ _ hP hD hS (lv_sub hl [0, 1, 2] rfl)
        · refine lv_iconst (v := nI 1) hx hb dX3_inputs_21 (by decide) ?_
          refine lv_iload_n hx hb dX3_inputs_22 rfl (lv_at hl 0 rfl) ?_
          refine lv_ishl hx hb dX3_inputs_23 ?_
          refine lv_goto (tgt := 28) hx hb dX3_inputs_24 (by decide) ?_
          refine lv_ior hx hb dX3_inputs_28 ?_
          refine my_cast (show (mk (fun k => decide (g (2 + k) = 0)) n) ||| ((1 : Int32) <<< (nI n &&& 31)) = mk (fun k => decide (g (2 + k) = 0)) (n + 1) from by show _ = mk (fun k => decide (g (2 + k) = 0)) n ||| (if decide (g (2 + n) = 0) = true then (1 : Int32) <<< (nI n &&& 31) else 0); rw [if_pos c_5]; try rfl) ?_
          refine lv_istore_n (lv' := [(1, .int (mk (fun k => decide (g (2 + k) = 0)) (n + 1))), (2, .int (nI n)), (0, .ref (ad 0))]) hx hb dX3_inputs_29 rfl hl (by decide) rfl (fun ls hl => ?_)
          refine my_iinc (k := 1) (x := n) (d := 1) (lv' := [(2, .int (nI (n + 1))), (1, .int (mk (fun k => decide (g (2 + k) = 0)) (n + 1))), (0, .ref (ad 0))]) hx hb dX3_inputs_30 hl rfl (by decide) (by decide) rfl (fun ls hl => ?_)
          refine lv_goto (tgt := 4) hx hb dX3_inputs_33 (by decide) ?_
          exact ih_4 (n + 1) (by omega) (by omega) _ _ _ hP hD hS (lv_sub hl [0, 1, 2] rfl)
  exact key_4 _ 0 (Nat.lt_succ_self _) (Nat.zero_le _) _ _ _ hP hD hS (lv_sub hl [0, 1, 2] rfl)
abbrev rm_X3_setInput : Room := { frames := 2, cells := 0, slots := 0, locals := 43 }
set_option maxHeartbeats 4000000 in
set_option maxRecDepth 100000 in
theorem c_X3_setInput (l : Launch) (dC : Nat → ClassId) (dI : Nat → Nat → Nat) (cI cZ cR cG : ClassId) (ad : Nat → Nat) (g : Nat → Nat) (x v : Int32) (ok : okG g) : CI l (dC, dI) (tyL cI cZ cR cG) yX3_setInput wsX3_setInput rm_X3_setInput [.ref (ad 0), .int x, .int v] (sW cI ad g) (S := Unit) (fun _ => aSetV true g x v) (fun _ => True) (fun _ => sW cI ad (gSetV true g x v)) := by
  refine CI.of (cc := cX3_setInput) (maxL := 3) (rt := .int) (lv := [(0, .ref (ad 0)), (1, .int x), (2, .int v)]) (by decide) rfl (Nat.le_of_ble_eq_true rfl) rfl (Or.inl rfl) ?_
  intro p e s m ar below meth c A Qz ls hx hb hml hown hts hnm hA hS hP hK hD hl ret
  have h0 := ok.1
  have h1 := ok.2.1
  refine lv_aload_n hx hb dX3_setInput_0 rfl (lv_at hl 0 rfl) ?_
  refine lv_iload_n hx hb dX3_setInput_1 rfl (lv_at hl 1 rfl) ?_
  refine CI.callV (As := [.int x]) (rest := []) (w3 := (fun _ => sW cI ad g)) (c_X3_isNode l dC dI cI cZ cR cG ad g x (ok.1)) ⟨hx, hb, hml, hown, hts⟩ (cwV 1 hts gX3_setInput_X3_isNode rfl rfl rfl (by decide +kernel) ⟨Nat.le_of_ble_eq_true rfl, Nat.le_of_ble_eq_true rfl⟩) rfl hl.1 (Nat.le_of_ble_eq_true rfl) dX3_setInput_2 ⟨Nat.le_of_ble_eq_true rfl, Nat.le_of_ble_eq_true rfl⟩ hA hS hP hK hD [0, 1] [] rfl rfl (by decide) (by decide) (by decide) 0 3 rfl rfl [0, 1] (by decide) (fun _ => rfl) rfl (fun _ H locs hp_1 hP hD hS => ?_)
  refine my_if_neB (x := (inN x (g 0))) (tgt := 10) hx hb dX3_setInput_5 (by decide) (fun c_2 => ?_) (fun c_2 => ?_)
  · obtain ⟨j, hj1, hj2, rfl, hjc⟩ := inN_at c_2
    refine lv_aload_n hx hb dX3_setInput_10 rfl (lv_at hl 0 rfl) ?_
    refine lv_iload_n hx hb dX3_setInput_11 rfl (lv_at hl 1 rfl) ?_
    refine CI.callV (As := [.int (nI j)]) (rest := []) (w3 := (fun _ => sW cI ad g)) (c_X3_isInput l dC dI cI cZ cR cG ad g j (by omega) ((ok.2.2.1 _ (by omega)).1)) ⟨hx, hb, hml, hown, hts⟩ (cwV 1 hts gX3_setInput_X3_isInput rfl rfl rfl (by decide +kernel) ⟨Nat.le_of_ble_eq_true rfl, Nat.le_of_ble_eq_true rfl⟩) rfl hl.1 (Nat.le_of_ble_eq_true rfl) dX3_setInput_12 ⟨Nat.le_of_ble_eq_true rfl, Nat.le_of_ble_eq_true rfl⟩ hA hS hP hK hD [0, 1] [] rfl rfl (by decide) (by decide) (by decide) 0 3 rfl rfl [0, 1] (by decide) (fun _ => rfl) rfl (fun _ H locs hp_3 hP hD hS => ?_)
    refine my_if_neB (x := (decide (g (2 + j) = 0))) (tgt := 21) hx hb dX3_setInput_15 (by decide) (fun c_4 => ?_) (fun c_4 => ?_)
    · refine lv_iload_n hx hb dX3_setInput_21 rfl (lv_at hl 2 rfl) ?_
      refine lv_iconst (v := nI 0) hx hb dX3_setInput_22 (by decide) ?_
      refine lv_iconst (v := nI 2) hx hb dX3_setInput_23 (by decide) ?_
      refine CI.callS (As := [.int v, .int (nI 0), .int (nI 2)]) (rest := []) (w3 := (fun _ => sW cI ad g)) (c_X3_inR l dC dI cI cZ cR cG v 0 2 (by decide) (by decide)) ⟨hx, hb, hml, hown, hts⟩ (va_cwS 3 hts gX3_setInput_X3_in rfl rfl rfl (by decide +kernel) ⟨Nat.le_of_ble_eq_true rfl, Nat.le_of_ble_eq_true rfl⟩) rfl hl.1 (Nat.le_of_ble_eq_true rfl) dX3_setInput_24 ⟨Nat.le_of_ble_eq_true rfl, Nat.le_of_ble_eq_true rfl⟩ hA hS hP hK hD [] [0, 1] rfl rfl (by decide) (by decide) (by decide) [0, 1] (by decide) (fun _ => rfl) rfl (fun _ H locs hp_5 hP hD hS => ?_)
      refine my_if_eqB (x := (inR v 0 2)) (tgt := 42) hx hb dX3_setInput_27 (by decide) (fun c_6 => ?_) (fun c_6 => ?_)
      · refine lv_bipush (v := -3) hx hb dX3_setInput_42 (by decide) ?_
        exact ret () _ _ _ _ _ _ _ _ (by show _ = aSetV true g (nI j) v; unfold aSetV; rw [if_pos c_2, if_pos (by rw [show nx (nI j) = j from hjc, c_4]), if_neg (by rw [c_6]; decide)]) (trivial) (by show sW cI ad (gSetV true g (nI j) v) = _; unfold gSetV; rw [if_pos c_2, if_pos (by rw [show nx (nI j) = j from hjc, c_4]), if_neg (by rw [c_6]; decide)]) hP hD hS (Nat.le_of_ble_eq_true rfl) (Nat.le_of_ble_eq_true rfl) dX3_setInput_44
      · obtain ⟨k, hk1, hk2, hk3, rfl, hkc⟩ := inR_at c_6
        refine lv_aload_n hx hb dX3_setInput_30 rfl (lv_at hl 0 rfl) ?_
        refine lv_bipush (v := nI 26) hx hb dX3_setInput_31 (by decide) ?_
        refine lv_iload_n hx hb dX3_setInput_33 rfl (lv_at hl 1 rfl) ?_
        refine my_iadd (x := 26) (y := j) hx hb dX3_setInput_34 ?_
        refine lv_iload_n hx hb dX3_setInput_35 rfl (lv_at hl 2 rfl) ?_
        refine CI.callV (As := [.int (nI (26 + j)), .int (nI k)]) (rest := []) (w3 := (fun _ => sW cI ad (up1 g (26 + j) k))) (c_X3_set l dC dI cI cZ cR cG ad g (26 + j) k (by omega)) ⟨hx, hb, hml, hown, hts⟩ (cwV 2 hts gX3_setInput_X3_set rfl rfl rfl (by decide +kernel) ⟨Nat.le_of_ble_eq_true rfl, Nat.le_of_ble_eq_true rfl⟩) rfl hl.1 (Nat.le_of_ble_eq_true rfl) dX3_setInput_36 ⟨Nat.le_of_ble_eq_true rfl, Nat.le_of_ble_eq_true rfl⟩ hA hS hP hK hD [0, 1] [] rfl rfl (by decide) (by decide) (by decide) 0 3 rfl rfl [0, 1] (by decide) (fun _ => rfl) rfl (fun _ H locs hp_7 hP hD hS => ?_)
        refine lv_goto (tgt := 44) hx hb dX3_setInput_39 (by decide) ?_
        exact ret () _ _ _ _ _ _ _ _ (by show _ = aSetV true g (nI j) (nI k); unfold aSetV; rw [if_pos c_2, if_pos (by rw [show nx (nI j) = j from hjc, c_4]), if_pos c_6, show nx (nI j) = j from hjc]) (trivial) (by show sW cI ad (gSetV true g (nI j) (nI k)) = _; unfold gSetV; rw [if_pos c_2, if_pos (by rw [show nx (nI j) = j from hjc, c_4]), if_pos c_6, show nx (nI j) = j from hjc, show nx (nI k) = k from hkc]) hP hD hS (Nat.le_of_ble_eq_true rfl) (Nat.le_of_ble_eq_true rfl) dX3_setInput_44
    · refine lv_bipush (v := -5) hx hb dX3_setInput_18 (by decide) ?_
      exact ret () _ _ _ _ _ _ _ _ (by show _ = aSetV true g (nI j) v; unfold aSetV; rw [if_pos c_2, if_neg (by rw [show nx (nI j) = j from hjc, c_4]; decide)]) (trivial) (by show sW cI ad (gSetV true g (nI j) v) = _; unfold gSetV; rw [if_pos c_2, if_neg (by rw [show nx (nI j) = j from hjc, c_4]; decide)]) hP hD hS (Nat.le_of_ble_eq_true rfl) (Nat.le_of_ble_eq_true rfl) dX3_setInput_20
  · refine lv_iconst (v := -1) hx hb dX3_setInput_8 (by decide) ?_
    exact ret () _ _ _ _ _ _ _ _ (by show _ = aSetV true g x v; unfold aSetV; rw [if_neg (by rw [c_2]; decide)]) (trivial) (by show sW cI ad (gSetV true g x v) = _; unfold gSetV; rw [if_neg (by rw [c_2]; decide)]) hP hD hS (Nat.le_of_ble_eq_true rfl) (Nat.le_of_ble_eq_true rfl) dX3_setInput_9
abbrev rm_X3_setCharge : Room := { frames := 2, cells := 0, slots := 0, locals := 43 }
set_option maxHeartbeats 4000000 in
set_option maxRecDepth 100000 in
theorem c_X3_setCharge (l : Launch) (dC : Nat → ClassId) (dI : Nat → Nat → Nat) (cI cZ cR cG : ClassId) (ad : Nat → Nat) (g : Nat → Nat) (x v : Int32) (ok : okG g) : CI l (dC, dI) (tyL cI cZ cR cG) yX3_setCharge wsX3_setCharge rm_X3_setCharge [.ref (ad 0), .int x, .int v] (sW cI ad g) (S := Unit) (fun _ => aSetV false g x v) (fun _ => True) (fun _ => sW cI ad (gSetV false g x v)) := by
  refine CI.of (cc := cX3_setCharge) (maxL := 3) (rt := .int) (lv := [(0, .ref (ad 0)), (1, .int x), (2, .int v)]) (by decide) rfl (Nat.le_of_ble_eq_true rfl) rfl (Or.inl rfl) ?_
  intro p e s m ar below meth c A Qz ls hx hb hml hown hts hnm hA hS hP hK hD hl ret
  have h0 := ok.1
  have h1 := ok.2.1
  refine lv_aload_n hx hb dX3_setCharge_0 rfl (lv_at hl 0 rfl) ?_
  refine lv_iload_n hx hb dX3_setCharge_1 rfl (lv_at hl 1 rfl) ?_
  refine CI.callV (As := [.int x]) (rest := []) (w3 := (fun _ => sW cI ad g)) (c_X3_isNode l dC dI cI cZ cR cG ad g x (ok.1)) ⟨hx, hb, hml, hown, hts⟩ (cwV 1 hts gX3_setCharge_X3_isNode rfl rfl rfl (by decide +kernel) ⟨Nat.le_of_ble_eq_true rfl, Nat.le_of_ble_eq_true rfl⟩) rfl hl.1 (Nat.le_of_ble_eq_true rfl) dX3_setCharge_2 ⟨Nat.le_of_ble_eq_true rfl, Nat.le_of_ble_eq_true rfl⟩ hA hS hP hK hD [0, 1] [] rfl rfl (by decide) (by decide) (by decide) 0 3 rfl rfl [0, 1] (by decide) (fun _ => rfl) rfl (fun _ H locs hp_1 hP hD hS => ?_)
  refine my_if_neB (x := (inN x (g 0))) (tgt := 10) hx hb dX3_setCharge_5 (by decide) (fun c_2 => ?_) (fun c_2 => ?_)
  · obtain ⟨j, hj1, hj2, rfl, hjc⟩ := inN_at c_2
    refine lv_aload_n hx hb dX3_setCharge_10 rfl (lv_at hl 0 rfl) ?_
    refine lv_iload_n hx hb dX3_setCharge_11 rfl (lv_at hl 1 rfl) ?_
    refine CI.callV (As := [.int (nI j)]) (rest := []) (w3 := (fun _ => sW cI ad g)) (c_X3_isInput l dC dI cI cZ cR cG ad g j (by omega) ((ok.2.2.1 _ (by omega)).1)) ⟨hx, hb, hml, hown, hts⟩ (cwV 1 hts gX3_setCharge_X3_isInput rfl rfl rfl (by decide +kernel) ⟨Nat.le_of_ble_eq_true rfl, Nat.le_of_ble_eq_true rfl⟩) rfl hl.1 (Nat.le_of_ble_eq_true rfl) dX3_setCharge_12 ⟨Nat.le_of_ble_eq_true rfl, Nat.le_of_ble_eq_true rfl⟩ hA hS hP hK hD [0, 1] [] rfl rfl (by decide) (by decide) (by decide) 0 3 rfl rfl [0, 1] (by decide) (fun _ => rfl) rfl (fun _ H locs hp_3 hP hD hS => ?_)
    refine my_if_eqB (x := (decide (g (2 + j) = 0))) (tgt := 21) hx hb dX3_setCharge_15 (by decide) (fun c_4 => ?_) (fun c_4 => ?_)
    · refine lv_iload_n hx hb dX3_setCharge_21 rfl (lv_at hl 2 rfl) ?_
      refine lv_iconst (v := nI 0) hx hb dX3_setCharge_22 (by decide) ?_
      refine lv_iconst (v := nI 2) hx hb dX3_setCharge_23 (by decide) ?_
      refine CI.callS (As := [.int v, .int (nI 0), .int (nI 2)]) (rest := []) (w3 := (fun _ => sW cI ad g)) (c_X3_inR l dC dI cI cZ cR cG v 0 2 (by decide) (by decide)) ⟨hx, hb, hml, hown, hts⟩ (va_cwS 3 hts gX3_setCharge_X3_in rfl rfl rfl (by decide +kernel) ⟨Nat.le_of_ble_eq_true rfl, Nat.le_of_ble_eq_true rfl⟩) rfl hl.1 (Nat.le_of_ble_eq_true rfl) dX3_setCharge_24 ⟨Nat.le_of_ble_eq_true rfl, Nat.le_of_ble_eq_true rfl⟩ hA hS hP hK hD [] [0, 1] rfl rfl (by decide) (by decide) (by decide) [0, 1] (by decide) (fun _ => rfl) rfl (fun _ H locs hp_5 hP hD hS => ?_)
      refine my_if_eqB (x := (inR v 0 2)) (tgt := 42) hx hb dX3_setCharge_27 (by decide) (fun c_6 => ?_) (fun c_6 => ?_)
      · refine lv_bipush (v := -3) hx hb dX3_setCharge_42 (by decide) ?_
        exact ret () _ _ _ _ _ _ _ _ (by show _ = aSetV false g (nI j) v; unfold aSetV; rw [if_pos c_2, if_pos (by rw [show nx (nI j) = j from hjc, c_4]), if_neg (by rw [c_6]; decide)]) (trivial) (by show sW cI ad (gSetV false g (nI j) v) = _; unfold gSetV; rw [if_pos c_2, if_pos (by rw [show nx (nI j) = j from hjc, c_4]), if_neg (by rw [c_6]; decide)]) hP hD hS (Nat.le_of_ble_eq_true rfl) (Nat.le_of_ble_eq_true rfl) dX3_setCharge_44
      · obtain ⟨k, hk1, hk2, hk3, rfl, hkc⟩ := inR_at c_6
        refine lv_aload_n hx hb dX3_setCharge_30 rfl (lv_at hl 0 rfl) ?_
        refine lv_bipush (v := nI 26) hx hb dX3_setCharge_31 (by decide) ?_
        refine lv_iload_n hx hb dX3_setCharge_33 rfl (lv_at hl 1 rfl) ?_
        refine my_iadd (x := 26) (y := j) hx hb dX3_setCharge_34 ?_
        refine lv_iload_n hx hb dX3_setCharge_35 rfl (lv_at hl 2 rfl) ?_
        refine CI.callV (As := [.int (nI (26 + j)), .int (nI k)]) (rest := []) (w3 := (fun _ => sW cI ad (up1 g (26 + j) k))) (c_X3_set l dC dI cI cZ cR cG ad g (26 + j) k (by omega)) ⟨hx, hb, hml, hown, hts⟩ (cwV 2 hts gX3_setCharge_X3_set rfl rfl rfl (by decide +kernel) ⟨Nat.le_of_ble_eq_true rfl, Nat.le_of_ble_eq_true rfl⟩) rfl hl.1 (Nat.le_of_ble_eq_true rfl) dX3_setCharge_36 ⟨Nat.le_of_ble_eq_true rfl, Nat.le_of_ble_eq_true rfl⟩ hA hS hP hK hD [0, 1] [] rfl rfl (by decide) (by decide) (by decide) 0 3 rfl rfl [0, 1] (by decide) (fun _ => rfl) rfl (fun _ H locs hp_7 hP hD hS => ?_)
        refine lv_goto (tgt := 44) hx hb dX3_setCharge_39 (by decide) ?_
        exact ret () _ _ _ _ _ _ _ _ (by show _ = aSetV false g (nI j) (nI k); unfold aSetV; rw [if_pos c_2, if_pos (by rw [show nx (nI j) = j from hjc, c_4]), if_pos c_6, show nx (nI j) = j from hjc]) (trivial) (by show sW cI ad (gSetV false g (nI j) (nI k)) = _; unfold gSetV; rw [if_pos c_2, if_pos (by rw [show nx (nI j) = j from hjc, c_4]), if_pos c_6, show nx (nI j) = j from hjc, show nx (nI k) = k from hkc]) hP hD hS (Nat.le_of_ble_eq_true rfl) (Nat.le_of_ble_eq_true rfl) dX3_setCharge_44
    · refine lv_bipush (v := -5) hx hb dX3_setCharge_18 (by decide) ?_
      exact ret () _ _ _ _ _ _ _ _ (by show _ = aSetV false g (nI j) v; unfold aSetV; rw [if_pos c_2, if_neg (by rw [show nx (nI j) = j from hjc, c_4]; decide)]) (trivial) (by show sW cI ad (gSetV false g (nI j) v) = _; unfold gSetV; rw [if_pos c_2, if_neg (by rw [show nx (nI j) = j from hjc, c_4]; decide)]) hP hD hS (Nat.le_of_ble_eq_true rfl) (Nat.le_of_ble_eq_true rfl) dX3_setCharge_20
  · refine lv_iconst (v := -1) hx hb dX3_setCharge_8 (by decide) ?_
    exact ret () _ _ _ _ _ _ _ _ (by show _ = aSetV false g x v; unfold aSetV; rw [if_neg (by rw [c_2]; decide)]) (trivial) (by show sW cI ad (gSetV false g x v) = _; unfold gSetV; rw [if_neg (by rw [c_2]; decide)]) hP hD hS (Nat.le_of_ble_eq_true rfl) (Nat.le_of_ble_eq_true rfl) dX3_setCharge_9
abbrev rm_X3_forget : Room := { frames := 1, cells := 0, slots := 0, locals := 21 }
set_option maxHeartbeats 4000000 in
set_option maxRecDepth 100000 in
theorem c_X3_forget (l : Launch) (dC : Nat → ClassId) (dI : Nat → Nat → Nat) (cI cZ cR cG : ClassId) (ad : Nat → Nat) (g : Nat → Nat) (ok : okG g) : CI l (dC, dI) (tyL cI cZ cR cG) yX3_forget wsX3_forget rm_X3_forget [.ref (ad 0)] (sW cI ad g) (S := Unit) (fun _ => aFor g) (fun _ => True) (fun _ => sW cI ad (forK g (g 0))) := by
  refine CI.of (cc := cX3_forget) (maxL := 3) (rt := .int) (lv := [(0, .ref (ad 0))]) (by decide) rfl (Nat.le_of_ble_eq_true rfl) rfl (Or.inl rfl) ?_
  intro p e s m ar below meth c A Qz ls hx hb hml hown hts hnm hA hS hP hK hD hl ret
  have h0 := ok.1
  have h1 := ok.2.1
  refine lv_iconst (v := nI 0) hx hb dX3_forget_0 (by decide) ?_
  refine lv_istore_n (lv' := [(1, .int (nI 0)), (0, .ref (ad 0))]) hx hb dX3_forget_1 rfl hl (by decide) rfl (fun ls hl => ?_)
  refine lv_iconst (v := nI 0) hx hb dX3_forget_2 (by decide) ?_
  refine lv_istore_n (lv' := [(2, .int (nI 0)), (1, .int (nI 0)), (0, .ref (ad 0))]) hx hb dX3_forget_3 rfl hl (by decide) rfl (fun ls hl => ?_)
  rw [← forK_0 g] at hP hD
  have key_4 : ∀ (fu : Nat) (n : Nat), (g 0 - n) < fu → (n ≤ g 0) → ∀ (H : Heap) (locs : List Loc) (ls : Array Slot), va_P (dC, dI) vwCl (sW cI ad (forK g n)) H → va_D A (sW cI ad (forK g n)) → va_S A s.heap H locs → lv_has ls 3 [(2, .int (nI n)), (1, .int (nI (ct (kno g) n))), (0, .ref (ad 0))] → W p l e rm_X3_forget s m ar below meth c H locs 0 0 Qz (F0 m 4 ls []) := by
    intro fu
    induction fu with
    | zero => intro n hmu; exact absurd hmu (Nat.not_lt_zero _)
    | succ fu ih_4 =>
      intro n hmu_4 hn H locs ls hP hD hS hl
      refine lv_iload_n hx hb dX3_forget_4 rfl (lv_at hl 0 rfl) ?_
      refine lv_aload_n hx hb dX3_forget_5 rfl (lv_at hl 2 rfl) ?_
      refine CI.callV (As := []) (rest := [.int (nI n)]) (w3 := (fun _ => sW cI ad (forK g n))) (c_X3_nodes l dC dI cI cZ cR cG ad (forK g n)) ⟨hx, hb, hml, hown, hts⟩ (cwV 0 hts gX3_forget_X3_nodes rfl rfl rfl (by decide +kernel) ⟨Nat.le_of_ble_eq_true rfl, Nat.le_of_ble_eq_true rfl⟩) rfl hl.1 (Nat.le_of_ble_eq_true rfl) dX3_forget_6 ⟨Nat.le_of_ble_eq_true rfl, Nat.le_of_ble_eq_true rfl⟩ hA hS hP hK hD [0, 1] [] rfl rfl (by decide) (by decide) (by decide) 0 3 rfl rfl [0, 1] (by decide) (fun _ => rfl) rfl (fun _ H locs hp_2 hP hD hS => ?_)
      refine my_cast (show nI ((forK g n) 0) = nI (g 0) from by rw [forK_lo (Or.inl (by omega))]) ?_
      refine my_icmp_ge (x := n) (y := (g 0)) (tgt := 57) hx hb (by omega) (by omega) dX3_forget_9 (by decide) (fun c_3 => ?_) (fun c_3 => ?_)
      · refine lv_iload_n hx hb dX3_forget_57 rfl (lv_at hl 1 rfl) ?_
        exact ret () _ _ _ _ _ _ _ _ (by show nI (ct (kno g) n) = nI (ct (kno g) (g 0)); rw [show n = g 0 by omega]) (trivial) (by show sW cI ad (forK g (g 0)) = _; rw [show n = g 0 by omega]) hP hD hS (Nat.le_of_ble_eq_true rfl) (Nat.le_of_ble_eq_true rfl) dX3_forget_58
      · refine lv_aload_n hx hb dX3_forget_12 rfl (lv_at hl 2 rfl) ?_
        refine lv_iload_n hx hb dX3_forget_13 rfl (lv_at hl 0 rfl) ?_
        refine CI.callV (As := [.int (nI n)]) (rest := []) (w3 := (fun _ => sW cI ad (forK g n))) (c_X3_isInput l dC dI cI cZ cR cG ad (forK g n) n (by omega) (by rw [forK_lo (Or.inl (by omega))]; exact (ok.2.2.1 _ (by omega)).1)) ⟨hx, hb, hml, hown, hts⟩ (cwV 1 hts gX3_forget_X3_isInput rfl rfl rfl (by decide +kernel) ⟨Nat.le_of_ble_eq_true rfl, Nat.le_of_ble_eq_true rfl⟩) rfl hl.1 (Nat.le_of_ble_eq_true rfl) dX3_forget_14 ⟨Nat.le_of_ble_eq_true rfl, Nat.le_of_ble_eq_true rfl⟩ hA hS hP hK hD [0, 1] [] rfl rfl (by decide) (by decide) (by decide) 0 3 rfl rfl [0, 1] (by decide) (fun _ => rfl) rfl (fun _ H locs hp_4 hP hD hS => ?_)
        refine my_cast (show bI (decide ((forK g n) (2 + n) = 0)) = bI (decide (g (2 + n) = 0)) from by rw [forK_lo (Or.inl (by omega))]) ?_
        refine my_if_neB (x := (decide (g (2 + n) = 0))) (tgt := 51) hx hb dX3_forget_17 (by decide) (fun c_5 => ?_) (fun c_5 => ?_)
        · refine my_iinc (k := 0) (x := n) (d := 1) (lv' := [(2, .int (nI (n + 1))), (1, .int (nI (ct (kno g) n))), (0, .ref (ad 0))]) hx hb dX3_forget_51 hl rfl (by decide) (by decide) rfl (fun ls hl => ?_)
          refine lv_goto (tgt := 4) hx hb dX3_forget_54 (by decide) ?_
          have hcn : ct (kno g) n = ct (kno g) (n + 1) := by show _ = ct (kno g) n + (if kno g n = true then 1 else 0); rw [if_neg (by unfold kno; simp at c_5; simp [c_5])]; rfl
          rw [forK_n (of_decide_eq_true c_5)] at hP hD
          rw [hcn] at hl
          exact ih_4 (n + 1) (by omega) (by omega) _ _ _ hP hD hS (lv_sub hl [0, 1, 2] rfl)
        · refine lv_iload_n hx hb dX3_forget_20 rfl (lv_at hl 1 rfl) ?_
          refine lv_aload_n hx hb dX3_forget_21 rfl (lv_at hl 2 rfl) ?_
          refine va_get (D := (dC, dI)) (ci := 3) (v := .ref (ad 1)) (C := RX3) (T := TX3) (N := 8) hx hb hts (fun _ h9 => List.mem_cons_of_mem _ (List.mem_append_right _ h9)) hown hK hP 0 rfl rfl 0 (by decide) (hts (.fieldLink RX3 7 "SwitchLevelSimulatorModel" "state" "[I") (List.mem_of_getElem? (i := 1) rfl)) (fun _ h9 => h9) rfl dX3_forget_22 ?_
          refine lv_bipush (v := nI 26) hx hb dX3_forget_25 (by decide) ?_
          refine lv_iload_n hx hb dX3_forget_27 rfl (lv_at hl 0 rfl) ?_
          refine my_iadd (x := 26) (y := n) hx hb dX3_forget_28 ?_
          refine my_iald (i := (26 + n)) hx hb hK hP 1 0 rfl rfl (by omega) (by decide) dX3_forget_29 ?_
          refine my_cast (show nI ((forK g n) (26 + n)) = nI (g (26 + n)) from by rw [forK_lo (Or.inr (by omega))]) ?_
          refine lv_iconst (v := nI 2) hx hb dX3_forget_30 (by decide) ?_
          refine my_icmp_eq (x := (g (26 + n))) (y := 2) (tgt := 38) hx hb (by have := (ok.2.2.1 n (by omega)).2; omega) (by omega) dX3_forget_31 (by decide) (fun c_6 => ?_) (fun c_6 => ?_)
          · refine lv_iconst (v := nI 0) hx hb dX3_forget_38 (by decide) ?_
            refine my_iadd (x := (ct (kno g) n)) (y := 0) hx hb dX3_forget_39 ?_
            refine my_cast (show nI (ct (kno g) n + 0) = nI (ct (kno g) (n + 1)) from by congr 1; show _ = ct (kno g) n + (if kno g n = true then 1 else 0); rw [if_neg (by unfold kno; simp [c_6])]) ?_
            refine lv_istore_n (lv' := [(1, .int (nI (ct (kno g) (n + 1)))), (2, .int (nI n)), (0, .ref (ad 0))]) hx hb dX3_forget_40 rfl hl (by decide) rfl (fun ls hl => ?_)
            refine lv_aload_n hx hb dX3_forget_41 rfl (lv_at hl 2 rfl) ?_
            refine va_get (D := (dC, dI)) (ci := 3) (v := .ref (ad 1)) (C := RX3) (T := TX3) (N := 8) hx hb hts (fun _ h9 => List.mem_cons_of_mem _ (List.mem_append_right _ h9)) hown hK hP 0 rfl rfl 0 (by decide) (hts (.fieldLink RX3 7 "SwitchLevelSimulatorModel" "state" "[I") (List.mem_of_getElem? (i := 1) rfl)) (fun _ h9 => h9) rfl dX3_forget_42 ?_
            refine lv_bipush (v := nI 26) hx hb dX3_forget_45 (by decide) ?_
            refine lv_iload_n hx hb dX3_forget_47 rfl (lv_at hl 1 rfl) ?_
            refine my_iadd (x := 26) (y := n) hx hb dX3_forget_48 ?_
            refine lv_iconst (v := nI 2) hx hb dX3_forget_49 (by decide) ?_
            refine my_iastN (i := (26 + n)) (x := 2) (g := (forK g n)) (ws' := sW cI ad (up1 (forK g n) (26 + n) 2)) hx hb hK hP hD hS 1 0 rfl rfl (by omega) (by decide) dX3_forget_50 rfl (fun H locs hP hD hS => ?_)
            refine my_iinc (k := 1) (x := n) (d := 1) (lv' := [(2, .int (nI (n + 1))), (1, .int (nI (ct (kno g) (n + 1)))), (0, .ref (ad 0))]) hx hb dX3_forget_51 hl rfl (by decide) (by decide) rfl (fun ls hl => ?_)
            refine lv_goto (tgt := 4) hx hb dX3_forget_54 (by decide) ?_
            rw [forK_s (of_decide_eq_false c_5)] at hP hD
            exact ih_4 (n + 1) (by omega) (by omega) _ _ _ hP hD hS (lv_sub hl [0, 1, 2] rfl)
          · refine lv_iconst (v := nI 1) hx hb dX3_forget_34 (by decide) ?_
            refine lv_goto (tgt := 39) hx hb dX3_forget_35 (by decide) ?_
            refine my_iadd (x := (ct (kno g) n)) (y := 1) hx hb dX3_forget_39 ?_
            refine my_cast (show nI (ct (kno g) n + 1) = nI (ct (kno g) (n + 1)) from by congr 1; show _ = ct (kno g) n + (if kno g n = true then 1 else 0); rw [if_pos (by unfold kno; simp at c_5; simp [c_5, c_6])]) ?_
            refine lv_istore_n (lv' := [(1, .int (nI (ct (kno g) (n + 1)))), (2, .int (nI n)), (0, .ref (ad 0))]) hx hb dX3_forget_40 rfl hl (by decide) rfl (fun ls hl => ?_)
            refine lv_aload_n hx hb dX3_forget_41 rfl (lv_at hl 2 rfl) ?_
            refine va_get (D := (dC, dI)) (ci := 3) (v := .ref (ad 1)) (C := RX3) (T := TX3) (N := 8) hx hb hts (fun _ h9 => List.mem_cons_of_mem _ (List.mem_append_right _ h9)) hown hK hP 0 rfl rfl 0 (by decide) (hts (.fieldLink RX3 7 "SwitchLevelSimulatorModel" "state" "[I") (List.mem_of_getElem? (i := 1) rfl)) (fun _ h9 => h9) rfl dX3_forget_42 ?_
            refine lv_bipush (v := nI 26) hx hb dX3_forget_45 (by decide) ?_
            refine lv_iload_n hx hb dX3_forget_47 rfl (lv_at hl 1 rfl) ?_
            refine my_iadd (x := 26) (y := n) hx hb dX3_forget_48 ?_
            refine lv_iconst (v := nI 2) hx hb dX3_forget_49 (by decide) ?_
            refine my_iastN (i := (26 + n)) (x := 2) (g := (forK g n)) (ws' := sW cI ad (up1 (forK g n) (26 + n) 2)) hx hb hK hP hD hS 1 0 rfl rfl (by omega) (by decide) dX3_forget_50 rfl (fun H locs hP hD hS => ?_)
            refine my_iinc (k := 1) (x := n) (d := 1) (lv' := [(2, .int (nI (n + 1))), (1, .int (nI (ct (kno g) (n + 1)))), (0, .ref (ad 0))]) hx hb dX3_forget_51 hl rfl (by decide) (by decide) rfl (fun ls hl => ?_)
            refine lv_goto (tgt := 4) hx hb dX3_forget_54 (by decide) ?_
            rw [forK_s (of_decide_eq_false c_5)] at hP hD
            exact ih_4 (n + 1) (by omega) (by omega) _ _ _ hP hD hS (lv_sub hl [0, 1, 2] rfl)
  exact key_4 _ 0 (Nat.lt_succ_self _) (Nat.zero_le _) _ _ _ hP hD hS (lv_sub hl [0, 1, 2] rfl)
abbrev rm_X3_value : Room := { frames := 2, cells := 0, slots := 0, locals := 43 }
set_option maxHeartbeats 4000000 in
set_option maxRecDepth 100000 in
theorem c_X3_value (l : Launch) (dC : Nat → ClassId) (dI : Nat → Nat → Nat) (cI cZ cR cG : ClassId) (ad : Nat → Nat) (g : Nat → Nat) (x : Int32) (ok : okG g) : CI l (dC, dI) (tyL cI cZ cR cG) yX3_value wsX3_value rm_X3_value [.ref (ad 0), .int x] (sW cI ad g) (S := Unit) (fun _ => aVal g x) (fun _ => True) (fun _ => sW cI ad g) := by
  refine CI.of (cc := cX3_value) (maxL := 2) (rt := .int) (lv := [(0, .ref (ad 0)), (1, .int x)]) (by decide) rfl (Nat.le_of_ble_eq_true rfl) rfl (Or.inl rfl) ?_
  intro p e s m ar below meth c A Qz ls hx hb hml hown hts hnm hA hS hP hK hD hl ret
  have h0 := ok.1
  have h1 := ok.2.1
  refine lv_aload_n hx hb dX3_value_0 rfl (lv_at hl 0 rfl) ?_
  refine lv_iload_n hx hb dX3_value_1 rfl (lv_at hl 1 rfl) ?_
  refine CI.callV (As := [.int x]) (rest := []) (w3 := (fun _ => sW cI ad g)) (c_X3_isNode l dC dI cI cZ cR cG ad g x (ok.1)) ⟨hx, hb, hml, hown, hts⟩ (cwV 1 hts gX3_value_X3_isNode rfl rfl rfl (by decide +kernel) ⟨Nat.le_of_ble_eq_true rfl, Nat.le_of_ble_eq_true rfl⟩) rfl hl.1 (Nat.le_of_ble_eq_true rfl) dX3_value_2 ⟨Nat.le_of_ble_eq_true rfl, Nat.le_of_ble_eq_true rfl⟩ hA hS hP hK hD [0, 1] [] rfl rfl (by decide) (by decide) (by decide) 0 3 rfl rfl [0, 1] (by decide) (fun _ => rfl) rfl (fun _ H locs hp_1 hP hD hS => ?_)
  refine my_if_eqB (x := (inN x (g 0))) (tgt := 20) hx hb dX3_value_5 (by decide) (fun c_2 => ?_) (fun c_2 => ?_)
  · refine lv_iconst (v := -1) hx hb dX3_value_20 (by decide) ?_
    exact ret () _ _ _ _ _ _ _ _ (by show _ = aVal g x; unfold aVal; rw [if_neg (by rw [c_2]; decide)]) (trivial) (rfl) hP hD hS (Nat.le_of_ble_eq_true rfl) (Nat.le_of_ble_eq_true rfl) dX3_value_21
  · obtain ⟨j, hj1, hj2, rfl, hjc⟩ := inN_at c_2
    refine lv_aload_n hx hb dX3_value_8 rfl (lv_at hl 0 rfl) ?_
    refine va_get (D := (dC, dI)) (ci := 3) (v := .ref (ad 1)) (C := RX3) (T := TX3) (N := 8) hx hb hts (fun _ h9 => List.mem_cons_of_mem _ (List.mem_append_right _ h9)) hown hK hP 0 rfl rfl 0 (by decide) (hts (.fieldLink RX3 7 "SwitchLevelSimulatorModel" "state" "[I") (List.mem_of_getElem? (i := 1) rfl)) (fun _ h9 => h9) rfl dX3_value_9 ?_
    refine lv_bipush (v := nI 26) hx hb dX3_value_12 (by decide) ?_
    refine lv_iload_n hx hb dX3_value_14 rfl (lv_at hl 1 rfl) ?_
    refine my_iadd (x := 26) (y := j) hx hb dX3_value_15 ?_
    refine my_iald (i := (26 + j)) hx hb hK hP 1 0 rfl rfl (by omega) (by decide) dX3_value_16 ?_
    refine lv_goto (tgt := 21) hx hb dX3_value_17 (by decide) ?_
    exact ret () _ _ _ _ _ _ _ _ (by show _ = aVal g (nI j); unfold aVal; rw [if_pos c_2, show nx (nI j) = j from hjc]; try rfl) (trivial) (rfl) hP hD hS (Nat.le_of_ble_eq_true rfl) (Nat.le_of_ble_eq_true rfl) dX3_value_21
abbrev rm_X3_nodesWith : Room := { frames := 1, cells := 0, slots := 0, locals := 22 }
set_option maxHeartbeats 4000000 in
set_option maxRecDepth 100000 in
theorem c_X3_nodesWith (l : Launch) (dC : Nat → ClassId) (dI : Nat → Nat → Nat) (cI cZ cR cG : ClassId) (ad : Nat → Nat) (g : Nat → Nat) (x : Int32) (ok : okG g) : CI l (dC, dI) (tyL cI cZ cR cG) yX3_nodesWith wsX3_nodesWith rm_X3_nodesWith [.ref (ad 0), .int x] (sW cI ad g) (S := Unit) (fun _ => aWith g x) (fun _ => True) (fun _ => sW cI ad g) := by
  refine CI.of (cc := cX3_nodesWith) (maxL := 4) (rt := .int) (lv := [(0, .ref (ad 0)), (1, .int x)]) (by decide) rfl (Nat.le_of_ble_eq_true rfl) rfl (Or.inl rfl) ?_
  intro p e s m ar below meth c A Qz ls hx hb hml hown hts hnm hA hS hP hK hD hl ret
  have h0 := ok.1
  have h1 := ok.2.1
  refine lv_iload_n hx hb dX3_nodesWith_0 rfl (lv_at hl 1 rfl) ?_
  refine lv_iconst (v := nI 0) hx hb dX3_nodesWith_1 (by decide) ?_
  refine lv_iconst (v := nI 2) hx hb dX3_nodesWith_2 (by decide) ?_
  refine CI.callS (As := [.int x, .int (nI 0), .int (nI 2)]) (rest := []) (w3 := (fun _ => sW cI ad g)) (c_X3_inR l dC dI cI cZ cR cG x 0 2 (by decide) (by decide)) ⟨hx, hb, hml, hown, hts⟩ (va_cwS 3 hts gX3_nodesWith_X3_in rfl rfl rfl (by decide +kernel) ⟨Nat.le_of_ble_eq_true rfl, Nat.le_of_ble_eq_true rfl⟩) rfl hl.1 (Nat.le_of_ble_eq_true rfl) dX3_nodesWith_3 ⟨Nat.le_of_ble_eq_true rfl, Nat.le_of_ble_eq_true rfl⟩ hA hS hP hK hD [] [0, 1] rfl rfl (by decide) (by decide) (by decide) [0, 1] (by decide) (fun _ => rfl) rfl (fun _ H locs hp_1 hP hD hS => ?_)
  refine my_if_neB (x := (inR x 0 2)) (tgt := 12) hx hb dX3_nodesWith_6 (by decide) (fun c_2 => ?_) (fun c_2 => ?_)
  · obtain ⟨j, hj1, hj2, hj3, rfl, hjc⟩ := inR_at c_2
    refine lv_iconst (v := nI 0) hx hb dX3_nodesWith_12 (by decide) ?_
    refine lv_istore_n (lv' := [(2, .int (nI 0)), (0, .ref (ad 0)), (1, .int (nI j))]) hx hb dX3_nodesWith_13 rfl hl (by decide) rfl (fun ls hl => ?_)
    refine lv_iconst (v := nI 0) hx hb dX3_nodesWith_14 (by decide) ?_
    refine lv_istore_n (lv' := [(3, .int (nI 0)), (2, .int (nI 0)), (0, .ref (ad 0)), (1, .int (nI j))]) hx hb dX3_nodesWith_15 rfl hl (by decide) rfl (fun ls hl => ?_)
    have key_16 : ∀ (fu : Nat) (n : Nat), (g 0 - n) < fu → (n ≤ g 0) → ∀ (H : Heap) (locs : List Loc) (ls : Array Slot), va_P (dC, dI) vwCl (sW cI ad g) H → va_D A (sW cI ad g) → va_S A s.heap H locs → lv_has ls 4 [(3, .int (nI n)), (2, .int (mk (vlu g j) n)), (0, .ref (ad 0)), (1, .int (nI j))] → W p l e rm_X3_nodesWith s m ar below meth c H locs 0 0 Qz (F0 m 16 ls []) := by
      intro fu
      induction fu with
      | zero => intro n hmu; exact absurd hmu (Nat.not_lt_zero _)
      | succ fu ih_16 =>
        intro n hmu_16 hn H locs ls hP hD hS hl
        refine lv_iload_n hx hb dX3_nodesWith_16 rfl (lv_at hl 0 rfl) ?_
        refine lv_aload_n hx hb dX3_nodesWith_17 rfl (lv_at hl 2 rfl) ?_
        refine CI.callV (As := []) (rest := [.int (nI n)]) (w3 := (fun _ => sW cI ad g)) (c_X3_nodes l dC dI cI cZ cR cG ad g) ⟨hx, hb, hml, hown, hts⟩ (cwV 0 hts gX3_nodesWith_X3_nodes rfl rfl rfl (by decide +kernel) ⟨Nat.le_of_ble_eq_true rfl, Nat.le_of_ble_eq_true rfl⟩) rfl hl.1 (Nat.le_of_ble_eq_true rfl) dX3_nodesWith_18 ⟨Nat.le_of_ble_eq_true rfl, Nat.le_of_ble_eq_true rfl⟩ hA hS hP hK hD [0, 1] [] rfl rfl (by decide) (by decide) (by decide) 0 3 rfl rfl [0, 1] (by decide) (fun _ => rfl) rfl (fun _ H locs hp_4 hP hD hS => ?_)
        refine my_icmp_ge (x := n) (y := (g 0)) (tgt := 53) hx hb (by omega) (by omega) dX3_nodesWith_21 (by decide) (fun c_5 => ?_) (fun c_5 => ?_)
        · refine lv_iload_n hx hb dX3_nodesWith_53 rfl (lv_at hl 1 rfl) ?_
          exact ret () _ _ _ _ _ _ _ _ (by show _ = aWith g (nI j); unfold aWith; rw [if_pos c_2, show nx (nI j) = j from hjc, show n = g 0 by omega]) (trivial) (rfl) hP hD hS (Nat.le_of_ble_eq_true rfl) (Nat.le_of_ble_eq_true rfl) dX3_nodesWith_54
        · refine lv_iload_n hx hb dX3_nodesWith_24 rfl (lv_at hl 1 rfl) ?_
          refine lv_aload_n hx hb dX3_nodesWith_25 rfl (lv_at hl 2 rfl) ?_
          refine va_get (D := (dC, dI)) (ci := 3) (v := .ref (ad 1)) (C := RX3) (T := TX3) (N := 8) hx hb hts (fun _ h9 => List.mem_cons_of_mem _ (List.mem_append_right _ h9)) hown hK hP 0 rfl rfl 0 (by decide) (hts (.fieldLink RX3 7 "SwitchLevelSimulatorModel" "state" "[I") (List.mem_of_getElem? (i := 1) rfl)) (fun _ h9 => h9) rfl dX3_nodesWith_26 ?_
          refine lv_bipush (v := nI 26) hx hb dX3_nodesWith_29 (by decide) ?_
          refine lv_iload_n hx hb dX3_nodesWith_31 rfl (lv_at hl 0 rfl) ?_
          refine my_iadd (x := 26) (y := n) hx hb dX3_nodesWith_32 ?_
          refine my_iald (i := (26 + n)) hx hb hK hP 1 0 rfl rfl (by omega) (by decide) dX3_nodesWith_33 ?_
          refine lv_iload_n hx hb dX3_nodesWith_34 rfl (lv_at hl 3 rfl) ?_
          refine my_icmp_ne (x := (g (26 + n))) (y := j) (tgt := 44) hx hb (by have := (ok.2.2.1 n (by omega)).2; omega) (by omega) dX3_nodesWith_35 (by decide) (fun c_6 => ?_) (fun c_6 => ?_)
          · refine lv_iconst (v := nI 0) hx hb dX3_nodesWith_44 (by decide) ?_
            refine lv_ior hx hb dX3_nodesWith_45 ?_
            refine my_cast (show (mk (vlu g j) n) ||| (nI 0) = mk (vlu g j) (n + 1) from by show _ = mk (vlu g j) n ||| (if vlu g j n = true then (1 : Int32) <<< (nI n &&& 31) else 0); rw [if_neg (by unfold vlu; rw [decide_eq_false c_6]; decide)]; try rfl) ?_
            refine lv_istore_n (lv' := [(2, .int (mk (vlu g j) (n + 1))), (3, .int (nI n)), (0, .ref (ad 0)), (1, .int (nI j))]) hx hb dX3_nodesWith_46 rfl hl (by decide) rfl (fun ls hl => ?_)
            refine my_iinc (k := 1) (x := n) (d := 1) (lv' := [(3, .int (nI (n + 1))), (2, .int (mk (vlu g j) (n + 1))), (0, .ref (ad 0)), (1, .int (nI j))]) hx hb dX3_nodesWith_47 hl rfl (by decide) (by decide) rfl (fun ls hl => ?_)
            refine lv_goto (tgt := 16) hx hb dX3_nodesWith_50 (by decide) ?_
            exact ih_16 (n + 1) (by omega) (by omega) _ _ _ hP hD hS (lv_sub hl [0, 1, 2, 3] rfl)
          · refine lv_iconst (v := nI 1) hx hb dX3_nodesWith_38 (by decide) ?_
            refine lv_iload_n hx hb dX3_nodesWith_39 rfl (lv_at hl 0 rfl) ?_
            refine lv_ishl hx hb dX3_nodesWith_40 ?_
            refine lv_goto (tgt := 45) hx hb dX3_nodesWith_41 (by decide) ?_
            refine lv_ior hx hb dX3_nodesWith_45 ?_
            refine my_cast (show (mk (vlu g j) n) ||| ((1 : Int32) <<< (nI n &&& 31)) = mk (vlu g j) (n + 1) from by show _ = mk (vlu g j) n ||| (if vlu g j n = true then (1 : Int32) <<< (nI n &&& 31) else 0); rw [if_pos (by unfold vlu; exact decide_eq_true c_6)]; try rfl) ?_
            refine lv_istore_n (lv' := [(2, .int (mk (vlu g j) (n + 1))), (3, .int (nI n)), (0, .ref (ad 0)), (1, .int (nI j))]) hx hb dX3_nodesWith_46 rfl hl (by decide) rfl (fun ls hl => ?_)
            refine my_iinc (k := 1) (x := n) (d := 1) (lv' := [(3, .int (nI (n + 1))), (2, .int (mk (vlu g j) (n + 1))), (0, .ref (ad 0)), (1, .int (nI j))]) hx hb dX3_nodesWith_47 hl rfl (by decide) (by decide) rfl (fun ls hl => ?_)
            refine lv_goto (tgt := 16) hx hb dX3_nodesWith_50 (by decide) ?_
            exact ih_16 (n + 1) (by omega) (by omega) _ _ _ hP hD hS (lv_sub hl [0, 1, 2, 3] rfl)
    exact key_16 _ 0 (Nat.lt_succ_self _) (Nat.zero_le _) _ _ _ hP hD hS (lv_sub hl [0, 1, 2, 3] rfl)
  · refine lv_bipush (v := -3) hx hb dX3_nodesWith_9 (by decide) ?_
    exact ret () _ _ _ _ _ _ _ _ (by show _ = aWith g x; unfold aWith; rw [if_neg (by rw [c_2]; decide)]) (trivial) (rfl) hP hD hS (Nat.le_of_ble_eq_true rfl) (Nat.le_of_ble_eq_true rfl) dX3_nodesWith_11
abbrev rm_X3_stateOf : Room := { frames := 0, cells := 0, slots := 0, locals := 0 }
set_option maxHeartbeats 4000000 in
set_option maxRecDepth 100000 in
theorem c_X3_stateOf (l : Launch) (dC : Nat → ClassId) (dI : Nat → Nat → Nat) (cI cZ cR cG : ClassId) (ad : Nat → Nat) (g : Nat → Nat) (t : Nat) (ok : okG g) (ht : t < g 1) : CI l (dC, dI) (tyL cI cZ cR cG) yX3_stateOf wsX3_stateOf rm_X3_stateOf [.ref (ad 0), .int (nI t)] (sW cI ad g) (S := Unit) (fun _ => nI (swS g t)) (fun _ => True) (fun _ => sW cI ad g) := by
  refine CI.of (cc := cX3_stateOf) (maxL := 4) (rt := .int) (lv := [(0, .ref (ad 0)), (1, .int (nI t))]) (by decide) rfl (Nat.le_of_ble_eq_true rfl) rfl (Or.inl rfl) ?_
  intro p e s m ar below meth c A Qz ls hx hb hml hown hts hnm hA hS hP hK hD hl ret
  have h0 := ok.1
  have h1 := ok.2.1
  have hT := ok.2.2.2 t ht
  have hG := (ok.2.2.1 _ hT.2.2.2.1).2
  refine lv_aload_n hx hb dX3_stateOf_0 rfl (lv_at hl 0 rfl) ?_
  refine va_get (D := (dC, dI)) (ci := 3) (v := .ref (ad 1)) (C := RX3) (T := TX3) (N := 8) hx hb hts (fun _ h9 => List.mem_cons_of_mem _ (List.mem_append_right _ h9)) hown hK hP 0 rfl rfl 0 (by decide) (hts (.fieldLink RX3 7 "SwitchLevelSimulatorModel" "state" "[I") (List.mem_of_getElem? (i := 1) rfl)) (fun _ h9 => h9) rfl dX3_stateOf_1 ?_
  refine lv_sipush (v := nI 250) hx hb dX3_stateOf_4 (by decide) ?_
  refine lv_iload_n hx hb dX3_stateOf_7 rfl (lv_at hl 1 rfl) ?_
  refine my_iadd (x := 250) (y := t) hx hb dX3_stateOf_8 ?_
  refine my_iald (i := (250 + t)) hx hb hK hP 1 0 rfl rfl (by omega) (by decide) dX3_stateOf_9 ?_
  refine lv_istore_n (lv' := [(2, .int (nI (g (250 + t)))), (0, .ref (ad 0)), (1, .int (nI t))]) hx hb dX3_stateOf_10 rfl hl (by decide) rfl (fun ls hl => ?_)
  refine lv_iload_n hx hb dX3_stateOf_11 rfl (lv_at hl 0 rfl) ?_
  refine my_if_eqN (x := (g (250 + t))) (tgt := 26) hx hb (by omega) dX3_stateOf_12 (by decide) (fun c_1 => ?_) (fun c_1 => ?_)
  · refine lv_aload_n hx hb dX3_stateOf_26 rfl (lv_at hl 1 rfl) ?_
    refine va_get (D := (dC, dI)) (ci := 3) (v := .ref (ad 1)) (C := RX3) (T := TX3) (N := 8) hx hb hts (fun _ h9 => List.mem_cons_of_mem _ (List.mem_append_right _ h9)) hown hK hP 0 rfl rfl 0 (by decide) (hts (.fieldLink RX3 7 "SwitchLevelSimulatorModel" "state" "[I") (List.mem_of_getElem? (i := 1) rfl)) (fun _ h9 => h9) rfl dX3_stateOf_27 ?_
    refine lv_bipush (v := nI 50) hx hb dX3_stateOf_30 (by decide) ?_
    refine lv_iload_n hx hb dX3_stateOf_32 rfl (lv_at hl 2 rfl) ?_
    refine my_iadd (x := 50) (y := t) hx hb dX3_stateOf_33 ?_
    refine my_iald (i := (50 + t)) hx hb hK hP 1 0 rfl rfl (by omega) (by decide) dX3_stateOf_34 ?_
    refine lv_iconst (v := nI 2) hx hb dX3_stateOf_35 (by decide) ?_
    refine my_icmp_ne (x := (g (50 + t))) (y := 2) (tgt := 41) hx hb (by omega) (by omega) dX3_stateOf_36 (by decide) (fun c_2 => ?_) (fun c_2 => ?_)
    · refine lv_aload_n hx hb dX3_stateOf_41 rfl (lv_at hl 1 rfl) ?_
      refine va_get (D := (dC, dI)) (ci := 3) (v := .ref (ad 1)) (C := RX3) (T := TX3) (N := 8) hx hb hts (fun _ h9 => List.mem_cons_of_mem _ (List.mem_append_right _ h9)) hown hK hP 0 rfl rfl 0 (by decide) (hts (.fieldLink RX3 7 "SwitchLevelSimulatorModel" "state" "[I") (List.mem_of_getElem? (i := 1) rfl)) (fun _ h9 => h9) rfl dX3_stateOf_42 ?_
      refine lv_bipush (v := nI 26) hx hb dX3_stateOf_45 (by decide) ?_
      refine lv_aload_n hx hb dX3_stateOf_47 rfl (lv_at hl 1 rfl) ?_
      refine va_get (D := (dC, dI)) (ci := 3) (v := .ref (ad 1)) (C := RX3) (T := TX3) (N := 8) hx hb hts (fun _ h9 => List.mem_cons_of_mem _ (List.mem_append_right _ h9)) hown hK hP 0 rfl rfl 0 (by decide) (hts (.fieldLink RX3 7 "SwitchLevelSimulatorModel" "state" "[I") (List.mem_of_getElem? (i := 1) rfl)) (fun _ h9 => h9) rfl dX3_stateOf_48 ?_
      refine lv_sipush (v := nI 130) hx hb dX3_stateOf_51 (by decide) ?_
      refine lv_iload_n hx hb dX3_stateOf_54 rfl (lv_at hl 2 rfl) ?_
      refine my_iadd (x := 130) (y := t) hx hb dX3_stateOf_55 ?_
      refine my_iald (i := (130 + t)) hx hb hK hP 1 0 rfl rfl (by omega) (by decide) dX3_stateOf_56 ?_
      refine my_iadd (x := 26) (y := (g (130 + t))) hx hb dX3_stateOf_57 ?_
      refine my_iald (i := (26 + (g (130 + t)))) hx hb hK hP 1 0 rfl rfl (by omega) (by decide) dX3_stateOf_58 ?_
      refine lv_istore_n (lv' := [(3, .int (nI (g (26 + (g (130 + t)))))), (2, .int (nI (g (250 + t)))), (0, .ref (ad 0)), (1, .int (nI t))]) hx hb dX3_stateOf_59 rfl hl (by decide) rfl (fun ls hl => ?_)
      refine lv_iload_n hx hb dX3_stateOf_60 rfl (lv_at hl 0 rfl) ?_
      refine lv_iconst (v := nI 2) hx hb dX3_stateOf_61 (by decide) ?_
      refine my_icmp_ne (x := (g (26 + (g (130 + t))))) (y := 2) (tgt := 69) hx hb (by omega) (by omega) dX3_stateOf_62 (by decide) (fun c_3 => ?_) (fun c_3 => ?_)
      · refine lv_iload_n hx hb dX3_stateOf_69 rfl (lv_at hl 0 rfl) ?_
        refine lv_iconst (v := nI 1) hx hb dX3_stateOf_70 (by decide) ?_
        refine my_icmp_ne (x := (g (26 + (g (130 + t))))) (y := 1) (tgt := 78) hx hb (by omega) (by omega) dX3_stateOf_71 (by decide) (fun c_4 => ?_) (fun c_4 => ?_)
        · refine lv_iconst (v := nI 0) hx hb dX3_stateOf_78 (by decide) ?_
          refine lv_aload_n hx hb dX3_stateOf_79 rfl (lv_at hl 2 rfl) ?_
          refine va_get (D := (dC, dI)) (ci := 3) (v := .ref (ad 1)) (C := RX3) (T := TX3) (N := 8) hx hb hts (fun _ h9 => List.mem_cons_of_mem _ (List.mem_append_right _ h9)) hown hK hP 0 rfl rfl 0 (by decide) (hts (.fieldLink RX3 7 "SwitchLevelSimulatorModel" "state" "[I") (List.mem_of_getElem? (i := 1) rfl)) (fun _ h9 => h9) rfl dX3_stateOf_80 ?_
          refine lv_bipush (v := nI 50) hx hb dX3_stateOf_83 (by decide) ?_
          refine lv_iload_n hx hb dX3_stateOf_85 rfl (lv_at hl 3 rfl) ?_
          refine my_iadd (x := 50) (y := t) hx hb dX3_stateOf_86 ?_
          refine my_iald (i := (50 + t)) hx hb hK hP 1 0 rfl rfl (by omega) (by decide) dX3_stateOf_87 ?_
          refine my_if_neN (x := (g (50 + t))) (tgt := 95) hx hb (by omega) dX3_stateOf_88 (by decide) (fun c_5 => ?_) (fun c_5 => ?_)
          · refine lv_iconst (v := nI 0) hx hb dX3_stateOf_95 (by decide) ?_
            refine my_icmp_ne (x := 0) (y := 0) (tgt := 103) hx hb (by omega) (by omega) dX3_stateOf_96 (by decide) (fun c_6 => absurd c_6 (by decide)) (fun _ => ?_)
            refine lv_iconst (v := nI 1) hx hb dX3_stateOf_99 (by decide) ?_
            refine lv_goto (tgt := 104) hx hb dX3_stateOf_100 (by decide) ?_
            exact ret () _ _ _ _ _ _ _ _ (by show _ = nI (swS g t); congr 1; simp [swS, c_1, c_2, c_3, c_4, c_5]) (trivial) (rfl) hP hD hS (Nat.le_of_ble_eq_true rfl) (Nat.le_of_ble_eq_true rfl) dX3_stateOf_104
          · refine lv_iconst (v := nI 1) hx hb dX3_stateOf_91 (by decide) ?_
            refine lv_goto (tgt := 96) hx hb dX3_stateOf_92 (by decide) ?_
            refine my_icmp_ne (x := 0) (y := 1) (tgt := 103) hx hb (by omega) (by omega) dX3_stateOf_96 (by decide) (fun _ => ?_) (fun c_7 => absurd c_7 (by decide))
            refine lv_iconst (v := nI 0) hx hb dX3_stateOf_103 (by decide) ?_
            exact ret () _ _ _ _ _ _ _ _ (by show _ = nI (swS g t); congr 1; simp [swS, c_1, c_2, c_3, c_4, c_5]) (trivial) (rfl) hP hD hS (Nat.le_of_ble_eq_true rfl) (Nat.le_of_ble_eq_true rfl) dX3_stateOf_104
        · refine lv_iconst (v := nI 1) hx hb dX3_stateOf_74 (by decide) ?_
          refine lv_goto (tgt := 79) hx hb dX3_stateOf_75 (by decide) ?_
          refine lv_aload_n hx hb dX3_stateOf_79 rfl (lv_at hl 2 rfl) ?_
          refine va_get (D := (dC, dI)) (ci := 3) (v := .ref (ad 1)) (C := RX3) (T := TX3) (N := 8) hx hb hts (fun _ h9 => List.mem_cons_of_mem _ (List.mem_append_right _ h9)) hown hK hP 0 rfl rfl 0 (by decide) (hts (.fieldLink RX3 7 "SwitchLevelSimulatorModel" "state" "[I") (List.mem_of_getElem? (i := 1) rfl)) (fun _ h9 => h9) rfl dX3_stateOf_80 ?_
          refine lv_bipush (v := nI 50) hx hb dX3_stateOf_83 (by decide) ?_
          refine lv_iload_n hx hb dX3_stateOf_85 rfl (lv_at hl 3 rfl) ?_
          refine my_iadd (x := 50) (y := t) hx hb dX3_stateOf_86 ?_
          refine my_iald (i := (50 + t)) hx hb hK hP 1 0 rfl rfl (by omega) (by decide) dX3_stateOf_87 ?_
          refine my_if_neN (x := (g (50 + t))) (tgt := 95) hx hb (by omega) dX3_stateOf_88 (by decide) (fun c_8 => ?_) (fun c_8 => ?_)
          · refine lv_iconst (v := nI 0) hx hb dX3_stateOf_95 (by decide) ?_
            refine my_icmp_ne (x := 1) (y := 0) (tgt := 103) hx hb (by omega) (by omega) dX3_stateOf_96 (by decide) (fun _ => ?_) (fun c_9 => absurd c_9 (by decide))
            refine lv_iconst (v := nI 0) hx hb dX3_stateOf_103 (by decide) ?_
            exact ret () _ _ _ _ _ _ _ _ (by show _ = nI (swS g t); congr 1; simp [swS, c_1, c_2, c_3, c_4, c_8]) (trivial) (rfl) hP hD hS (Nat.le_of_ble_eq_true rfl) (Nat.le_of_ble_eq_true rfl) dX3_stateOf_104
          · refine lv_iconst (v := nI 1) hx hb dX3_stateOf_91 (by decide) ?_
            refine lv_goto (tgt := 96) hx hb dX3_stateOf_92 (by decide) ?_
            refine my_icmp_ne (x := 1) (y := 1) (tgt := 103) hx hb (by omega) (by omega) dX3_stateOf_96 (by decide) (fun c_10 => absurd c_10 (by decide)) (fun _ => ?_)
            refine lv_iconst (v := nI 1) hx hb dX3_stateOf_99 (by decide) ?_
            refine lv_goto (tgt := 104) hx hb dX3_stateOf_100 (by decide) ?_
            exact ret () _ _ _ _ _ _ _ _ (by show _ = nI (swS g t); congr 1; simp [swS, c_1, c_2, c_3, c_4, c_8]) (trivial) (rfl) hP hD hS (Nat.le_of_ble_eq_true rfl) (Nat.le_of_ble_eq_true rfl) dX3_stateOf_104
      · refine lv_iconst (v := nI 2) hx hb dX3_stateOf_65 (by decide) ?_
        refine lv_goto (tgt := 104) hx hb dX3_stateOf_66 (by decide) ?_
        exact ret () _ _ _ _ _ _ _ _ (by show _ = nI (swS g t); congr 1; simp [swS, c_1, c_2, c_3]) (trivial) (rfl) hP hD hS (Nat.le_of_ble_eq_true rfl) (Nat.le_of_ble_eq_true rfl) dX3_stateOf_104
    · refine lv_iconst (v := nI 1) hx hb dX3_stateOf_39 (by decide) ?_
      exact ret () _ _ _ _ _ _ _ _ (by show _ = nI (swS g t); congr 1; simp [swS, c_1, c_2]) (trivial) (rfl) hP hD hS (Nat.le_of_ble_eq_true rfl) (Nat.le_of_ble_eq_true rfl) dX3_stateOf_40
  · refine lv_iload_n hx hb dX3_stateOf_15 rfl (lv_at hl 0 rfl) ?_
    refine lv_iconst (v := nI 1) hx hb dX3_stateOf_16 (by decide) ?_
    refine my_icmp_ne (x := (g (250 + t))) (y := 1) (tgt := 24) hx hb (by omega) (by omega) dX3_stateOf_17 (by decide) (fun c_11 => ?_) (fun c_11 => ?_)
    · refine lv_iconst (v := nI 1) hx hb dX3_stateOf_24 (by decide) ?_
      exact ret () _ _ _ _ _ _ _ _ (by show _ = nI (swS g t); congr 1; simp [swS, c_1, c_11]) (trivial) (rfl) hP hD hS (Nat.le_of_ble_eq_true rfl) (Nat.le_of_ble_eq_true rfl) dX3_stateOf_25
    · refine lv_iconst (v := nI 0) hx hb dX3_stateOf_20 (by decide) ?_
      refine lv_goto (tgt := 25) hx hb dX3_stateOf_21 (by decide) ?_
      exact ret () _ _ _ _ _ _ _ _ (by show _ = nI (swS g t); congr 1; simp [swS, c_1, c_11]) (trivial) (rfl) hP hD hS (Nat.le_of_ble_eq_true rfl) (Nat.le_of_ble_eq_true rfl) dX3_stateOf_25
abbrev rm_X3_switchState : Room := { frames := 2, cells := 0, slots := 0, locals := 43 }
set_option maxHeartbeats 4000000 in
set_option maxRecDepth 100000 in
theorem c_X3_switchState (l : Launch) (dC : Nat → ClassId) (dI : Nat → Nat → Nat) (cI cZ cR cG : ClassId) (ad : Nat → Nat) (g : Nat → Nat) (x : Int32) (ok : okG g) : CI l (dC, dI) (tyL cI cZ cR cG) yX3_switchState wsX3_switchState rm_X3_switchState [.ref (ad 0), .int x] (sW cI ad g) (S := Unit) (fun _ => aSw g x) (fun _ => True) (fun _ => sW cI ad g) := by
  refine CI.of (cc := cX3_switchState) (maxL := 2) (rt := .int) (lv := [(0, .ref (ad 0)), (1, .int x)]) (by decide) rfl (Nat.le_of_ble_eq_true rfl) rfl (Or.inl rfl) ?_
  intro p e s m ar below meth c A Qz ls hx hb hml hown hts hnm hA hS hP hK hD hl ret
  have h0 := ok.1
  have h1 := ok.2.1
  refine lv_aload_n hx hb dX3_switchState_0 rfl (lv_at hl 0 rfl) ?_
  refine lv_iload_n hx hb dX3_switchState_1 rfl (lv_at hl 1 rfl) ?_
  refine CI.callV (As := [.int x]) (rest := []) (w3 := (fun _ => sW cI ad g)) (c_X3_isTransistor l dC dI cI cZ cR cG ad g x (ok.2.1)) ⟨hx, hb, hml, hown, hts⟩ (cwV 1 hts gX3_switchState_X3_isTransistor rfl rfl rfl (by decide +kernel) ⟨Nat.le_of_ble_eq_true rfl, Nat.le_of_ble_eq_true rfl⟩) rfl hl.1 (Nat.le_of_ble_eq_true rfl) dX3_switchState_2 ⟨Nat.le_of_ble_eq_true rfl, Nat.le_of_ble_eq_true rfl⟩ hA hS hP hK hD [0, 1] [] rfl rfl (by decide) (by decide) (by decide) 0 3 rfl rfl [0, 1] (by decide) (fun _ => rfl) rfl (fun _ H locs hp_1 hP hD hS => ?_)
  refine my_if_eqB (x := (inN x (g 1))) (tgt := 16) hx hb dX3_switchState_5 (by decide) (fun c_2 => ?_) (fun c_2 => ?_)
  · refine lv_bipush (v := -2) hx hb dX3_switchState_16 (by decide) ?_
    exact ret () _ _ _ _ _ _ _ _ (by show _ = aSw g x; unfold aSw; rw [if_neg (by rw [c_2]; decide)]) (trivial) (rfl) hP hD hS (Nat.le_of_ble_eq_true rfl) (Nat.le_of_ble_eq_true rfl) dX3_switchState_18
  · obtain ⟨j, hj1, hj2, rfl, hjc⟩ := inN_at c_2
    refine lv_aload_n hx hb dX3_switchState_8 rfl (lv_at hl 0 rfl) ?_
    refine lv_iload_n hx hb dX3_switchState_9 rfl (lv_at hl 1 rfl) ?_
    refine CI.callV (As := [.int (nI j)]) (rest := []) (w3 := (fun _ => sW cI ad g)) (c_X3_stateOf l dC dI cI cZ cR cG ad g j (ok) (by omega)) ⟨hx, hb, hml, hown, hts⟩ (cwV 1 hts gX3_switchState_X3_stateOf rfl rfl rfl (by decide +kernel) ⟨Nat.le_of_ble_eq_true rfl, Nat.le_of_ble_eq_true rfl⟩) rfl hl.1 (Nat.le_of_ble_eq_true rfl) dX3_switchState_10 ⟨Nat.le_of_ble_eq_true rfl, Nat.le_of_ble_eq_true rfl⟩ hA hS hP hK hD [0, 1] [] rfl rfl (by decide) (by decide) (by decide) 0 3 rfl rfl [0, 1] (by decide) (fun _ => rfl) rfl (fun _ H locs hp_3 hP hD hS => ?_)
    refine lv_goto (tgt := 18) hx hb dX3_switchState_13 (by decide) ?_
    exact ret () _ _ _ _ _ _ _ _ (by show _ = aSw g (nI j); unfold aSw; rw [if_pos c_2, show nx (nI j) = j from hjc]) (trivial) (rfl) hP hD hS (Nat.le_of_ble_eq_true rfl) (Nat.le_of_ble_eq_true rfl) dX3_switchState_18
abbrev rm_X3_setFault : Room := { frames := 2, cells := 0, slots := 0, locals := 43 }
set_option maxHeartbeats 4000000 in
set_option maxRecDepth 100000 in
theorem c_X3_setFault (l : Launch) (dC : Nat → ClassId) (dI : Nat → Nat → Nat) (cI cZ cR cG : ClassId) (ad : Nat → Nat) (g : Nat → Nat) (x v : Int32) (ok : okG g) : CI l (dC, dI) (tyL cI cZ cR cG) yX3_setFault wsX3_setFault rm_X3_setFault [.ref (ad 0), .int x, .int v] (sW cI ad g) (S := Unit) (fun _ => aFlt g x v) (fun _ => True) (fun _ => sW cI ad (gFlt g x v)) := by
  refine CI.of (cc := cX3_setFault) (maxL := 3) (rt := .int) (lv := [(0, .ref (ad 0)), (1, .int x), (2, .int v)]) (by decide) rfl (Nat.le_of_ble_eq_true rfl) rfl (Or.inl rfl) ?_
  intro p e s m ar below meth c A Qz ls hx hb hml hown hts hnm hA hS hP hK hD hl ret
  have h0 := ok.1
  have h1 := ok.2.1
  refine lv_aload_n hx hb dX3_setFault_0 rfl (lv_at hl 0 rfl) ?_
  refine lv_iload_n hx hb dX3_setFault_1 rfl (lv_at hl 1 rfl) ?_
  refine CI.callV (As := [.int x]) (rest := []) (w3 := (fun _ => sW cI ad g)) (c_X3_isTransistor l dC dI cI cZ cR cG ad g x (ok.2.1)) ⟨hx, hb, hml, hown, hts⟩ (cwV 1 hts gX3_setFault_X3_isTransistor rfl rfl rfl (by decide +kernel) ⟨Nat.le_of_ble_eq_true rfl, Nat.le_of_ble_eq_true rfl⟩) rfl hl.1 (Nat.le_of_ble_eq_true rfl) dX3_setFault_2 ⟨Nat.le_of_ble_eq_true rfl, Nat.le_of_ble_eq_true rfl⟩ hA hS hP hK hD [0, 1] [] rfl rfl (by decide) (by decide) (by decide) 0 3 rfl rfl [0, 1] (by decide) (fun _ => rfl) rfl (fun _ H locs hp_1 hP hD hS => ?_)
  refine my_if_neB (x := (inN x (g 1))) (tgt := 11) hx hb dX3_setFault_5 (by decide) (fun c_2 => ?_) (fun c_2 => ?_)
  · obtain ⟨j, hj1, hj2, rfl, hjc⟩ := inN_at c_2
    refine lv_iload_n hx hb dX3_setFault_11 rfl (lv_at hl 2 rfl) ?_
    refine lv_iconst (v := nI 0) hx hb dX3_setFault_12 (by decide) ?_
    refine lv_iconst (v := nI 2) hx hb dX3_setFault_13 (by decide) ?_
    refine CI.callS (As := [.int v, .int (nI 0), .int (nI 2)]) (rest := []) (w3 := (fun _ => sW cI ad g)) (c_X3_inR l dC dI cI cZ cR cG v 0 2 (by decide) (by decide)) ⟨hx, hb, hml, hown, hts⟩ (va_cwS 3 hts gX3_setFault_X3_in rfl rfl rfl (by decide +kernel) ⟨Nat.le_of_ble_eq_true rfl, Nat.le_of_ble_eq_true rfl⟩) rfl hl.1 (Nat.le_of_ble_eq_true rfl) dX3_setFault_14 ⟨Nat.le_of_ble_eq_true rfl, Nat.le_of_ble_eq_true rfl⟩ hA hS hP hK hD [] [0, 1] rfl rfl (by decide) (by decide) (by decide) [0, 1] (by decide) (fun _ => rfl) rfl (fun _ H locs hp_3 hP hD hS => ?_)
    refine my_if_eqB (x := (inR v 0 2)) (tgt := 33) hx hb dX3_setFault_17 (by decide) (fun c_4 => ?_) (fun c_4 => ?_)
    · refine lv_bipush (v := -3) hx hb dX3_setFault_33 (by decide) ?_
      exact ret () _ _ _ _ _ _ _ _ (by show _ = aFlt g (nI j) v; unfold aFlt; rw [if_pos c_2, if_neg (by rw [c_4]; decide)]) (trivial) (by show sW cI ad (gFlt g (nI j) v) = _; unfold gFlt; rw [if_pos c_2, if_neg (by rw [c_4]; decide)]) hP hD hS (Nat.le_of_ble_eq_true rfl) (Nat.le_of_ble_eq_true rfl) dX3_setFault_35
    · obtain ⟨k, hk1, hk2, hk3, rfl, hkc⟩ := inR_at c_4
      refine lv_aload_n hx hb dX3_setFault_20 rfl (lv_at hl 0 rfl) ?_
      refine lv_sipush (v := nI 250) hx hb dX3_setFault_21 (by decide) ?_
      refine lv_iload_n hx hb dX3_setFault_24 rfl (lv_at hl 1 rfl) ?_
      refine my_iadd (x := 250) (y := j) hx hb dX3_setFault_25 ?_
      refine lv_iload_n hx hb dX3_setFault_26 rfl (lv_at hl 2 rfl) ?_
      refine CI.callV (As := [.int (nI (250 + j)), .int (nI k)]) (rest := []) (w3 := (fun _ => sW cI ad (up1 g (250 + j) k))) (c_X3_set l dC dI cI cZ cR cG ad g (250 + j) k (by omega)) ⟨hx, hb, hml, hown, hts⟩ (cwV 2 hts gX3_setFault_X3_set rfl rfl rfl (by decide +kernel) ⟨Nat.le_of_ble_eq_true rfl, Nat.le_of_ble_eq_true rfl⟩) rfl hl.1 (Nat.le_of_ble_eq_true rfl) dX3_setFault_27 ⟨Nat.le_of_ble_eq_true rfl, Nat.le_of_ble_eq_true rfl⟩ hA hS hP hK hD [0, 1] [] rfl rfl (by decide) (by decide) (by decide) 0 3 rfl rfl [0, 1] (by decide) (fun _ => rfl) rfl (fun _ H locs hp_5 hP hD hS => ?_)
      refine lv_goto (tgt := 35) hx hb dX3_setFault_30 (by decide) ?_
      exact ret () _ _ _ _ _ _ _ _ (by show _ = aFlt g (nI j) (nI k); unfold aFlt; rw [if_pos c_2, if_pos c_4, show nx (nI j) = j from hjc]) (trivial) (by show sW cI ad (gFlt g (nI j) (nI k)) = _; unfold gFlt; rw [if_pos c_2, if_pos c_4, show nx (nI j) = j from hjc, show nx (nI k) = k from hkc]) hP hD hS (Nat.le_of_ble_eq_true rfl) (Nat.le_of_ble_eq_true rfl) dX3_setFault_35
  · refine lv_bipush (v := -2) hx hb dX3_setFault_8 (by decide) ?_
    exact ret () _ _ _ _ _ _ _ _ (by show _ = aFlt g x v; unfold aFlt; rw [if_neg (by rw [c_2]; decide)]) (trivial) (by show sW cI ad (gFlt g x v) = _; unfold gFlt; rw [if_neg (by rw [c_2]; decide)]) hP hD hS (Nat.le_of_ble_eq_true rfl) (Nat.le_of_ble_eq_true rfl) dX3_setFault_10
abbrev rm_X3_clearFaults : Room := { frames := 1, cells := 0, slots := 0, locals := 20 }
set_option maxHeartbeats 4000000 in
set_option maxRecDepth 100000 in
theorem c_X3_clearFaults (l : Launch) (dC : Nat → ClassId) (dI : Nat → Nat → Nat) (cI cZ cR cG : ClassId) (ad : Nat → Nat) (g : Nat → Nat) (ok : okG g) : CI l (dC, dI) (tyL cI cZ cR cG) yX3_clearFaults wsX3_clearFaults rm_X3_clearFaults [.ref (ad 0)] (sW cI ad g) (S := Unit) (fun _ => aClr g) (fun _ => True) (fun _ => sW cI ad (clrK g (g 1))) := by
  refine CI.of (cc := cX3_clearFaults) (maxL := 3) (rt := .int) (lv := [(0, .ref (ad 0))]) (by decide) rfl (Nat.le_of_ble_eq_true rfl) rfl (Or.inl rfl) ?_
  intro p e s m ar below meth c A Qz ls hx hb hml hown hts hnm hA hS hP hK hD hl ret
  have h0 := ok.1
  have h1 := ok.2.1
  refine lv_iconst (v := nI 0) hx hb dX3_clearFaults_0 (by decide) ?_
  refine lv_istore_n (lv' := [(1, .int (nI 0)), (0, .ref (ad 0))]) hx hb dX3_clearFaults_1 rfl hl (by decide) rfl (fun ls hl => ?_)
  refine lv_iconst (v := nI 0) hx hb dX3_clearFaults_2 (by decide) ?_
  refine lv_istore_n (lv' := [(2, .int (nI 0)), (1, .int (nI 0)), (0, .ref (ad 0))]) hx hb dX3_clearFaults_3 rfl hl (by decide) rfl (fun ls hl => ?_)
  rw [← clrK_0 g] at hP hD
  have key_4 : ∀ (fu : Nat) (n : Nat), (g 1 - n) < fu → (n ≤ g 1) → ∀ (H : Heap) (locs : List Loc) (ls : Array Slot), va_P (dC, dI) vwCl (sW cI ad (clrK g n)) H → va_D A (sW cI ad (clrK g n)) → va_S A s.heap H locs → lv_has ls 3 [(2, .int (nI n)), (1, .int (nI (ct (flw g) n))), (0, .ref (ad 0))] → W p l e rm_X3_clearFaults s m ar below meth c H locs 0 0 Qz (F0 m 4 ls []) := by
    intro fu
    induction fu with
    | zero => intro n hmu; exact absurd hmu (Nat.not_lt_zero _)
    | succ fu ih_4 =>
      intro n hmu_4 hn H locs ls hP hD hS hl
      refine lv_iload_n hx hb dX3_clearFaults_4 rfl (lv_at hl 0 rfl) ?_
      refine lv_aload_n hx hb dX3_clearFaults_5 rfl (lv_at hl 2 rfl) ?_
      refine CI.callV (As := []) (rest := [.int (nI n)]) (w3 := (fun _ => sW cI ad (clrK g n))) (c_X3_many l dC dI cI cZ cR cG ad (clrK g n)) ⟨hx, hb, hml, hown, hts⟩ (cwV 0 hts gX3_clearFaults_X3_many rfl rfl rfl (by decide +kernel) ⟨Nat.le_of_ble_eq_true rfl, Nat.le_of_ble_eq_true rfl⟩) rfl hl.1 (Nat.le_of_ble_eq_true rfl) dX3_clearFaults_6 ⟨Nat.le_of_ble_eq_true rfl, Nat.le_of_ble_eq_true rfl⟩ hA hS hP hK hD [0, 1] [] rfl rfl (by decide) (by decide) (by decide) 0 3 rfl rfl [0, 1] (by decide) (fun _ => rfl) rfl (fun _ H locs hp_2 hP hD hS => ?_)
      refine my_cast (show nI ((clrK g n) 1) = nI (g 1) from by rw [clrK_lo (Or.inl (by omega))]) ?_
      refine my_icmp_ge (x := n) (y := (g 1)) (tgt := 50) hx hb (by omega) (by omega) dX3_clearFaults_9 (by decide) (fun c_3 => ?_) (fun c_3 => ?_)
      · refine lv_iload_n hx hb dX3_clearFaults_50 rfl (lv_at hl 1 rfl) ?_
        exact ret () _ _ _ _ _ _ _ _ (by show nI (ct (flw g) n) = nI (ct (flw g) (g 1)); rw [show n = g 1 by omega]) (trivial) (by show sW cI ad (clrK g (g 1)) = _; rw [show n = g 1 by omega]) hP hD hS (Nat.le_of_ble_eq_true rfl) (Nat.le_of_ble_eq_true rfl) dX3_clearFaults_51
      · refine lv_iload_n hx hb dX3_clearFaults_12 rfl (lv_at hl 1 rfl) ?_
        refine lv_aload_n hx hb dX3_clearFaults_13 rfl (lv_at hl 2 rfl) ?_
        refine va_get (D := (dC, dI)) (ci := 3) (v := .ref (ad 1)) (C := RX3) (T := TX3) (N := 8) hx hb hts (fun _ h9 => List.mem_cons_of_mem _ (List.mem_append_right _ h9)) hown hK hP 0 rfl rfl 0 (by decide) (hts (.fieldLink RX3 7 "SwitchLevelSimulatorModel" "state" "[I") (List.mem_of_getElem? (i := 1) rfl)) (fun _ h9 => h9) rfl dX3_clearFaults_14 ?_
        refine lv_sipush (v := nI 250) hx hb dX3_clearFaults_17 (by decide) ?_
        refine lv_iload_n hx hb dX3_clearFaults_20 rfl (lv_at hl 0 rfl) ?_
        refine my_iadd (x := 250) (y := n) hx hb dX3_clearFaults_21 ?_
        refine my_iald (i := (250 + n)) hx hb hK hP 1 0 rfl rfl (by omega) (by decide) dX3_clearFaults_22 ?_
        refine my_cast (show nI ((clrK g n) (250 + n)) = nI (g (250 + n)) from by rw [clrK_lo (Or.inr (by omega))]) ?_
        refine my_if_eqN (x := (g (250 + n))) (tgt := 30) hx hb (by have := ok.2.2.2 n (by omega); omega) dX3_clearFaults_23 (by decide) (fun c_4 => ?_) (fun c_4 => ?_)
        · refine lv_iconst (v := nI 0) hx hb dX3_clearFaults_30 (by decide) ?_
          refine my_iadd (x := (ct (flw g) n)) (y := 0) hx hb dX3_clearFaults_31 ?_
          refine my_cast (show nI (ct (flw g) n + 0) = nI (ct (flw g) (n + 1)) from by congr 1; show _ = ct (flw g) n + (if flw g n = true then 1 else 0); rw [if_neg (by unfold flw; simp [c_4])]) ?_
          refine lv_istore_n (lv' := [(1, .int (nI (ct (flw g) (n + 1)))), (2, .int (nI n)), (0, .ref (ad 0))]) hx hb dX3_clearFaults_32 rfl hl (by decide) rfl (fun ls hl => ?_)
          refine lv_aload_n hx hb dX3_clearFaults_33 rfl (lv_at hl 2 rfl) ?_
          refine va_get (D := (dC, dI)) (ci := 3) (v := .ref (ad 1)) (C := RX3) (T := TX3) (N := 8) hx hb hts (fun _ h9 => List.mem_cons_of_mem _ (List.mem_append_right _ h9)) hown hK hP 0 rfl rfl 0 (by decide) (hts (.fieldLink RX3 7 "SwitchLevelSimulatorModel" "state" "[I") (List.mem_of_getElem? (i := 1) rfl)) (fun _ h9 => h9) rfl dX3_clearFaults_34 ?_
          refine lv_sipush (v := nI 250) hx hb dX3_clearFaults_37 (by decide) ?_
          refine lv_iload_n hx hb dX3_clearFaults_40 rfl (lv_at hl 1 rfl) ?_
          refine my_iadd (x := 250) (y := n) hx hb dX3_clearFaults_41 ?_
          refine lv_iconst (v := nI 0) hx hb dX3_clearFaults_42 (by decide) ?_
          refine my_iastN (i := (250 + n)) (x := 0) (g := (clrK g n)) (ws' := sW cI ad (up1 (clrK g n) (250 + n) 0)) hx hb hK hP hD hS 1 0 rfl rfl (by omega) (by decide) dX3_clearFaults_43 rfl (fun H locs hP hD hS => ?_)
          refine my_iinc (k := 1) (x := n) (d := 1) (lv' := [(2, .int (nI (n + 1))), (1, .int (nI (ct (flw g) (n + 1)))), (0, .ref (ad 0))]) hx hb dX3_clearFaults_44 hl rfl (by decide) (by decide) rfl (fun ls hl => ?_)
          refine lv_goto (tgt := 4) hx hb dX3_clearFaults_47 (by decide) ?_
          rw [clrK_s g n] at hP hD
          exact ih_4 (n + 1) (by omega) (by omega) _ _ _ hP hD hS (lv_sub hl [0, 1, 2] rfl)
        · refine lv_iconst (v := nI 1) hx hb dX3_clearFaults_26 (by decide) ?_
          refine lv_goto (tgt := 31) hx hb dX3_clearFaults_27 (by decide) ?_
          refine my_iadd (x := (ct (flw g) n)) (y := 1) hx hb dX3_clearFaults_31 ?_
          refine my_cast (show nI (ct (flw g) n + 1) = nI (ct (flw g) (n + 1)) from by congr 1; show _ = ct (flw g) n + (if flw g n = true then 1 else 0); rw [if_pos (by unfold flw; simp [c_4])]) ?_
          refine lv_istore_n (lv' := [(1, .int (nI (ct (flw g) (n + 1)))), (2, .int (nI n)), (0, .ref (ad 0))]) hx hb dX3_clearFaults_32 rfl hl (by decide) rfl (fun ls hl => ?_)
          refine lv_aload_n hx hb dX3_clearFaults_33 rfl (lv_at hl 2 rfl) ?_
          refine va_get (D := (dC, dI)) (ci := 3) (v := .ref (ad 1)) (C := RX3) (T := TX3) (N := 8) hx hb hts (fun _ h9 => List.mem_cons_of_mem _ (List.mem_append_right _ h9)) hown hK hP 0 rfl rfl 0 (by decide) (hts (.fieldLink RX3 7 "SwitchLevelSimulatorModel" "state" "[I") (List.mem_of_getElem? (i := 1) rfl)) (fun _ h9 => h9) rfl dX3_clearFaults_34 ?_
          refine lv_sipush (v := nI 250) hx hb dX3_clearFaults_37 (by decide) ?_
          refine lv_iload_n hx hb dX3_clearFaults_40 rfl (lv_at hl 1 rfl) ?_
          refine my_iadd (x := 250) (y := n) hx hb dX3_clearFaults_41 ?_
          refine lv_iconst (v := nI 0) hx hb dX3_clearFaults_42 (by decide) ?_
          refine my_iastN (i := (250 + n)) (x := 0) (g := (clrK g n)) (ws' := sW cI ad (up1 (clrK g n) (250 + n) 0)) hx hb hK hP hD hS 1 0 rfl rfl (by omega) (by decide) dX3_clearFaults_43 rfl (fun H locs hP hD hS => ?_)
          refine my_iinc (k := 1) (x := n) (d := 1) (lv' := [(2, .int (nI (n + 1))), (1, .int (nI (ct (flw g) (n + 1)))), (0, .ref (ad 0))]) hx hb dX3_clearFaults_44 hl rfl (by decide) (by decide) rfl (fun ls hl => ?_)
          refine lv_goto (tgt := 4) hx hb dX3_clearFaults_47 (by decide) ?_
          rw [clrK_s g n] at hP hD
          exact ih_4 (n + 1) (by omega) (by omega) _ _ _ hP hD hS (lv_sub hl [0, 1, 2] rfl)
  exact key_4 _ 0 (Nat.lt_succ_self _) (Nat.zero_le _) _ _ _ hP hD hS (lv_sub hl [0, 1, 2] rfl)
abbrev rm_X3_lesser : Room := { frames := 0, cells := 0, slots := 0, locals := 0 }
set_option maxHeartbeats 4000000 in
set_option maxRecDepth 100000 in
theorem c_X3_lesser (l : Launch) (dC : Nat → ClassId) (dI : Nat → Nat → Nat) (cI cZ cR cG : ClassId) (x y : Nat) (h1 : x < 2 ^ 31) (h2 : y < 2 ^ 31) : CI l (dC, dI) (tyL cI cZ cR cG) yX3_lesser wsX3_lesser rm_X3_lesser [.int (nI x), .int (nI y)] ([]) (S := Unit) (fun _ => nI (min x y)) (fun _ => True) (fun _ => []) := by
  refine CI.of (cc := cX3_lesser) (maxL := 2) (rt := .int) (lv := [(0, .int (nI x)), (1, .int (nI y))]) (by decide) rfl (Nat.le_of_ble_eq_true rfl) rfl (Or.inl rfl) ?_
  intro p e s m ar below meth c A Qz ls hx hb hml hown hts hnm hA hS hP hK hD hl ret
  refine lv_iload_n hx hb dX3_lesser_0 rfl (lv_at hl 0 rfl) ?_
  refine lv_iload_n hx hb dX3_lesser_1 rfl (lv_at hl 1 rfl) ?_
  refine my_icmp_ge (x := x) (y := y) (tgt := 9) hx hb (by omega) (by omega) dX3_lesser_2 (by decide) (fun c_1 => ?_) (fun c_1 => ?_)
  · refine lv_iload_n hx hb dX3_lesser_9 rfl (lv_at hl 1 rfl) ?_
    exact ret () _ _ _ _ _ _ _ _ (by show _ = nI (min x y); rw [Nat.min_eq_right (by omega)]) (trivial) (rfl) hP hD hS (Nat.le_of_ble_eq_true rfl) (Nat.le_of_ble_eq_true rfl) dX3_lesser_10
  · refine lv_iload_n hx hb dX3_lesser_5 rfl (lv_at hl 0 rfl) ?_
    refine lv_goto (tgt := 10) hx hb dX3_lesser_6 (by decide) ?_
    exact ret () _ _ _ _ _ _ _ _ (by show _ = nI (min x y); rw [Nat.min_eq_left (by omega)]) (trivial) (rfl) hP hD hS (Nat.le_of_ble_eq_true rfl) (Nat.le_of_ble_eq_true rfl) dX3_lesser_10
abbrev rm_X3_signal : Room := { frames := 0, cells := 0, slots := 0, locals := 0 }
set_option maxHeartbeats 4000000 in
set_option maxRecDepth 100000 in
theorem c_X3_signal (l : Launch) (dC : Nat → ClassId) (dI : Nat → Nat → Nat) (cI cZ cR cG : ClassId) (ad : Nat → Nat) (g : Nat → Nat) (t : Nat) (ht : t < 40) : CI l (dC, dI) (tyL cI cZ cR cG) yX3_signal wsX3_signal rm_X3_signal [.ref (ad 0), .int (nI t)] (sW cI ad g) (S := Unit) (fun _ => nI (g (90 + t) + 3)) (fun _ => True) (fun _ => sW cI ad g) := by
  refine CI.of (cc := cX3_signal) (maxL := 2) (rt := .int) (lv := [(0, .ref (ad 0)), (1, .int (nI t))]) (by decide) rfl (Nat.le_of_ble_eq_true rfl) rfl (Or.inl rfl) ?_
  intro p e s m ar below meth c A Qz ls hx hb hml hown hts hnm hA hS hP hK hD hl ret
  refine lv_aload_n hx hb dX3_signal_0 rfl (lv_at hl 0 rfl) ?_
  refine va_get (D := (dC, dI)) (ci := 3) (v := .ref (ad 1)) (C := RX3) (T := TX3) (N := 8) hx hb hts (fun _ h9 => List.mem_cons_of_mem _ (List.mem_append_right _ h9)) hown hK hP 0 rfl rfl 0 (by decide) (hts (.fieldLink RX3 7 "SwitchLevelSimulatorModel" "state" "[I") (List.mem_of_getElem? (i := 1) rfl)) (fun _ h9 => h9) rfl dX3_signal_1 ?_
  refine lv_bipush (v := nI 90) hx hb dX3_signal_4 (by decide) ?_
  refine lv_iload_n hx hb dX3_signal_6 rfl (lv_at hl 1 rfl) ?_
  refine my_iadd (x := 90) (y := t) hx hb dX3_signal_7 ?_
  refine my_iald (i := (90 + t)) hx hb hK hP 1 0 rfl rfl (by omega) (by decide) dX3_signal_8 ?_
  refine lv_iconst (v := nI 3) hx hb dX3_signal_9 (by decide) ?_
  refine my_iadd (x := (g (90 + t))) (y := 3) hx hb dX3_signal_10 ?_
  exact ret () _ _ _ _ _ _ _ _ (rfl) (trivial) (rfl) hP hD hS (Nat.le_of_ble_eq_true rfl) (Nat.le_of_ble_eq_true rfl) dX3_signal_11
abbrev rm_X3_growDefinite : Room := { frames := 1, cells := 0, slots := 0, locals := 21 }
set_option maxHeartbeats 4000000 in
set_option maxRecDepth 100000 in
theorem c_X3_growDefinite (l : Launch) (dC : Nat → ClassId) (dI : Nat → Nat → Nat) (cI cZ cR cG : ClassId) (ad : Nat → Nat) (g de ss : Nat → Nat) (t a b : Nat) (ht : t < 40) (ha : a < 24) (hb' : b < 24) (h3 : g (2 + b) ≤ 3 ∧ g (90 + t) ≤ 3) (h7 : de a < 100 ∧ de b < 100) : CI l (dC, dI) (tyL cI cZ cR cG) yX3_growDefinite wsX3_growDefinite rm_X3_growDefinite [.ref (ad 0), .int (nI t), .int (nI a), .int (nI b)] (dW cI ad g de ss) (S := Unit) (fun _ => bI (grD g de t a b)) (fun _ => True) (fun _ => dW cI ad g (nxD g de t a b) ss) := by
  refine CI.of (cc := cX3_growDefinite) (maxL := 6) (rt := .boolean) (lv := [(0, .ref (ad 0)), (1, .int (nI t)), (2, .int (nI a)), (3, .int (nI b))]) (by decide) rfl (Nat.le_of_ble_eq_true rfl) rfl (Or.inr ⟨rfl, fun _ => nar_bI _⟩) ?_
  intro p e s m ar below meth c A Qz ls hx hb hml hown hts hnm hA hS hP hK hD hl ret
  refine lv_aload_n hx hb dX3_growDefinite_0 rfl (lv_at hl 0 rfl) ?_
  refine lv_iload_n hx hb dX3_growDefinite_1 rfl (lv_at hl 1 rfl) ?_
  refine CI.callV (As := [.int (nI t)]) (rest := []) (w3 := (fun _ => dW cI ad g de ss)) (c_X3_signal l dC dI cI cZ cR cG ad g t (by omega)) ⟨hx, hb, hml, hown, hts⟩ (cwV 1 hts gX3_growDefinite_X3_signal rfl rfl rfl (by decide +kernel) ⟨Nat.le_of_ble_eq_true rfl, Nat.le_of_ble_eq_true rfl⟩) rfl hl.1 (Nat.le_of_ble_eq_true rfl) dX3_growDefinite_2 ⟨Nat.le_of_ble_eq_true rfl, Nat.le_of_ble_eq_true rfl⟩ hA hS hP hK hD [0, 1] [2, 3] rfl rfl (by decide) (by decide) (by decide) 0 3 rfl rfl [2, 3, 0, 1] (by decide) (fun _ => rfl) rfl (fun _ H locs hp_1 hP hD hS => ?_)
  refine lv_aload_n hx hb dX3_growDefinite_5 rfl (lv_at hl 0 rfl) ?_
  refine va_get (D := (dC, dI)) (ci := 3) (v := .ref (ad 4)) (C := RX3) (T := TX3) (N := 8) hx hb hts (fun _ h9 => List.mem_cons_of_mem _ (List.mem_append_right _ h9)) hown hK hP 0 rfl rfl 3 (by decide) (hts (.fieldLink RX3 20 "SwitchLevelSimulatorModel" "definite" "[I") (List.mem_of_getElem? (i := 1) rfl)) (fun _ h9 => h9) rfl dX3_growDefinite_6 ?_
  refine lv_iload_n hx hb dX3_growDefinite_9 rfl (lv_at hl 2 rfl) ?_
  refine my_iald (i := a) hx hb hK hP 2 0 rfl rfl (by omega) (by decide) dX3_growDefinite_10 ?_
  refine CI.callS (As := [.int (nI (g (90 + t) + 3)), .int (nI (de a))]) (rest := []) (w3 := (fun _ => dW cI ad g de ss)) (c_X3_lesser l dC dI cI cZ cR cG (g (90 + t) + 3) (de a) (by omega) (by omega)) ⟨hx, hb, hml, hown, hts⟩ (va_cwS 2 hts gX3_growDefinite_X3_lesser rfl rfl rfl (by decide +kernel) ⟨Nat.le_of_ble_eq_true rfl, Nat.le_of_ble_eq_true rfl⟩) rfl hl.1 (Nat.le_of_ble_eq_true rfl) dX3_growDefinite_11 ⟨Nat.le_of_ble_eq_true rfl, Nat.le_of_ble_eq_true rfl⟩ hA hS hP hK hD [] [0, 1, 2, 3] rfl rfl (by decide) (by decide) (by decide) [0, 1, 2, 3] (by decide) (fun _ => rfl) rfl (fun _ H locs hp_2 hP hD hS => ?_)
  refine lv_istore (lv' := [(4, .int (nI (min (g (90 + t) + 3) (de a)))), (0, .ref (ad 0)), (1, .int (nI t)), (2, .int (nI a)), (3, .int (nI b))]) hx hb dX3_growDefinite_14 hl (by decide) rfl (fun ls hl => ?_)
  refine lv_aload_n hx hb dX3_growDefinite_16 rfl (lv_at hl 1 rfl) ?_
  refine lv_iload_n hx hb dX3_growDefinite_17 rfl (lv_at hl 4 rfl) ?_
  refine CI.callV (As := [.int (nI b)]) (rest := []) (w3 := (fun _ => dW cI ad g de ss)) (c_X3_isInput l dC dI cI cZ cR cG ad g b (by omega) (h3.1)) ⟨hx, hb, hml, hown, hts⟩ (cwV 1 hts gX3_growDefinite_X3_isInput rfl rfl rfl (by decide +kernel) ⟨Nat.le_of_ble_eq_true rfl, Nat.le_of_ble_eq_true rfl⟩) rfl hl.1 (Nat.le_of_ble_eq_true rfl) dX3_growDefinite_18 ⟨Nat.le_of_ble_eq_true rfl, Nat.le_of_ble_eq_true rfl⟩ hA hS hP hK hD [0, 1] [2, 3] rfl rfl (by decide) (by decide) (by decide) 0 3 rfl rfl [2, 3, 0, 1] (by decide) (fun _ => rfl) rfl (fun _ H locs hp_3 hP hD hS => ?_)
  refine my_if_neB (x := (decide (g (2 + b) = 0))) (tgt := 39) hx hb dX3_growDefinite_21 (by decide) (fun c_4 => ?_) (fun c_4 => ?_)
  · refine lv_iconst (v := nI 0) hx hb dX3_growDefinite_39 (by decide) ?_
    refine lv_istore (lv' := [(5, .int (nI 0)), (4, .int (nI (min (g (90 + t) + 3) (de a)))), (0, .ref (ad 0)), (1, .int (nI t)), (2, .int (nI a)), (3, .int (nI b))]) hx hb dX3_growDefinite_40 hl (by decide) rfl (fun ls hl => ?_)
    refine lv_aload_n hx hb dX3_growDefinite_42 rfl (lv_at hl 2 rfl) ?_
    refine va_get (D := (dC, dI)) (ci := 3) (v := .ref (ad 4)) (C := RX3) (T := TX3) (N := 8) hx hb hts (fun _ h9 => List.mem_cons_of_mem _ (List.mem_append_right _ h9)) hown hK hP 0 rfl rfl 3 (by decide) (hts (.fieldLink RX3 20 "SwitchLevelSimulatorModel" "definite" "[I") (List.mem_of_getElem? (i := 1) rfl)) (fun _ h9 => h9) rfl dX3_growDefinite_43 ?_
    refine lv_iload_n hx hb dX3_growDefinite_46 rfl (lv_at hl 5 rfl) ?_
    refine lv_iload hx hb dX3_growDefinite_47 (lv_at hl 0 rfl) ?_
    refine my_if_eqN (x := 0) (tgt := 57) hx hb (by omega) dX3_growDefinite_49 (by decide) (fun _ => ?_) (fun c_5 => absurd c_5 (by decide))
    refine lv_aload_n hx hb dX3_growDefinite_57 rfl (lv_at hl 2 rfl) ?_
    refine va_get (D := (dC, dI)) (ci := 3) (v := .ref (ad 4)) (C := RX3) (T := TX3) (N := 8) hx hb hts (fun _ h9 => List.mem_cons_of_mem _ (List.mem_append_right _ h9)) hown hK hP 0 rfl rfl 3 (by decide) (hts (.fieldLink RX3 20 "SwitchLevelSimulatorModel" "definite" "[I") (List.mem_of_getElem? (i := 1) rfl)) (fun _ h9 => h9) rfl dX3_growDefinite_58 ?_
    refine lv_iload_n hx hb dX3_growDefinite_61 rfl (lv_at hl 5 rfl) ?_
    refine my_iald (i := b) hx hb hK hP 2 0 rfl rfl (by omega) (by decide) dX3_growDefinite_62 ?_
    refine my_iastN (i := b) (x := (de b)) (g := de) (ws' := dW cI ad g (up1 de b (de b)) ss) hx hb hK hP hD hS 2 0 rfl rfl (by omega) (by decide) dX3_growDefinite_63 rfl (fun H locs hP hD hS => ?_)
    refine lv_iload hx hb dX3_growDefinite_64 (lv_at hl 0 rfl) ?_
    have hgr : grD g de t a b = false := by unfold grD; rw [c_4]; rfl
    exact ret () _ _ _ _ _ _ _ _ (by show _ = bI (grD g de t a b); rw [hgr]; rfl) (trivial) (by show dW cI ad g (nxD g de t a b) ss = _; unfold nxD; rw [if_neg (by rw [hgr]; decide), up1_same]) hP hD hS (Nat.le_of_ble_eq_true rfl) (Nat.le_of_ble_eq_true rfl) dX3_growDefinite_66
  · refine lv_iload hx hb dX3_growDefinite_24 (lv_at hl 0 rfl) ?_
    refine lv_aload_n hx hb dX3_growDefinite_26 rfl (lv_at hl 1 rfl) ?_
    refine va_get (D := (dC, dI)) (ci := 3) (v := .ref (ad 4)) (C := RX3) (T := TX3) (N := 8) hx hb hts (fun _ h9 => List.mem_cons_of_mem _ (List.mem_append_right _ h9)) hown hK hP 0 rfl rfl 3 (by decide) (hts (.fieldLink RX3 20 "SwitchLevelSimulatorModel" "definite" "[I") (List.mem_of_getElem? (i := 1) rfl)) (fun _ h9 => h9) rfl dX3_growDefinite_27 ?_
    refine lv_iload_n hx hb dX3_growDefinite_30 rfl (lv_at hl 4 rfl) ?_
    refine my_iald (i := b) hx hb hK hP 2 0 rfl rfl (by omega) (by decide) dX3_growDefinite_31 ?_
    refine my_icmp_le (x := (min (g (90 + t) + 3) (de a))) (y := (de b)) (tgt := 39) hx hb (by omega) (by omega) dX3_growDefinite_32 (by decide) (fun c_6 => ?_) (fun c_6 => ?_)
    · refine lv_iconst (v := nI 0) hx hb dX3_growDefinite_39 (by decide) ?_
      refine lv_istore (lv' := [(5, .int (nI 0)), (4, .int (nI (min (g (90 + t) + 3) (de a)))), (0, .ref (ad 0)), (1, .int (nI t)), (2, .int (nI a)), (3, .int (nI b))]) hx hb dX3_growDefinite_40 hl (by decide) rfl (fun ls hl => ?_)
      refine lv_aload_n hx hb dX3_growDefinite_42 rfl (lv_at hl 2 rfl) ?_
      refine va_get (D := (dC, dI)) (ci := 3) (v := .ref (ad 4)) (C := RX3) (T := TX3) (N := 8) hx hb hts (fun _ h9 => List.mem_cons_of_mem _ (List.mem_append_right _ h9)) hown hK hP 0 rfl rfl 3 (by decide) (hts (.fieldLink RX3 20 "SwitchLevelSimulatorModel" "definite" "[I") (List.mem_of_getElem? (i := 1) rfl)) (fun _ h9 => h9) rfl dX3_growDefinite_43 ?_
      refine lv_iload_n hx hb dX3_growDefinite_46 rfl (lv_at hl 5 rfl) ?_
      refine lv_iload hx hb dX3_growDefinite_47 (lv_at hl 0 rfl) ?_
      refine my_if_eqN (x := 0) (tgt := 57) hx hb (by omega) dX3_growDefinite_49 (by decide) (fun _ => ?_) (fun c_7 => absurd c_7 (by decide))
      refine lv_aload_n hx hb dX3_growDefinite_57 rfl (lv_at hl 2 rfl) ?_
      refine va_get (D := (dC, dI)) (ci := 3) (v := .ref (ad 4)) (C := RX3) (T := TX3) (N := 8) hx hb hts (fun _ h9 => List.mem_cons_of_mem _ (List.mem_append_right _ h9)) hown hK hP 0 rfl rfl 3 (by decide) (hts (.fieldLink RX3 20 "SwitchLevelSimulatorModel" "definite" "[I") (List.mem_of_getElem? (i := 1) rfl)) (fun _ h9 => h9) rfl dX3_growDefinite_58 ?_
      refine lv_iload_n hx hb dX3_growDefinite_61 rfl (lv_at hl 5 rfl) ?_
      refine my_iald (i := b) hx hb hK hP 2 0 rfl rfl (by omega) (by decide) dX3_growDefinite_62 ?_
      refine my_iastN (i := b) (x := (de b)) (g := de) (ws' := dW cI ad g (up1 de b (de b)) ss) hx hb hK hP hD hS 2 0 rfl rfl (by omega) (by decide) dX3_growDefinite_63 rfl (fun H locs hP hD hS => ?_)
      refine lv_iload hx hb dX3_growDefinite_64 (lv_at hl 0 rfl) ?_
      have hgr : grD g de t a b = false := by unfold grD gv; rw [decide_eq_false (Nat.not_lt.mpr c_6), Bool.and_false]
      exact ret () _ _ _ _ _ _ _ _ (by show _ = bI (grD g de t a b); rw [hgr]; rfl) (trivial) (by show dW cI ad g (nxD g de t a b) ss = _; unfold nxD; rw [if_neg (by rw [hgr]; decide), up1_same]) hP hD hS (Nat.le_of_ble_eq_true rfl) (Nat.le_of_ble_eq_true rfl) dX3_growDefinite_66
    · refine lv_iconst (v := nI 1) hx hb dX3_growDefinite_35 (by decide) ?_
      refine lv_goto (tgt := 40) hx hb dX3_growDefinite_36 (by decide) ?_
      refine lv_istore (lv' := [(5, .int (nI 1)), (4, .int (nI (min (g (90 + t) + 3) (de a)))), (0, .ref (ad 0)), (1, .int (nI t)), (2, .int (nI a)), (3, .int (nI b))]) hx hb dX3_growDefinite_40 hl (by decide) rfl (fun ls hl => ?_)
      refine lv_aload_n hx hb dX3_growDefinite_42 rfl (lv_at hl 2 rfl) ?_
      refine va_get (D := (dC, dI)) (ci := 3) (v := .ref (ad 4)) (C := RX3) (T := TX3) (N := 8) hx hb hts (fun _ h9 => List.mem_cons_of_mem _ (List.mem_append_right _ h9)) hown hK hP 0 rfl rfl 3 (by decide) (hts (.fieldLink RX3 20 "SwitchLevelSimulatorModel" "definite" "[I") (List.mem_of_getElem? (i := 1) rfl)) (fun _ h9 => h9) rfl dX3_growDefinite_43 ?_
      refine lv_iload_n hx hb dX3_growDefinite_46 rfl (lv_at hl 5 rfl) ?_
      refine lv_iload hx hb dX3_growDefinite_47 (lv_at hl 0 rfl) ?_
      refine my_if_eqN (x := 1) (tgt := 57) hx hb (by omega) dX3_growDefinite_49 (by decide) (fun c_8 => absurd c_8 (by decide)) (fun _ => ?_)
      refine lv_iload hx hb dX3_growDefinite_52 (lv_at hl 1 rfl) ?_
      refine lv_goto (tgt := 63) hx hb dX3_growDefinite_54 (by decide) ?_
      refine my_iastN (i := b) (x := (min (g (90 + t) + 3) (de a))) (g := de) (ws' := dW cI ad g (up1 de b (min (g (90 + t) + 3) (de a))) ss) hx hb hK hP hD hS 2 0 rfl rfl (by omega) (by decide) dX3_growDefinite_63 rfl (fun H locs hP hD hS => ?_)
      refine lv_iload hx hb dX3_growDefinite_64 (lv_at hl 0 rfl) ?_
      have hgr : grD g de t a b = true := by unfold grD gv; rw [c_4, decide_eq_true c_6]; rfl
      exact ret () _ _ _ _ _ _ _ _ (by show _ = bI (grD g de t a b); rw [hgr]; rfl) (trivial) (by show dW cI ad g (nxD g de t a b) ss = _; unfold nxD; rw [if_pos hgr]; rfl) hP hD hS (Nat.le_of_ble_eq_true rfl) (Nat.le_of_ble_eq_true rfl) dX3_growDefinite_66
