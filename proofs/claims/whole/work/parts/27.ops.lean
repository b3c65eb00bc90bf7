/-! the law: its ops but save and restore -/
set_option maxHeartbeats 8000000 in
set_option maxRecDepth 100000 in
theorem op_0 {p : Program} {e : Env} {s : State} {m : MethodId} {below : List Frame} {meth : Method} {kc : Code} (l : Launch) {b L : Nat} {xs : Nat → Int32} {dC : Nat → ClassId} {dI : Nat → Nat → Nat} {cI cZ cR cG : ClassId} (C0 : LC p s m kc b L xs dC dI cI cZ cR cG) {i : Nat} (hi : i + 6 ≤ L) (hL : L ≤ 3072) {xo : Nat} {cd ce : Nat → Nat} {so : Nat} {sd ad : Nat → Nat} {H : Heap} {locs : List Loc} {ls : Array Slot} {cells slots : Nat} {Q : State → Prop} (hcl : cells + 8 ≤ 600000) (hsl : slots + 261 ≤ 7302250) (hI : LI dC dI cI cZ cR cG xo cd ce so sd ad s.heap H locs) (hl : lv_has ls 4 [(3, .int (nI i)), (2, .ref (ad 0)), (1, .ref xo), (0, .ref b)])
    (cont : ∀ (H : Heap) (locs : List Loc), LI dC dI cI cZ cR cG xo cd ce so sd ad s.heap H locs → W p l e room_1 s m #[Value.ref b] below meth kc H locs (cells + 8) (slots + 261) Q (F0 m 807 ls [])) : W p l e room_1 s m #[Value.ref b] below meth kc H locs cells slots Q (F0 m 156 ls []) := by
  obtain ⟨hx, hb, hml, hown, hts, hX, hbl, hK, hEX⟩ := C0
  obtain ⟨c, ev, r, g, sl, sv, z, o0, o1, kp, s0, s1, hP, hD, hS⟩ := hI
  have hA : ∀ q : Nat, s.heap.size ≤ q → (fun q : Nat => s.heap.size ≤ q) q := fun _ h => h
  have hbA : ¬ (fun q : Nat => s.heap.size ≤ q) b := Nat.not_le.mpr hbl
  have okc : okG c := kp.1.ok kp.2
  refine lv_aload_n hx hb dL_law_156 rfl (lv_at hl 2 rfl) ?_
  refine CI.callVT (As := []) (rest := []) (w3 := (fun _ => LX cI cZ cR cG xo cd ce so sd ad (gAddI c) ev r g sl sv z (fO o0 o1))) (c_X2_addInput l dC dI cI cZ cR cG xo cd ce so sd c  okc) ⟨hx, hb, hml, hown, hts⟩ (cwV 0 hts gL_law_X2_addInput rfl rfl rfl (by decide +kernel) ⟨(Nat.le_of_ble_eq_true rfl), (Nat.le_of_ble_eq_true rfl)⟩) rfl hl.1 (Nat.le_of_ble_eq_true rfl) dL_law_157 ⟨by show cells + 0 ≤ 600000; omega, by show slots + 0 ≤ 7302250; omega⟩ hA hS hP hK hD [0, 1, 2, 3, 4, 5, 6, 7, 8] [9, 10, 11, 12, 13, 14, 15, 16, 17, 18, 19, 20, 21, 22, 23, 24, 25, 26, 27, 28, 29, 30, 31, 32, 33, 34, 35, 36, 37, 38, 39, 40] rfl rfl (by decide) (by decide) (by decide) 0 2 rfl rfl [32, 33, 34, 35, 36, 37, 38, 39, 40, 0, 1, 2, 3, 4, 5, 6, 7, 8, 9, 10, 11, 12, 13, 14, 15, 16, 17, 18, 19, 20, 21, 22, 23, 24, 25, 26, 27, 28, 29, 30, 31] (by decide) (fun _ => rfl) (rfl) (fun _ H locs hp hP hD hS => ?_)
  refine lv_aload_n hx hb dL_law_160 rfl (lv_at hl 1 rfl) ?_
  refine CI.callVT (As := []) (rest := [_]) (w3 := (fun _ => LX cI cZ cR cG xo cd ce so sd ad (gAddI c) ev r (gAddI g) sl sv z (fO o0 o1))) (c_X3_addInput l dC dI cI cZ cR cG ad g  kp.2) ⟨hx, hb, hml, hown, hts⟩ (cwV 0 hts gL_law_X3_addInput rfl rfl rfl (by decide +kernel) ⟨(Nat.le_of_ble_eq_true rfl), (Nat.le_of_ble_eq_true rfl)⟩) rfl hl.1 (Nat.le_of_ble_eq_true rfl) dL_law_161 ⟨by show cells + 0 + 0 ≤ 600000; omega, by show slots + 0 + 0 ≤ 7302250; omega⟩ hA hS hP hK hD [32, 33] [0, 1, 2, 3, 4, 5, 6, 7, 8, 9, 10, 11, 12, 13, 14, 15, 16, 17, 18, 19, 20, 21, 22, 23, 24, 25, 26, 27, 28, 29, 30, 31, 34, 35, 36, 37, 38, 39, 40] rfl rfl (by decide) (by decide) (by decide) 0 3 rfl rfl [0, 1, 2, 3, 4, 5, 6, 7, 8, 9, 10, 11, 12, 13, 14, 15, 16, 17, 18, 19, 20, 21, 22, 23, 24, 25, 26, 27, 28, 29, 30, 31, 39, 40, 32, 33, 34, 35, 36, 37, 38] (by decide) (fun _ => rfl) (rfl) (fun _ H locs hp hP hD hS => ?_)
  refine lv_icmp_eq (tgt := 807) hx hb dL_law_164 (by decide) (fun _ => ?_) (fun h9 => absurd (K_addI kp).1 h9)
  refine W.widen (show cells + 0 + 0 ≤ cells + 8 by omega) (show slots + 0 + 0 ≤ slots + 261 by omega) ?_
  exact cont _ _ ⟨(gAddI c), ev, r, (gAddI g), sl, sv, z, o0, o1, (K_addI kp).2, s0, s1, hP, hD, hS⟩
set_option maxHeartbeats 8000000 in
set_option maxRecDepth 100000 in
theorem op_12 {p : Program} {e : Env} {s : State} {m : MethodId} {below : List Frame} {meth : Method} {kc : Code} (l : Launch) {b L : Nat} {xs : Nat → Int32} {dC : Nat → ClassId} {dI : Nat → Nat → Nat} {cI cZ cR cG : ClassId} (C0 : LC p s m kc b L xs dC dI cI cZ cR cG) {i : Nat} (hi : i + 6 ≤ L) (hL : L ≤ 3072) {xo : Nat} {cd ce : Nat → Nat} {so : Nat} {sd ad : Nat → Nat} {H : Heap} {locs : List Loc} {ls : Array Slot} {cells slots : Nat} {Q : State → Prop} (hcl : cells + 8 ≤ 600000) (hsl : slots + 261 ≤ 7302250) (hI : LI dC dI cI cZ cR cG xo cd ce so sd ad s.heap H locs) (hl : lv_has ls 4 [(3, .int (nI i)), (2, .ref (ad 0)), (1, .ref xo), (0, .ref b)])
    (cont : ∀ (H : Heap) (locs : List Loc), LI dC dI cI cZ cR cG xo cd ce so sd ad s.heap H locs → W p l e room_1 s m #[Value.ref b] below meth kc H locs (cells + 8) (slots + 261) Q (F0 m 807 ls [])) : W p l e room_1 s m #[Value.ref b] below meth kc H locs cells slots Q (F0 m 442 ls []) := by
  obtain ⟨hx, hb, hml, hown, hts, hX, hbl, hK, hEX⟩ := C0
  obtain ⟨c, ev, r, g, sl, sv, z, o0, o1, kp, s0, s1, hP, hD, hS⟩ := hI
  have hA : ∀ q : Nat, s.heap.size ≤ q → (fun q : Nat => s.heap.size ≤ q) q := fun _ h => h
  have hbA : ¬ (fun q : Nat => s.heap.size ≤ q) b := Nat.not_le.mpr hbl
  have okc : okG c := kp.1.ok kp.2
  refine lv_aload_n hx hb dL_law_442 rfl (lv_at hl 2 rfl) ?_
  refine lv_aload_n hx hb dL_law_443 rfl (lv_at hl 3 rfl) ?_
  refine lv_iload_n hx hb dL_law_444 rfl (lv_at hl 0 rfl) ?_
  refine lv_iconst (v := nI 1) hx hb dL_law_445 (by decide) ?_
  refine my_iadd (x := i) (y := 1) hx hb dL_law_446 ?_
  refine my_sld (n := i + 1) hx hb hX hbl hbA hS (by omega) hL dL_law_447 ?_
  refine CI.callVT (As := [.int (xs (i + 1))]) (rest := []) (w3 := (fun u => LX cI cZ cR cG xo cd ce so sd ad c ev (rU u r) g sl sv z (fO o0 o1))) (c_X2_definiteStrength l dC dI cI cZ cR cG xo cd ce so sd (r 0) (r 1) (r 2) (r 3) (r 4) (r 5) (r 6) (r 7) (r 8) (r 9) (r 10) c (xs (i + 1)) okc) ⟨hx, hb, hml, hown, hts⟩ (cwV 1 hts gL_law_X2_definiteStrength rfl rfl rfl (by decide +kernel) ⟨(Nat.le_of_ble_eq_true rfl), (Nat.le_of_ble_eq_true rfl)⟩) rfl hl.1 (Nat.le_of_ble_eq_true rfl) dL_law_448 ⟨by show cells + 0 ≤ 600000; omega, by show slots + 0 ≤ 7302250; omega⟩ hA hS hP hK hD [0, 18, 19, 20, 21, 22, 23, 24, 25, 26, 27, 28, 29, 30, 31, 1, 2, 3, 4, 5, 6, 7, 8] [9, 10, 11, 12, 13, 14, 15, 16, 17, 32, 33, 34, 35, 36, 37, 38, 39, 40] rfl rfl (by decide) (by decide) (by decide) 0 2 rfl rfl [18, 33, 34, 35, 36, 37, 38, 39, 40, 0, 1, 2, 3, 4, 5, 6, 7, 8, 19, 20, 21, 22, 23, 24, 25, 26, 27, 28, 29, 30, 31, 32, 9, 10, 11, 12, 13, 14, 15, 16, 17] (by decide) (fun _ => rfl) (rfl) (fun u H locs hp hP hD hS => ?_)
  refine lv_aload_n hx hb dL_law_451 rfl (lv_at hl 1 rfl) ?_
  refine lv_aload_n hx hb dL_law_452 rfl (lv_at hl 3 rfl) ?_
  refine lv_iload_n hx hb dL_law_453 rfl (lv_at hl 0 rfl) ?_
  refine lv_iconst (v := nI 1) hx hb dL_law_454 (by decide) ?_
  refine my_iadd (x := i) (y := 1) hx hb dL_law_455 ?_
  refine my_sld (n := i + 1) hx hb hX hbl hbA hS (by omega) hL dL_law_456 ?_
  refine CI.callVT (As := [.int (xs (i + 1))]) (rest := [_]) (w3 := (fun v => LX cI cZ cR cG xo cd ce so sd ad c ev (rU u r) g sl sv (z4 v z) (fO o0 o1))) (c_X3_definiteStrength l dC dI cI cZ cR cG ad g (z 0) (z 3) (z 1) (z 2) (xs (i + 1)) kp.2) ⟨hx, hb, hml, hown, hts⟩ (cwV 1 hts gL_law_X3_definiteStrength rfl rfl rfl (by decide +kernel) ⟨(Nat.le_of_ble_eq_true rfl), (Nat.le_of_ble_eq_true rfl)⟩) rfl hl.1 (Nat.le_of_ble_eq_true rfl) dL_law_457 ⟨by show cells + 0 + 0 ≤ 600000; omega, by show slots + 0 + 0 ≤ 7302250; omega⟩ hA hS hP hK hD [32, 33, 36, 39, 37, 38] [0, 1, 2, 3, 4, 5, 6, 7, 8, 9, 10, 11, 12, 13, 14, 15, 16, 17, 18, 19, 20, 21, 22, 23, 24, 25, 26, 27, 28, 29, 30, 31, 34, 35, 40] rfl rfl (by decide) (by decide) (by decide) 0 3 rfl rfl [0, 1, 2, 3, 4, 5, 6, 7, 8, 9, 10, 11, 12, 13, 14, 15, 16, 17, 18, 19, 20, 21, 22, 23, 24, 25, 26, 27, 28, 29, 30, 31, 35, 36, 32, 33, 37, 39, 40, 38, 34] (by decide) (fun _ => rfl) (rfl) (fun v H locs hp hP hD hS => ?_)
  refine lv_icmp_eq (tgt := 807) hx hb dL_law_460 (by decide) (fun _ => ?_) (fun h9 => absurd (K_q kp (xs (i + 1))) h9)
  refine W.widen (show cells + 0 + 0 ≤ cells + 8 by omega) (show slots + 0 + 0 ≤ slots + 261 by omega) ?_
  exact cont _ _ ⟨c, ev, (rU u r), g, sl, sv, (z4 v z), o0, o1, kp, s0, s1, hP, hD, hS⟩
set_option maxHeartbeats 8000000 in
set_option maxRecDepth 100000 in
theorem op_15 {p : Program} {e : Env} {s : State} {m : MethodId} {below : List Frame} {meth : Method} {kc : Code} (l : Launch) {b L : Nat} {xs : Nat → Int32} {dC : Nat → ClassId} {dI : Nat → Nat → Nat} {cI cZ cR cG : ClassId} (C0 : LC p s m kc b L xs dC dI cI cZ cR cG) {i : Nat} (hi : i + 6 ≤ L) (hL : L ≤ 3072) {xo : Nat} {cd ce : Nat → Nat} {so : Nat} {sd ad : Nat → Nat} {H : Heap} {locs : List Loc} {ls : Array Slot} {cells slots : Nat} {Q : State → Prop} (hcl : cells + 8 ≤ 600000) (hsl : slots + 261 ≤ 7302250) (hI : LI dC dI cI cZ cR cG xo cd ce so sd ad s.heap H locs) (hl : lv_has ls 4 [(3, .int (nI i)), (2, .ref (ad 0)), (1, .ref xo), (0, .ref b)])
    (cont : ∀ (H : Heap) (locs : List Loc), LI dC dI cI cZ cR cG xo cd ce so sd ad s.heap H locs → W p l e room_1 s m #[Value.ref b] below meth kc H locs (cells + 8) (slots + 261) Q (F0 m 807 ls [])) : W p l e room_1 s m #[Value.ref b] below meth kc H locs cells slots Q (F0 m 511 ls []) := by
  obtain ⟨hx, hb, hml, hown, hts, hX, hbl, hK, hEX⟩ := C0
  obtain ⟨c, ev, r, g, sl, sv, z, o0, o1, kp, s0, s1, hP, hD, hS⟩ := hI
  have hA : ∀ q : Nat, s.heap.size ≤ q → (fun q : Nat => s.heap.size ≤ q) q := fun _ h => h
  have hbA : ¬ (fun q : Nat => s.heap.size ≤ q) b := Nat.not_le.mpr hbl
  have okc : okG c := kp.1.ok kp.2
  refine lv_aload_n hx hb dL_law_511 rfl (lv_at hl 2 rfl) ?_
  refine lv_aload_n hx hb dL_law_512 rfl (lv_at hl 3 rfl) ?_
  refine lv_iload_n hx hb dL_law_513 rfl (lv_at hl 0 rfl) ?_
  refine lv_iconst (v := nI 1) hx hb dL_law_514 (by decide) ?_
  refine my_iadd (x := i) (y := 1) hx hb dL_law_515 ?_
  refine my_sld (n := i + 1) hx hb hX hbl hbA hS (by omega) hL dL_law_516 ?_
  refine CI.callVT (As := [.int (xs (i + 1))]) (rest := []) (w3 := (fun u => LX cI cZ cR cG xo cd ce so sd ad c u.1 (rU u.2 r) g sl sv z (fO o0 o1))) (c_X2_steadyValue l dC dI cI cZ cR cG xo cd ce so sd (r 0) (r 1) (r 2) (r 3) (r 4) (r 5) (r 6) (r 7) (r 8) (r 9) (r 10) c ev (xs (i + 1)) okc) ⟨hx, hb, hml, hown, hts⟩ (cwV 1 hts gL_law_X2_steadyValue rfl rfl rfl (by decide +kernel) ⟨(Nat.le_of_ble_eq_true rfl), (Nat.le_of_ble_eq_true rfl)⟩) rfl hl.1 (Nat.le_of_ble_eq_true rfl) dL_law_517 ⟨by show cells + 0 ≤ 600000; omega, by show slots + 0 ≤ 7302250; omega⟩ hA hS hP hK hD [0, 18, 19, 20, 21, 22, 23, 24, 25, 26, 27, 28, 29, 30, 31, 1, 2, 3, 4, 5, 6, 7, 8, 9, 10, 11, 12, 13, 14, 15, 16] [17, 32, 33, 34, 35, 36, 37, 38, 39, 40] rfl rfl (by decide) (by decide) (by decide) 0 2 rfl rfl [10, 25, 26, 27, 28, 29, 30, 31, 32, 33, 34, 35, 36, 37, 38, 39, 40, 0, 11, 12, 13, 14, 15, 16, 17, 18, 19, 20, 21, 22, 23, 24, 1, 2, 3, 4, 5, 6, 7, 8, 9] (by decide) (fun _ => rfl) (rfl) (fun u H locs hp hP hD hS => ?_)
  refine lv_aload_n hx hb dL_law_520 rfl (lv_at hl 1 rfl) ?_
  refine lv_aload_n hx hb dL_law_521 rfl (lv_at hl 3 rfl) ?_
  refine lv_iload_n hx hb dL_law_522 rfl (lv_at hl 0 rfl) ?_
  refine lv_iconst (v := nI 1) hx hb dL_law_523 (by decide) ?_
  refine my_iadd (x := i) (y := 1) hx hb dL_law_524 ?_
  refine my_sld (n := i + 1) hx hb hX hbl hbA hS (by omega) hL dL_law_525 ?_
  refine CI.callVT (As := [.int (xs (i + 1))]) (rest := [_]) (w3 := (fun v => LX cI cZ cR cG xo cd ce so sd ad c u.1 (rU u.2 r) g sl sv (z4 v z) (fO o0 o1))) (c_X3_steadyValue l dC dI cI cZ cR cG ad g (z 0) (z 3) (z 1) (z 2) (xs (i + 1)) kp.2) ⟨hx, hb, hml, hown, hts⟩ (cwV 1 hts gL_law_X3_steadyValue rfl rfl rfl (by decide +kernel) ⟨(Nat.le_of_ble_eq_true rfl), (Nat.le_of_ble_eq_true rfl)⟩) rfl hl.1 (Nat.le_of_ble_eq_true rfl) dL_law_526 ⟨by show cells + 0 + 0 ≤ 600000; omega, by show slots + 0 + 0 ≤ 7302250; omega⟩ hA hS hP hK hD [32, 33, 36, 39, 37, 38] [0, 1, 2, 3, 4, 5, 6, 7, 8, 9, 10, 11, 12, 13, 14, 15, 16, 17, 18, 19, 20, 21, 22, 23, 24, 25, 26, 27, 28, 29, 30, 31, 34, 35, 40] rfl rfl (by decide) (by decide) (by decide) 0 3 rfl rfl [0, 1, 2, 3, 4, 5, 6, 7, 8, 9, 10, 11, 12, 13, 14, 15, 16, 17, 18, 19, 20, 21, 22, 23, 24, 25, 26, 27, 28, 29, 30, 31, 35, 36, 32, 33, 37, 39, 40, 38, 34] (by decide) (fun _ => rfl) (rfl) (fun v H locs hp hP hD hS => ?_)
  refine lv_icmp_eq (tgt := 807) hx hb dL_law_529 (by decide) (fun _ => ?_) (fun h9 => absurd (K_sv kp (xs (i + 1))) h9)
  refine W.widen (show cells + 0 + 0 ≤ cells + 8 by omega) (show slots + 0 + 0 ≤ slots + 261 by omega) ?_
  exact cont _ _ ⟨c, u.1, (rU u.2 r), g, sl, sv, (z4 v z), o0, o1, kp, s0, s1, hP, hD, hS⟩
