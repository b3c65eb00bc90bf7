/-! the law: more ops -/
set_option maxHeartbeats 8000000 in
set_option maxRecDepth 100000 in
theorem op_13 {p : Program} {e : Env} {s : State} {m : MethodId} {below : List Frame} {meth : Method} {kc : Code} (l : Launch) {b L : Nat} {xs : Nat → Int32} {dC : Nat → ClassId} {dI : Nat → Nat → Nat} {cI cZ cR cG : ClassId} (C0 : LC p s m kc b L xs dC dI cI cZ cR cG) {i : Nat} (hi : i + 6 ≤ L) (hL : L ≤ 3072) {xo : Nat} {cd ce : Nat → Nat} {so : Nat} {sd ad : Nat → Nat} {H : Heap} {locs : List Loc} {ls : Array Slot} {cells slots : Nat} {Q : State → Prop} (hcl : cells + 8 ≤ 600000) (hsl : slots + 261 ≤ 7302250) (hI : LI dC dI cI cZ cR cG xo cd ce so sd ad s.heap H locs) (hl : lv_has ls 4 [(3, .int (nI i)), (2, .ref (ad 0)), (1, .ref xo), (0, .ref b)])
    (cont : ∀ (H : Heap) (locs : List Loc), LI dC dI cI cZ cR cG xo cd ce so sd ad s.heap H locs → W p l e room_1 s m #[Value.ref b] below meth kc H locs (cells + 8) (slots + 261) Q (F0 m 807 ls [])) : W p l e room_1 s m #[Value.ref b] below meth kc H locs cells slots Q (F0 m 465 ls []) := by
  obtain ⟨hx, hb, hml, hown, hts, hX, hbl, hK, hEX⟩ := C0
  obtain ⟨c, ev, r, g, sl, sv, z, o0, o1, kp, s0, s1, hP, hD, hS⟩ := hI
  have hA : ∀ q : Nat, s.heap.size ≤ q → (fun q : Nat => s.heap.size ≤ q) q := fun _ h => h
  have hbA : ¬ (fun q : Nat => s.heap.size ≤ q) b := Nat.not_le.mpr hbl
  have okc : okG c := kp.1.ok kp.2
  refine lv_aload_n hx hb dL_law_465 rfl (lv_at hl 2 rfl) ?_
  refine lv_aload_n hx hb dL_law_466 rfl (lv_at hl 3 rfl) ?_
  refine lv_iload_n hx hb dL_law_467 rfl (lv_at hl 0 rfl) ?_
  refine lv_iconst (v := nI 1) hx hb dL_law_468 (by decide) ?_
  refine my_iadd (x := i) (y := 1) hx hb dL_law_469 ?_
  refine my_sld (n := i + 1) hx hb hX hbl hbA hS (by omega) hL dL_law_470 ?_
  refine CI.callVU (wr := (cW cI ce ev) ++ (qB cR so (fO o0 o1)) ++ (mW cI cZ ad g sl sv (z 0) (z 1) (z 2) (z 3) (z 4))) (As := [.int (xs (i + 1))]) (rest := []) (w3 := (fun u => LX cI cZ cR cG xo cd ce so sd ad c ev (rU u r) g sl sv z (fO o0 o1))) (c_X2_upStrength l dC dI cI cZ cR cG xo cd ce so sd (r 0) (r 1) (r 2) (r 3) (r 4) (r 5) (r 6) (r 7) (r 8) (r 9) (r 10) c (xs (i + 1)) okc) ⟨hx, hb, hml, hown, hts⟩ (cwV 1 hts gL_law_X2_upStrength rfl rfl rfl (by decide +kernel) ⟨(Nat.le_of_ble_eq_true rfl), (Nat.le_of_ble_eq_true rfl)⟩) rfl hl.1 (Nat.le_of_ble_eq_true rfl) dL_law_471 ⟨by show cells + 0 ≤ 600000; omega, by show slots + 0 ≤ 7302250; omega⟩ hA hS hP hK hD [0, 18, 19, 20, 21, 22, 23, 24, 25, 26, 27, 28, 29, 30, 31, 1, 2, 3, 4, 5, 6, 7, 8] [9, 10, 11, 12, 13, 14, 15, 16, 17, 32, 33, 34, 35, 36, 37, 38, 39, 40] rfl rfl (by decide) (by decide) (by decide) 0 2 rfl rfl [18, 33, 34, 35, 36, 37, 38, 39, 40, 0, 1, 2, 3, 4, 5, 6, 7, 8, 19, 20, 21, 22, 23, 24, 25, 26, 27, 28, 29, 30, 31, 32, 9, 10, 11, 12, 13, 14, 15, 16, 17] (by decide) (fun _ => rfl) (rfl) (fun u H locs hp hP hD hS => ?_)
  refine lv_aload_n hx hb dL_law_474 rfl (lv_at hl 1 rfl) ?_
  refine lv_aload_n hx hb dL_law_475 rfl (lv_at hl 3 rfl) ?_
  refine lv_iload_n hx hb dL_law_476 rfl (lv_at hl 0 rfl) ?_
  refine lv_iconst (v := nI 1) hx hb dL_law_477 (by decide) ?_
  refine my_iadd (x := i) (y := 1) hx hb dL_law_478 ?_
  refine my_sld (n := i + 1) hx hb hX hbl hbA hS (by omega) hL dL_law_479 ?_
  refine CI.callVU (wr := (xB xo cd ce so sd) ++ (cW cI cd c) ++ (cW cI ce ev) ++ (qB cR so (fO o0 o1)) ++ (tF cI cG sd ((rU u r) 0) ((rU u r) 1) ((rU u r) 2) ((rU u r) 3) ((rU u r) 4) ((rU u r) 5) ((rU u r) 6) ((rU u r) 7) ((rU u r) 8) ((rU u r) 9) ((rU u r) 10)) ++ ([(ad 2, .inl (cI, 580, .inl (nA sl))), (ad 3, .inl (cZ, 2, .inl sv)), (ad 8, .inl (cI, 290, .inl (nA (z 4))))])) (As := [.int (xs (i + 1))]) (rest := [_]) (w3 := (fun v => LX cI cZ cR cG xo cd ce so sd ad c ev (rU u r) g sl sv (z4 v z) (fO o0 o1))) (c_X3_upStrength l dC dI cI cZ cR cG ad g (z 0) (z 3) (z 1) (z 2) (xs (i + 1)) kp.2) ⟨hx, hb, hml, hown, hts⟩ (cwV 1 hts gL_law_X3_upStrength rfl rfl rfl (by decide +kernel) ⟨(Nat.le_of_ble_eq_true rfl), (Nat.le_of_ble_eq_true rfl)⟩) rfl hl.1 (Nat.le_of_ble_eq_true rfl) dL_law_480 ⟨by show cells + 0 + 0 ≤ 600000; omega, by show slots + 0 + 0 ≤ 7302250; omega⟩ hA hS hP hK hD [32, 33, 36, 39, 37, 38] [0, 1, 2, 3, 4, 5, 6, 7, 8, 9, 10, 11, 12, 13, 14, 15, 16, 17, 18, 19, 20, 21, 22, 23, 24, 25, 26, 27, 28, 29, 30, 31, 34, 35, 40] rfl rfl (by decide) (by decide) (by decide) 0 3 rfl rfl [0, 1, 2, 3, 4, 5, 6, 7, 8, 9, 10, 11, 12, 13, 14, 15, 16, 17, 18, 19, 20, 21, 22, 23, 24, 25, 26, 27, 28, 29, 30, 31, 35, 36, 32, 33, 37, 39, 40, 38, 34] (by decide) (fun _ => rfl) (rfl) (fun v H locs hp hP hD hS => ?_)
  refine lv_icmp_eq (tgt := 807) hx hb dL_law_483 (by decide) (fun _ => ?_) (fun h9 => absurd (K_u kp 1 (xs (i + 1))) h9)
  refine W.widen (show cells + 0 + 0 ≤ cells + 8 by omega) (show slots + 0 + 0 ≤ slots + 261 by omega) ?_
  exact cont _ _ ⟨c, ev, (rU u r), g, sl, sv, (z4 v z), o0, o1, kp, s0, s1, hP, hD, hS⟩
set_option maxHeartbeats 8000000 in
set_option maxRecDepth 100000 in
theorem op_14 {p : Program} {e : Env} {s : State} {m : MethodId} {below : List Frame} {meth : Method} {kc : Code} (l : Launch) {b L : Nat} {xs : Nat → Int32} {dC : Nat → ClassId} {dI : Nat → Nat → Nat} {cI cZ cR cG : ClassId} (C0 : LC p s m kc b L xs dC dI cI cZ cR cG) {i : Nat} (hi : i + 6 ≤ L) (hL : L ≤ 3072) {xo : Nat} {cd ce : Nat → Nat} {so : Nat} {sd ad : Nat → Nat} {H : Heap} {locs : List Loc} {ls : Array Slot} {cells slots : Nat} {Q : State → Prop} (hcl : cells + 8 ≤ 600000) (hsl : slots + 261 ≤ 7302250) (hI : LI dC dI cI cZ cR cG xo cd ce so sd ad s.heap H locs) (hl : lv_has ls 4 [(3, .int (nI i)), (2, .ref (ad 0)), (1, .ref xo), (0, .ref b)])
    (cont : ∀ (H : Heap) (locs : List Loc), LI dC dI cI cZ cR cG xo cd ce so sd ad s.heap H locs → W p l e room_1 s m #[Value.ref b] below meth kc H locs (cells + 8) (slots + 261) Q (F0 m 807 ls [])) : W p l e room_1 s m #[Value.ref b] below meth kc H locs cells slots Q (F0 m 488 ls []) := by
  obtain ⟨hx, hb, hml, hown, hts, hX, hbl, hK, hEX⟩ := C0
  obtain ⟨c, ev, r, g, sl, sv, z, o0, o1, kp, s0, s1, hP, hD, hS⟩ := hI
  have hA : ∀ q : Nat, s.heap.size ≤ q → (fun q : Nat => s.heap.size ≤ q) q := fun _ h => h
  have hbA : ¬ (fun q : Nat => s.heap.size ≤ q) b := Nat.not_le.mpr hbl
  have okc : okG c := kp.1.ok kp.2
  refine lv_aload_n hx hb dL_law_488 rfl (lv_at hl 2 rfl) ?_
  refine lv_aload_n hx hb dL_law_489 rfl (lv_at hl 3 rfl) ?_
  refine lv_iload_n hx hb dL_law_490 rfl (lv_at hl 0 rfl) ?_
  refine lv_iconst (v := nI 1) hx hb dL_law_491 (by decide) ?_
  refine my_iadd (x := i) (y := 1) hx hb dL_law_492 ?_
  refine my_sld (n := i + 1) hx hb hX hbl hbA hS (by omega) hL dL_law_493 ?_
  refine CI.callVU (wr := (cW cI ce ev) ++ (qB cR so (fO o0 o1)) ++ (mW cI cZ ad g sl sv (z 0) (z 1) (z 2) (z 3) (z 4))) (As := [.int (xs (i + 1))]) (rest := []) (w3 := (fun u => LX cI cZ cR cG xo cd ce so sd ad c ev (rU u r) g sl sv z (fO o0 o1))) (c_X2_downStrength l dC dI cI cZ cR cG xo cd ce so sd (r 0) (r 1) (r 2) (r 3) (r 4) (r 5) (r 6) (r 7) (r 8) (r 9) (r 10) c (xs (i + 1)) okc) ⟨hx, hb, hml, hown, hts⟩ (cwV 1 hts gL_law_X2_downStrength rfl rfl rfl (by decide +kernel) ⟨(Nat.le_of_ble_eq_true rfl), (Nat.le_of_ble_eq_true rfl)⟩) rfl hl.1 (Nat.le_of_ble_eq_true rfl) dL_law_494 ⟨by show cells + 0 ≤ 600000; omega, by show slots + 0 ≤ 7302250; omega⟩ hA hS hP hK hD [0, 18, 19, 20, 21, 22, 23, 24, 25, 26, 27, 28, 29, 30, 31, 1, 2, 3, 4, 5, 6, 7, 8] [9, 10, 11, 12, 13, 14, 15, 16, 17, 32, 33, 34, 35, 36, 37, 38, 39, 40] rfl rfl (by decide) (by decide) (by decide) 0 2 rfl rfl [18, 33, 34, 35, 36, 37, 38, 39, 40, 0, 1, 2, 3, 4, 5, 6, 7, 8, 19, 20, 21, 22, 23, 24, 25, 26, 27, 28, 29, 30, 31, 32, 9, 10, 11, 12, 13, 14, 15, 16, 17] (by decide) (fun _ => rfl) (rfl) (fun u H locs hp hP hD hS => ?_)
  refine lv_aload_n hx hb dL_law_497 rfl (lv_at hl 1 rfl) ?_
  refine lv_aload_n hx hb dL_law_498 rfl (lv_at hl 3 rfl) ?_
  refine lv_iload_n hx hb dL_law_499 rfl (lv_at hl 0 rfl) ?_
  refine lv_iconst (v := nI 1) hx hb dL_law_500 (by decide) ?_
  refine my_iadd (x := i) (y := 1) hx hb dL_law_501 ?_
  refine my_sld (n := i + 1) hx hb hX hbl hbA hS (by omega) hL dL_law_502 ?_
  refine CI.callVU (wr := (xB xo cd ce so sd) ++ (cW cI cd c) ++ (cW cI ce ev) ++ (qB cR so (fO o0 o1)) ++ (tF cI cG sd ((rU u r) 0) ((rU u r) 1) ((rU u r) 2) ((rU u r) 3) ((rU u r) 4) ((rU u r) 5) ((rU u r) 6) ((rU u r) 7) ((rU u r) 8) ((rU u r) 9) ((rU u r) 10)) ++ ([(ad 2, .inl (cI, 580, .inl (nA sl))), (ad 3, .inl (cZ, 2, .inl sv)), (ad 8, .inl (cI, 290, .inl (nA (z 4))))])) (As := [.int (xs (i + 1))]) (rest := [_]) (w3 := (fun v => LX cI cZ cR cG xo cd ce so sd ad c ev (rU u r) g sl sv (z4 v z) (fO o0 o1))) (c_X3_downStrength l dC dI cI cZ cR cG ad g (z 0) (z 3) (z 1) (z 2) (xs (i + 1)) kp.2) ⟨hx, hb, hml, hown, hts⟩ (cwV 1 hts gL_law_X3_downStrength rfl rfl rfl (by decide +kernel) ⟨(Nat.le_of_ble_eq_true rfl), (Nat.le_of_ble_eq_true rfl)⟩) rfl hl.1 (Nat.le_of_ble_eq_true rfl) dL_law_503 ⟨by show cells + 0 + 0 ≤ 600000; omega, by show slots + 0 + 0 ≤ 7302250; omega⟩ hA hS hP hK hD [32, 33, 36, 39, 37, 38] [0, 1, 2, 3, 4, 5, 6, 7, 8, 9, 10, 11, 12, 13, 14, 15, 16, 17, 18, 19, 20, 21, 22, 23, 24, 25, 26, 27, 28, 29, 30, 31, 34, 35, 40] rfl rfl (by decide) (by decide) (by decide) 0 3 rfl rfl [0, 1, 2, 3, 4, 5, 6, 7, 8, 9, 10, 11, 12, 13, 14, 15, 16, 17, 18, 19, 20, 21, 22, 23, 24, 25, 26, 27, 28, 29, 30, 31, 35, 36, 32, 33, 37, 39, 40, 38, 34] (by decide) (fun _ => rfl) (rfl) (fun v H locs hp hP hD hS => ?_)
  refine lv_icmp_eq (tgt := 807) hx hb dL_law_506 (by decide) (fun _ => ?_) (fun h9 => absurd (K_u kp 0 (xs (i + 1))) h9)
  refine W.widen (show cells + 0 + 0 ≤ cells + 8 by omega) (show slots + 0 + 0 ≤ slots + 261 by omega) ?_
  exact cont _ _ ⟨c, ev, (rU u r), g, sl, sv, (z4 v z), o0, o1, kp, s0, s1, hP, hD, hS⟩
set_option maxHeartbeats 8000000 in
set_option maxRecDepth 100000 in
theorem op_15 {p : Program} {e : Env} {s : State} {m : MethodId} {below : List Frame} {meth : Method} {kc : Code} (l : Launch) {b L : Nat} {xs : Nat → Int32} {dC : Nat → ClassId} {dI : Nat → Nat → Nat} {cI cZ cR cG : ClassId} (C0 : LC p s m kc b L xs dC dI cI cZ cR cG) {i : Nat} (hi : i + 6 ≤ L) (hL : L ≤ 3072) {xo : Nat} {cd ce : Nat → Nat} {so : Nat} {sd ad : Nat → Nat} {H : Heap} {locs : List Loc} {ls : Array Slot} {cells slots : Nat} {Q : State → Prop} (hcl : cells + 8 ≤ 600000) (hsl : slots + 261 ≤ 7302250) (hI : LI dC dI cI cZ cR cG xo cd ce so sd ad s.heap H locs) (hl : lv_has ls 4 [(3, .int (nI i)), (2, .ref (ad 0)), (1, .ref xo), (0, .ref b)])
    (cont : ∀ (H : Heap) (locs : List Loc), LI dC dI cI cZ cR cG xo cd ce so sd ad s.heap H locs → W p l e room_1 s m #[Value.ref b] below meth kc H locs (cells + 8) (slots + 261) Q (F0 m 807 ls [])) : W p l e room_1 s m #[Value.ref b] below meth kc H locs cells slots Q (F0 m 511 ls []) := by
  obtain ⟨hx, hb, hml, hown, hts, hX, hbl, hK, hEX⟩ := C0
  obtain ⟨c, ev, r, g, sl, sv, z, o0, o1, kp, s0, s1, hP, hD, hS⟩ := hI
  have hA : ∀ q : Nat, s.heap.size ≤ q → (fun q : Nat => s.heap.size ≤ q) q := fun _ h => h
  have hbA : ¬ (fun q : Nat => s.heap.size ≤ q) b := Nat.not_le.mpr hbl
  have okc : okG c := kp.1.ok kp.2
  refine lv_aload_n hx hb dL_law_511 rfl (lv_at hl 2 rfl) ?_
  refine lv_aload_n hx hb dL_law_512 rfl (lv_at hl 3 rfl) ?_
  refine lv_iload_n hx hb dL_law_513 rfl (lv_at hl 0 rfl) ?_
  refine lv_iconst (v := nI 1) hx hb dL_law_514 (by decide) ?_
  refine my_iadd (x := i) (y := 1) hx hb dL_law_515 ?_
  refine my_sld (n := i + 1) hx hb hX hbl hbA hS (by omega) hL dL_law_516 ?_
  refine CI.callVU (wr := (qB cR so (fO o0 o1)) ++ (mW cI cZ ad g sl sv (z 0) (z 1) (z 2) (z 3) (z 4))) (As := [.int (xs (i + 1))]) (rest := []) (w3 := (fun u => LX cI cZ cR cG xo cd ce so sd ad c u.1 (rU u.2 r) g sl sv z (fO o0 o1))) (c_X2_steadyValue l dC dI cI cZ cR cG xo cd ce so sd (r 0) (r 1) (r 2) (r 3) (r 4) (r 5) (r 6) (r 7) (r 8) (r 9) (r 10) c ev (xs (i + 1)) okc) ⟨hx, hb, hml, hown, hts⟩ (cwV 1 hts gL_law_X2_steadyValue rfl rfl rfl (by decide +kernel) ⟨(Nat.le_of_ble_eq_true rfl), (Nat.le_of_ble_eq_true rfl)⟩) rfl hl.1 (Nat.le_of_ble_eq_true rfl) dL_law_517 ⟨by show cells + 0 ≤ 600000; omega, by show slots + 0 ≤ 7302250; omega⟩ hA hS hP hK hD [0, 18, 19, 20, 21, 22, 23, 24, 25, 26, 27, 28, 29, 30, 31, 1, 2, 3, 4, 5, 6, 7, 8, 9, 10, 11, 12, 13, 14, 15, 16] [17, 32, 33, 34, 35, 36, 37, 38, 39, 40] rfl rfl (by decide) (by decide) (by decide) 0 2 rfl rfl [10, 25, 26, 27, 28, 29, 30, 31, 32, 33, 34, 35, 36, 37, 38, 39, 40, 0, 11, 12, 13, 14, 15, 16, 17, 18, 19, 20, 21, 22, 23, 24, 1, 2, 3, 4, 5, 6, 7, 8, 9] (by decide) (fun _ => rfl) (rfl) (fun u H locs hp hP hD hS => ?_)
  refine lv_aload_n hx hb dL_law_520 rfl (lv_at hl 1 rfl) ?_
  refine lv_aload_n hx hb dL_law_521 rfl (lv_at hl 3 rfl) ?_
  refine lv_iload_n hx hb dL_law_522 rfl (lv_at hl 0 rfl) ?_
  refine lv_iconst (v := nI 1) hx hb dL_law_523 (by decide) ?_
  refine my_iadd (x := i) (y := 1) hx hb dL_law_524 ?_
  refine my_sld (n := i + 1) hx hb hX hbl hbA hS (by omega) hL dL_law_525 ?_
  refine CI.callVU (wr := (xB xo cd ce so sd) ++ (cW cI cd c) ++ (cW cI ce u.1) ++ (qB cR so (fO o0 o1)) ++ (tF cI cG sd ((rU u.2 r) 0) ((rU u.2 r) 1) ((rU u.2 r) 2) ((rU u.2 r) 3) ((rU u.2 r) 4) ((rU u.2 r) 5) ((rU u.2 r) 6) ((rU u.2 r) 7) ((rU u.2 r) 8) ((rU u.2 r) 9) ((rU u.2 r) 10)) ++ ([(ad 2, .inl (cI, 580, .inl (nA sl))), (ad 3, .inl (cZ, 2, .inl sv)), (ad 8, .inl (cI, 290, .inl (nA (z 4))))])) (As := [.int (xs (i + 1))]) (rest := [_]) (w3 := (fun v => LX cI cZ cR cG xo cd ce so sd ad c u.1 (rU u.2 r) g sl sv (z4 v z) (fO o0 o1))) (c_X3_steadyValue l dC dI cI cZ cR cG ad g (z 0) (z 3) (z 1) (z 2) (xs (i + 1)) kp.2) ⟨hx, hb, hml, hown, hts⟩ (cwV 1 hts gL_law_X3_steadyValue rfl rfl rfl (by decide +kernel) ⟨(Nat.le_of_ble_eq_true rfl), (Nat.le_of_ble_eq_true rfl)⟩) rfl hl.1 (Nat.le_of_ble_eq_true rfl) dL_law_526 ⟨by show cells + 0 + 0 ≤ 600000; omega, by show slots + 0 + 0 ≤ 7302250; omega⟩ hA hS hP hK hD [32, 33, 36, 39, 37, 38] [0, 1, 2, 3, 4, 5, 6, 7, 8, 9, 10, 11, 12, 13, 14, 15, 16, 17, 18, 19, 20, 21, 22, 23, 24, 25, 26, 27, 28, 29, 30, 31, 34, 35, 40] rfl rfl (by decide) (by decide) (by decide) 0 3 rfl rfl [0, 1, 2, 3, 4, 5, 6, 7, 8, 9, 10, 11, 12, 13, 14, 15, 16, 17, 18, 19, 20, 21, 22, 23, 24, 25, 26, 27, 28, 29, 30, 31, 35, 36, 32, 33, 37, 39, 40, 38, 34] (by decide) (fun _ => rfl) (rfl) (fun v H locs hp hP hD hS => ?_)
  refine lv_icmp_eq (tgt := 807) hx hb dL_law_529 (by decide) (fun _ => ?_) (fun h9 => absurd (K_sv kp (xs (i + 1))) h9)
  refine W.widen (show cells + 0 + 0 ≤ cells + 8 by omega) (show slots + 0 + 0 ≤ slots + 261 by omega) ?_
  exact cont _ _ ⟨c, u.1, (rU u.2 r), g, sl, sv, (z4 v z), o0, o1, kp, s0, s1, hP, hD, hS⟩
set_option maxHeartbeats 8000000 in
set_option maxRecDepth 100000 in
theorem op_16 {p : Program} {e : Env} {s : State} {m : MethodId} {below : List Frame} {meth : Method} {kc : Code} (l : Launch) {b L : Nat} {xs : Nat → Int32} {dC : Nat → ClassId} {dI : Nat → Nat → Nat} {cI cZ cR cG : ClassId} (C0 : LC p s m kc b L xs dC dI cI cZ cR cG) {i : Nat} (hi : i + 6 ≤ L) (hL : L ≤ 3072) {xo : Nat} {cd ce : Nat → Nat} {so : Nat} {sd ad : Nat → Nat} {H : Heap} {locs : List Loc} {ls : Array Slot} {cells slots : Nat} {Q : State → Prop} (hcl : cells + 8 ≤ 600000) (hsl : slots + 261 ≤ 7302250) (hI : LI dC dI cI cZ cR cG xo cd ce so sd ad s.heap H locs) (hl : lv_has ls 4 [(3, .int (nI i)), (2, .ref (ad 0)), (1, .ref xo), (0, .ref b)])
    (cont : ∀ (H : Heap) (locs : List Loc), LI dC dI cI cZ cR cG xo cd ce so sd ad s.heap H locs → W p l e room_1 s m #[Value.ref b] below meth kc H locs (cells + 8) (slots + 261) Q (F0 m 807 ls [])) : W p l e room_1 s m #[Value.ref b] below meth kc H locs cells slots Q (F0 m 534 ls []) := by
  obtain ⟨hx, hb, hml, hown, hts, hX, hbl, hK, hEX⟩ := C0
  obtain ⟨c, ev, r, g, sl, sv, z, o0, o1, kp, s0, s1, hP, hD, hS⟩ := hI
  have hA : ∀ q : Nat, s.heap.size ≤ q → (fun q : Nat => s.heap.size ≤ q) q := fun _ h => h
  have hbA : ¬ (fun q : Nat => s.heap.size ≤ q) b := Nat.not_le.mpr hbl
  have okc : okG c := kp.1.ok kp.2
  refine lv_aload_n hx hb dL_law_534 rfl (lv_at hl 2 rfl) ?_
  refine lv_aload_n hx hb dL_law_535 rfl (lv_at hl 3 rfl) ?_
  refine lv_iload_n hx hb dL_law_536 rfl (lv_at hl 0 rfl) ?_
  refine lv_iconst (v := nI 1) hx hb dL_law_537 (by decide) ?_
  refine my_iadd (x := i) (y := 1) hx hb dL_law_538 ?_
  refine my_sld (n := i + 1) hx hb hX hbl hbA hS (by omega) hL dL_law_539 ?_
  refine CI.callVU (wr := (cW cI ce ev) ++ (qB cR so (fO o0 o1)) ++ (mW cI cZ ad g sl sv (z 0) (z 1) (z 2) (z 3) (z 4))) (As := [.int (xs (i + 1))]) (rest := []) (w3 := (fun u => LX cI cZ cR cG xo cd ce so sd ad c ev (rU u r) g sl sv z (fO o0 o1))) (c_X2_vicinity l dC dI cI cZ cR cG xo cd ce so sd (r 0) (r 1) (r 2) (r 3) (r 4) (r 5) (r 6) (r 7) (r 8) (r 9) (r 10) c (xs (i + 1)) okc) ⟨hx, hb, hml, hown, hts⟩ (cwV 1 hts gL_law_X2_vicinity rfl rfl rfl (by decide +kernel) ⟨(Nat.le_of_ble_eq_true rfl), (Nat.le_of_ble_eq_true rfl)⟩) rfl hl.1 (Nat.le_of_ble_eq_true rfl) dL_law_540 ⟨by show cells + 0 ≤ 600000; omega, by show slots + 0 ≤ 7302250; omega⟩ hA hS hP hK hD [0, 18, 19, 20, 21, 22, 23, 24, 25, 26, 27, 28, 29, 30, 31, 1, 2, 3, 4, 5, 6, 7, 8] [9, 10, 11, 12, 13, 14, 15, 16, 17, 32, 33, 34, 35, 36, 37, 38, 39, 40] rfl rfl (by decide) (by decide) (by decide) 0 2 rfl rfl [18, 33, 34, 35, 36, 37, 38, 39, 40, 0, 1, 2, 3, 4, 5, 6, 7, 8, 19, 20, 21, 22, 23, 24, 25, 26, 27, 28, 29, 30, 31, 32, 9, 10, 11, 12, 13, 14, 15, 16, 17] (by decide) (fun _ => rfl) (rfl) (fun u H locs hp hP hD hS => ?_)
  refine lv_aload_n hx hb dL_law_543 rfl (lv_at hl 1 rfl) ?_
  refine lv_aload_n hx hb dL_law_544 rfl (lv_at hl 3 rfl) ?_
  refine lv_iload_n hx hb dL_law_545 rfl (lv_at hl 0 rfl) ?_
  refine lv_iconst (v := nI 1) hx hb dL_law_546 (by decide) ?_
  refine my_iadd (x := i) (y := 1) hx hb dL_law_547 ?_
  refine my_sld (n := i + 1) hx hb hX hbl hbA hS (by omega) hL dL_law_548 ?_
  refine CI.callVU (wr := (xB xo cd ce so sd) ++ (cW cI cd c) ++ (cW cI ce ev) ++ (qB cR so (fO o0 o1)) ++ (tF cI cG sd ((rU u r) 0) ((rU u r) 1) ((rU u r) 2) ((rU u r) 3) ((rU u r) 4) ((rU u r) 5) ((rU u r) 6) ((rU u r) 7) ((rU u r) 8) ((rU u r) 9) ((rU u r) 10)) ++ ([(ad 2, .inl (cI, 580, .inl (nA sl))), (ad 3, .inl (cZ, 2, .inl sv)), (ad 4, .inl (cI, 24, .inl (nA (z 0)))), (ad 5, .inl (cI, 24, .inl (nA (z 1)))), (ad 6, .inl (cI, 24, .inl (nA (z 2)))), (ad 7, .inl (cI, 40, .inl (nA (z 3)))), (ad 8, .inl (cI, 290, .inl (nA (z 4))))])) (As := [.int (xs (i + 1))]) (rest := [_]) (w3 := (fun _ => LX cI cZ cR cG xo cd ce so sd ad c ev (rU u r) g sl sv z (fO o0 o1))) (c_X3_vicinity l dC dI cI cZ cR cG ad g (xs (i + 1)) kp.2) ⟨hx, hb, hml, hown, hts⟩ (cwV 1 hts gL_law_X3_vicinity rfl rfl rfl (by decide +kernel) ⟨(Nat.le_of_ble_eq_true rfl), (Nat.le_of_ble_eq_true rfl)⟩) rfl hl.1 (Nat.le_of_ble_eq_true rfl) dL_law_549 ⟨by show cells + 0 + 0 ≤ 600000; omega, by show slots + 0 + 0 ≤ 7302250; omega⟩ hA hS hP hK hD [32, 33] [0, 1, 2, 3, 4, 5, 6, 7, 8, 9, 10, 11, 12, 13, 14, 15, 16, 17, 18, 19, 20, 21, 22, 23, 24, 25, 26, 27, 28, 29, 30, 31, 34, 35, 36, 37, 38, 39, 40] rfl rfl (by decide) (by decide) (by decide) 0 3 rfl rfl [0, 1, 2, 3, 4, 5, 6, 7, 8, 9, 10, 11, 12, 13, 14, 15, 16, 17, 18, 19, 20, 21, 22, 23, 24, 25, 26, 27, 28, 29, 30, 31, 39, 40, 32, 33, 34, 35, 36, 37, 38] (by decide) (fun _ => rfl) (rfl) (fun _ H locs hp hP hD hS => ?_)
  refine lv_icmp_eq (tgt := 807) hx hb dL_law_552 (by decide) (fun _ => ?_) (fun h9 => absurd (K_vic kp (xs (i + 1))) h9)
  refine W.widen (show cells + 0 + 0 ≤ cells + 8 by omega) (show slots + 0 + 0 ≤ slots + 261 by omega) ?_
  exact cont _ _ ⟨c, ev, (rU u r), g, sl, sv, z, o0, o1, kp, s0, s1, hP, hD, hS⟩
set_option maxHeartbeats 8000000 in
set_option maxRecDepth 100000 in
theorem op_17 {p : Program} {e : Env} {s : State} {m : MethodId} {below : List Frame} {meth : Method} {kc : Code} (l : Launch) {b L : Nat} {xs : Nat → Int32} {dC : Nat → ClassId} {dI : Nat → Nat → Nat} {cI cZ cR cG : ClassId} (C0 : LC p s m kc b L xs dC dI cI cZ cR cG) {i : Nat} (hi : i + 6 ≤ L) (hL : L ≤ 3072) {xo : Nat} {cd ce : Nat → Nat} {so : Nat} {sd ad : Nat → Nat} {H : Heap} {locs : List Loc} {ls : Array Slot} {cells slots : Nat} {Q : State → Prop} (hcl : cells + 8 ≤ 600000) (hsl : slots + 261 ≤ 7302250) (hI : LI dC dI cI cZ cR cG xo cd ce so sd ad s.heap H locs) (hl : lv_has ls 4 [(3, .int (nI i)), (2, .ref (ad 0)), (1, .ref xo), (0, .ref b)])
    (cont : ∀ (H : Heap) (locs : List Loc), LI dC dI cI cZ cR cG xo cd ce so sd ad s.heap H locs → W p l e room_1 s m #[Value.ref b] below meth kc H locs (cells + 8) (slots + 261) Q (F0 m 807 ls [])) : W p l e room_1 s m #[Value.ref b] below meth kc H locs cells slots Q (F0 m 557 ls []) := by
  obtain ⟨hx, hb, hml, hown, hts, hX, hbl, hK, hEX⟩ := C0
  obtain ⟨c, ev, r, g, sl, sv, z, o0, o1, kp, s0, s1, hP, hD, hS⟩ := hI
  have hA : ∀ q : Nat, s.heap.size ≤ q → (fun q : Nat => s.heap.size ≤ q) q := fun _ h => h
  have hbA : ¬ (fun q : Nat => s.heap.size ≤ q) b := Nat.not_le.mpr hbl
  have okc : okG c := kp.1.ok kp.2
  refine lv_aload_n hx hb dL_law_557 rfl (lv_at hl 2 rfl) ?_
  refine CI.callVU (wr := (cW cI ce ev) ++ (qB cR so (fO o0 o1)) ++ (mW cI cZ ad g sl sv (z 0) (z 1) (z 2) (z 3) (z 4))) (As := []) (rest := []) (w3 := (fun u => LX cI cZ cR cG xo cd ce so sd ad (stp c) ev (rU u r) g sl sv z (fO o0 o1))) (c_X2_step l dC dI cI cZ cR cG xo cd ce so sd (r 0) (r 1) (r 2) (r 3) (r 4) (r 5) (r 6) (r 7) (r 8) (r 9) (r 10) c  okc) ⟨hx, hb, hml, hown, hts⟩ (cwV 0 hts gL_law_X2_step rfl rfl rfl (by decide +kernel) ⟨(Nat.le_of_ble_eq_true rfl), (Nat.le_of_ble_eq_true rfl)⟩) rfl hl.1 (Nat.le_of_ble_eq_true rfl) dL_law_558 ⟨by show cells + 0 ≤ 600000; omega, by show slots + 0 ≤ 7302250; omega⟩ hA hS hP hK hD [0, 18, 19, 20, 21, 22, 23, 24, 25, 26, 27, 28, 29, 30, 31, 1, 2, 3, 4, 5, 6, 7, 8] [9, 10, 11, 12, 13, 14, 15, 16, 17, 32, 33, 34, 35, 36, 37, 38, 39, 40] rfl rfl (by decide) (by decide) (by decide) 0 2 rfl rfl [18, 33, 34, 35, 36, 37, 38, 39, 40, 0, 1, 2, 3, 4, 5, 6, 7, 8, 19, 20, 21, 22, 23, 24, 25, 26, 27, 28, 29, 30, 31, 32, 9, 10, 11, 12, 13, 14, 15, 16, 17] (by decide) (fun _ => rfl) (rfl) (fun u H locs hp hP hD hS => ?_)
  refine lv_aload_n hx hb dL_law_561 rfl (lv_at hl 1 rfl) ?_
  refine CI.callVU (wr := (xB xo cd ce so sd) ++ (cW cI cd (stp c)) ++ (cW cI ce ev) ++ (qB cR so (fO o0 o1)) ++ (tF cI cG sd ((rU u r) 0) ((rU u r) 1) ((rU u r) 2) ((rU u r) 3) ((rU u r) 4) ((rU u r) 5) ((rU u r) 6) ((rU u r) 7) ((rU u r) 8) ((rU u r) 9) ((rU u r) 10)) ++ ([(ad 2, .inl (cI, 580, .inl (nA sl))), (ad 3, .inl (cZ, 2, .inl sv)), (ad 8, .inl (cI, 290, .inl (nA (z 4))))])) (As := []) (rest := [_]) (w3 := (fun v => LX cI cZ cR cG xo cd ce so sd ad (stp c) ev (rU u r) (stp g) sl sv (z4 v z) (fO o0 o1))) (c_X3_step l dC dI cI cZ cR cG ad g (z 0) (z 3) (z 1) (z 2)  kp.2) ⟨hx, hb, hml, hown, hts⟩ (cwV 0 hts gL_law_X3_step rfl rfl rfl (by decide +kernel) ⟨(Nat.le_of_ble_eq_true rfl), (Nat.le_of_ble_eq_true rfl)⟩) rfl hl.1 (Nat.le_of_ble_eq_true rfl) dL_law_562 ⟨by show cells + 0 + 0 ≤ 600000; omega, by show slots + 0 + 0 ≤ 7302250; omega⟩ hA hS hP hK hD [32, 33, 36, 39, 37, 38] [0, 1, 2, 3, 4, 5, 6, 7, 8, 9, 10, 11, 12, 13, 14, 15, 16, 17, 18, 19, 20, 21, 22, 23, 24, 25, 26, 27, 28, 29, 30, 31, 34, 35, 40] rfl rfl (by decide) (by decide) (by decide) 0 3 rfl rfl [0, 1, 2, 3, 4, 5, 6, 7, 8, 9, 10, 11, 12, 13, 14, 15, 16, 17, 18, 19, 20, 21, 22, 23, 24, 25, 26, 27, 28, 29, 30, 31, 35, 36, 32, 33, 37, 39, 40, 38, 34] (by decide) (fun _ => rfl) (rfl) (fun v H locs hp hP hD hS => ?_)
  refine lv_icmp_eq (tgt := 807) hx hb dL_law_565 (by decide) (fun _ => ?_) (fun h9 => absurd (K_step kp).1 h9)
  refine W.widen (show cells + 0 + 0 ≤ cells + 8 by omega) (show slots + 0 + 0 ≤ slots + 261 by omega) ?_
  exact cont _ _ ⟨(stp c), ev, (rU u r), (stp g), sl, sv, (z4 v z), o0, o1, (K_step kp).2, s0, s1, hP, hD, hS⟩
set_option maxHeartbeats 8000000 in
set_option maxRecDepth 100000 in
theorem op_18 {p : Program} {e : Env} {s : State} {m : MethodId} {below : List Frame} {meth : Method} {kc : Code} (l : Launch) {b L : Nat} {xs : Nat → Int32} {dC : Nat → ClassId} {dI : Nat → Nat → Nat} {cI cZ cR cG : ClassId} (C0 : LC p s m kc b L xs dC dI cI cZ cR cG) {i : Nat} (hi : i + 6 ≤ L) (hL : L ≤ 3072) {xo : Nat} {cd ce : Nat → Nat} {so : Nat} {sd ad : Nat → Nat} {H : Heap} {locs : List Loc} {ls : Array Slot} {cells slots : Nat} {Q : State → Prop} (hcl : cells + 8 ≤ 600000) (hsl : slots + 261 ≤ 7302250) (hI : LI dC dI cI cZ cR cG xo cd ce so sd ad s.heap H locs) (hl : lv_has ls 4 [(3, .int (nI i)), (2, .ref (ad 0)), (1, .ref xo), (0, .ref b)])
    (cont : ∀ (H : Heap) (locs : List Loc), LI dC dI cI cZ cR cG xo cd ce so sd ad s.heap H locs → W p l e room_1 s m #[Value.ref b] below meth kc H locs (cells + 8) (slots + 261) Q (F0 m 807 ls [])) : W p l e room_1 s m #[Value.ref b] below meth kc H locs cells slots Q (F0 m 570 ls []) := by
  obtain ⟨hx, hb, hml, hown, hts, hX, hbl, hK, hEX⟩ := C0
  obtain ⟨c, ev, r, g, sl, sv, z, o0, o1, kp, s0, s1, hP, hD, hS⟩ := hI
  have hA : ∀ q : Nat, s.heap.size ≤ q → (fun q : Nat => s.heap.size ≤ q) q := fun _ h => h
  have hbA : ¬ (fun q : Nat => s.heap.size ≤ q) b := Nat.not_le.mpr hbl
  have okc : okG c := kp.1.ok kp.2
  refine lv_aload_n hx hb dL_law_570 rfl (lv_at hl 2 rfl) ?_
  refine lv_aload_n hx hb dL_law_571 rfl (lv_at hl 3 rfl) ?_
  refine lv_iload_n hx hb dL_law_572 rfl (lv_at hl 0 rfl) ?_
  refine lv_iconst (v := nI 1) hx hb dL_law_573 (by decide) ?_
  refine my_iadd (x := i) (y := 1) hx hb dL_law_574 ?_
  refine my_sld (n := i + 1) hx hb hX hbl hbA hS (by omega) hL dL_law_575 ?_
  refine CI.callVU (wr := (cW cI ce ev) ++ (qB cR so (fO o0 o1)) ++ (mW cI cZ ad g sl sv (z 0) (z 1) (z 2) (z 3) (z 4))) (As := [.int (xs (i + 1))]) (rest := []) (w3 := (fun u => LX cI cZ cR cG xo cd ce so sd ad (gSet c (xs (i + 1))) ev (rU u r) g sl sv z (fO o0 o1))) (c_X2_settle l dC dI cI cZ cR cG xo cd ce so sd (r 0) (r 1) (r 2) (r 3) (r 4) (r 5) (r 6) (r 7) (r 8) (r 9) (r 10) c (xs (i + 1)) okc) ⟨hx, hb, hml, hown, hts⟩ (cwV 1 hts gL_law_X2_settle rfl rfl rfl (by decide +kernel) ⟨(Nat.le_of_ble_eq_true rfl), (Nat.le_of_ble_eq_true rfl)⟩) rfl hl.1 (Nat.le_of_ble_eq_true rfl) dL_law_576 ⟨by show cells + 0 ≤ 600000; omega, by show slots + 0 ≤ 7302250; omega⟩ hA hS hP hK hD [0, 18, 19, 20, 21, 22, 23, 24, 25, 26, 27, 28, 29, 30, 31, 1, 2, 3, 4, 5, 6, 7, 8] [9, 10, 11, 12, 13, 14, 15, 16, 17, 32, 33, 34, 35, 36, 37, 38, 39, 40] rfl rfl (by decide) (by decide) (by decide) 0 2 rfl rfl [18, 33, 34, 35, 36, 37, 38, 39, 40, 0, 1, 2, 3, 4, 5, 6, 7, 8, 19, 20, 21, 22, 23, 24, 25, 26, 27, 28, 29, 30, 31, 32, 9, 10, 11, 12, 13, 14, 15, 16, 17] (by decide) (fun _ => rfl) (rfl) (fun u H locs hp hP hD hS => ?_)
  refine lv_aload_n hx hb dL_law_579 rfl (lv_at hl 1 rfl) ?_
  refine lv_aload_n hx hb dL_law_580 rfl (lv_at hl 3 rfl) ?_
  refine lv_iload_n hx hb dL_law_581 rfl (lv_at hl 0 rfl) ?_
  refine lv_iconst (v := nI 1) hx hb dL_law_582 (by decide) ?_
  refine my_iadd (x := i) (y := 1) hx hb dL_law_583 ?_
  refine my_sld (n := i + 1) hx hb hX hbl hbA hS (by omega) hL dL_law_584 ?_
  refine CI.callVU (wr := (xB xo cd ce so sd) ++ (cW cI cd (gSet c (xs (i + 1)))) ++ (cW cI ce ev) ++ (qB cR so (fO o0 o1)) ++ (tF cI cG sd ((rU u r) 0) ((rU u r) 1) ((rU u r) 2) ((rU u r) 3) ((rU u r) 4) ((rU u r) 5) ((rU u r) 6) ((rU u r) 7) ((rU u r) 8) ((rU u r) 9) ((rU u r) 10)) ++ ([(ad 2, .inl (cI, 580, .inl (nA sl))), (ad 3, .inl (cZ, 2, .inl sv)), (ad 8, .inl (cI, 290, .inl (nA (z 4))))])) (As := [.int (xs (i + 1))]) (rest := [_]) (w3 := (fun v => LX cI cZ cR cG xo cd ce so sd ad (gSet c (xs (i + 1))) ev (rU u r) (gSet g (xs (i + 1))) sl sv (z4 v z) (fO o0 o1))) (c_X3_settle l dC dI cI cZ cR cG ad g (z 0) (z 3) (z 1) (z 2) (xs (i + 1)) kp.2) ⟨hx, hb, hml, hown, hts⟩ (cwV 1 hts gL_law_X3_settle rfl rfl rfl (by decide +kernel) ⟨(Nat.le_of_ble_eq_true rfl), (Nat.le_of_ble_eq_true rfl)⟩) rfl hl.1 (Nat.le_of_ble_eq_true rfl) dL_law_585 ⟨by show cells + 0 + 0 ≤ 600000; omega, by show slots + 0 + 0 ≤ 7302250; omega⟩ hA hS hP hK hD [32, 33, 36, 39, 37, 38] [0, 1, 2, 3, 4, 5, 6, 7, 8, 9, 10, 11, 12, 13, 14, 15, 16, 17, 18, 19, 20, 21, 22, 23, 24, 25, 26, 27, 28, 29, 30, 31, 34, 35, 40] rfl rfl (by decide) (by decide) (by decide) 0 3 rfl rfl [0, 1, 2, 3, 4, 5, 6, 7, 8, 9, 10, 11, 12, 13, 14, 15, 16, 17, 18, 19, 20, 21, 22, 23, 24, 25, 26, 27, 28, 29, 30, 31, 35, 36, 32, 33, 37, 39, 40, 38, 34] (by decide) (fun _ => rfl) (rfl) (fun v H locs hp hP hD hS => ?_)
  refine lv_icmp_eq (tgt := 807) hx hb dL_law_588 (by decide) (fun _ => ?_) (fun h9 => absurd (K_set kp (xs (i + 1))).1 h9)
  refine W.widen (show cells + 0 + 0 ≤ cells + 8 by omega) (show slots + 0 + 0 ≤ slots + 261 by omega) ?_
  exact cont _ _ ⟨(gSet c (xs (i + 1))), ev, (rU u r), (gSet g (xs (i + 1))), sl, sv, (z4 v z), o0, o1, (K_set kp (xs (i + 1))).2, s0, s1, hP, hD, hS⟩
set_option maxHeartbeats 8000000 in
set_option maxRecDepth 100000 in
theorem op_19 {p : Program} {e : Env} {s : State} {m : MethodId} {below : List Frame} {meth : Method} {kc : Code} (l : Launch) {b L : Nat} {xs : Nat → Int32} {dC : Nat → ClassId} {dI : Nat → Nat → Nat} {cI cZ cR cG : ClassId} (C0 : LC p s m kc b L xs dC dI cI cZ cR cG) {i : Nat} (hi : i + 6 ≤ L) (hL : L ≤ 3072) {xo : Nat} {cd ce : Nat → Nat} {so : Nat} {sd ad : Nat → Nat} {H : Heap} {locs : List Loc} {ls : Array Slot} {cells slots : Nat} {Q : State → Prop} (hcl : cells + 8 ≤ 600000) (hsl : slots + 261 ≤ 7302250) (hI : LI dC dI cI cZ cR cG xo cd ce so sd ad s.heap H locs) (hl : lv_has ls 4 [(3, .int (nI i)), (2, .ref (ad 0)), (1, .ref xo), (0, .ref b)])
    (cont : ∀ (H : Heap) (locs : List Loc), LI dC dI cI cZ cR cG xo cd ce so sd ad s.heap H locs → W p l e room_1 s m #[Value.ref b] below meth kc H locs (cells + 8) (slots + 261) Q (F0 m 807 ls [])) : W p l e room_1 s m #[Value.ref b] below meth kc H locs cells slots Q (F0 m 593 ls []) := by
  obtain ⟨hx, hb, hml, hown, hts, hX, hbl, hK, hEX⟩ := C0
  obtain ⟨c, ev, r, g, sl, sv, z, o0, o1, kp, s0, s1, hP, hD, hS⟩ := hI
  have hA : ∀ q : Nat, s.heap.size ≤ q → (fun q : Nat => s.heap.size ≤ q) q := fun _ h => h
  have hbA : ¬ (fun q : Nat => s.heap.size ≤ q) b := Nat.not_le.mpr hbl
  have okc : okG c := kp.1.ok kp.2
  refine lv_aload_n hx hb dL_law_593 rfl (lv_at hl 2 rfl) ?_
  refine CI.callVU (wr := (cW cI ce ev) ++ (qB cR so (fO o0 o1)) ++ (mW cI cZ ad g sl sv (z 0) (z 1) (z 2) (z 3) (z 4))) (As := []) (rest := []) (w3 := (fun u => LX cI cZ cR cG xo cd ce so sd ad c ev (rU u r) g sl sv z (fO o0 o1))) (c_X2_active l dC dI cI cZ cR cG xo cd ce so sd (r 0) (r 1) (r 2) (r 3) (r 4) (r 5) (r 6) (r 7) (r 8) (r 9) (r 10) c  okc) ⟨hx, hb, hml, hown, hts⟩ (cwV 0 hts gL_law_X2_active rfl rfl rfl (by decide +kernel) ⟨(Nat.le_of_ble_eq_true rfl), (Nat.le_of_ble_eq_true rfl)⟩) rfl hl.1 (Nat.le_of_ble_eq_true rfl) dL_law_594 ⟨by show cells + 0 ≤ 600000; omega, by show slots + 0 ≤ 7302250; omega⟩ hA hS hP hK hD [0, 18, 19, 20, 21, 22, 23, 24, 25, 26, 27, 28, 29, 30, 31, 1, 2, 3, 4, 5, 6, 7, 8] [9, 10, 11, 12, 13, 14, 15, 16, 17, 32, 33, 34, 35, 36, 37, 38, 39, 40] rfl rfl (by decide) (by decide) (by decide) 0 2 rfl rfl [18, 33, 34, 35, 36, 37, 38, 39, 40, 0, 1, 2, 3, 4, 5, 6, 7, 8, 19, 20, 21, 22, 23, 24, 25, 26, 27, 28, 29, 30, 31, 32, 9, 10, 11, 12, 13, 14, 15, 16, 17] (by decide) (fun _ => rfl) (rfl) (fun u H locs hp hP hD hS => ?_)
  refine lv_aload_n hx hb dL_law_597 rfl (lv_at hl 1 rfl) ?_
  refine CI.callVU (wr := (xB xo cd ce so sd) ++ (cW cI cd c) ++ (cW cI ce ev) ++ (qB cR so (fO o0 o1)) ++ (tF cI cG sd ((rU u r) 0) ((rU u r) 1) ((rU u r) 2) ((rU u r) 3) ((rU u r) 4) ((rU u r) 5) ((rU u r) 6) ((rU u r) 7) ((rU u r) 8) ((rU u r) 9) ((rU u r) 10)) ++ ([(ad 2, .inl (cI, 580, .inl (nA sl))), (ad 3, .inl (cZ, 2, .inl sv)), (ad 8, .inl (cI, 290, .inl (nA (z 4))))])) (As := []) (rest := [_]) (w3 := (fun v => LX cI cZ cR cG xo cd ce so sd ad c ev (rU u r) g sl sv (z4 v z) (fO o0 o1))) (c_X3_active l dC dI cI cZ cR cG ad g (z 0) (z 3) (z 1) (z 2)  kp.2) ⟨hx, hb, hml, hown, hts⟩ (cwV 0 hts gL_law_X3_active rfl rfl rfl (by decide +kernel) ⟨(Nat.le_of_ble_eq_true rfl), (Nat.le_of_ble_eq_true rfl)⟩) rfl hl.1 (Nat.le_of_ble_eq_true rfl) dL_law_598 ⟨by show cells + 0 + 0 ≤ 600000; omega, by show slots + 0 + 0 ≤ 7302250; omega⟩ hA hS hP hK hD [32, 33, 36, 39, 37, 38] [0, 1, 2, 3, 4, 5, 6, 7, 8, 9, 10, 11, 12, 13, 14, 15, 16, 17, 18, 19, 20, 21, 22, 23, 24, 25, 26, 27, 28, 29, 30, 31, 34, 35, 40] rfl rfl (by decide) (by decide) (by decide) 0 3 rfl rfl [0, 1, 2, 3, 4, 5, 6, 7, 8, 9, 10, 11, 12, 13, 14, 15, 16, 17, 18, 19, 20, 21, 22, 23, 24, 25, 26, 27, 28, 29, 30, 31, 35, 36, 32, 33, 37, 39, 40, 38, 34] (by decide) (fun _ => rfl) (rfl) (fun v H locs hp hP hD hS => ?_)
  refine lv_icmp_eq (tgt := 807) hx hb dL_law_601 (by decide) (fun _ => ?_) (fun h9 => absurd ((K_step kp).1) h9)
  refine W.widen (show cells + 0 + 0 ≤ cells + 8 by omega) (show slots + 0 + 0 ≤ slots + 261 by omega) ?_
  exact cont _ _ ⟨c, ev, (rU u r), g, sl, sv, (z4 v z), o0, o1, kp, s0, s1, hP, hD, hS⟩
set_option maxHeartbeats 8000000 in
set_option maxRecDepth 100000 in
theorem op_20 {p : Program} {e : Env} {s : State} {m : MethodId} {below : List Frame} {meth : Method} {kc : Code} (l : Launch) {b L : Nat} {xs : Nat → Int32} {dC : Nat → ClassId} {dI : Nat → Nat → Nat} {cI cZ cR cG : ClassId} (C0 : LC p s m kc b L xs dC dI cI cZ cR cG) {i : Nat} (hi : i + 6 ≤ L) (hL : L ≤ 3072) {xo : Nat} {cd ce : Nat → Nat} {so : Nat} {sd ad : Nat → Nat} {H : Heap} {locs : List Loc} {ls : Array Slot} {cells slots : Nat} {Q : State → Prop} (hcl : cells + 8 ≤ 600000) (hsl : slots + 261 ≤ 7302250) (hI : LI dC dI cI cZ cR cG xo cd ce so sd ad s.heap H locs) (hl : lv_has ls 4 [(3, .int (nI i)), (2, .ref (ad 0)), (1, .ref xo), (0, .ref b)])
    (cont : ∀ (H : Heap) (locs : List Loc), LI dC dI cI cZ cR cG xo cd ce so sd ad s.heap H locs → W p l e room_1 s m #[Value.ref b] below meth kc H locs (cells + 8) (slots + 261) Q (F0 m 807 ls [])) : W p l e room_1 s m #[Value.ref b] below meth kc H locs cells slots Q (F0 m 606 ls []) := by
  obtain ⟨hx, hb, hml, hown, hts, hX, hbl, hK, hEX⟩ := C0
  obtain ⟨c, ev, r, g, sl, sv, z, o0, o1, kp, s0, s1, hP, hD, hS⟩ := hI
  have hA : ∀ q : Nat, s.heap.size ≤ q → (fun q : Nat => s.heap.size ≤ q) q := fun _ h => h
  have hbA : ¬ (fun q : Nat => s.heap.size ≤ q) b := Nat.not_le.mpr hbl
  have okc : okG c := kp.1.ok kp.2
  refine lv_aload_n hx hb dL_law_606 rfl (lv_at hl 2 rfl) ?_
  refine lv_aload_n hx hb dL_law_607 rfl (lv_at hl 3 rfl) ?_
  refine lv_iload_n hx hb dL_law_608 rfl (lv_at hl 0 rfl) ?_
  refine lv_iconst (v := nI 1) hx hb dL_law_609 (by decide) ?_
  refine my_iadd (x := i) (y := 1) hx hb dL_law_610 ?_
  refine my_sld (n := i + 1) hx hb hX hbl hbA hS (by omega) hL dL_law_611 ?_
  refine CI.callVU (wr := (qB cR so (fO o0 o1)) ++ (mW cI cZ ad g sl sv (z 0) (z 1) (z 2) (z 3) (z 4))) (As := [.int (xs (i + 1))]) (rest := []) (w3 := (fun u => LX cI cZ cR cG xo cd ce so sd ad c u.1 (rU u.2 r) g sl sv z (fO o0 o1))) (c_X2_period l dC dI cI cZ cR cG xo cd ce so sd (r 0) (r 1) (r 2) (r 3) (r 4) (r 5) (r 6) (r 7) (r 8) (r 9) (r 10) c ev (xs (i + 1)) okc) ⟨hx, hb, hml, hown, hts⟩ (cwV 1 hts gL_law_X2_period rfl rfl rfl (by decide +kernel) ⟨(Nat.le_of_ble_eq_true rfl), (Nat.le_of_ble_eq_true rfl)⟩) rfl hl.1 (Nat.le_of_ble_eq_true rfl) dL_law_612 ⟨by show cells + 0 ≤ 600000; omega, by show slots + 0 ≤ 7302250; omega⟩ hA hS hP hK hD [0, 18, 19, 20, 21, 22, 23, 24, 25, 26, 27, 28, 29, 30, 31, 1, 2, 3, 4, 5, 6, 7, 8, 9, 10, 11, 12, 13, 14, 15, 16] [17, 32, 33, 34, 35, 36, 37, 38, 39, 40] rfl rfl (by decide) (by decide) (by decide) 0 2 rfl rfl [10, 25, 26, 27, 28, 29, 30, 31, 32, 33, 34, 35, 36, 37, 38, 39, 40, 0, 11, 12, 13, 14, 15, 16, 17, 18, 19, 20, 21, 22, 23, 24, 1, 2, 3, 4, 5, 6, 7, 8, 9] (by decide) (fun _ => rfl) (rfl) (fun u H locs hp hP hD hS => ?_)
  refine lv_aload_n hx hb dL_law_615 rfl (lv_at hl 1 rfl) ?_
  refine lv_aload_n hx hb dL_law_616 rfl (lv_at hl 3 rfl) ?_
  refine lv_iload_n hx hb dL_law_617 rfl (lv_at hl 0 rfl) ?_
  refine lv_iconst (v := nI 1) hx hb dL_law_618 (by decide) ?_
  refine my_iadd (x := i) (y := 1) hx hb dL_law_619 ?_
  refine my_sld (n := i + 1) hx hb hX hbl hbA hS (by omega) hL dL_law_620 ?_
  refine CI.callVU (wr := (xB xo cd ce so sd) ++ (cW cI cd c) ++ (cW cI ce u.1) ++ (qB cR so (fO o0 o1)) ++ (tF cI cG sd ((rU u.2 r) 0) ((rU u.2 r) 1) ((rU u.2 r) 2) ((rU u.2 r) 3) ((rU u.2 r) 4) ((rU u.2 r) 5) ((rU u.2 r) 6) ((rU u.2 r) 7) ((rU u.2 r) 8) ((rU u.2 r) 9) ((rU u.2 r) 10)) ++ ([(ad 2, .inl (cI, 580, .inl (nA sl))), (ad 3, .inl (cZ, 2, .inl sv))])) (As := [.int (xs (i + 1))]) (rest := [_]) (w3 := (fun v => LX cI cZ cR cG xo cd ce so sd ad c u.1 (rU u.2 r) g sl sv (z5 v) (fO o0 o1))) (c_X3_period l dC dI cI cZ cR cG ad g (z 0) (z 3) (z 1) (z 2) (z 4) (xs (i + 1)) kp.2) ⟨hx, hb, hml, hown, hts⟩ (cwV 1 hts gL_law_X3_period rfl rfl rfl (by decide +kernel) ⟨(Nat.le_of_ble_eq_true rfl), (Nat.le_of_ble_eq_true rfl)⟩) rfl hl.1 (Nat.le_of_ble_eq_true rfl) dL_law_621 ⟨by show cells + 0 + 0 ≤ 600000; omega, by show slots + 0 + 0 ≤ 7302250; omega⟩ hA hS hP hK hD [32, 33, 36, 39, 37, 38, 40] [0, 1, 2, 3, 4, 5, 6, 7, 8, 9, 10, 11, 12, 13, 14, 15, 16, 17, 18, 19, 20, 21, 22, 23, 24, 25, 26, 27, 28, 29, 30, 31, 34, 35] rfl rfl (by decide) (by decide) (by decide) 0 3 rfl rfl [0, 1, 2, 3, 4, 5, 6, 7, 8, 9, 10, 11, 12, 13, 14, 15, 16, 17, 18, 19, 20, 21, 22, 23, 24, 25, 26, 27, 28, 29, 30, 31, 34, 35, 32, 33, 36, 38, 39, 37, 40] (by decide) (fun _ => rfl) (rfl) (fun v H locs hp hP hD hS => ?_)
  refine lv_icmp_eq (tgt := 807) hx hb dL_law_624 (by decide) (fun _ => ?_) (fun h9 => absurd (K_per kp (xs (i + 1))) h9)
  refine W.widen (show cells + 0 + 0 ≤ cells + 8 by omega) (show slots + 0 + 0 ≤ slots + 261 by omega) ?_
  exact cont _ _ ⟨c, u.1, (rU u.2 r), g, sl, sv, (z5 v), o0, o1, kp, s0, s1, hP, hD, hS⟩
set_option maxHeartbeats 8000000 in
set_option maxRecDepth 100000 in
theorem op_21 {p : Program} {e : Env} {s : State} {m : MethodId} {below : List Frame} {meth : Method} {kc : Code} (l : Launch) {b L : Nat} {xs : Nat → Int32} {dC : Nat → ClassId} {dI : Nat → Nat → Nat} {cI cZ cR cG : ClassId} (C0 : LC p s m kc b L xs dC dI cI cZ cR cG) {i : Nat} (hi : i + 6 ≤ L) (hL : L ≤ 3072) {xo : Nat} {cd ce : Nat → Nat} {so : Nat} {sd ad : Nat → Nat} {H : Heap} {locs : List Loc} {ls : Array Slot} {cells slots : Nat} {Q : State → Prop} (hcl : cells + 8 ≤ 600000) (hsl : slots + 261 ≤ 7302250) (hI : LI dC dI cI cZ cR cG xo cd ce so sd ad s.heap H locs) (hl : lv_has ls 4 [(3, .int (nI i)), (2, .ref (ad 0)), (1, .ref xo), (0, .ref b)])
    (cont : ∀ (H : Heap) (locs : List Loc), LI dC dI cI cZ cR cG xo cd ce so sd ad s.heap H locs → W p l e room_1 s m #[Value.ref b] below meth kc H locs (cells + 8) (slots + 261) Q (F0 m 807 ls [])) : W p l e room_1 s m #[Value.ref b] below meth kc H locs cells slots Q (F0 m 629 ls []) := by
  obtain ⟨hx, hb, hml, hown, hts, hX, hbl, hK, hEX⟩ := C0
  obtain ⟨c, ev, r, g, sl, sv, z, o0, o1, kp, s0, s1, hP, hD, hS⟩ := hI
  have hA : ∀ q : Nat, s.heap.size ≤ q → (fun q : Nat => s.heap.size ≤ q) q := fun _ h => h
  have hbA : ¬ (fun q : Nat => s.heap.size ≤ q) b := Nat.not_le.mpr hbl
  have okc : okG c := kp.1.ok kp.2
  refine lv_aload_n hx hb dL_law_629 rfl (lv_at hl 2 rfl) ?_
  refine lv_aload_n hx hb dL_law_630 rfl (lv_at hl 3 rfl) ?_
  refine lv_iload_n hx hb dL_law_631 rfl (lv_at hl 0 rfl) ?_
  refine lv_iconst (v := nI 1) hx hb dL_law_632 (by decide) ?_
  refine my_iadd (x := i) (y := 1) hx hb dL_law_633 ?_
  refine my_sld (n := i + 1) hx hb hX hbl hbA hS (by omega) hL dL_law_634 ?_
  refine lv_aload_n hx hb dL_law_635 rfl (lv_at hl 3 rfl) ?_
  refine lv_iload_n hx hb dL_law_636 rfl (lv_at hl 0 rfl) ?_
  refine lv_iconst (v := nI 2) hx hb dL_law_637 (by decide) ?_
  refine my_iadd (x := i) (y := 2) hx hb dL_law_638 ?_
  refine my_sld (n := i + 2) hx hb hX hbl hbA hS (by omega) hL dL_law_639 ?_
  refine CI.callVU (wr := (cW cI ce ev) ++ (qB cR so (fO o0 o1)) ++ (tF cI cG sd (r 0) (r 1) (r 2) (r 3) (r 4) (r 5) (r 6) (r 7) (r 8) (r 9) (r 10)) ++ (mW cI cZ ad g sl sv (z 0) (z 1) (z 2) (z 3) (z 4))) (As := [.int (xs (i + 1)), .int (xs (i + 2))]) (rest := []) (w3 := (fun _ => LX cI cZ cR cG xo cd ce so sd ad (gFlt c (xs (i + 1)) (xs (i + 2))) ev r g sl sv z (fO o0 o1))) (c_X2_setFault l dC dI cI cZ cR cG xo cd ce so sd c (xs (i + 1)) (xs (i + 2)) okc) ⟨hx, hb, hml, hown, hts⟩ (cwV 2 hts gL_law_X2_setFault rfl rfl rfl (by decide +kernel) ⟨(Nat.le_of_ble_eq_true rfl), (Nat.le_of_ble_eq_true rfl)⟩) rfl hl.1 (Nat.le_of_ble_eq_true rfl) dL_law_640 ⟨by show cells + 0 ≤ 600000; omega, by show slots + 0 ≤ 7302250; omega⟩ hA hS hP hK hD [0, 1, 2, 3, 4, 5, 6, 7, 8] [9, 10, 11, 12, 13, 14, 15, 16, 17, 18, 19, 20, 21, 22, 23, 24, 25, 26, 27, 28, 29, 30, 31, 32, 33, 34, 35, 36, 37, 38, 39, 40] rfl rfl (by decide) (by decide) (by decide) 0 2 rfl rfl [32, 33, 34, 35, 36, 37, 38, 39, 40, 0, 1, 2, 3, 4, 5, 6, 7, 8, 9, 10, 11, 12, 13, 14, 15, 16, 17, 18, 19, 20, 21, 22, 23, 24, 25, 26, 27, 28, 29, 30, 31] (by decide) (fun _ => rfl) (rfl) (fun _ H locs hp hP hD hS => ?_)
  refine lv_aload_n hx hb dL_law_643 rfl (lv_at hl 1 rfl) ?_
  refine lv_aload_n hx hb dL_law_644 rfl (lv_at hl 3 rfl) ?_
  refine lv_iload_n hx hb dL_law_645 rfl (lv_at hl 0 rfl) ?_
  refine lv_iconst (v := nI 1) hx hb dL_law_646 (by decide) ?_
  refine my_iadd (x := i) (y := 1) hx hb dL_law_647 ?_
  refine my_sld (n := i + 1) hx hb hX hbl hbA hS (by omega) hL dL_law_648 ?_
  refine lv_aload_n hx hb dL_law_649 rfl (lv_at hl 3 rfl) ?_
  refine lv_iload_n hx hb dL_law_650 rfl (lv_at hl 0 rfl) ?_
  refine lv_iconst (v := nI 2) hx hb dL_law_651 (by decide) ?_
  refine my_iadd (x := i) (y := 2) hx hb dL_law_652 ?_
  refine my_sld (n := i + 2) hx hb hX hbl hbA hS (by omega) hL dL_law_653 ?_
  refine CI.callVU (wr := (xB xo cd ce so sd) ++ (cW cI cd (gFlt c (xs (i + 1)) (xs (i + 2)))) ++ (cW cI ce ev) ++ (qB cR so (fO o0 o1)) ++ (tF cI cG sd (r 0) (r 1) (r 2) (r 3) (r 4) (r 5) (r 6) (r 7) (r 8) (r 9) (r 10)) ++ ([(ad 2, .inl (cI, 580, .inl (nA sl))), (ad 3, .inl (cZ, 2, .inl sv)), (ad 4, .inl (cI, 24, .inl (nA (z 0)))), (ad 5, .inl (cI, 24, .inl (nA (z 1)))), (ad 6, .inl (cI, 24, .inl (nA (z 2)))), (ad 7, .inl (cI, 40, .inl (nA (z 3)))), (ad 8, .inl (cI, 290, .inl (nA (z 4))))])) (As := [.int (xs (i + 1)), .int (xs (i + 2))]) (rest := [_]) (w3 := (fun _ => LX cI cZ cR cG xo cd ce so sd ad (gFlt c (xs (i + 1)) (xs (i + 2))) ev r (gFlt g (xs (i + 1)) (xs (i + 2))) sl sv z (fO o0 o1))) (c_X3_setFault l dC dI cI cZ cR cG ad g (xs (i + 1)) (xs (i + 2)) kp.2) ⟨hx, hb, hml, hown, hts⟩ (cwV 2 hts gL_law_X3_setFault rfl rfl rfl (by decide +kernel) ⟨(Nat.le_of_ble_eq_true rfl), (Nat.le_of_ble_eq_true rfl)⟩) rfl hl.1 (Nat.le_of_ble_eq_true rfl) dL_law_654 ⟨by show cells + 0 + 0 ≤ 600000; omega, by show slots + 0 + 0 ≤ 7302250; omega⟩ hA hS hP hK hD [32, 33] [0, 1, 2, 3, 4, 5, 6, 7, 8, 9, 10, 11, 12, 13, 14, 15, 16, 17, 18, 19, 20, 21, 22, 23, 24, 25, 26, 27, 28, 29, 30, 31, 34, 35, 36, 37, 38, 39, 40] rfl rfl (by decide) (by decide) (by decide) 0 3 rfl rfl [0, 1, 2, 3, 4, 5, 6, 7, 8, 9, 10, 11, 12, 13, 14, 15, 16, 17, 18, 19, 20, 21, 22, 23, 24, 25, 26, 27, 28, 29, 30, 31, 39, 40, 32, 33, 34, 35, 36, 37, 38] (by decide) (fun _ => rfl) (rfl) (fun _ H locs hp hP hD hS => ?_)
  refine lv_icmp_eq (tgt := 807) hx hb dL_law_657 (by decide) (fun _ => ?_) (fun h9 => absurd (K_flt kp (xs (i + 1)) (xs (i + 2))).1 h9)
  refine W.widen (show cells + 0 + 0 ≤ cells + 8 by omega) (show slots + 0 + 0 ≤ slots + 261 by omega) ?_
  exact cont _ _ ⟨(gFlt c (xs (i + 1)) (xs (i + 2))), ev, r, (gFlt g (xs (i + 1)) (xs (i + 2))), sl, sv, z, o0, o1, (K_flt kp (xs (i + 1)) (xs (i + 2))).2, s0, s1, hP, hD, hS⟩
set_option maxHeartbeats 8000000 in
set_option maxRecDepth 100000 in
theorem op_22 {p : Program} {e : Env} {s : State} {m : MethodId} {below : List Frame} {meth : Method} {kc : Code} (l : Launch) {b L : Nat} {xs : Nat → Int32} {dC : Nat → ClassId} {dI : Nat → Nat → Nat} {cI cZ cR cG : ClassId} (C0 : LC p s m kc b L xs dC dI cI cZ cR cG) {i : Nat} (hi : i + 6 ≤ L) (hL : L ≤ 3072) {xo : Nat} {cd ce : Nat → Nat} {so : Nat} {sd ad : Nat → Nat} {H : Heap} {locs : List Loc} {ls : Array Slot} {cells slots : Nat} {Q : State → Prop} (hcl : cells + 8 ≤ 600000) (hsl : slots + 261 ≤ 7302250) (hI : LI dC dI cI cZ cR cG xo cd ce so sd ad s.heap H locs) (hl : lv_has ls 4 [(3, .int (nI i)), (2, .ref (ad 0)), (1, .ref xo), (0, .ref b)])
    (cont : ∀ (H : Heap) (locs : List Loc), LI dC dI cI cZ cR cG xo cd ce so sd ad s.heap H locs → W p l e room_1 s m #[Value.ref b] below meth kc H locs (cells + 8) (slots + 261) Q (F0 m 807 ls [])) : W p l e room_1 s m #[Value.ref b] below meth kc H locs cells slots Q (F0 m 662 ls []) := by
  obtain ⟨hx, hb, hml, hown, hts, hX, hbl, hK, hEX⟩ := C0
  obtain ⟨c, ev, r, g, sl, sv, z, o0, o1, kp, s0, s1, hP, hD, hS⟩ := hI
  have hA : ∀ q : Nat, s.heap.size ≤ q → (fun q : Nat => s.heap.size ≤ q) q := fun _ h => h
  have hbA : ¬ (fun q : Nat => s.heap.size ≤ q) b := Nat.not_le.mpr hbl
  have okc : okG c := kp.1.ok kp.2
  refine lv_aload_n hx hb dL_law_662 rfl (lv_at hl 2 rfl) ?_
  refine CI.callVU (wr := (cW cI ce ev) ++ (qB cR so (fO o0 o1)) ++ (tF cI cG sd (r 0) (r 1) (r 2) (r 3) (r 4) (r 5) (r 6) (r 7) (r 8) (r 9) (r 10)) ++ (mW cI cZ ad g sl sv (z 0) (z 1) (z 2) (z 3) (z 4))) (As := []) (rest := []) (w3 := (fun _ => LX cI cZ cR cG xo cd ce so sd ad (clrK c (c 1)) ev r g sl sv z (fO o0 o1))) (c_X2_clearFaults l dC dI cI cZ cR cG xo cd ce so sd c  okc) ⟨hx, hb, hml, hown, hts⟩ (cwV 0 hts gL_law_X2_clearFaults rfl rfl rfl (by decide +kernel) ⟨(Nat.le_of_ble_eq_true rfl), (Nat.le_of_ble_eq_true rfl)⟩) rfl hl.1 (Nat.le_of_ble_eq_true rfl) dL_law_663 ⟨by show cells + 0 ≤ 600000; omega, by show slots + 0 ≤ 7302250; omega⟩ hA hS hP hK hD [0, 1, 2, 3, 4, 5, 6, 7, 8] [9, 10, 11, 12, 13, 14, 15, 16, 17, 18, 19, 20, 21, 22, 23, 24, 25, 26, 27, 28, 29, 30, 31, 32, 33, 34, 35, 36, 37, 38, 39, 40] rfl rfl (by decide) (by decide) (by decide) 0 2 rfl rfl [32, 33, 34, 35, 36, 37, 38, 39, 40, 0, 1, 2, 3, 4, 5, 6, 7, 8, 9, 10, 11, 12, 13, 14, 15, 16, 17, 18, 19, 20, 21, 22, 23, 24, 25, 26, 27, 28, 29, 30, 31] (by decide) (fun _ => rfl) (rfl) (fun _ H locs hp hP hD hS => ?_)
  refine lv_aload_n hx hb dL_law_666 rfl (lv_at hl 1 rfl) ?_
  refine CI.callVU (wr := (xB xo cd ce so sd) ++ (cW cI cd (clrK c (c 1))) ++ (cW cI ce ev) ++ (qB cR so (fO o0 o1)) ++ (tF cI cG sd (r 0) (r 1) (r 2) (r 3) (r 4) (r 5) (r 6) (r 7) (r 8) (r 9) (r 10)) ++ ([(ad 2, .inl (cI, 580, .inl (nA sl))), (ad 3, .inl (cZ, 2, .inl sv)), (ad 4, .inl (cI, 24, .inl (nA (z 0)))), (ad 5, .inl (cI, 24, .inl (nA (z 1)))), (ad 6, .inl (cI, 24, .inl (nA (z 2)))), (ad 7, .inl (cI, 40, .inl (nA (z 3)))), (ad 8, .inl (cI, 290, .inl (nA (z 4))))])) (As := []) (rest := [_]) (w3 := (fun _ => LX cI cZ cR cG xo cd ce so sd ad (clrK c (c 1)) ev r (clrK g (g 1)) sl sv z (fO o0 o1))) (c_X3_clearFaults l dC dI cI cZ cR cG ad g  kp.2) ⟨hx, hb, hml, hown, hts⟩ (cwV 0 hts gL_law_X3_clearFaults rfl rfl rfl (by decide +kernel) ⟨(Nat.le_of_ble_eq_true rfl), (Nat.le_of_ble_eq_true rfl)⟩) rfl hl.1 (Nat.le_of_ble_eq_true rfl) dL_law_667 ⟨by show cells + 0 + 0 ≤ 600000; omega, by show slots + 0 + 0 ≤ 7302250; omega⟩ hA hS hP hK hD [32, 33] [0, 1, 2, 3, 4, 5, 6, 7, 8, 9, 10, 11, 12, 13, 14, 15, 16, 17, 18, 19, 20, 21, 22, 23, 24, 25, 26, 27, 28, 29, 30, 31, 34, 35, 36, 37, 38, 39, 40] rfl rfl (by decide) (by decide) (by decide) 0 3 rfl rfl [0, 1, 2, 3, 4, 5, 6, 7, 8, 9, 10, 11, 12, 13, 14, 15, 16, 17, 18, 19, 20, 21, 22, 23, 24, 25, 26, 27, 28, 29, 30, 31, 39, 40, 32, 33, 34, 35, 36, 37, 38] (by decide) (fun _ => rfl) (rfl) (fun _ H locs hp hP hD hS => ?_)
  refine lv_icmp_eq (tgt := 807) hx hb dL_law_670 (by decide) (fun _ => ?_) (fun h9 => absurd (K_clr kp).1 h9)
  refine W.widen (show cells + 0 + 0 ≤ cells + 8 by omega) (show slots + 0 + 0 ≤ slots + 261 by omega) ?_
  exact cont _ _ ⟨(clrK c (c 1)), ev, r, (clrK g (g 1)), sl, sv, z, o0, o1, (K_clr kp).2, s0, s1, hP, hD, hS⟩
set_option maxHeartbeats 8000000 in
set_option maxRecDepth 100000 in
theorem op_23 {p : Program} {e : Env} {s : State} {m : MethodId} {below : List Frame} {meth : Method} {kc : Code} (l : Launch) {b L : Nat} {xs : Nat → Int32} {dC : Nat → ClassId} {dI : Nat → Nat → Nat} {cI cZ cR cG : ClassId} (C0 : LC p s m kc b L xs dC dI cI cZ cR cG) {i : Nat} (hi : i + 6 ≤ L) (hL : L ≤ 3072) {xo : Nat} {cd ce : Nat → Nat} {so : Nat} {sd ad : Nat → Nat} {H : Heap} {locs : List Loc} {ls : Array Slot} {cells slots : Nat} {Q : State → Prop} (hcl : cells + 8 ≤ 600000) (hsl : slots + 261 ≤ 7302250) (hI : LI dC dI cI cZ cR cG xo cd ce so sd ad s.heap H locs) (hl : lv_has ls 4 [(3, .int (nI i)), (2, .ref (ad 0)), (1, .ref xo), (0, .ref b)])
    (cont : ∀ (H : Heap) (locs : List Loc), LI dC dI cI cZ cR cG xo cd ce so sd ad s.heap H locs → W p l e room_1 s m #[Value.ref b] below meth kc H locs (cells + 8) (slots + 261) Q (F0 m 807 ls [])) : W p l e room_1 s m #[Value.ref b] below meth kc H locs cells slots Q (F0 m 675 ls []) := by
  obtain ⟨hx, hb, hml, hown, hts, hX, hbl, hK, hEX⟩ := C0
  obtain ⟨c, ev, r, g, sl, sv, z, o0, o1, kp, s0, s1, hP, hD, hS⟩ := hI
  have hA : ∀ q : Nat, s.heap.size ≤ q → (fun q : Nat => s.heap.size ≤ q) q := fun _ h => h
  have hbA : ¬ (fun q : Nat => s.heap.size ≤ q) b := Nat.not_le.mpr hbl
  have okc : okG c := kp.1.ok kp.2
  refine lv_aload_n hx hb dL_law_675 rfl (lv_at hl 2 rfl) ?_
  refine lv_aload_n hx hb dL_law_676 rfl (lv_at hl 3 rfl) ?_
  refine lv_iload_n hx hb dL_law_677 rfl (lv_at hl 0 rfl) ?_
  refine lv_iconst (v := nI 1) hx hb dL_law_678 (by decide) ?_
  refine my_iadd (x := i) (y := 1) hx hb dL_law_679 ?_
  refine my_sld (n := i + 1) hx hb hX hbl hbA hS (by omega) hL dL_law_680 ?_
  refine lv_aload_n hx hb dL_law_681 rfl (lv_at hl 3 rfl) ?_
  refine lv_iload_n hx hb dL_law_682 rfl (lv_at hl 0 rfl) ?_
  refine lv_iconst (v := nI 2) hx hb dL_law_683 (by decide) ?_
  refine my_iadd (x := i) (y := 2) hx hb dL_law_684 ?_
  refine my_sld (n := i + 2) hx hb hX hbl hbA hS (by omega) hL dL_law_685 ?_
  refine lv_aload_n hx hb dL_law_686 rfl (lv_at hl 3 rfl) ?_
  refine lv_iload_n hx hb dL_law_687 rfl (lv_at hl 0 rfl) ?_
  refine lv_iconst (v := nI 3) hx hb dL_law_688 (by decide) ?_
  refine my_iadd (x := i) (y := 3) hx hb dL_law_689 ?_
  refine my_sld (n := i + 3) hx hb hX hbl hbA hS (by omega) hL dL_law_690 ?_
  refine lv_aload_n hx hb dL_law_691 rfl (lv_at hl 3 rfl) ?_
  refine lv_iload_n hx hb dL_law_692 rfl (lv_at hl 0 rfl) ?_
  refine lv_iconst (v := nI 4) hx hb dL_law_693 (by decide) ?_
  refine my_iadd (x := i) (y := 4) hx hb dL_law_694 ?_
  refine my_sld (n := i + 4) hx hb hX hbl hbA hS (by omega) hL dL_law_695 ?_
  refine CI.callVU (wr := (qB cR so (fO o0 o1)) ++ (mW cI cZ ad g sl sv (z 0) (z 1) (z 2) (z 3) (z 4))) (As := [.int (xs (i + 1)), .int (xs (i + 2)), .int (xs (i + 3)), .int (xs (i + 4))]) (rest := []) (w3 := (fun u => LX cI cZ cR cG xo cd ce so sd ad c u.1 (rU u.2 r) g sl sv z (fO o0 o1))) (c_X2_detects l dC dI cI cZ cR cG xo cd ce so sd (r 0) (r 1) (r 2) (r 3) (r 4) (r 5) (r 6) (r 7) (r 8) (r 9) (r 10) c ev (xs (i + 1)) (xs (i + 2)) (xs (i + 3)) (xs (i + 4)) okc) ⟨hx, hb, hml, hown, hts⟩ (cwV 4 hts gL_law_X2_detects rfl rfl rfl (by decide +kernel) ⟨(Nat.le_of_ble_eq_true rfl), (Nat.le_of_ble_eq_true rfl)⟩) rfl hl.1 (Nat.le_of_ble_eq_true rfl) dL_law_696 ⟨by show cells + 0 ≤ 600000; omega, by show slots + 0 ≤ 7302250; omega⟩ hA hS hP hK hD [0, 18, 19, 20, 21, 22, 23, 24, 25, 26, 27, 28, 29, 30, 31, 1, 2, 3, 4, 5, 6, 7, 8, 9, 10, 11, 12, 13, 14, 15, 16] [17, 32, 33, 34, 35, 36, 37, 38, 39, 40] rfl rfl (by decide) (by decide) (by decide) 0 2 rfl rfl [10, 25, 26, 27, 28, 29, 30, 31, 32, 33, 34, 35, 36, 37, 38, 39, 40, 0, 11, 12, 13, 14, 15, 16, 17, 18, 19, 20, 21, 22, 23, 24, 1, 2, 3, 4, 5, 6, 7, 8, 9] (by decide) (fun _ => rfl) (rfl) (fun u H locs hp hP hD hS => ?_)
  refine lv_aload_n hx hb dL_law_699 rfl (lv_at hl 1 rfl) ?_
  refine lv_aload_n hx hb dL_law_700 rfl (lv_at hl 3 rfl) ?_
  refine lv_iload_n hx hb dL_law_701 rfl (lv_at hl 0 rfl) ?_
  refine lv_iconst (v := nI 1) hx hb dL_law_702 (by decide) ?_
  refine my_iadd (x := i) (y := 1) hx hb dL_law_703 ?_
  refine my_sld (n := i + 1) hx hb hX hbl hbA hS (by omega) hL dL_law_704 ?_
  refine lv_aload_n hx hb dL_law_705 rfl (lv_at hl 3 rfl) ?_
  refine lv_iload_n hx hb dL_law_706 rfl (lv_at hl 0 rfl) ?_
  refine lv_iconst (v := nI 2) hx hb dL_law_707 (by decide) ?_
  refine my_iadd (x := i) (y := 2) hx hb dL_law_708 ?_
  refine my_sld (n := i + 2) hx hb hX hbl hbA hS (by omega) hL dL_law_709 ?_
  refine lv_aload_n hx hb dL_law_710 rfl (lv_at hl 3 rfl) ?_
  refine lv_iload_n hx hb dL_law_711 rfl (lv_at hl 0 rfl) ?_
  refine lv_iconst (v := nI 3) hx hb dL_law_712 (by decide) ?_
  refine my_iadd (x := i) (y := 3) hx hb dL_law_713 ?_
  refine my_sld (n := i + 3) hx hb hX hbl hbA hS (by omega) hL dL_law_714 ?_
  refine lv_aload_n hx hb dL_law_715 rfl (lv_at hl 3 rfl) ?_
  refine lv_iload_n hx hb dL_law_716 rfl (lv_at hl 0 rfl) ?_
  refine lv_iconst (v := nI 4) hx hb dL_law_717 (by decide) ?_
  refine my_iadd (x := i) (y := 4) hx hb dL_law_718 ?_
  refine my_sld (n := i + 4) hx hb hX hbl hbA hS (by omega) hL dL_law_719 ?_
  refine CI.callVU (wr := (xB xo cd ce so sd) ++ (cW cI cd c) ++ (cW cI ce u.1) ++ (qB cR so (fO o0 o1)) ++ (tF cI cG sd ((rU u.2 r) 0) ((rU u.2 r) 1) ((rU u.2 r) 2) ((rU u.2 r) 3) ((rU u.2 r) 4) ((rU u.2 r) 5) ((rU u.2 r) 6) ((rU u.2 r) 7) ((rU u.2 r) 8) ((rU u.2 r) 9) ((rU u.2 r) 10)) ++ ([(ad 2, .inl (cI, 580, .inl (nA sl))), (ad 3, .inl (cZ, 2, .inl sv))])) (As := [.int (xs (i + 1)), .int (xs (i + 2)), .int (xs (i + 3)), .int (xs (i + 4))]) (rest := [_]) (w3 := (fun v => LX cI cZ cR cG xo cd ce so sd ad c u.1 (rU u.2 r) g sl sv (z5 v) (fO o0 o1))) (c_X3_detects l dC dI cI cZ cR cG ad g (z 0) (z 3) (z 1) (z 2) (z 4) (xs (i + 1)) (xs (i + 2)) (xs (i + 3)) (xs (i + 4)) kp.2) ⟨hx, hb, hml, hown, hts⟩ (cwV 4 hts gL_law_X3_detects rfl rfl rfl (by decide +kernel) ⟨(Nat.le_of_ble_eq_true rfl), (Nat.le_of_ble_eq_true rfl)⟩) rfl hl.1 (Nat.le_of_ble_eq_true rfl) dL_law_720 ⟨by show cells + 0 + 0 ≤ 600000; omega, by show slots + 0 + 0 ≤ 7302250; omega⟩ hA hS hP hK hD [32, 33, 36, 39, 37, 38, 40] [0, 1, 2, 3, 4, 5, 6, 7, 8, 9, 10, 11, 12, 13, 14, 15, 16, 17, 18, 19, 20, 21, 22, 23, 24, 25, 26, 27, 28, 29, 30, 31, 34, 35] rfl rfl (by decide) (by decide) (by decide) 0 3 rfl rfl [0, 1, 2, 3, 4, 5, 6, 7, 8, 9, 10, 11, 12, 13, 14, 15, 16, 17, 18, 19, 20, 21, 22, 23, 24, 25, 26, 27, 28, 29, 30, 31, 34, 35, 32, 33, 36, 38, 39, 37, 40] (by decide) (fun _ => rfl) (rfl) (fun v H locs hp hP hD hS => ?_)
  refine lv_icmp_eq (tgt := 807) hx hb dL_law_723 (by decide) (fun _ => ?_) (fun h9 => absurd (K_det kp (xs (i + 1)) (xs (i + 2)) (xs (i + 3)) (xs (i + 4))) h9)
  refine W.widen (show cells + 0 + 0 ≤ cells + 8 by omega) (show slots + 0 + 0 ≤ slots + 261 by omega) ?_
  exact cont _ _ ⟨c, u.1, (rU u.2 r), g, sl, sv, (z5 v), o0, o1, kp, s0, s1, hP, hD, hS⟩
set_option maxHeartbeats 8000000 in
set_option maxRecDepth 100000 in
theorem op_24 {p : Program} {e : Env} {s : State} {m : MethodId} {below : List Frame} {meth : Method} {kc : Code} (l : Launch) {b L : Nat} {xs : Nat → Int32} {dC : Nat → ClassId} {dI : Nat → Nat → Nat} {cI cZ cR cG : ClassId} (C0 : LC p s m kc b L xs dC dI cI cZ cR cG) {i : Nat} (hi : i + 6 ≤ L) (hL : L ≤ 3072) {xo : Nat} {cd ce : Nat → Nat} {so : Nat} {sd ad : Nat → Nat} {H : Heap} {locs : List Loc} {ls : Array Slot} {cells slots : Nat} {Q : State → Prop} (hcl : cells + 8 ≤ 600000) (hsl : slots + 261 ≤ 7302250) (hI : LI dC dI cI cZ cR cG xo cd ce so sd ad s.heap H locs) (hl : lv_has ls 4 [(3, .int (nI i)), (2, .ref (ad 0)), (1, .ref xo), (0, .ref b)])
    (cont : ∀ (H : Heap) (locs : List Loc), LI dC dI cI cZ cR cG xo cd ce so sd ad s.heap H locs → W p l e room_1 s m #[Value.ref b] below meth kc H locs (cells + 8) (slots + 261) Q (F0 m 807 ls [])) : W p l e room_1 s m #[Value.ref b] below meth kc H locs cells slots Q (F0 m 728 ls []) := by
  obtain ⟨hx, hb, hml, hown, hts, hX, hbl, hK, hEX⟩ := C0
  obtain ⟨c, ev, r, g, sl, sv, z, o0, o1, kp, s0, s1, hP, hD, hS⟩ := hI
  have hA : ∀ q : Nat, s.heap.size ≤ q → (fun q : Nat => s.heap.size ≤ q) q := fun _ h => h
  have hbA : ¬ (fun q : Nat => s.heap.size ≤ q) b := Nat.not_le.mpr hbl
  have okc : okG c := kp.1.ok kp.2
  refine lv_aload_n hx hb dL_law_728 rfl (lv_at hl 2 rfl) ?_
  refine lv_aload_n hx hb dL_law_729 rfl (lv_at hl 3 rfl) ?_
  refine lv_iload_n hx hb dL_law_730 rfl (lv_at hl 0 rfl) ?_
  refine lv_iconst (v := nI 1) hx hb dL_law_731 (by decide) ?_
  refine my_iadd (x := i) (y := 1) hx hb dL_law_732 ?_
  refine my_sld (n := i + 1) hx hb hX hbl hbA hS (by omega) hL dL_law_733 ?_
  refine lv_aload_n hx hb dL_law_734 rfl (lv_at hl 3 rfl) ?_
  refine lv_iload_n hx hb dL_law_735 rfl (lv_at hl 0 rfl) ?_
  refine lv_iconst (v := nI 2) hx hb dL_law_736 (by decide) ?_
  refine my_iadd (x := i) (y := 2) hx hb dL_law_737 ?_
  refine my_sld (n := i + 2) hx hb hX hbl hbA hS (by omega) hL dL_law_738 ?_
  refine CI.callVU (wr := (qB cR so (fO o0 o1)) ++ (mW cI cZ ad g sl sv (z 0) (z 1) (z 2) (z 3) (z 4))) (As := [.int (xs (i + 1)), .int (xs (i + 2))]) (rest := []) (w3 := (fun u => LX cI cZ cR cG xo cd ce so sd ad c u.1 (rU u.2 r) g sl sv z (fO o0 o1))) (c_X2_detectedFaults l dC dI cI cZ cR cG xo cd ce so sd (r 0) (r 1) (r 2) (r 3) (r 4) (r 5) (r 6) (r 7) (r 8) (r 9) (r 10) c ev (xs (i + 1)) (xs (i + 2)) okc) ⟨hx, hb, hml, hown, hts⟩ (cwV 2 hts gL_law_X2_detectedFaults rfl rfl rfl (by decide +kernel) ⟨(Nat.le_of_ble_eq_true rfl), (Nat.le_of_ble_eq_true rfl)⟩) rfl hl.1 (Nat.le_of_ble_eq_true rfl) dL_law_739 ⟨by show cells + 0 ≤ 600000; omega, by show slots + 0 ≤ 7302250; omega⟩ hA hS hP hK hD [0, 18, 19, 20, 21, 22, 23, 24, 25, 26, 27, 28, 29, 30, 31, 1, 2, 3, 4, 5, 6, 7, 8, 9, 10, 11, 12, 13, 14, 15, 16] [17, 32, 33, 34, 35, 36, 37, 38, 39, 40] rfl rfl (by decide) (by decide) (by decide) 0 2 rfl rfl [10, 25, 26, 27, 28, 29, 30, 31, 32, 33, 34, 35, 36, 37, 38, 39, 40, 0, 11, 12, 13, 14, 15, 16, 17, 18, 19, 20, 21, 22, 23, 24, 1, 2, 3, 4, 5, 6, 7, 8, 9] (by decide) (fun _ => rfl) (rfl) (fun u H locs hp hP hD hS => ?_)
  refine lv_aload_n hx hb dL_law_742 rfl (lv_at hl 1 rfl) ?_
  refine lv_aload_n hx hb dL_law_743 rfl (lv_at hl 3 rfl) ?_
  refine lv_iload_n hx hb dL_law_744 rfl (lv_at hl 0 rfl) ?_
  refine lv_iconst (v := nI 1) hx hb dL_law_745 (by decide) ?_
  refine my_iadd (x := i) (y := 1) hx hb dL_law_746 ?_
  refine my_sld (n := i + 1) hx hb hX hbl hbA hS (by omega) hL dL_law_747 ?_
  refine lv_aload_n hx hb dL_law_748 rfl (lv_at hl 3 rfl) ?_
  refine lv_iload_n hx hb dL_law_749 rfl (lv_at hl 0 rfl) ?_
  refine lv_iconst (v := nI 2) hx hb dL_law_750 (by decide) ?_
  refine my_iadd (x := i) (y := 2) hx hb dL_law_751 ?_
  refine my_sld (n := i + 2) hx hb hX hbl hbA hS (by omega) hL dL_law_752 ?_
  refine CI.callVU (wr := (xB xo cd ce so sd) ++ (cW cI cd c) ++ (cW cI ce u.1) ++ (qB cR so (fO o0 o1)) ++ (tF cI cG sd ((rU u.2 r) 0) ((rU u.2 r) 1) ((rU u.2 r) 2) ((rU u.2 r) 3) ((rU u.2 r) 4) ((rU u.2 r) 5) ((rU u.2 r) 6) ((rU u.2 r) 7) ((rU u.2 r) 8) ((rU u.2 r) 9) ((rU u.2 r) 10)) ++ ([(ad 2, .inl (cI, 580, .inl (nA sl))), (ad 3, .inl (cZ, 2, .inl sv))])) (As := [.int (xs (i + 1)), .int (xs (i + 2))]) (rest := [_]) (w3 := (fun v => LX cI cZ cR cG xo cd ce so sd ad c u.1 (rU u.2 r) g sl sv (z5 v) (fO o0 o1))) (c_X3_detectedFaults l dC dI cI cZ cR cG ad g (z 0) (z 3) (z 1) (z 2) (z 4) (xs (i + 1)) (xs (i + 2)) kp.2) ⟨hx, hb, hml, hown, hts⟩ (cwV 2 hts gL_law_X3_detectedFaults rfl rfl rfl (by decide +kernel) ⟨(Nat.le_of_ble_eq_true rfl), (Nat.le_of_ble_eq_true rfl)⟩) rfl hl.1 (Nat.le_of_ble_eq_true rfl) dL_law_753 ⟨by show cells + 0 + 0 ≤ 600000; omega, by show slots + 0 + 0 ≤ 7302250; omega⟩ hA hS hP hK hD [32, 33, 36, 39, 37, 38, 40] [0, 1, 2, 3, 4, 5, 6, 7, 8, 9, 10, 11, 12, 13, 14, 15, 16, 17, 18, 19, 20, 21, 22, 23, 24, 25, 26, 27, 28, 29, 30, 31, 34, 35] rfl rfl (by decide) (by decide) (by decide) 0 3 rfl rfl [0, 1, 2, 3, 4, 5, 6, 7, 8, 9, 10, 11, 12, 13, 14, 15, 16, 17, 18, 19, 20, 21, 22, 23, 24, 25, 26, 27, 28, 29, 30, 31, 34, 35, 32, 33, 36, 38, 39, 37, 40] (by decide) (fun _ => rfl) (rfl) (fun v H locs hp hP hD hS => ?_)
  refine lv_icmp_eq (tgt := 807) hx hb dL_law_756 (by decide) (fun _ => ?_) (fun h9 => absurd (K_dfs kp (xs (i + 1)) (xs (i + 2))) h9)
  refine W.widen (show cells + 0 + 0 ≤ cells + 8 by omega) (show slots + 0 + 0 ≤ slots + 261 by omega) ?_
  exact cont _ _ ⟨c, u.1, (rU u.2 r), g, sl, sv, (z5 v), o0, o1, kp, s0, s1, hP, hD, hS⟩
