/-! the law: its ops but save and restore -/
set_option maxHeartbeats 8000000 in
set_option maxRecDepth 100000 in
theorem op_0 {p : Program} {e : Env} {s : State} {m : MethodId} {below : List Frame} {meth : Method} {kc : Code} (l : Launch) {b L : Nat} {xs : Nat → Int32} {dC : Nat → ClassId} {dI : Nat → Nat → Nat} {cI cZ cR cG : ClassId} (C0 : LC p s m kc b L xs dC dI cI cZ cR cG) {i : Nat} (hi : i + 6 ≤ L) (hL : L ≤ 3072) {xo : Nat} {cd ce : Nat → Nat} {so : Nat} {sd ad : Nat → Nat} {H : Heap} {locs : List Loc} {ls : Array Slot} {cells slots : Nat} {Q : State → Prop} (hcl : cells + 8 ≤ 600000) (hsl : slots + 261 ≤ 7302250) (hI : LI dC dI cI cZ cR cG xo cd ce so sd ad s.heap H locs) (hl : lv_has ls 4 [(3, .int (nI i)), (2, .ref (ad 0)), (1, .ref xo), (0, .ref b)])
    (cont : ∀ (H : Heap) (locs : List Loc), LI dC dI cI cZ cR cG xo cd ce so sd ad s.heap H locs → W p l e room_1 s m #[Value.ref b] below meth kc H locs (cells + 8) (slots + 261) Q (F0 m 807 ls [])) : W p l e room_1 s m #[Value.ref b] below meth kc H locs cells slots Q (F0 m 156 ls []) := by
  obtain ⟨hx, hb, hml, hown, hts, hX, hbl, hK, hEX⟩ := C0
  obtain ⟨c, ev, r, g, sl, sv, z, o0, o1, kp, s0, s1, hP, hD, hS⟩ := hI
  have hA : ∀ q : Nat, s.heap.size ≤ q → (fun q : Nat => s.heap.size ≤ q) q := fun _ h => h
  have hbA : ¬ (fun q : Nat => s.heap.size ≤ q) b := Nat.not_le.mpr hbl
  have okc : okG c := kp.1.ok kp.2
  refine lv_aload_n hx hb dL_law_156 rfl (lv_at hl 2 rfl) ?_
  refine CI.callVU (wr := (cW cI ce ev) ++ (qB cR so (fO o0 o1)) ++ (tF cI cG sd (r 0) (r 1) (r 2) (r 3) (r 4) (r 5) (r 6) (r 7) (r 8) (r 9) (r 10)) ++ (mW cI cZ ad g sl sv (z 0) (z 1) (z 2) (z 3) (z 4))) (As := []) (rest := []) (w3 := (fun _ => LX cI cZ cR cG xo cd ce so sd ad (gAddI c) ev r g sl sv z (fO o0 o1))) (c_X2_addInput l dC dI cI cZ cR cG xo cd ce so sd c  okc) ⟨hx, hb, hml, hown, hts⟩ (cwV 0 hts gL_law_X2_addInput rfl rfl rfl (by decide +kernel) ⟨(Nat.le_of_ble_eq_true rfl), (Nat.le_of_ble_eq_true rfl)⟩) rfl hl.1 (Nat.le_of_ble_eq_true rfl) dL_law_157 ⟨by show cells + 0 ≤ 600000; omega, by show slots + 0 ≤ 7302250; omega⟩ hA hS hP hK hD [0, 1, 2, 3, 4, 5, 6, 7, 8] [9, 10, 11, 12, 13, 14, 15, 16, 17, 18, 19, 20, 21, 22, 23, 24, 25, 26, 27, 28, 29, 30, 31, 32, 33, 34, 35, 36, 37, 38, 39, 40] rfl rfl (by decide) (by decide) (by decide) 0 2 rfl rfl [32, 33, 34, 35, 36, 37, 38, 39, 40, 0, 1, 2, 3, 4, 5, 6, 7, 8, 9, 10, 11, 12, 13, 14, 15, 16, 17, 18, 19, 20, 21, 22, 23, 24, 25, 26, 27, 28, 29, 30, 31] (by decide) (fun _ => rfl) (rfl) (fun _ H locs hp hP hD hS => ?_)
  refine lv_aload_n hx hb dL_law_160 rfl (lv_at hl 1 rfl) ?_
  refine CI.callVU (wr := (xB xo cd ce so sd) ++ (cW cI cd (gAddI c)) ++ (cW cI ce ev) ++ (qB cR so (fO o0 o1)) ++ (tF cI cG sd (r 0) (r 1) (r 2) (r 3) (r 4) (r 5) (r 6) (r 7) (r 8) (r 9) (r 10)) ++ ([(ad 2, .inl (cI, 580, .inl (nA sl))), (ad 3, .inl (cZ, 2, .inl sv)), (ad 4, .inl (cI, 24, .inl (nA (z 0)))), (ad 5, .inl (cI, 24, .inl (nA (z 1)))), (ad 6, .inl (cI, 24, .inl (nA (z 2)))), (ad 7, .inl (cI, 40, .inl (nA (z 3)))), (ad 8, .inl (cI, 290, .inl (nA (z 4))))])) (As := []) (rest := [_]) (w3 := (fun _ => LX cI cZ cR cG xo cd ce so sd ad (gAddI c) ev r (gAddI g) sl sv z (fO o0 o1))) (c_X3_addInput l dC dI cI cZ cR cG ad g  kp.2) ⟨hx, hb, hml, hown, hts⟩ (cwV 0 hts gL_law_X3_addInput rfl rfl rfl (by decide +kernel) ⟨(Nat.le_of_ble_eq_true rfl), (Nat.le_of_ble_eq_true rfl)⟩) rfl hl.1 (Nat.le_of_ble_eq_true rfl) dL_law_161 ⟨by show cells + 0 + 0 ≤ 600000; omega, by show slots + 0 + 0 ≤ 7302250; omega⟩ hA hS hP hK hD [32, 33] [0, 1, 2, 3, 4, 5, 6, 7, 8, 9, 10, 11, 12, 13, 14, 15, 16, 17, 18, 19, 20, 21, 22, 23, 24, 25, 26, 27, 28, 29, 30, 31, 34, 35, 36, 37, 38, 39, 40] rfl rfl (by decide) (by decide) (by decide) 0 3 rfl rfl [0, 1, 2, 3, 4, 5, 6, 7, 8, 9, 10, 11, 12, 13, 14, 15, 16, 17, 18, 19, 20, 21, 22, 23, 24, 25, 26, 27, 28, 29, 30, 31, 39, 40, 32, 33, 34, 35, 36, 37, 38] (by decide) (fun _ => rfl) (rfl) (fun _ H locs hp hP hD hS => ?_)
  refine lv_icmp_eq (tgt := 807) hx hb dL_law_164 (by decide) (fun _ => ?_) (fun h9 => absurd (K_addI kp).1 h9)
  refine W.widen (show cells + 0 + 0 ≤ cells + 8 by omega) (show slots + 0 + 0 ≤ slots + 261 by omega) ?_
  exact cont _ _ ⟨(gAddI c), ev, r, (gAddI g), sl, sv, z, o0, o1, (K_addI kp).2, s0, s1, hP, hD, hS⟩
set_option maxHeartbeats 8000000 in
set_option maxRecDepth 100000 in
theorem op_1 {p : Program} {e : Env} {s : State} {m : MethodId} {below : List Frame} {meth : Method} {kc : Code} (l : Launch) {b L : Nat} {xs : Nat → Int32} {dC : Nat → ClassId} {dI : Nat → Nat → Nat} {cI cZ cR cG : ClassId} (C0 : LC p s m kc b L xs dC dI cI cZ cR cG) {i : Nat} (hi : i + 6 ≤ L) (hL : L ≤ 3072) {xo : Nat} {cd ce : Nat → Nat} {so : Nat} {sd ad : Nat → Nat} {H : Heap} {locs : List Loc} {ls : Array Slot} {cells slots : Nat} {Q : State → Prop} (hcl : cells + 8 ≤ 600000) (hsl : slots + 261 ≤ 7302250) (hI : LI dC dI cI cZ cR cG xo cd ce so sd ad s.heap H locs) (hl : lv_has ls 4 [(3, .int (nI i)), (2, .ref (ad 0)), (1, .ref xo), (0, .ref b)])
    (cont : ∀ (H : Heap) (locs : List Loc), LI dC dI cI cZ cR cG xo cd ce so sd ad s.heap H locs → W p l e room_1 s m #[Value.ref b] below meth kc H locs (cells + 8) (slots + 261) Q (F0 m 807 ls [])) : W p l e room_1 s m #[Value.ref b] below meth kc H locs cells slots Q (F0 m 169 ls []) := by
  obtain ⟨hx, hb, hml, hown, hts, hX, hbl, hK, hEX⟩ := C0
  obtain ⟨c, ev, r, g, sl, sv, z, o0, o1, kp, s0, s1, hP, hD, hS⟩ := hI
  have hA : ∀ q : Nat, s.heap.size ≤ q → (fun q : Nat => s.heap.size ≤ q) q := fun _ h => h
  have hbA : ¬ (fun q : Nat => s.heap.size ≤ q) b := Nat.not_le.mpr hbl
  have okc : okG c := kp.1.ok kp.2
  refine lv_aload_n hx hb dL_law_169 rfl (lv_at hl 2 rfl) ?_
  refine lv_aload_n hx hb dL_law_170 rfl (lv_at hl 3 rfl) ?_
  refine lv_iload_n hx hb dL_law_171 rfl (lv_at hl 0 rfl) ?_
  refine lv_iconst (v := nI 1) hx hb dL_law_172 (by decide) ?_
  refine my_iadd (x := i) (y := 1) hx hb dL_law_173 ?_
  refine my_sld (n := i + 1) hx hb hX hbl hbA hS (by omega) hL dL_law_174 ?_
  refine CI.callVU (wr := (cW cI ce ev) ++ (qB cR so (fO o0 o1)) ++ (tF cI cG sd (r 0) (r 1) (r 2) (r 3) (r 4) (r 5) (r 6) (r 7) (r 8) (r 9) (r 10)) ++ (mW cI cZ ad g sl sv (z 0) (z 1) (z 2) (z 3) (z 4))) (As := [.int (xs (i + 1))]) (rest := []) (w3 := (fun _ => LX cI cZ cR cG xo cd ce so sd ad (gAddS c (xs (i + 1))) ev r g sl sv z (fO o0 o1))) (c_X2_addStorage l dC dI cI cZ cR cG xo cd ce so sd c (xs (i + 1)) okc) ⟨hx, hb, hml, hown, hts⟩ (cwV 1 hts gL_law_X2_addStorage rfl rfl rfl (by decide +kernel) ⟨(Nat.le_of_ble_eq_true rfl), (Nat.le_of_ble_eq_true rfl)⟩) rfl hl.1 (Nat.le_of_ble_eq_true rfl) dL_law_175 ⟨by show cells + 0 ≤ 600000; omega, by show slots + 0 ≤ 7302250; omega⟩ hA hS hP hK hD [0, 1, 2, 3, 4, 5, 6, 7, 8] [9, 10, 11, 12, 13, 14, 15, 16, 17, 18, 19, 20, 21, 22, 23, 24, 25, 26, 27, 28, 29, 30, 31, 32, 33, 34, 35, 36, 37, 38, 39, 40] rfl rfl (by decide) (by decide) (by decide) 0 2 rfl rfl [32, 33, 34, 35, 36, 37, 38, 39, 40, 0, 1, 2, 3, 4, 5, 6, 7, 8, 9, 10, 11, 12, 13, 14, 15, 16, 17, 18, 19, 20, 21, 22, 23, 24, 25, 26, 27, 28, 29, 30, 31] (by decide) (fun _ => rfl) (rfl) (fun _ H locs hp hP hD hS => ?_)
  refine lv_aload_n hx hb dL_law_178 rfl (lv_at hl 1 rfl) ?_
  refine lv_aload_n hx hb dL_law_179 rfl (lv_at hl 3 rfl) ?_
  refine lv_iload_n hx hb dL_law_180 rfl (lv_at hl 0 rfl) ?_
  refine lv_iconst (v := nI 1) hx hb dL_law_181 (by decide) ?_
  refine my_iadd (x := i) (y := 1) hx hb dL_law_182 ?_
  refine my_sld (n := i + 1) hx hb hX hbl hbA hS (by omega) hL dL_law_183 ?_
  refine CI.callVU (wr := (xB xo cd ce so sd) ++ (cW cI cd (gAddS c (xs (i + 1)))) ++ (cW cI ce ev) ++ (qB cR so (fO o0 o1)) ++ (tF cI cG sd (r 0) (r 1) (r 2) (r 3) (r 4) (r 5) (r 6) (r 7) (r 8) (r 9) (r 10)) ++ ([(ad 2, .inl (cI, 580, .inl (nA sl))), (ad 3, .inl (cZ, 2, .inl sv)), (ad 4, .inl (cI, 24, .inl (nA (z 0)))), (ad 5, .inl (cI, 24, .inl (nA (z 1)))), (ad 6, .inl (cI, 24, .inl (nA (z 2)))), (ad 7, .inl (cI, 40, .inl (nA (z 3)))), (ad 8, .inl (cI, 290, .inl (nA (z 4))))])) (As := [.int (xs (i + 1))]) (rest := [_]) (w3 := (fun _ => LX cI cZ cR cG xo cd ce so sd ad (gAddS c (xs (i + 1))) ev r (gAddS g (xs (i + 1))) sl sv z (fO o0 o1))) (c_X3_addStorage l dC dI cI cZ cR cG ad g (xs (i + 1)) kp.2) ⟨hx, hb, hml, hown, hts⟩ (cwV 1 hts gL_law_X3_addStorage rfl rfl rfl (by decide +kernel) ⟨(Nat.le_of_ble_eq_true rfl), (Nat.le_of_ble_eq_true rfl)⟩) rfl hl.1 (Nat.le_of_ble_eq_true rfl) dL_law_184 ⟨by show cells + 0 + 0 ≤ 600000; omega, by show slots + 0 + 0 ≤ 7302250; omega⟩ hA hS hP hK hD [32, 33] [0, 1, 2, 3, 4, 5, 6, 7, 8, 9, 10, 11, 12, 13, 14, 15, 16, 17, 18, 19, 20, 21, 22, 23, 24, 25, 26, 27, 28, 29, 30, 31, 34, 35, 36, 37, 38, 39, 40] rfl rfl (by decide) (by decide) (by decide) 0 3 rfl rfl [0, 1, 2, 3, 4, 5, 6, 7, 8, 9, 10, 11, 12, 13, 14, 15, 16, 17, 18, 19, 20, 21, 22, 23, 24, 25, 26, 27, 28, 29, 30, 31, 39, 40, 32, 33, 34, 35, 36, 37, 38] (by decide) (fun _ => rfl) (rfl) (fun _ H locs hp hP hD hS => ?_)
  refine lv_icmp_eq (tgt := 807) hx hb dL_law_187 (by decide) (fun _ => ?_) (fun h9 => absurd (K_addS kp (xs (i + 1))).1 h9)
  refine W.widen (show cells + 0 + 0 ≤ cells + 8 by omega) (show slots + 0 + 0 ≤ slots + 261 by omega) ?_
  exact cont _ _ ⟨(gAddS c (xs (i + 1))), ev, r, (gAddS g (xs (i + 1))), sl, sv, z, o0, o1, (K_addS kp (xs (i + 1))).2, s0, s1, hP, hD, hS⟩
set_option maxHeartbeats 8000000 in
set_option maxRecDepth 100000 in
theorem op_2 {p : Program} {e : Env} {s : State} {m : MethodId} {below : List Frame} {meth : Method} {kc : Code} (l : Launch) {b L : Nat} {xs : Nat → Int32} {dC : Nat → ClassId} {dI : Nat → Nat → Nat} {cI cZ cR cG : ClassId} (C0 : LC p s m kc b L xs dC dI cI cZ cR cG) {i : Nat} (hi : i + 6 ≤ L) (hL : L ≤ 3072) {xo : Nat} {cd ce : Nat → Nat} {so : Nat} {sd ad : Nat → Nat} {H : Heap} {locs : List Loc} {ls : Array Slot} {cells slots : Nat} {Q : State → Prop} (hcl : cells + 8 ≤ 600000) (hsl : slots + 261 ≤ 7302250) (hI : LI dC dI cI cZ cR cG xo cd ce so sd ad s.heap H locs) (hl : lv_has ls 4 [(3, .int (nI i)), (2, .ref (ad 0)), (1, .ref xo), (0, .ref b)])
    (cont : ∀ (H : Heap) (locs : List Loc), LI dC dI cI cZ cR cG xo cd ce so sd ad s.heap H locs → W p l e room_1 s m #[Value.ref b] below meth kc H locs (cells + 8) (slots + 261) Q (F0 m 807 ls [])) : W p l e room_1 s m #[Value.ref b] below meth kc H locs cells slots Q (F0 m 192 ls []) := by
  obtain ⟨hx, hb, hml, hown, hts, hX, hbl, hK, hEX⟩ := C0
  obtain ⟨c, ev, r, g, sl, sv, z, o0, o1, kp, s0, s1, hP, hD, hS⟩ := hI
  have hA : ∀ q : Nat, s.heap.size ≤ q → (fun q : Nat => s.heap.size ≤ q) q := fun _ h => h
  have hbA : ¬ (fun q : Nat => s.heap.size ≤ q) b := Nat.not_le.mpr hbl
  have okc : okG c := kp.1.ok kp.2
  refine lv_aload_n hx hb dL_law_192 rfl (lv_at hl 2 rfl) ?_
  refine lv_aload_n hx hb dL_law_193 rfl (lv_at hl 3 rfl) ?_
  refine lv_iload_n hx hb dL_law_194 rfl (lv_at hl 0 rfl) ?_
  refine lv_iconst (v := nI 1) hx hb dL_law_195 (by decide) ?_
  refine my_iadd (x := i) (y := 1) hx hb dL_law_196 ?_
  refine my_sld (n := i + 1) hx hb hX hbl hbA hS (by omega) hL dL_law_197 ?_
  refine lv_aload_n hx hb dL_law_198 rfl (lv_at hl 3 rfl) ?_
  refine lv_iload_n hx hb dL_law_199 rfl (lv_at hl 0 rfl) ?_
  refine lv_iconst (v := nI 2) hx hb dL_law_200 (by decide) ?_
  refine my_iadd (x := i) (y := 2) hx hb dL_law_201 ?_
  refine my_sld (n := i + 2) hx hb hX hbl hbA hS (by omega) hL dL_law_202 ?_
  refine lv_aload_n hx hb dL_law_203 rfl (lv_at hl 3 rfl) ?_
  refine lv_iload_n hx hb dL_law_204 rfl (lv_at hl 0 rfl) ?_
  refine lv_iconst (v := nI 3) hx hb dL_law_205 (by decide) ?_
  refine my_iadd (x := i) (y := 3) hx hb dL_law_206 ?_
  refine my_sld (n := i + 3) hx hb hX hbl hbA hS (by omega) hL dL_law_207 ?_
  refine lv_aload_n hx hb dL_law_208 rfl (lv_at hl 3 rfl) ?_
  refine lv_iload_n hx hb dL_law_209 rfl (lv_at hl 0 rfl) ?_
  refine lv_iconst (v := nI 4) hx hb dL_law_210 (by decide) ?_
  refine my_iadd (x := i) (y := 4) hx hb dL_law_211 ?_
  refine my_sld (n := i + 4) hx hb hX hbl hbA hS (by omega) hL dL_law_212 ?_
  refine lv_aload_n hx hb dL_law_213 rfl (lv_at hl 3 rfl) ?_
  refine lv_iload_n hx hb dL_law_214 rfl (lv_at hl 0 rfl) ?_
  refine lv_iconst (v := nI 5) hx hb dL_law_215 (by decide) ?_
  refine my_iadd (x := i) (y := 5) hx hb dL_law_216 ?_
  refine my_sld (n := i + 5) hx hb hX hbl hbA hS (by omega) hL dL_law_217 ?_
  refine CI.callVU (wr := (cW cI ce ev) ++ (qB cR so (fO o0 o1)) ++ (tF cI cG sd (r 0) (r 1) (r 2) (r 3) (r 4) (r 5) (r 6) (r 7) (r 8) (r 9) (r 10)) ++ (mW cI cZ ad g sl sv (z 0) (z 1) (z 2) (z 3) (z 4))) (As := [.int (xs (i + 1)), .int (xs (i + 2)), .int (xs (i + 3)), .int (xs (i + 4)), .int (xs (i + 5))]) (rest := []) (w3 := (fun _ => LX cI cZ cR cG xo cd ce so sd ad (gAddT c (xs (i + 1)) (xs (i + 2)) (xs (i + 3)) (xs (i + 4)) (xs (i + 5))) ev r g sl sv z (fO o0 o1))) (c_X2_addTransistor l dC dI cI cZ cR cG xo cd ce so sd c (xs (i + 1)) (xs (i + 2)) (xs (i + 3)) (xs (i + 4)) (xs (i + 5)) okc) ⟨hx, hb, hml, hown, hts⟩ (cwV 5 hts gL_law_X2_addTransistor rfl rfl rfl (by decide +kernel) ⟨(Nat.le_of_ble_eq_true rfl), (Nat.le_of_ble_eq_true rfl)⟩) rfl hl.1 (Nat.le_of_ble_eq_true rfl) dL_law_218 ⟨by show cells + 0 ≤ 600000; omega, by show slots + 0 ≤ 7302250; omega⟩ hA hS hP hK hD [0, 1, 2, 3, 4, 5, 6, 7, 8] [9, 10, 11, 12, 13, 14, 15, 16, 17, 18, 19, 20, 21, 22, 23, 24, 25, 26, 27, 28, 29, 30, 31, 32, 33, 34, 35, 36, 37, 38, 39, 40] rfl rfl (by decide) (by decide) (by decide) 0 2 rfl rfl [32, 33, 34, 35, 36, 37, 38, 39, 40, 0, 1, 2, 3, 4, 5, 6, 7, 8, 9, 10, 11, 12, 13, 14, 15, 16, 17, 18, 19, 20, 21, 22, 23, 24, 25, 26, 27, 28, 29, 30, 31] (by decide) (fun _ => rfl) (rfl) (fun _ H locs hp hP hD hS => ?_)
  refine lv_aload_n hx hb dL_law_221 rfl (lv_at hl 1 rfl) ?_
  refine lv_aload_n hx hb dL_law_222 rfl (lv_at hl 3 rfl) ?_
  refine lv_iload_n hx hb dL_law_223 rfl (lv_at hl 0 rfl) ?_
  refine lv_iconst (v := nI 1) hx hb dL_law_224 (by decide) ?_
  refine my_iadd (x := i) (y := 1) hx hb dL_law_225 ?_
  refine my_sld (n := i + 1) hx hb hX hbl hbA hS (by omega) hL dL_law_226 ?_
  refine lv_aload_n hx hb dL_law_227 rfl (lv_at hl 3 rfl) ?_
  refine lv_iload_n hx hb dL_law_228 rfl (lv_at hl 0 rfl) ?_
  refine lv_iconst (v := nI 2) hx hb dL_law_229 (by decide) ?_
  refine my_iadd (x := i) (y := 2) hx hb dL_law_230 ?_
  refine my_sld (n := i + 2) hx hb hX hbl hbA hS (by omega) hL dL_law_231 ?_
  refine lv_aload_n hx hb dL_law_232 rfl (lv_at hl 3 rfl) ?_
  refine lv_iload_n hx hb dL_law_233 rfl (lv_at hl 0 rfl) ?_
  refine lv_iconst (v := nI 3) hx hb dL_law_234 (by decide) ?_
  refine my_iadd (x := i) (y := 3) hx hb dL_law_235 ?_
  refine my_sld (n := i + 3) hx hb hX hbl hbA hS (by omega) hL dL_law_236 ?_
  refine lv_aload_n hx hb dL_law_237 rfl (lv_at hl 3 rfl) ?_
  refine lv_iload_n hx hb dL_law_238 rfl (lv_at hl 0 rfl) ?_
  refine lv_iconst (v := nI 4) hx hb dL_law_239 (by decide) ?_
  refine my_iadd (x := i) (y := 4) hx hb dL_law_240 ?_
  refine my_sld (n := i + 4) hx hb hX hbl hbA hS (by omega) hL dL_law_241 ?_
  refine lv_aload_n hx hb dL_law_242 rfl (lv_at hl 3 rfl) ?_
  refine lv_iload_n hx hb dL_law_243 rfl (lv_at hl 0 rfl) ?_
  refine lv_iconst (v := nI 5) hx hb dL_law_244 (by decide) ?_
  refine my_iadd (x := i) (y := 5) hx hb dL_law_245 ?_
  refine my_sld (n := i + 5) hx hb hX hbl hbA hS (by omega) hL dL_law_246 ?_
  refine CI.callVU (wr := (xB xo cd ce so sd) ++ (cW cI cd (gAddT c (xs (i + 1)) (xs (i + 2)) (xs (i + 3)) (xs (i + 4)) (xs (i + 5)))) ++ (cW cI ce ev) ++ (qB cR so (fO o0 o1)) ++ (tF cI cG sd (r 0) (r 1) (r 2) (r 3) (r 4) (r 5) (r 6) (r 7) (r 8) (r 9) (r 10)) ++ ([(ad 2, .inl (cI, 580, .inl (nA sl))), (ad 3, .inl (cZ, 2, .inl sv)), (ad 4, .inl (cI, 24, .inl (nA (z 0)))), (ad 5, .inl (cI, 24, .inl (nA (z 1)))), (ad 6, .inl (cI, 24, .inl (nA (z 2)))), (ad 7, .inl (cI, 40, .inl (nA (z 3)))), (ad 8, .inl (cI, 290, .inl (nA (z 4))))])) (As := [.int (xs (i + 1)), .int (xs (i + 2)), .int (xs (i + 3)), .int (xs (i + 4)), .int (xs (i + 5))]) (rest := [_]) (w3 := (fun _ => LX cI cZ cR cG xo cd ce so sd ad (gAddT c (xs (i + 1)) (xs (i + 2)) (xs (i + 3)) (xs (i + 4)) (xs (i + 5))) ev r (gAddT g (xs (i + 1)) (xs (i + 2)) (xs (i + 3)) (xs (i + 4)) (xs (i + 5))) sl sv z (fO o0 o1))) (c_X3_addTransistor l dC dI cI cZ cR cG ad g (xs (i + 1)) (xs (i + 2)) (xs (i + 3)) (xs (i + 4)) (xs (i + 5)) kp.2) ⟨hx, hb, hml, hown, hts⟩ (cwV 5 hts gL_law_X3_addTransistor rfl rfl rfl (by decide +kernel) ⟨(Nat.le_of_ble_eq_true rfl), (Nat.le_of_ble_eq_true rfl)⟩) rfl hl.1 (Nat.le_of_ble_eq_true rfl) dL_law_247 ⟨by show cells + 0 + 0 ≤ 600000; omega, by show slots + 0 + 0 ≤ 7302250; omega⟩ hA hS hP hK hD [32, 33] [0, 1, 2, 3, 4, 5, 6, 7, 8, 9, 10, 11, 12, 13, 14, 15, 16, 17, 18, 19, 20, 21, 22, 23, 24, 25, 26, 27, 28, 29, 30, 31, 34, 35, 36, 37, 38, 39, 40] rfl rfl (by decide) (by decide) (by decide) 0 3 rfl rfl [0, 1, 2, 3, 4, 5, 6, 7, 8, 9, 10, 11, 12, 13, 14, 15, 16, 17, 18, 19, 20, 21, 22, 23, 24, 25, 26, 27, 28, 29, 30, 31, 39, 40, 32, 33, 34, 35, 36, 37, 38] (by decide) (fun _ => rfl) (rfl) (fun _ H locs hp hP hD hS => ?_)
  refine lv_icmp_eq (tgt := 807) hx hb dL_law_250 (by decide) (fun _ => ?_) (fun h9 => absurd (K_addT kp (xs (i + 1)) (xs (i + 2)) (xs (i + 3)) (xs (i + 4)) (xs (i + 5))).1 h9)
  refine W.widen (show cells + 0 + 0 ≤ cells + 8 by omega) (show slots + 0 + 0 ≤ slots + 261 by omega) ?_
  exact cont _ _ ⟨(gAddT c (xs (i + 1)) (xs (i + 2)) (xs (i + 3)) (xs (i + 4)) (xs (i + 5))), ev, r, (gAddT g (xs (i + 1)) (xs (i + 2)) (xs (i + 3)) (xs (i + 4)) (xs (i + 5))), sl, sv, z, o0, o1, (K_addT kp (xs (i + 1)) (xs (i + 2)) (xs (i + 3)) (xs (i + 4)) (xs (i + 5))).2, s0, s1, hP, hD, hS⟩
set_option maxHeartbeats 8000000 in
set_option maxRecDepth 100000 in
theorem op_3 {p : Program} {e : Env} {s : State} {m : MethodId} {below : List Frame} {meth : Method} {kc : Code} (l : Launch) {b L : Nat} {xs : Nat → Int32} {dC : Nat → ClassId} {dI : Nat → Nat → Nat} {cI cZ cR cG : ClassId} (C0 : LC p s m kc b L xs dC dI cI cZ cR cG) {i : Nat} (hi : i + 6 ≤ L) (hL : L ≤ 3072) {xo : Nat} {cd ce : Nat → Nat} {so : Nat} {sd ad : Nat → Nat} {H : Heap} {locs : List Loc} {ls : Array Slot} {cells slots : Nat} {Q : State → Prop} (hcl : cells + 8 ≤ 600000) (hsl : slots + 261 ≤ 7302250) (hI : LI dC dI cI cZ cR cG xo cd ce so sd ad s.heap H locs) (hl : lv_has ls 4 [(3, .int (nI i)), (2, .ref (ad 0)), (1, .ref xo), (0, .ref b)])
    (cont : ∀ (H : Heap) (locs : List Loc), LI dC dI cI cZ cR cG xo cd ce so sd ad s.heap H locs → W p l e room_1 s m #[Value.ref b] below meth kc H locs (cells + 8) (slots + 261) Q (F0 m 807 ls [])) : W p l e room_1 s m #[Value.ref b] below meth kc H locs cells slots Q (F0 m 255 ls []) := by
  obtain ⟨hx, hb, hml, hown, hts, hX, hbl, hK, hEX⟩ := C0
  obtain ⟨c, ev, r, g, sl, sv, z, o0, o1, kp, s0, s1, hP, hD, hS⟩ := hI
  have hA : ∀ q : Nat, s.heap.size ≤ q → (fun q : Nat => s.heap.size ≤ q) q := fun _ h => h
  have hbA : ¬ (fun q : Nat => s.heap.size ≤ q) b := Nat.not_le.mpr hbl
  have okc : okG c := kp.1.ok kp.2
  refine lv_aload_n hx hb dL_law_255 rfl (lv_at hl 2 rfl) ?_
  refine CI.callVU (wr := (cW cI ce ev) ++ (qB cR so (fO o0 o1)) ++ (tF cI cG sd (r 0) (r 1) (r 2) (r 3) (r 4) (r 5) (r 6) (r 7) (r 8) (r 9) (r 10)) ++ (mW cI cZ ad g sl sv (z 0) (z 1) (z 2) (z 3) (z 4))) (As := []) (rest := []) (w3 := (fun _ => LX cI cZ cR cG xo cd ce so sd ad c ev r g sl sv z (fO o0 o1))) (c_X2_nodeCount l dC dI cI cZ cR cG xo cd ce so sd c  okc) ⟨hx, hb, hml, hown, hts⟩ (cwV 0 hts gL_law_X2_nodeCount rfl rfl rfl (by decide +kernel) ⟨(Nat.le_of_ble_eq_true rfl), (Nat.le_of_ble_eq_true rfl)⟩) rfl hl.1 (Nat.le_of_ble_eq_true rfl) dL_law_256 ⟨by show cells + 0 ≤ 600000; omega, by show slots + 0 ≤ 7302250; omega⟩ hA hS hP hK hD [0, 1, 2, 3, 4, 5, 6, 7, 8] [9, 10, 11, 12, 13, 14, 15, 16, 17, 18, 19, 20, 21, 22, 23, 24, 25, 26, 27, 28, 29, 30, 31, 32, 33, 34, 35, 36, 37, 38, 39, 40] rfl rfl (by decide) (by decide) (by decide) 0 2 rfl rfl [32, 33, 34, 35, 36, 37, 38, 39, 40, 0, 1, 2, 3, 4, 5, 6, 7, 8, 9, 10, 11, 12, 13, 14, 15, 16, 17, 18, 19, 20, 21, 22, 23, 24, 25, 26, 27, 28, 29, 30, 31] (by decide) (fun _ => rfl) (rfl) (fun _ H locs hp hP hD hS => ?_)
  refine lv_aload_n hx hb dL_law_259 rfl (lv_at hl 1 rfl) ?_
  refine CI.callVU (wr := (xB xo cd ce so sd) ++ (cW cI cd c) ++ (cW cI ce ev) ++ (qB cR so (fO o0 o1)) ++ (tF cI cG sd (r 0) (r 1) (r 2) (r 3) (r 4) (r 5) (r 6) (r 7) (r 8) (r 9) (r 10)) ++ ([(ad 2, .inl (cI, 580, .inl (nA sl))), (ad 3, .inl (cZ, 2, .inl sv)), (ad 4, .inl (cI, 24, .inl (nA (z 0)))), (ad 5, .inl (cI, 24, .inl (nA (z 1)))), (ad 6, .inl (cI, 24, .inl (nA (z 2)))), (ad 7, .inl (cI, 40, .inl (nA (z 3)))), (ad 8, .inl (cI, 290, .inl (nA (z 4))))])) (As := []) (rest := [_]) (w3 := (fun _ => LX cI cZ cR cG xo cd ce so sd ad c ev r g sl sv z (fO o0 o1))) (c_X3_nodeCount l dC dI cI cZ cR cG ad g ) ⟨hx, hb, hml, hown, hts⟩ (cwV 0 hts gL_law_X3_nodeCount rfl rfl rfl (by decide +kernel) ⟨(Nat.le_of_ble_eq_true rfl), (Nat.le_of_ble_eq_true rfl)⟩) rfl hl.1 (Nat.le_of_ble_eq_true rfl) dL_law_260 ⟨by show cells + 0 + 0 ≤ 600000; omega, by show slots + 0 + 0 ≤ 7302250; omega⟩ hA hS hP hK hD [32, 33] [0, 1, 2, 3, 4, 5, 6, 7, 8, 9, 10, 11, 12, 13, 14, 15, 16, 17, 18, 19, 20, 21, 22, 23, 24, 25, 26, 27, 28, 29, 30, 31, 34, 35, 36, 37, 38, 39, 40] rfl rfl (by decide) (by decide) (by decide) 0 3 rfl rfl [0, 1, 2, 3, 4, 5, 6, 7, 8, 9, 10, 11, 12, 13, 14, 15, 16, 17, 18, 19, 20, 21, 22, 23, 24, 25, 26, 27, 28, 29, 30, 31, 39, 40, 32, 33, 34, 35, 36, 37, 38] (by decide) (fun _ => rfl) (rfl) (fun _ H locs hp hP hD hS => ?_)
  refine lv_icmp_eq (tgt := 807) hx hb dL_law_263 (by decide) (fun _ => ?_) (fun h9 => absurd (congrArg nI kp.1.1) h9)
  refine W.widen (show cells + 0 + 0 ≤ cells + 8 by omega) (show slots + 0 + 0 ≤ slots + 261 by omega) ?_
  exact cont _ _ ⟨c, ev, r, g, sl, sv, z, o0, o1, kp, s0, s1, hP, hD, hS⟩
set_option maxHeartbeats 8000000 in
set_option maxRecDepth 100000 in
theorem op_4 {p : Program} {e : Env} {s : State} {m : MethodId} {below : List Frame} {meth : Method} {kc : Code} (l : Launch) {b L : Nat} {xs : Nat → Int32} {dC : Nat → ClassId} {dI : Nat → Nat → Nat} {cI cZ cR cG : ClassId} (C0 : LC p s m kc b L xs dC dI cI cZ cR cG) {i : Nat} (hi : i + 6 ≤ L) (hL : L ≤ 3072) {xo : Nat} {cd ce : Nat → Nat} {so : Nat} {sd ad : Nat → Nat} {H : Heap} {locs : List Loc} {ls : Array Slot} {cells slots : Nat} {Q : State → Prop} (hcl : cells + 8 ≤ 600000) (hsl : slots + 261 ≤ 7302250) (hI : LI dC dI cI cZ cR cG xo cd ce so sd ad s.heap H locs) (hl : lv_has ls 4 [(3, .int (nI i)), (2, .ref (ad 0)), (1, .ref xo), (0, .ref b)])
    (cont : ∀ (H : Heap) (locs : List Loc), LI dC dI cI cZ cR cG xo cd ce so sd ad s.heap H locs → W p l e room_1 s m #[Value.ref b] below meth kc H locs (cells + 8) (slots + 261) Q (F0 m 807 ls [])) : W p l e room_1 s m #[Value.ref b] below meth kc H locs cells slots Q (F0 m 268 ls []) := by
  obtain ⟨hx, hb, hml, hown, hts, hX, hbl, hK, hEX⟩ := C0
  obtain ⟨c, ev, r, g, sl, sv, z, o0, o1, kp, s0, s1, hP, hD, hS⟩ := hI
  have hA : ∀ q : Nat, s.heap.size ≤ q → (fun q : Nat => s.heap.size ≤ q) q := fun _ h => h
  have hbA : ¬ (fun q : Nat => s.heap.size ≤ q) b := Nat.not_le.mpr hbl
  have okc : okG c := kp.1.ok kp.2
  refine lv_aload_n hx hb dL_law_268 rfl (lv_at hl 2 rfl) ?_
  refine CI.callVU (wr := (cW cI ce ev) ++ (qB cR so (fO o0 o1)) ++ (tF cI cG sd (r 0) (r 1) (r 2) (r 3) (r 4) (r 5) (r 6) (r 7) (r 8) (r 9) (r 10)) ++ (mW cI cZ ad g sl sv (z 0) (z 1) (z 2) (z 3) (z 4))) (As := []) (rest := []) (w3 := (fun _ => LX cI cZ cR cG xo cd ce so sd ad c ev r g sl sv z (fO o0 o1))) (c_X2_transistorCount l dC dI cI cZ cR cG xo cd ce so sd c  okc) ⟨hx, hb, hml, hown, hts⟩ (cwV 0 hts gL_law_X2_transistorCount rfl rfl rfl (by decide +kernel) ⟨(Nat.le_of_ble_eq_true rfl), (Nat.le_of_ble_eq_true rfl)⟩) rfl hl.1 (Nat.le_of_ble_eq_true rfl) dL_law_269 ⟨by show cells + 0 ≤ 600000; omega, by show slots + 0 ≤ 7302250; omega⟩ hA hS hP hK hD [0, 1, 2, 3, 4, 5, 6, 7, 8] [9, 10, 11, 12, 13, 14, 15, 16, 17, 18, 19, 20, 21, 22, 23, 24, 25, 26, 27, 28, 29, 30, 31, 32, 33, 34, 35, 36, 37, 38, 39, 40] rfl rfl (by decide) (by decide) (by decide) 0 2 rfl rfl [32, 33, 34, 35, 36, 37, 38, 39, 40, 0, 1, 2, 3, 4, 5, 6, 7, 8, 9, 10, 11, 12, 13, 14, 15, 16, 17, 18, 19, 20, 21, 22, 23, 24, 25, 26, 27, 28, 29, 30, 31] (by decide) (fun _ => rfl) (rfl) (fun _ H locs hp hP hD hS => ?_)
  refine lv_aload_n hx hb dL_law_272 rfl (lv_at hl 1 rfl) ?_
  refine CI.callVU (wr := (xB xo cd ce so sd) ++ (cW cI cd c) ++ (cW cI ce ev) ++ (qB cR so (fO o0 o1)) ++ (tF cI cG sd (r 0) (r 1) (r 2) (r 3) (r 4) (r 5) (r 6) (r 7) (r 8) (r 9) (r 10)) ++ ([(ad 2, .inl (cI, 580, .inl (nA sl))), (ad 3, .inl (cZ, 2, .inl sv)), (ad 4, .inl (cI, 24, .inl (nA (z 0)))), (ad 5, .inl (cI, 24, .inl (nA (z 1)))), (ad 6, .inl (cI, 24, .inl (nA (z 2)))), (ad 7, .inl (cI, 40, .inl (nA (z 3)))), (ad 8, .inl (cI, 290, .inl (nA (z 4))))])) (As := []) (rest := [_]) (w3 := (fun _ => LX cI cZ cR cG xo cd ce so sd ad c ev r g sl sv z (fO o0 o1))) (c_X3_transistorCount l dC dI cI cZ cR cG ad g ) ⟨hx, hb, hml, hown, hts⟩ (cwV 0 hts gL_law_X3_transistorCount rfl rfl rfl (by decide +kernel) ⟨(Nat.le_of_ble_eq_true rfl), (Nat.le_of_ble_eq_true rfl)⟩) rfl hl.1 (Nat.le_of_ble_eq_true rfl) dL_law_273 ⟨by show cells + 0 + 0 ≤ 600000; omega, by show slots + 0 + 0 ≤ 7302250; omega⟩ hA hS hP hK hD [32, 33] [0, 1, 2, 3, 4, 5, 6, 7, 8, 9, 10, 11, 12, 13, 14, 15, 16, 17, 18, 19, 20, 21, 22, 23, 24, 25, 26, 27, 28, 29, 30, 31, 34, 35, 36, 37, 38, 39, 40] rfl rfl (by decide) (by decide) (by decide) 0 3 rfl rfl [0, 1, 2, 3, 4, 5, 6, 7, 8, 9, 10, 11, 12, 13, 14, 15, 16, 17, 18, 19, 20, 21, 22, 23, 24, 25, 26, 27, 28, 29, 30, 31, 39, 40, 32, 33, 34, 35, 36, 37, 38] (by decide) (fun _ => rfl) (rfl) (fun _ H locs hp hP hD hS => ?_)
  refine lv_icmp_eq (tgt := 807) hx hb dL_law_276 (by decide) (fun _ => ?_) (fun h9 => absurd (congrArg nI kp.1.2.1) h9)
  refine W.widen (show cells + 0 + 0 ≤ cells + 8 by omega) (show slots + 0 + 0 ≤ slots + 261 by omega) ?_
  exact cont _ _ ⟨c, ev, r, g, sl, sv, z, o0, o1, kp, s0, s1, hP, hD, hS⟩
set_option maxHeartbeats 8000000 in
set_option maxRecDepth 100000 in
theorem op_5 {p : Program} {e : Env} {s : State} {m : MethodId} {below : List Frame} {meth : Method} {kc : Code} (l : Launch) {b L : Nat} {xs : Nat → Int32} {dC : Nat → ClassId} {dI : Nat → Nat → Nat} {cI cZ cR cG : ClassId} (C0 : LC p s m kc b L xs dC dI cI cZ cR cG) {i : Nat} (hi : i + 6 ≤ L) (hL : L ≤ 3072) {xo : Nat} {cd ce : Nat → Nat} {so : Nat} {sd ad : Nat → Nat} {H : Heap} {locs : List Loc} {ls : Array Slot} {cells slots : Nat} {Q : State → Prop} (hcl : cells + 8 ≤ 600000) (hsl : slots + 261 ≤ 7302250) (hI : LI dC dI cI cZ cR cG xo cd ce so sd ad s.heap H locs) (hl : lv_has ls 4 [(3, .int (nI i)), (2, .ref (ad 0)), (1, .ref xo), (0, .ref b)])
    (cont : ∀ (H : Heap) (locs : List Loc), LI dC dI cI cZ cR cG xo cd ce so sd ad s.heap H locs → W p l e room_1 s m #[Value.ref b] below meth kc H locs (cells + 8) (slots + 261) Q (F0 m 807 ls [])) : W p l e room_1 s m #[Value.ref b] below meth kc H locs cells slots Q (F0 m 281 ls []) := by
  obtain ⟨hx, hb, hml, hown, hts, hX, hbl, hK, hEX⟩ := C0
  obtain ⟨c, ev, r, g, sl, sv, z, o0, o1, kp, s0, s1, hP, hD, hS⟩ := hI
  have hA : ∀ q : Nat, s.heap.size ≤ q → (fun q : Nat => s.heap.size ≤ q) q := fun _ h => h
  have hbA : ¬ (fun q : Nat => s.heap.size ≤ q) b := Nat.not_le.mpr hbl
  have okc : okG c := kp.1.ok kp.2
  refine lv_aload_n hx hb dL_law_281 rfl (lv_at hl 2 rfl) ?_
  refine CI.callVU (wr := (cW cI ce ev) ++ (qB cR so (fO o0 o1)) ++ (tF cI cG sd (r 0) (r 1) (r 2) (r 3) (r 4) (r 5) (r 6) (r 7) (r 8) (r 9) (r 10)) ++ (mW cI cZ ad g sl sv (z 0) (z 1) (z 2) (z 3) (z 4))) (As := []) (rest := []) (w3 := (fun _ => LX cI cZ cR cG xo cd ce so sd ad c ev r g sl sv z (fO o0 o1))) (c_X2_inputs l dC dI cI cZ cR cG xo cd ce so sd c  okc) ⟨hx, hb, hml, hown, hts⟩ (cwV 0 hts gL_law_X2_inputs rfl rfl rfl (by decide +kernel) ⟨(Nat.le_of_ble_eq_true rfl), (Nat.le_of_ble_eq_true rfl)⟩) rfl hl.1 (Nat.le_of_ble_eq_true rfl) dL_law_282 ⟨by show cells + 0 ≤ 600000; omega, by show slots + 0 ≤ 7302250; omega⟩ hA hS hP hK hD [0, 1, 2, 3, 4, 5, 6, 7, 8] [9, 10, 11, 12, 13, 14, 15, 16, 17, 18, 19, 20, 21, 22, 23, 24, 25, 26, 27, 28, 29, 30, 31, 32, 33, 34, 35, 36, 37, 38, 39, 40] rfl rfl (by decide) (by decide) (by decide) 0 2 rfl rfl [32, 33, 34, 35, 36, 37, 38, 39, 40, 0, 1, 2, 3, 4, 5, 6, 7, 8, 9, 10, 11, 12, 13, 14, 15, 16, 17, 18, 19, 20, 21, 22, 23, 24, 25, 26, 27, 28, 29, 30, 31] (by decide) (fun _ => rfl) (rfl) (fun _ H locs hp hP hD hS => ?_)
  refine lv_aload_n hx hb dL_law_285 rfl (lv_at hl 1 rfl) ?_
  refine CI.callVU (wr := (xB xo cd ce so sd) ++ (cW cI cd c) ++ (cW cI ce ev) ++ (qB cR so (fO o0 o1)) ++ (tF cI cG sd (r 0) (r 1) (r 2) (r 3) (r 4) (r 5) (r 6) (r 7) (r 8) (r 9) (r 10)) ++ ([(ad 2, .inl (cI, 580, .inl (nA sl))), (ad 3, .inl (cZ, 2, .inl sv)), (ad 4, .inl (cI, 24, .inl (nA (z 0)))), (ad 5, .inl (cI, 24, .inl (nA (z 1)))), (ad 6, .inl (cI, 24, .inl (nA (z 2)))), (ad 7, .inl (cI, 40, .inl (nA (z 3)))), (ad 8, .inl (cI, 290, .inl (nA (z 4))))])) (As := []) (rest := [_]) (w3 := (fun _ => LX cI cZ cR cG xo cd ce so sd ad c ev r g sl sv z (fO o0 o1))) (c_X3_inputs l dC dI cI cZ cR cG ad g  kp.2) ⟨hx, hb, hml, hown, hts⟩ (cwV 0 hts gL_law_X3_inputs rfl rfl rfl (by decide +kernel) ⟨(Nat.le_of_ble_eq_true rfl), (Nat.le_of_ble_eq_true rfl)⟩) rfl hl.1 (Nat.le_of_ble_eq_true rfl) dL_law_286 ⟨by show cells + 0 + 0 ≤ 600000; omega, by show slots + 0 + 0 ≤ 7302250; omega⟩ hA hS hP hK hD [32, 33] [0, 1, 2, 3, 4, 5, 6, 7, 8, 9, 10, 11, 12, 13, 14, 15, 16, 17, 18, 19, 20, 21, 22, 23, 24, 25, 26, 27, 28, 29, 30, 31, 34, 35, 36, 37, 38, 39, 40] rfl rfl (by decide) (by decide) (by decide) 0 3 rfl rfl [0, 1, 2, 3, 4, 5, 6, 7, 8, 9, 10, 11, 12, 13, 14, 15, 16, 17, 18, 19, 20, 21, 22, 23, 24, 25, 26, 27, 28, 29, 30, 31, 39, 40, 32, 33, 34, 35, 36, 37, 38] (by decide) (fun _ => rfl) (rfl) (fun _ H locs hp hP hD hS => ?_)
  refine lv_icmp_eq (tgt := 807) hx hb dL_law_289 (by decide) (fun _ => ?_) (fun h9 => absurd (K_inp kp) h9)
  refine W.widen (show cells + 0 + 0 ≤ cells + 8 by omega) (show slots + 0 + 0 ≤ slots + 261 by omega) ?_
  exact cont _ _ ⟨c, ev, r, g, sl, sv, z, o0, o1, kp, s0, s1, hP, hD, hS⟩
set_option maxHeartbeats 8000000 in
set_option maxRecDepth 100000 in
theorem op_6 {p : Program} {e : Env} {s : State} {m : MethodId} {below : List Frame} {meth : Method} {kc : Code} (l : Launch) {b L : Nat} {xs : Nat → Int32} {dC : Nat → ClassId} {dI : Nat → Nat → Nat} {cI cZ cR cG : ClassId} (C0 : LC p s m kc b L xs dC dI cI cZ cR cG) {i : Nat} (hi : i + 6 ≤ L) (hL : L ≤ 3072) {xo : Nat} {cd ce : Nat → Nat} {so : Nat} {sd ad : Nat → Nat} {H : Heap} {locs : List Loc} {ls : Array Slot} {cells slots : Nat} {Q : State → Prop} (hcl : cells + 8 ≤ 600000) (hsl : slots + 261 ≤ 7302250) (hI : LI dC dI cI cZ cR cG xo cd ce so sd ad s.heap H locs) (hl : lv_has ls 4 [(3, .int (nI i)), (2, .ref (ad 0)), (1, .ref xo), (0, .ref b)])
    (cont : ∀ (H : Heap) (locs : List Loc), LI dC dI cI cZ cR cG xo cd ce so sd ad s.heap H locs → W p l e room_1 s m #[Value.ref b] below meth kc H locs (cells + 8) (slots + 261) Q (F0 m 807 ls [])) : W p l e room_1 s m #[Value.ref b] below meth kc H locs cells slots Q (F0 m 294 ls []) := by
  obtain ⟨hx, hb, hml, hown, hts, hX, hbl, hK, hEX⟩ := C0
  obtain ⟨c, ev, r, g, sl, sv, z, o0, o1, kp, s0, s1, hP, hD, hS⟩ := hI
  have hA : ∀ q : Nat, s.heap.size ≤ q → (fun q : Nat => s.heap.size ≤ q) q := fun _ h => h
  have hbA : ¬ (fun q : Nat => s.heap.size ≤ q) b := Nat.not_le.mpr hbl
  have okc : okG c := kp.1.ok kp.2
  refine lv_aload_n hx hb dL_law_294 rfl (lv_at hl 2 rfl) ?_
  refine lv_aload_n hx hb dL_law_295 rfl (lv_at hl 3 rfl) ?_
  refine lv_iload_n hx hb dL_law_296 rfl (lv_at hl 0 rfl) ?_
  refine lv_iconst (v := nI 1) hx hb dL_law_297 (by decide) ?_
  refine my_iadd (x := i) (y := 1) hx hb dL_law_298 ?_
  refine my_sld (n := i + 1) hx hb hX hbl hbA hS (by omega) hL dL_law_299 ?_
  refine lv_aload_n hx hb dL_law_300 rfl (lv_at hl 3 rfl) ?_
  refine lv_iload_n hx hb dL_law_301 rfl (lv_at hl 0 rfl) ?_
  refine lv_iconst (v := nI 2) hx hb dL_law_302 (by decide) ?_
  refine my_iadd (x := i) (y := 2) hx hb dL_law_303 ?_
  refine my_sld (n := i + 2) hx hb hX hbl hbA hS (by omega) hL dL_law_304 ?_
  refine CI.callVU (wr := (cW cI ce ev) ++ (qB cR so (fO o0 o1)) ++ (tF cI cG sd (r 0) (r 1) (r 2) (r 3) (r 4) (r 5) (r 6) (r 7) (r 8) (r 9) (r 10)) ++ (mW cI cZ ad g sl sv (z 0) (z 1) (z 2) (z 3) (z 4))) (As := [.int (xs (i + 1)), .int (xs (i + 2))]) (rest := []) (w3 := (fun _ => LX cI cZ cR cG xo cd ce so sd ad (gSetV true c (xs (i + 1)) (xs (i + 2))) ev r g sl sv z (fO o0 o1))) (c_X2_setInput l dC dI cI cZ cR cG xo cd ce so sd c (xs (i + 1)) (xs (i + 2)) okc) ⟨hx, hb, hml, hown, hts⟩ (cwV 2 hts gL_law_X2_setInput rfl rfl rfl (by decide +kernel) ⟨(Nat.le_of_ble_eq_true rfl), (Nat.le_of_ble_eq_true rfl)⟩) rfl hl.1 (Nat.le_of_ble_eq_true rfl) dL_law_305 ⟨by show cells + 0 ≤ 600000; omega, by show slots + 0 ≤ 7302250; omega⟩ hA hS hP hK hD [0, 1, 2, 3, 4, 5, 6, 7, 8] [9, 10, 11, 12, 13, 14, 15, 16, 17, 18, 19, 20, 21, 22, 23, 24, 25, 26, 27, 28, 29, 30, 31, 32, 33, 34, 35, 36, 37, 38, 39, 40] rfl rfl (by decide) (by decide) (by decide) 0 2 rfl rfl [32, 33, 34, 35, 36, 37, 38, 39, 40, 0, 1, 2, 3, 4, 5, 6, 7, 8, 9, 10, 11, 12, 13, 14, 15, 16, 17, 18, 19, 20, 21, 22, 23, 24, 25, 26, 27, 28, 29, 30, 31] (by decide) (fun _ => rfl) (rfl) (fun _ H locs hp hP hD hS => ?_)
  refine lv_aload_n hx hb dL_law_308 rfl (lv_at hl 1 rfl) ?_
  refine lv_aload_n hx hb dL_law_309 rfl (lv_at hl 3 rfl) ?_
  refine lv_iload_n hx hb dL_law_310 rfl (lv_at hl 0 rfl) ?_
  refine lv_iconst (v := nI 1) hx hb dL_law_311 (by decide) ?_
  refine my_iadd (x := i) (y := 1) hx hb dL_law_312 ?_
  refine my_sld (n := i + 1) hx hb hX hbl hbA hS (by omega) hL dL_law_313 ?_
  refine lv_aload_n hx hb dL_law_314 rfl (lv_at hl 3 rfl) ?_
  refine lv_iload_n hx hb dL_law_315 rfl (lv_at hl 0 rfl) ?_
  refine lv_iconst (v := nI 2) hx hb dL_law_316 (by decide) ?_
  refine my_iadd (x := i) (y := 2) hx hb dL_law_317 ?_
  refine my_sld (n := i + 2) hx hb hX hbl hbA hS (by omega) hL dL_law_318 ?_
  refine CI.callVU (wr := (xB xo cd ce so sd) ++ (cW cI cd (gSetV true c (xs (i + 1)) (xs (i + 2)))) ++ (cW cI ce ev) ++ (qB cR so (fO o0 o1)) ++ (tF cI cG sd (r 0) (r 1) (r 2) (r 3) (r 4) (r 5) (r 6) (r 7) (r 8) (r 9) (r 10)) ++ ([(ad 2, .inl (cI, 580, .inl (nA sl))), (ad 3, .inl (cZ, 2, .inl sv)), (ad 4, .inl (cI, 24, .inl (nA (z 0)))), (ad 5, .inl (cI, 24, .inl (nA (z 1)))), (ad 6, .inl (cI, 24, .inl (nA (z 2)))), (ad 7, .inl (cI, 40, .inl (nA (z 3)))), (ad 8, .inl (cI, 290, .inl (nA (z 4))))])) (As := [.int (xs (i + 1)), .int (xs (i + 2))]) (rest := [_]) (w3 := (fun _ => LX cI cZ cR cG xo cd ce so sd ad (gSetV true c (xs (i + 1)) (xs (i + 2))) ev r (gSetV true g (xs (i + 1)) (xs (i + 2))) sl sv z (fO o0 o1))) (c_X3_setInput l dC dI cI cZ cR cG ad g (xs (i + 1)) (xs (i + 2)) kp.2) ⟨hx, hb, hml, hown, hts⟩ (cwV 2 hts gL_law_X3_setInput rfl rfl rfl (by decide +kernel) ⟨(Nat.le_of_ble_eq_true rfl), (Nat.le_of_ble_eq_true rfl)⟩) rfl hl.1 (Nat.le_of_ble_eq_true rfl) dL_law_319 ⟨by show cells + 0 + 0 ≤ 600000; omega, by show slots + 0 + 0 ≤ 7302250; omega⟩ hA hS hP hK hD [32, 33] [0, 1, 2, 3, 4, 5, 6, 7, 8, 9, 10, 11, 12, 13, 14, 15, 16, 17, 18, 19, 20, 21, 22, 23, 24, 25, 26, 27, 28, 29, 30, 31, 34, 35, 36, 37, 38, 39, 40] rfl rfl (by decide) (by decide) (by decide) 0 3 rfl rfl [0, 1, 2, 3, 4, 5, 6, 7, 8, 9, 10, 11, 12, 13, 14, 15, 16, 17, 18, 19, 20, 21, 22, 23, 24, 25, 26, 27, 28, 29, 30, 31, 39, 40, 32, 33, 34, 35, 36, 37, 38] (by decide) (fun _ => rfl) (rfl) (fun _ H locs hp hP hD hS => ?_)
  refine lv_icmp_eq (tgt := 807) hx hb dL_law_322 (by decide) (fun _ => ?_) (fun h9 => absurd (K_setV kp true (xs (i + 1)) (xs (i + 2))).1 h9)
  refine W.widen (show cells + 0 + 0 ≤ cells + 8 by omega) (show slots + 0 + 0 ≤ slots + 261 by omega) ?_
  exact cont _ _ ⟨(gSetV true c (xs (i + 1)) (xs (i + 2))), ev, r, (gSetV true g (xs (i + 1)) (xs (i + 2))), sl, sv, z, o0, o1, (K_setV kp true (xs (i + 1)) (xs (i + 2))).2, s0, s1, hP, hD, hS⟩
set_option maxHeartbeats 8000000 in
set_option maxRecDepth 100000 in
theorem op_7 {p : Program} {e : Env} {s : State} {m : MethodId} {below : List Frame} {meth : Method} {kc : Code} (l : Launch) {b L : Nat} {xs : Nat → Int32} {dC : Nat → ClassId} {dI : Nat → Nat → Nat} {cI cZ cR cG : ClassId} (C0 : LC p s m kc b L xs dC dI cI cZ cR cG) {i : Nat} (hi : i + 6 ≤ L) (hL : L ≤ 3072) {xo : Nat} {cd ce : Nat → Nat} {so : Nat} {sd ad : Nat → Nat} {H : Heap} {locs : List Loc} {ls : Array Slot} {cells slots : Nat} {Q : State → Prop} (hcl : cells + 8 ≤ 600000) (hsl : slots + 261 ≤ 7302250) (hI : LI dC dI cI cZ cR cG xo cd ce so sd ad s.heap H locs) (hl : lv_has ls 4 [(3, .int (nI i)), (2, .ref (ad 0)), (1, .ref xo), (0, .ref b)])
    (cont : ∀ (H : Heap) (locs : List Loc), LI dC dI cI cZ cR cG xo cd ce so sd ad s.heap H locs → W p l e room_1 s m #[Value.ref b] below meth kc H locs (cells + 8) (slots + 261) Q (F0 m 807 ls [])) : W p l e room_1 s m #[Value.ref b] below meth kc H locs cells slots Q (F0 m 327 ls []) := by
  obtain ⟨hx, hb, hml, hown, hts, hX, hbl, hK, hEX⟩ := C0
  obtain ⟨c, ev, r, g, sl, sv, z, o0, o1, kp, s0, s1, hP, hD, hS⟩ := hI
  have hA : ∀ q : Nat, s.heap.size ≤ q → (fun q : Nat => s.heap.size ≤ q) q := fun _ h => h
  have hbA : ¬ (fun q : Nat => s.heap.size ≤ q) b := Nat.not_le.mpr hbl
  have okc : okG c := kp.1.ok kp.2
  refine lv_aload_n hx hb dL_law_327 rfl (lv_at hl 2 rfl) ?_
  refine lv_aload_n hx hb dL_law_328 rfl (lv_at hl 3 rfl) ?_
  refine lv_iload_n hx hb dL_law_329 rfl (lv_at hl 0 rfl) ?_
  refine lv_iconst (v := nI 1) hx hb dL_law_330 (by decide) ?_
  refine my_iadd (x := i) (y := 1) hx hb dL_law_331 ?_
  refine my_sld (n := i + 1) hx hb hX hbl hbA hS (by omega) hL dL_law_332 ?_
  refine lv_aload_n hx hb dL_law_333 rfl (lv_at hl 3 rfl) ?_
  refine lv_iload_n hx hb dL_law_334 rfl (lv_at hl 0 rfl) ?_
  refine lv_iconst (v := nI 2) hx hb dL_law_335 (by decide) ?_
  refine my_iadd (x := i) (y := 2) hx hb dL_law_336 ?_
  refine my_sld (n := i + 2) hx hb hX hbl hbA hS (by omega) hL dL_law_337 ?_
  refine CI.callVU (wr := (cW cI ce ev) ++ (qB cR so (fO o0 o1)) ++ (tF cI cG sd (r 0) (r 1) (r 2) (r 3) (r 4) (r 5) (r 6) (r 7) (r 8) (r 9) (r 10)) ++ (mW cI cZ ad g sl sv (z 0) (z 1) (z 2) (z 3) (z 4))) (As := [.int (xs (i + 1)), .int (xs (i + 2))]) (rest := []) (w3 := (fun _ => LX cI cZ cR cG xo cd ce so sd ad (gSetV false c (xs (i + 1)) (xs (i + 2))) ev r g sl sv z (fO o0 o1))) (c_X2_setCharge l dC dI cI cZ cR cG xo cd ce so sd c (xs (i + 1)) (xs (i + 2)) okc) ⟨hx, hb, hml, hown, hts⟩ (cwV 2 hts gL_law_X2_setCharge rfl rfl rfl (by decide +kernel) ⟨(Nat.le_of_ble_eq_true rfl), (Nat.le_of_ble_eq_true rfl)⟩) rfl hl.1 (Nat.le_of_ble_eq_true rfl) dL_law_338 ⟨by show cells + 0 ≤ 600000; omega, by show slots + 0 ≤ 7302250; omega⟩ hA hS hP hK hD [0, 1, 2, 3, 4, 5, 6, 7, 8] [9, 10, 11, 12, 13, 14, 15, 16, 17, 18, 19, 20, 21, 22, 23, 24, 25, 26, 27, 28, 29, 30, 31, 32, 33, 34, 35, 36, 37, 38, 39, 40] rfl rfl (by decide) (by decide) (by decide) 0 2 rfl rfl [32, 33, 34, 35, 36, 37, 38, 39, 40, 0, 1, 2, 3, 4, 5, 6, 7, 8, 9, 10, 11, 12, 13, 14, 15, 16, 17, 18, 19, 20, 21, 22, 23, 24, 25, 26, 27, 28, 29, 30, 31] (by decide) (fun _ => rfl) (rfl) (fun _ H locs hp hP hD hS => ?_)
  refine lv_aload_n hx hb dL_law_341 rfl (lv_at hl 1 rfl) ?_
  refine lv_aload_n hx hb dL_law_342 rfl (lv_at hl 3 rfl) ?_
  refine lv_iload_n hx hb dL_law_343 rfl (lv_at hl 0 rfl) ?_
  refine lv_iconst (v := nI 1) hx hb dL_law_344 (by decide) ?_
  refine my_iadd (x := i) (y := 1) hx hb dL_law_345 ?_
  refine my_sld (n := i + 1) hx hb hX hbl hbA hS (by omega) hL dL_law_346 ?_
  refine lv_aload_n hx hb dL_law_347 rfl (lv_at hl 3 rfl) ?_
  refine lv_iload_n hx hb dL_law_348 rfl (lv_at hl 0 rfl) ?_
  refine lv_iconst (v := nI 2) hx hb dL_law_349 (by decide) ?_
  refine my_iadd (x := i) (y := 2) hx hb dL_law_350 ?_
  refine my_sld (n := i + 2) hx hb hX hbl hbA hS (by omega) hL dL_law_351 ?_
  refine CI.callVU (wr := (xB xo cd ce so sd) ++ (cW cI cd (gSetV false c (xs (i + 1)) (xs (i + 2)))) ++ (cW cI ce ev) ++ (qB cR so (fO o0 o1)) ++ (tF cI cG sd (r 0) (r 1) (r 2) (r 3) (r 4) (r 5) (r 6) (r 7) (r 8) (r 9) (r 10)) ++ ([(ad 2, .inl (cI, 580, .inl (nA sl))), (ad 3, .inl (cZ, 2, .inl sv)), (ad 4, .inl (cI, 24, .inl (nA (z 0)))), (ad 5, .inl (cI, 24, .inl (nA (z 1)))), (ad 6, .inl (cI, 24, .inl (nA (z 2)))), (ad 7, .inl (cI, 40, .inl (nA (z 3)))), (ad 8, .inl (cI, 290, .inl (nA (z 4))))])) (As := [.int (xs (i + 1)), .int (xs (i + 2))]) (rest := [_]) (w3 := (fun _ => LX cI cZ cR cG xo cd ce so sd ad (gSetV false c (xs (i + 1)) (xs (i + 2))) ev r (gSetV false g (xs (i + 1)) (xs (i + 2))) sl sv z (fO o0 o1))) (c_X3_setCharge l dC dI cI cZ cR cG ad g (xs (i + 1)) (xs (i + 2)) kp.2) ⟨hx, hb, hml, hown, hts⟩ (cwV 2 hts gL_law_X3_setCharge rfl rfl rfl (by decide +kernel) ⟨(Nat.le_of_ble_eq_true rfl), (Nat.le_of_ble_eq_true rfl)⟩) rfl hl.1 (Nat.le_of_ble_eq_true rfl) dL_law_352 ⟨by show cells + 0 + 0 ≤ 600000; omega, by show slots + 0 + 0 ≤ 7302250; omega⟩ hA hS hP hK hD [32, 33] [0, 1, 2, 3, 4, 5, 6, 7, 8, 9, 10, 11, 12, 13, 14, 15, 16, 17, 18, 19, 20, 21, 22, 23, 24, 25, 26, 27, 28, 29, 30, 31, 34, 35, 36, 37, 38, 39, 40] rfl rfl (by decide) (by decide) (by decide) 0 3 rfl rfl [0, 1, 2, 3, 4, 5, 6, 7, 8, 9, 10, 11, 12, 13, 14, 15, 16, 17, 18, 19, 20, 21, 22, 23, 24, 25, 26, 27, 28, 29, 30, 31, 39, 40, 32, 33, 34, 35, 36, 37, 38] (by decide) (fun _ => rfl) (rfl) (fun _ H locs hp hP hD hS => ?_)
  refine lv_icmp_eq (tgt := 807) hx hb dL_law_355 (by decide) (fun _ => ?_) (fun h9 => absurd (K_setV kp false (xs (i + 1)) (xs (i + 2))).1 h9)
  refine W.widen (show cells + 0 + 0 ≤ cells + 8 by omega) (show slots + 0 + 0 ≤ slots + 261 by omega) ?_
  exact cont _ _ ⟨(gSetV false c (xs (i + 1)) (xs (i + 2))), ev, r, (gSetV false g (xs (i + 1)) (xs (i + 2))), sl, sv, z, o0, o1, (K_setV kp false (xs (i + 1)) (xs (i + 2))).2, s0, s1, hP, hD, hS⟩
set_option maxHeartbeats 8000000 in
set_option maxRecDepth 100000 in
theorem op_8 {p : Program} {e : Env} {s : State} {m : MethodId} {below : List Frame} {meth : Method} {kc : Code} (l : Launch) {b L : Nat} {xs : Nat → Int32} {dC : Nat → ClassId} {dI : Nat → Nat → Nat} {cI cZ cR cG : ClassId} (C0 : LC p s m kc b L xs dC dI cI cZ cR cG) {i : Nat} (hi : i + 6 ≤ L) (hL : L ≤ 3072) {xo : Nat} {cd ce : Nat → Nat} {so : Nat} {sd ad : Nat → Nat} {H : Heap} {locs : List Loc} {ls : Array Slot} {cells slots : Nat} {Q : State → Prop} (hcl : cells + 8 ≤ 600000) (hsl : slots + 261 ≤ 7302250) (hI : LI dC dI cI cZ cR cG xo cd ce so sd ad s.heap H locs) (hl : lv_has ls 4 [(3, .int (nI i)), (2, .ref (ad 0)), (1, .ref xo), (0, .ref b)])
    (cont : ∀ (H : Heap) (locs : List Loc), LI dC dI cI cZ cR cG xo cd ce so sd ad s.heap H locs → W p l e room_1 s m #[Value.ref b] below meth kc H locs (cells + 8) (slots + 261) Q (F0 m 807 ls [])) : W p l e room_1 s m #[Value.ref b] below meth kc H locs cells slots Q (F0 m 360 ls []) := by
  obtain ⟨hx, hb, hml, hown, hts, hX, hbl, hK, hEX⟩ := C0
  obtain ⟨c, ev, r, g, sl, sv, z, o0, o1, kp, s0, s1, hP, hD, hS⟩ := hI
  have hA : ∀ q : Nat, s.heap.size ≤ q → (fun q : Nat => s.heap.size ≤ q) q := fun _ h => h
  have hbA : ¬ (fun q : Nat => s.heap.size ≤ q) b := Nat.not_le.mpr hbl
  have okc : okG c := kp.1.ok kp.2
  refine lv_aload_n hx hb dL_law_360 rfl (lv_at hl 2 rfl) ?_
  refine CI.callVU (wr := (cW cI ce ev) ++ (qB cR so (fO o0 o1)) ++ (tF cI cG sd (r 0) (r 1) (r 2) (r 3) (r 4) (r 5) (r 6) (r 7) (r 8) (r 9) (r 10)) ++ (mW cI cZ ad g sl sv (z 0) (z 1) (z 2) (z 3) (z 4))) (As := []) (rest := []) (w3 := (fun _ => LX cI cZ cR cG xo cd ce so sd ad (forK c (c 0)) ev r g sl sv z (fO o0 o1))) (c_X2_forget l dC dI cI cZ cR cG xo cd ce so sd c  okc) ⟨hx, hb, hml, hown, hts⟩ (cwV 0 hts gL_law_X2_forget rfl rfl rfl (by decide +kernel) ⟨(Nat.le_of_ble_eq_true rfl), (Nat.le_of_ble_eq_true rfl)⟩) rfl hl.1 (Nat.le_of_ble_eq_true rfl) dL_law_361 ⟨by show cells + 0 ≤ 600000; omega, by show slots + 0 ≤ 7302250; omega⟩ hA hS hP hK hD [0, 1, 2, 3, 4, 5, 6, 7, 8] [9, 10, 11, 12, 13, 14, 15, 16, 17, 18, 19, 20, 21, 22, 23, 24, 25, 26, 27, 28, 29, 30, 31, 32, 33, 34, 35, 36, 37, 38, 39, 40] rfl rfl (by decide) (by decide) (by decide) 0 2 rfl rfl [32, 33, 34, 35, 36, 37, 38, 39, 40, 0, 1, 2, 3, 4, 5, 6, 7, 8, 9, 10, 11, 12, 13, 14, 15, 16, 17, 18, 19, 20, 21, 22, 23, 24, 25, 26, 27, 28, 29, 30, 31] (by decide) (fun _ => rfl) (rfl) (fun _ H locs hp hP hD hS => ?_)
  refine lv_aload_n hx hb dL_law_364 rfl (lv_at hl 1 rfl) ?_
  refine CI.callVU (wr := (xB xo cd ce so sd) ++ (cW cI cd (forK c (c 0))) ++ (cW cI ce ev) ++ (qB cR so (fO o0 o1)) ++ (tF cI cG sd (r 0) (r 1) (r 2) (r 3) (r 4) (r 5) (r 6) (r 7) (r 8) (r 9) (r 10)) ++ ([(ad 2, .inl (cI, 580, .inl (nA sl))), (ad 3, .inl (cZ, 2, .inl sv)), (ad 4, .inl (cI, 24, .inl (nA (z 0)))), (ad 5, .inl (cI, 24, .inl (nA (z 1)))), (ad 6, .inl (cI, 24, .inl (nA (z 2)))), (ad 7, .inl (cI, 40, .inl (nA (z 3)))), (ad 8, .inl (cI, 290, .inl (nA (z 4))))])) (As := []) (rest := [_]) (w3 := (fun _ => LX cI cZ cR cG xo cd ce so sd ad (forK c (c 0)) ev r (forK g (g 0)) sl sv z (fO o0 o1))) (c_X3_forget l dC dI cI cZ cR cG ad g  kp.2) ⟨hx, hb, hml, hown, hts⟩ (cwV 0 hts gL_law_X3_forget rfl rfl rfl (by decide +kernel) ⟨(Nat.le_of_ble_eq_true rfl), (Nat.le_of_ble_eq_true rfl)⟩) rfl hl.1 (Nat.le_of_ble_eq_true rfl) dL_law_365 ⟨by show cells + 0 + 0 ≤ 600000; omega, by show slots + 0 + 0 ≤ 7302250; omega⟩ hA hS hP hK hD [32, 33] [0, 1, 2, 3, 4, 5, 6, 7, 8, 9, 10, 11, 12, 13, 14, 15, 16, 17, 18, 19, 20, 21, 22, 23, 24, 25, 26, 27, 28, 29, 30, 31, 34, 35, 36, 37, 38, 39, 40] rfl rfl (by decide) (by decide) (by decide) 0 3 rfl rfl [0, 1, 2, 3, 4, 5, 6, 7, 8, 9, 10, 11, 12, 13, 14, 15, 16, 17, 18, 19, 20, 21, 22, 23, 24, 25, 26, 27, 28, 29, 30, 31, 39, 40, 32, 33, 34, 35, 36, 37, 38] (by decide) (fun _ => rfl) (rfl) (fun _ H locs hp hP hD hS => ?_)
  refine lv_icmp_eq (tgt := 807) hx hb dL_law_368 (by decide) (fun _ => ?_) (fun h9 => absurd (K_for kp).1 h9)
  refine W.widen (show cells + 0 + 0 ≤ cells + 8 by omega) (show slots + 0 + 0 ≤ slots + 261 by omega) ?_
  exact cont _ _ ⟨(forK c (c 0)), ev, r, (forK g (g 0)), sl, sv, z, o0, o1, (K_for kp).2, s0, s1, hP, hD, hS⟩
set_option maxHeartbeats 8000000 in
set_option maxRecDepth 100000 in
theorem op_9 {p : Program} {e : Env} {s : State} {m : MethodId} {below : List Frame} {meth : Method} {kc : Code} (l : Launch) {b L : Nat} {xs : Nat → Int32} {dC : Nat → ClassId} {dI : Nat → Nat → Nat} {cI cZ cR cG : ClassId} (C0 : LC p s m kc b L xs dC dI cI cZ cR cG) {i : Nat} (hi : i + 6 ≤ L) (hL : L ≤ 3072) {xo : Nat} {cd ce : Nat → Nat} {so : Nat} {sd ad : Nat → Nat} {H : Heap} {locs : List Loc} {ls : Array Slot} {cells slots : Nat} {Q : State → Prop} (hcl : cells + 8 ≤ 600000) (hsl : slots + 261 ≤ 7302250) (hI : LI dC dI cI cZ cR cG xo cd ce so sd ad s.heap H locs) (hl : lv_has ls 4 [(3, .int (nI i)), (2, .ref (ad 0)), (1, .ref xo), (0, .ref b)])
    (cont : ∀ (H : Heap) (locs : List Loc), LI dC dI cI cZ cR cG xo cd ce so sd ad s.heap H locs → W p l e room_1 s m #[Value.ref b] below meth kc H locs (cells + 8) (slots + 261) Q (F0 m 807 ls [])) : W p l e room_1 s m #[Value.ref b] below meth kc H locs cells slots Q (F0 m 373 ls []) := by
  obtain ⟨hx, hb, hml, hown, hts, hX, hbl, hK, hEX⟩ := C0
  obtain ⟨c, ev, r, g, sl, sv, z, o0, o1, kp, s0, s1, hP, hD, hS⟩ := hI
  have hA : ∀ q : Nat, s.heap.size ≤ q → (fun q : Nat => s.heap.size ≤ q) q := fun _ h => h
  have hbA : ¬ (fun q : Nat => s.heap.size ≤ q) b := Nat.not_le.mpr hbl
  have okc : okG c := kp.1.ok kp.2
  refine lv_aload_n hx hb dL_law_373 rfl (lv_at hl 2 rfl) ?_
  refine lv_aload_n hx hb dL_law_374 rfl (lv_at hl 3 rfl) ?_
  refine lv_iload_n hx hb dL_law_375 rfl (lv_at hl 0 rfl) ?_
  refine lv_iconst (v := nI 1) hx hb dL_law_376 (by decide) ?_
  refine my_iadd (x := i) (y := 1) hx hb dL_law_377 ?_
  refine my_sld (n := i + 1) hx hb hX hbl hbA hS (by omega) hL dL_law_378 ?_
  refine CI.callVU (wr := (cW cI ce ev) ++ (qB cR so (fO o0 o1)) ++ (tF cI cG sd (r 0) (r 1) (r 2) (r 3) (r 4) (r 5) (r 6) (r 7) (r 8) (r 9) (r 10)) ++ (mW cI cZ ad g sl sv (z 0) (z 1) (z 2) (z 3) (z 4))) (As := [.int (xs (i + 1))]) (rest := []) (w3 := (fun _ => LX cI cZ cR cG xo cd ce so sd ad c ev r g sl sv z (fO o0 o1))) (c_X2_value l dC dI cI cZ cR cG xo cd ce so sd c (xs (i + 1)) okc) ⟨hx, hb, hml, hown, hts⟩ (cwV 1 hts gL_law_X2_value rfl rfl rfl (by decide +kernel) ⟨(Nat.le_of_ble_eq_true rfl), (Nat.le_of_ble_eq_true rfl)⟩) rfl hl.1 (Nat.le_of_ble_eq_true rfl) dL_law_379 ⟨by show cells + 0 ≤ 600000; omega, by show slots + 0 ≤ 7302250; omega⟩ hA hS hP hK hD [0, 1, 2, 3, 4, 5, 6, 7, 8] [9, 10, 11, 12, 13, 14, 15, 16, 17, 18, 19, 20, 21, 22, 23, 24, 25, 26, 27, 28, 29, 30, 31, 32, 33, 34, 35, 36, 37, 38, 39, 40] rfl rfl (by decide) (by decide) (by decide) 0 2 rfl rfl [32, 33, 34, 35, 36, 37, 38, 39, 40, 0, 1, 2, 3, 4, 5, 6, 7, 8, 9, 10, 11, 12, 13, 14, 15, 16, 17, 18, 19, 20, 21, 22, 23, 24, 25, 26, 27, 28, 29, 30, 31] (by decide) (fun _ => rfl) (rfl) (fun _ H locs hp hP hD hS => ?_)
  refine lv_aload_n hx hb dL_law_382 rfl (lv_at hl 1 rfl) ?_
  refine lv_aload_n hx hb dL_law_383 rfl (lv_at hl 3 rfl) ?_
  refine lv_iload_n hx hb dL_law_384 rfl (lv_at hl 0 rfl) ?_
  refine lv_iconst (v := nI 1) hx hb dL_law_385 (by decide) ?_
  refine my_iadd (x := i) (y := 1) hx hb dL_law_386 ?_
  refine my_sld (n := i + 1) hx hb hX hbl hbA hS (by omega) hL dL_law_387 ?_
  refine CI.callVU (wr := (xB xo cd ce so sd) ++ (cW cI cd c) ++ (cW cI ce ev) ++ (qB cR so (fO o0 o1)) ++ (tF cI cG sd (r 0) (r 1) (r 2) (r 3) (r 4) (r 5) (r 6) (r 7) (r 8) (r 9) (r 10)) ++ ([(ad 2, .inl (cI, 580, .inl (nA sl))), (ad 3, .inl (cZ, 2, .inl sv)), (ad 4, .inl (cI, 24, .inl (nA (z 0)))), (ad 5, .inl (cI, 24, .inl (nA (z 1)))), (ad 6, .inl (cI, 24, .inl (nA (z 2)))), (ad 7, .inl (cI, 40, .inl (nA (z 3)))), (ad 8, .inl (cI, 290, .inl (nA (z 4))))])) (As := [.int (xs (i + 1))]) (rest := [_]) (w3 := (fun _ => LX cI cZ cR cG xo cd ce so sd ad c ev r g sl sv z (fO o0 o1))) (c_X3_value l dC dI cI cZ cR cG ad g (xs (i + 1)) kp.2) ⟨hx, hb, hml, hown, hts⟩ (cwV 1 hts gL_law_X3_value rfl rfl rfl (by decide +kernel) ⟨(Nat.le_of_ble_eq_true rfl), (Nat.le_of_ble_eq_true rfl)⟩) rfl hl.1 (Nat.le_of_ble_eq_true rfl) dL_law_388 ⟨by show cells + 0 + 0 ≤ 600000; omega, by show slots + 0 + 0 ≤ 7302250; omega⟩ hA hS hP hK hD [32, 33] [0, 1, 2, 3, 4, 5, 6, 7, 8, 9, 10, 11, 12, 13, 14, 15, 16, 17, 18, 19, 20, 21, 22, 23, 24, 25, 26, 27, 28, 29, 30, 31, 34, 35, 36, 37, 38, 39, 40] rfl rfl (by decide) (by decide) (by decide) 0 3 rfl rfl [0, 1, 2, 3, 4, 5, 6, 7, 8, 9, 10, 11, 12, 13, 14, 15, 16, 17, 18, 19, 20, 21, 22, 23, 24, 25, 26, 27, 28, 29, 30, 31, 39, 40, 32, 33, 34, 35, 36, 37, 38] (by decide) (fun _ => rfl) (rfl) (fun _ H locs hp hP hD hS => ?_)
  refine lv_icmp_eq (tgt := 807) hx hb dL_law_391 (by decide) (fun _ => ?_) (fun h9 => absurd (K_val kp (xs (i + 1))) h9)
  refine W.widen (show cells + 0 + 0 ≤ cells + 8 by omega) (show slots + 0 + 0 ≤ slots + 261 by omega) ?_
  exact cont _ _ ⟨c, ev, r, g, sl, sv, z, o0, o1, kp, s0, s1, hP, hD, hS⟩
set_option maxHeartbeats 8000000 in
set_option maxRecDepth 100000 in
theorem op_10 {p : Program} {e : Env} {s : State} {m : MethodId} {below : List Frame} {meth : Method} {kc : Code} (l : Launch) {b L : Nat} {xs : Nat → Int32} {dC : Nat → ClassId} {dI : Nat → Nat → Nat} {cI cZ cR cG : ClassId} (C0 : LC p s m kc b L xs dC dI cI cZ cR cG) {i : Nat} (hi : i + 6 ≤ L) (hL : L ≤ 3072) {xo : Nat} {cd ce : Nat → Nat} {so : Nat} {sd ad : Nat → Nat} {H : Heap} {locs : List Loc} {ls : Array Slot} {cells slots : Nat} {Q : State → Prop} (hcl : cells + 8 ≤ 600000) (hsl : slots + 261 ≤ 7302250) (hI : LI dC dI cI cZ cR cG xo cd ce so sd ad s.heap H locs) (hl : lv_has ls 4 [(3, .int (nI i)), (2, .ref (ad 0)), (1, .ref xo), (0, .ref b)])
    (cont : ∀ (H : Heap) (locs : List Loc), LI dC dI cI cZ cR cG xo cd ce so sd ad s.heap H locs → W p l e room_1 s m #[Value.ref b] below meth kc H locs (cells + 8) (slots + 261) Q (F0 m 807 ls [])) : W p l e room_1 s m #[Value.ref b] below meth kc H locs cells slots Q (F0 m 396 ls []) := by
  obtain ⟨hx, hb, hml, hown, hts, hX, hbl, hK, hEX⟩ := C0
  obtain ⟨c, ev, r, g, sl, sv, z, o0, o1, kp, s0, s1, hP, hD, hS⟩ := hI
  have hA : ∀ q : Nat, s.heap.size ≤ q → (fun q : Nat => s.heap.size ≤ q) q := fun _ h => h
  have hbA : ¬ (fun q : Nat => s.heap.size ≤ q) b := Nat.not_le.mpr hbl
  have okc : okG c := kp.1.ok kp.2
  refine lv_aload_n hx hb dL_law_396 rfl (lv_at hl 2 rfl) ?_
  refine lv_aload_n hx hb dL_law_397 rfl (lv_at hl 3 rfl) ?_
  refine lv_iload_n hx hb dL_law_398 rfl (lv_at hl 0 rfl) ?_
  refine lv_iconst (v := nI 1) hx hb dL_law_399 (by decide) ?_
  refine my_iadd (x := i) (y := 1) hx hb dL_law_400 ?_
  refine my_sld (n := i + 1) hx hb hX hbl hbA hS (by omega) hL dL_law_401 ?_
  refine CI.callVU (wr := (cW cI ce ev) ++ (qB cR so (fO o0 o1)) ++ (tF cI cG sd (r 0) (r 1) (r 2) (r 3) (r 4) (r 5) (r 6) (r 7) (r 8) (r 9) (r 10)) ++ (mW cI cZ ad g sl sv (z 0) (z 1) (z 2) (z 3) (z 4))) (As := [.int (xs (i + 1))]) (rest := []) (w3 := (fun _ => LX cI cZ cR cG xo cd ce so sd ad c ev r g sl sv z (fO o0 o1))) (c_X2_nodesWith l dC dI cI cZ cR cG xo cd ce so sd c (xs (i + 1)) okc) ⟨hx, hb, hml, hown, hts⟩ (cwV 1 hts gL_law_X2_nodesWith rfl rfl rfl (by decide +kernel) ⟨(Nat.le_of_ble_eq_true rfl), (Nat.le_of_ble_eq_true rfl)⟩) rfl hl.1 (Nat.le_of_ble_eq_true rfl) dL_law_402 ⟨by show cells + 0 ≤ 600000; omega, by show slots + 0 ≤ 7302250; omega⟩ hA hS hP hK hD [0, 1, 2, 3, 4, 5, 6, 7, 8] [9, 10, 11, 12, 13, 14, 15, 16, 17, 18, 19, 20, 21, 22, 23, 24, 25, 26, 27, 28, 29, 30, 31, 32, 33, 34, 35, 36, 37, 38, 39, 40] rfl rfl (by decide) (by decide) (by decide) 0 2 rfl rfl [32, 33, 34, 35, 36, 37, 38, 39, 40, 0, 1, 2, 3, 4, 5, 6, 7, 8, 9, 10, 11, 12, 13, 14, 15, 16, 17, 18, 19, 20, 21, 22, 23, 24, 25, 26, 27, 28, 29, 30, 31] (by decide) (fun _ => rfl) (rfl) (fun _ H locs hp hP hD hS => ?_)
  refine lv_aload_n hx hb dL_law_405 rfl (lv_at hl 1 rfl) ?_
  refine lv_aload_n hx hb dL_law_406 rfl (lv_at hl 3 rfl) ?_
  refine lv_iload_n hx hb dL_law_407 rfl (lv_at hl 0 rfl) ?_
  refine lv_iconst (v := nI 1) hx hb dL_law_408 (by decide) ?_
  refine my_iadd (x := i) (y := 1) hx hb dL_law_409 ?_
  refine my_sld (n := i + 1) hx hb hX hbl hbA hS (by omega) hL dL_law_410 ?_
  refine CI.callVU (wr := (xB xo cd ce so sd) ++ (cW cI cd c) ++ (cW cI ce ev) ++ (qB cR so (fO o0 o1)) ++ (tF cI cG sd (r 0) (r 1) (r 2) (r 3) (r 4) (r 5) (r 6) (r 7) (r 8) (r 9) (r 10)) ++ ([(ad 2, .inl (cI, 580, .inl (nA sl))), (ad 3, .inl (cZ, 2, .inl sv)), (ad 4, .inl (cI, 24, .inl (nA (z 0)))), (ad 5, .inl (cI, 24, .inl (nA (z 1)))), (ad 6, .inl (cI, 24, .inl (nA (z 2)))), (ad 7, .inl (cI, 40, .inl (nA (z 3)))), (ad 8, .inl (cI, 290, .inl (nA (z 4))))])) (As := [.int (xs (i + 1))]) (rest := [_]) (w3 := (fun _ => LX cI cZ cR cG xo cd ce so sd ad c ev r g sl sv z (fO o0 o1))) (c_X3_nodesWith l dC dI cI cZ cR cG ad g (xs (i + 1)) kp.2) ⟨hx, hb, hml, hown, hts⟩ (cwV 1 hts gL_law_X3_nodesWith rfl rfl rfl (by decide +kernel) ⟨(Nat.le_of_ble_eq_true rfl), (Nat.le_of_ble_eq_true rfl)⟩) rfl hl.1 (Nat.le_of_ble_eq_true rfl) dL_law_411 ⟨by show cells + 0 + 0 ≤ 600000; omega, by show slots + 0 + 0 ≤ 7302250; omega⟩ hA hS hP hK hD [32, 33] [0, 1, 2, 3, 4, 5, 6, 7, 8, 9, 10, 11, 12, 13, 14, 15, 16, 17, 18, 19, 20, 21, 22, 23, 24, 25, 26, 27, 28, 29, 30, 31, 34, 35, 36, 37, 38, 39, 40] rfl rfl (by decide) (by decide) (by decide) 0 3 rfl rfl [0, 1, 2, 3, 4, 5, 6, 7, 8, 9, 10, 11, 12, 13, 14, 15, 16, 17, 18, 19, 20, 21, 22, 23, 24, 25, 26, 27, 28, 29, 30, 31, 39, 40, 32, 33, 34, 35, 36, 37, 38] (by decide) (fun _ => rfl) (rfl) (fun _ H locs hp hP hD hS => ?_)
  refine lv_icmp_eq (tgt := 807) hx hb dL_law_414 (by decide) (fun _ => ?_) (fun h9 => absurd (K_with kp (xs (i + 1))) h9)
  refine W.widen (show cells + 0 + 0 ≤ cells + 8 by omega) (show slots + 0 + 0 ≤ slots + 261 by omega) ?_
  exact cont _ _ ⟨c, ev, r, g, sl, sv, z, o0, o1, kp, s0, s1, hP, hD, hS⟩
set_option maxHeartbeats 8000000 in
set_option maxRecDepth 100000 in
theorem op_11 {p : Program} {e : Env} {s : State} {m : MethodId} {below : List Frame} {meth : Method} {kc : Code} (l : Launch) {b L : Nat} {xs : Nat → Int32} {dC : Nat → ClassId} {dI : Nat → Nat → Nat} {cI cZ cR cG : ClassId} (C0 : LC p s m kc b L xs dC dI cI cZ cR cG) {i : Nat} (hi : i + 6 ≤ L) (hL : L ≤ 3072) {xo : Nat} {cd ce : Nat → Nat} {so : Nat} {sd ad : Nat → Nat} {H : Heap} {locs : List Loc} {ls : Array Slot} {cells slots : Nat} {Q : State → Prop} (hcl : cells + 8 ≤ 600000) (hsl : slots + 261 ≤ 7302250) (hI : LI dC dI cI cZ cR cG xo cd ce so sd ad s.heap H locs) (hl : lv_has ls 4 [(3, .int (nI i)), (2, .ref (ad 0)), (1, .ref xo), (0, .ref b)])
    (cont : ∀ (H : Heap) (locs : List Loc), LI dC dI cI cZ cR cG xo cd ce so sd ad s.heap H locs → W p l e room_1 s m #[Value.ref b] below meth kc H locs (cells + 8) (slots + 261) Q (F0 m 807 ls [])) : W p l e room_1 s m #[Value.ref b] below meth kc H locs cells slots Q (F0 m 419 ls []) := by
  obtain ⟨hx, hb, hml, hown, hts, hX, hbl, hK, hEX⟩ := C0
  obtain ⟨c, ev, r, g, sl, sv, z, o0, o1, kp, s0, s1, hP, hD, hS⟩ := hI
  have hA : ∀ q : Nat, s.heap.size ≤ q → (fun q : Nat => s.heap.size ≤ q) q := fun _ h => h
  have hbA : ¬ (fun q : Nat => s.heap.size ≤ q) b := Nat.not_le.mpr hbl
  have okc : okG c := kp.1.ok kp.2
  refine lv_aload_n hx hb dL_law_419 rfl (lv_at hl 2 rfl) ?_
  refine lv_aload_n hx hb dL_law_420 rfl (lv_at hl 3 rfl) ?_
  refine lv_iload_n hx hb dL_law_421 rfl (lv_at hl 0 rfl) ?_
  refine lv_iconst (v := nI 1) hx hb dL_law_422 (by decide) ?_
  refine my_iadd (x := i) (y := 1) hx hb dL_law_423 ?_
  refine my_sld (n := i + 1) hx hb hX hbl hbA hS (by omega) hL dL_law_424 ?_
  refine CI.callVU (wr := (cW cI ce ev) ++ (qB cR so (fO o0 o1)) ++ (tF cI cG sd (r 0) (r 1) (r 2) (r 3) (r 4) (r 5) (r 6) (r 7) (r 8) (r 9) (r 10)) ++ (mW cI cZ ad g sl sv (z 0) (z 1) (z 2) (z 3) (z 4))) (As := [.int (xs (i + 1))]) (rest := []) (w3 := (fun _ => LX cI cZ cR cG xo cd ce so sd ad c ev r g sl sv z (fO o0 o1))) (c_X2_switchState l dC dI cI cZ cR cG xo cd ce so sd c (xs (i + 1)) okc) ⟨hx, hb, hml, hown, hts⟩ (cwV 1 hts gL_law_X2_switchState rfl rfl rfl (by decide +kernel) ⟨(Nat.le_of_ble_eq_true rfl), (Nat.le_of_ble_eq_true rfl)⟩) rfl hl.1 (Nat.le_of_ble_eq_true rfl) dL_law_425 ⟨by show cells + 0 ≤ 600000; omega, by show slots + 0 ≤ 7302250; omega⟩ hA hS hP hK hD [0, 1, 2, 3, 4, 5, 6, 7, 8] [9, 10, 11, 12, 13, 14, 15, 16, 17, 18, 19, 20, 21, 22, 23, 24, 25, 26, 27, 28, 29, 30, 31, 32, 33, 34, 35, 36, 37, 38, 39, 40] rfl rfl (by decide) (by decide) (by decide) 0 2 rfl rfl [32, 33, 34, 35, 36, 37, 38, 39, 40, 0, 1, 2, 3, 4, 5, 6, 7, 8, 9, 10, 11, 12, 13, 14, 15, 16, 17, 18, 19, 20, 21, 22, 23, 24, 25, 26, 27, 28, 29, 30, 31] (by decide) (fun _ => rfl) (rfl) (fun _ H locs hp hP hD hS => ?_)
  refine lv_aload_n hx hb dL_law_428 rfl (lv_at hl 1 rfl) ?_
  refine lv_aload_n hx hb dL_law_429 rfl (lv_at hl 3 rfl) ?_
  refine lv_iload_n hx hb dL_law_430 rfl (lv_at hl 0 rfl) ?_
  refine lv_iconst (v := nI 1) hx hb dL_law_431 (by decide) ?_
  refine my_iadd (x := i) (y := 1) hx hb dL_law_432 ?_
  refine my_sld (n := i + 1) hx hb hX hbl hbA hS (by omega) hL dL_law_433 ?_
  refine CI.callVU (wr := (xB xo cd ce so sd) ++ (cW cI cd c) ++ (cW cI ce ev) ++ (qB cR so (fO o0 o1)) ++ (tF cI cG sd (r 0) (r 1) (r 2) (r 3) (r 4) (r 5) (r 6) (r 7) (r 8) (r 9) (r 10)) ++ ([(ad 2, .inl (cI, 580, .inl (nA sl))), (ad 3, .inl (cZ, 2, .inl sv)), (ad 4, .inl (cI, 24, .inl (nA (z 0)))), (ad 5, .inl (cI, 24, .inl (nA (z 1)))), (ad 6, .inl (cI, 24, .inl (nA (z 2)))), (ad 7, .inl (cI, 40, .inl (nA (z 3)))), (ad 8, .inl (cI, 290, .inl (nA (z 4))))])) (As := [.int (xs (i + 1))]) (rest := [_]) (w3 := (fun _ => LX cI cZ cR cG xo cd ce so sd ad c ev r g sl sv z (fO o0 o1))) (c_X3_switchState l dC dI cI cZ cR cG ad g (xs (i + 1)) kp.2) ⟨hx, hb, hml, hown, hts⟩ (cwV 1 hts gL_law_X3_switchState rfl rfl rfl (by decide +kernel) ⟨(Nat.le_of_ble_eq_true rfl), (Nat.le_of_ble_eq_true rfl)⟩) rfl hl.1 (Nat.le_of_ble_eq_true rfl) dL_law_434 ⟨by show cells + 0 + 0 ≤ 600000; omega, by show slots + 0 + 0 ≤ 7302250; omega⟩ hA hS hP hK hD [32, 33] [0, 1, 2, 3, 4, 5, 6, 7, 8, 9, 10, 11, 12, 13, 14, 15, 16, 17, 18, 19, 20, 21, 22, 23, 24, 25, 26, 27, 28, 29, 30, 31, 34, 35, 36, 37, 38, 39, 40] rfl rfl (by decide) (by decide) (by decide) 0 3 rfl rfl [0, 1, 2, 3, 4, 5, 6, 7, 8, 9, 10, 11, 12, 13, 14, 15, 16, 17, 18, 19, 20, 21, 22, 23, 24, 25, 26, 27, 28, 29, 30, 31, 39, 40, 32, 33, 34, 35, 36, 37, 38] (by decide) (fun _ => rfl) (rfl) (fun _ H locs hp hP hD hS => ?_)
  refine lv_icmp_eq (tgt := 807) hx hb dL_law_437 (by decide) (fun _ => ?_) (fun h9 => absurd (K_sw kp (xs (i + 1))) h9)
  refine W.widen (show cells + 0 + 0 ≤ cells + 8 by omega) (show slots + 0 + 0 ≤ slots + 261 by omega) ?_
  exact cont _ _ ⟨c, ev, r, g, sl, sv, z, o0, o1, kp, s0, s1, hP, hD, hS⟩
set_option maxHeartbeats 8000000 in
set_option maxRecDepth 100000 in
theorem op_12 {p : Program} {e : Env} {s : State} {m : MethodId} {below : List Frame} {meth : Method} {kc : Code} (l : Launch) {b L : Nat} {xs : Nat → Int32} {dC : Nat → ClassId} {dI : Nat → Nat → Nat} {cI cZ cR cG : ClassId} (C0 : LC p s m kc b L xs dC dI cI cZ cR cG) {i : Nat} (hi : i + 6 ≤ L) (hL : L ≤ 3072) {xo : Nat} {cd ce : Nat → Nat} {so : Nat} {sd ad : Nat → Nat} {H : Heap} {locs : List Loc} {ls : Array Slot} {cells slots : Nat} {Q : State → Prop} (hcl : cells + 8 ≤ 600000) (hsl : slots + 261 ≤ 7302250) (hI : LI dC dI cI cZ cR cG xo cd ce so sd ad s.heap H locs) (hl : lv_has ls 4 [(3, .int (nI i)), (2, .ref (ad 0)), (1, .ref xo), (0, .ref b)])
    (cont : ∀ (H : Heap) (locs : List Loc), LI dC dI cI cZ cR cG xo cd ce so sd ad s.heap H locs → W p l e room_1 s m #[Value.ref b] below meth kc H locs (cells + 8) (slots + 261) Q (F0 m 807 ls [])) : W p l e room_1 s m #[Value.ref b] below meth kc H locs cells slots Q (F0 m 442 ls []) := by
  obtain ⟨hx, hb, hml, hown, hts, hX, hbl, hK, hEX⟩ := C0
  obtain ⟨c, ev, r, g, sl, sv, z, o0, o1, kp, s0, s1, hP, hD, hS⟩ := hI
  have hA : ∀ q : Nat, s.heap.size ≤ q → (fun q : Nat => s.heap.size ≤ q) q := fun _ h => h
  have hbA : ¬ (fun q : Nat => s.heap.size ≤ q) b := Nat.not_le.mpr hbl
  have okc : okG c := kp.1.ok kp.2
  refine lv_aload_n hx hb dL_law_442 rfl (lv_at hl 2 rfl) ?_
  refine lv_aload_n hx hb dL_law_443 rfl (lv_at hl 3 rfl) ?_
  refine lv_iload_n hx hb dL_law_444 rfl (lv_at hl 0 rfl) ?_
  refine lv_iconst (v := nI 1) hx hb dL_law_445 (by decide) ?_
  refine my_iadd (x := i) (y := 1) hx hb dL_law_446 ?_
  refine my_sld (n := i + 1) hx hb hX hbl hbA hS (by omega) hL dL_law_447 ?_
  refine CI.callVU (wr := (cW cI ce ev) ++ (qB cR so (fO o0 o1)) ++ (mW cI cZ ad g sl sv (z 0) (z 1) (z 2) (z 3) (z 4))) (As := [.int (xs (i + 1))]) (rest := []) (w3 := (fun u => LX cI cZ cR cG xo cd ce so sd ad c ev (rU u r) g sl sv z (fO o0 o1))) (c_X2_definiteStrength l dC dI cI cZ cR cG xo cd ce so sd (r 0) (r 1) (r 2) (r 3) (r 4) (r 5) (r 6) (r 7) (r 8) (r 9) (r 10) c (xs (i + 1)) okc) ⟨hx, hb, hml, hown, hts⟩ (cwV 1 hts gL_law_X2_definiteStrength rfl rfl rfl (by decide +kernel) ⟨(Nat.le_of_ble_eq_true rfl), (Nat.le_of_ble_eq_true rfl)⟩) rfl hl.1 (Nat.le_of_ble_eq_true rfl) dL_law_448 ⟨by show cells + 0 ≤ 600000; omega, by show slots + 0 ≤ 7302250; omega⟩ hA hS hP hK hD [0, 18, 19, 20, 21, 22, 23, 24, 25, 26, 27, 28, 29, 30, 31, 1, 2, 3, 4, 5, 6, 7, 8] [9, 10, 11, 12, 13, 14, 15, 16, 17, 32, 33, 34, 35, 36, 37, 38, 39, 40] rfl rfl (by decide) (by decide) (by decide) 0 2 rfl rfl [18, 33, 34, 35, 36, 37, 38, 39, 40, 0, 1, 2, 3, 4, 5, 6, 7, 8, 19, 20, 21, 22, 23, 24, 25, 26, 27, 28, 29, 30, 31, 32, 9, 10, 11, 12, 13, 14, 15, 16, 17] (by decide) (fun _ => rfl) (rfl) (fun u H locs hp hP hD hS => ?_)
  refine lv_aload_n hx hb dL_law_451 rfl (lv_at hl 1 rfl) ?_
  refine lv_aload_n hx hb dL_law_452 rfl (lv_at hl 3 rfl) ?_
  refine lv_iload_n hx hb dL_law_453 rfl (lv_at hl 0 rfl) ?_
  refine lv_iconst (v := nI 1) hx hb dL_law_454 (by decide) ?_
  refine my_iadd (x := i) (y := 1) hx hb dL_law_455 ?_
  refine my_sld (n := i + 1) hx hb hX hbl hbA hS (by omega) hL dL_law_456 ?_
  refine CI.callVU (wr := (xB xo cd ce so sd) ++ (cW cI cd c) ++ (cW cI ce ev) ++ (qB cR so (fO o0 o1)) ++ (tF cI cG sd ((rU u r) 0) ((rU u r) 1) ((rU u r) 2) ((rU u r) 3) ((rU u r) 4) ((rU u r) 5) ((rU u r) 6) ((rU u r) 7) ((rU u r) 8) ((rU u r) 9) ((rU u r) 10)) ++ ([(ad 2, .inl (cI, 580, .inl (nA sl))), (ad 3, .inl (cZ, 2, .inl sv)), (ad 8, .inl (cI, 290, .inl (nA (z 4))))])) (As := [.int (xs (i + 1))]) (rest := [_]) (w3 := (fun v => LX cI cZ cR cG xo cd ce so sd ad c ev (rU u r) g sl sv (z4 v z) (fO o0 o1))) (c_X3_definiteStrength l dC dI cI cZ cR cG ad g (z 0) (z 3) (z 1) (z 2) (xs (i + 1)) kp.2) ⟨hx, hb, hml, hown, hts⟩ (cwV 1 hts gL_law_X3_definiteStrength rfl rfl rfl (by decide +kernel) ⟨(Nat.le_of_ble_eq_true rfl), (Nat.le_of_ble_eq_true rfl)⟩) rfl hl.1 (Nat.le_of_ble_eq_true rfl) dL_law_457 ⟨by show cells + 0 + 0 ≤ 600000; omega, by show slots + 0 + 0 ≤ 7302250; omega⟩ hA hS hP hK hD [32, 33, 36, 39, 37, 38] [0, 1, 2, 3, 4, 5, 6, 7, 8, 9, 10, 11, 12, 13, 14, 15, 16, 17, 18, 19, 20, 21, 22, 23, 24, 25, 26, 27, 28, 29, 30, 31, 34, 35, 40] rfl rfl (by decide) (by decide) (by decide) 0 3 rfl rfl [0, 1, 2, 3, 4, 5, 6, 7, 8, 9, 10, 11, 12, 13, 14, 15, 16, 17, 18, 19, 20, 21, 22, 23, 24, 25, 26, 27, 28, 29, 30, 31, 35, 36, 32, 33, 37, 39, 40, 38, 34] (by decide) (fun _ => rfl) (rfl) (fun v H locs hp hP hD hS => ?_)
  refine lv_icmp_eq (tgt := 807) hx hb dL_law_460 (by decide) (fun _ => ?_) (fun h9 => absurd (K_q kp (xs (i + 1))) h9)
  refine W.widen (show cells + 0 + 0 ≤ cells + 8 by omega) (show slots + 0 + 0 ≤ slots + 261 by omega) ?_
  exact cont _ _ ⟨c, ev, (rU u r), g, sl, sv, (z4 v z), o0, o1, kp, s0, s1, hP, hD, hS⟩
