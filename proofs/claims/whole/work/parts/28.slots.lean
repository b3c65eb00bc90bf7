/-! the law's save and restore -/
theorem nilP {D : va_G} {cl : List vw_C} {a b : va_W} {H : Heap} {cI : ClassId} (h : va_P D cl (a ++ (b ++ sB cI none)) H) : va_P D cl (a ++ b) H := by
  have e : b ++ sB cI none = b := List.append_nil b
  rw [e] at h; exact h
theorem nilD {A : Nat → Prop} {a b : va_W} {cI : ClassId} (h : va_D A (a ++ (b ++ sB cI none))) : va_D A (a ++ b) := by
  have e : b ++ sB cI none = b := List.append_nil b
  rw [e] at h; exact h
theorem fO_s0 (o1 : SO) (ck d d' : Nat → Nat) : fO (some (ck, d)) o1 = fO (some (ck, d')) o1 := by
  funext k
  match k with
  | 0 => rfl
  | 1 => rfl
  | k + 2 => rfl
theorem fO_s1 (o0 : SO) (ck d d' : Nat → Nat) : fO o0 (some (ck, d)) = fO o0 (some (ck, d')) := by
  funext k
  match k with
  | 0 => rfl
  | 1 => rfl
  | k + 2 => rfl
set_option maxHeartbeats 8000000 in
set_option maxRecDepth 100000 in
theorem op_25 {p : Program} {e : Env} {s : State} {m : MethodId} {below : List Frame} {meth : Method} {kc : Code} (l : Launch) {b L : Nat} {xs : Nat → Int32} {dC : Nat → ClassId} {dI : Nat → Nat → Nat} {cI cZ cR cG : ClassId} (C0 : LC p s m kc b L xs dC dI cI cZ cR cG) {i : Nat} (hi : i + 6 ≤ L) (hL : L ≤ 3072) {xo : Nat} {cd ce : Nat → Nat} {so : Nat} {sd ad : Nat → Nat} {H : Heap} {locs : List Loc} {ls : Array Slot} {cells slots : Nat} {Q : State → Prop} (hcl : cells + 8 ≤ 600000) (hsl : slots + 261 ≤ 7302250) (hI : LI dC dI cI cZ cR cG xo cd ce so sd ad s.heap H locs) (hl : lv_has ls 4 [(3, .int (nI i)), (2, .ref (ad 0)), (1, .ref xo), (0, .ref b)])
    (cont : ∀ (H : Heap) (locs : List Loc), LI dC dI cI cZ cR cG xo cd ce so sd ad s.heap H locs → W p l e room_1 s m #[Value.ref b] below meth kc H locs (cells + 8) (slots + 261) Q (F0 m 807 ls [])) : W p l e room_1 s m #[Value.ref b] below meth kc H locs cells slots Q (F0 m 761 ls []) := by
  obtain ⟨hx, hb, hml, hown, hts, hX, hbl, hK, hEX⟩ := C0
  obtain ⟨c, ev, r, g, sl, sv, z, o0, o1, kp, s0, s1, hP, hD, hS⟩ := hI
  have hA : ∀ q : Nat, s.heap.size ≤ q → (fun q : Nat => s.heap.size ≤ q) q := fun _ h => h
  have hbA : ¬ (fun q : Nat => s.heap.size ≤ q) b := Nat.not_le.mpr hbl
  have okc : okG c := kp.1.ok kp.2
  refine lv_aload_n hx hb dL_law_761 rfl (lv_at hl 2 rfl) ?_
  refine lv_aload_n hx hb dL_law_762 rfl (lv_at hl 3 rfl) ?_
  refine lv_iload_n hx hb dL_law_763 rfl (lv_at hl 0 rfl) ?_
  refine lv_iconst (v := nI 1) hx hb dL_law_764 (by decide) ?_
  refine my_iadd (x := i) (y := 1) hx hb dL_law_765 ?_
  refine my_sld (n := i + 1) hx hb hX hbl hbA hS (by omega) hL dL_law_766 ?_
  by_cases e1 : inR (xs (i + 1)) 0 1 = true
  · obtain ⟨j, -, hj, -, hxj, hnx⟩ := inR_at e1
    have hnx : nx (xs (i + 1)) = j := hnx
    have f1 : aSave g (xs (i + 1)) = nI (g 0) := by unfold aSave; rw [if_pos e1]
    have f2 : slSave g sl (xs (i + 1)) = svS sl j g 290 := by unfold slSave; rw [if_pos e1, hnx]
    have f3 : svSave sv (xs (i + 1)) = upd sv j 1 := by unfold svSave; rw [if_pos e1, hnx]
    rcases (show j = 0 ∨ j = 1 by omega) with rfl | rfl
    · cases o0 with
      | none =>
        have hP : va_P (dC, dI) vwCl (LX cI cZ cR cG xo cd ce so sd ad c ev r g sl sv z (fO none o1) ++ sB cI o1) H := hP
        have hD : va_D (fun q => s.heap.size ≤ q) (LX cI cZ cR cG xo cd ce so sd ad c ev r g sl sv z (fO none o1) ++ sB cI o1) := hD
        refine XI.callVU (wr := (cW cI ce ev) ++ (tF cI cG sd (r 0) (r 1) (r 2) (r 3) (r 4) (r 5) (r 6) (r 7) (r 8) (r 9) (r 10)) ++ (mW cI cZ ad g sl sv (z 0) (z 1) (z 2) (z 3) (z 4))) (As := [.int (nI 0)]) (rest := []) (w3 := (fun u => LX cI cZ cR cG xo cd ce so sd ad c ev r g sl sv z (va_up (fO none o1) 0 (some (u 0))) ++ cW cI u (cpy c (fun _ => 0)))) hEX (c_X2_saveN l dC dI cI cZ cR cG xo cd ce so sd c (fO none o1) 0 (by decide) rfl okc) ⟨hx, hb, hml, hown, hts⟩ (cwV 1 hts gL_law_X2_save rfl rfl rfl (by decide +kernel) ⟨(Nat.le_of_ble_eq_true rfl), (Nat.le_of_ble_eq_true rfl)⟩) rfl hl.1 (Nat.le_of_ble_eq_true rfl) dL_law_767 ⟨by show cells + 8 ≤ 600000; omega, by show slots + 261 ≤ 7302250; omega⟩ hA hS hP hK hD [0, 1, 2, 3, 4, 5, 6, 7, 8, 17] [9, 10, 11, 12, 13, 14, 15, 16, 18, 19, 20, 21, 22, 23, 24, 25, 26, 27, 28, 29, 30, 31, 32, 33, 34, 35, 36, 37, 38, 39, 40] rfl rfl (by decide) (by decide) (by decide) 0 2 rfl rfl [31, 32, 33, 34, 35, 36, 37, 38, 39, 0, 1, 2, 3, 4, 5, 6, 7, 40, 8, 9, 10, 11, 12, 13, 14, 15, 16, 17, 18, 19, 20, 21, 22, 23, 24, 25, 26, 27, 28, 29, 30, 41, 42, 43, 44, 45, 46, 47, 48] (by decide) (fun _ => rfl) (by rw [hxj]; rfl) (fun u H locs hp hP hD hS => ?_)
        refine lv_aload_n hx hb dL_law_770 rfl (lv_at hl 1 rfl) ?_
        refine lv_aload_n hx hb dL_law_771 rfl (lv_at hl 3 rfl) ?_
        refine lv_iload_n hx hb dL_law_772 rfl (lv_at hl 0 rfl) ?_
        refine lv_iconst (v := nI 1) hx hb dL_law_773 (by decide) ?_
        refine my_iadd (x := i) (y := 1) hx hb dL_law_774 ?_
        refine my_sld (n := i + 1) hx hb hX hbl hbA hS (by omega) hL dL_law_775 ?_
        refine CI.callVU (wr := (xB xo cd ce so sd) ++ (cW cI cd c) ++ (cW cI ce ev) ++ (qB cR so (va_up (fO none o1) 0 (some (u 0)))) ++ (tF cI cG sd (r 0) (r 1) (r 2) (r 3) (r 4) (r 5) (r 6) (r 7) (r 8) (r 9) (r 10)) ++ ([(ad 4, .inl (cI, 24, .inl (nA (z 0)))), (ad 5, .inl (cI, 24, .inl (nA (z 1)))), (ad 6, .inl (cI, 24, .inl (nA (z 2)))), (ad 7, .inl (cI, 40, .inl (nA (z 3)))), (ad 8, .inl (cI, 290, .inl (nA (z 4))))]) ++ (cW cI u (cpy c (fun _ => 0)))) (As := [.int (xs (i + 1))]) (rest := [_]) (w3 := (fun _ => LX cI cZ cR cG xo cd ce so sd ad c ev r g (slSave g sl (xs (i + 1))) (svSave sv (xs (i + 1))) z (va_up (fO none o1) 0 (some (u 0))) ++ cW cI u (cpy c (fun _ => 0)))) (c_X3_save l dC dI cI cZ cR cG ad g sl sv (xs (i + 1))) ⟨hx, hb, hml, hown, hts⟩ (cwV 1 hts gL_law_X3_save rfl rfl rfl (by decide +kernel) ⟨(Nat.le_of_ble_eq_true rfl), (Nat.le_of_ble_eq_true rfl)⟩) rfl hl.1 (Nat.le_of_ble_eq_true rfl) dL_law_776 ⟨by show cells + 8 + 0 ≤ 600000; omega, by show slots + 261 + 0 ≤ 7302250; omega⟩ hA hS hP hK hD [32, 33, 34, 35] [0, 1, 2, 3, 4, 5, 6, 7, 8, 9, 10, 11, 12, 13, 14, 15, 16, 17, 18, 19, 20, 21, 22, 23, 24, 25, 26, 27, 28, 29, 30, 31, 36, 37, 38, 39, 40, 41, 42, 43, 44, 45, 46, 47, 48] rfl rfl (by decide) (by decide) (by decide) 0 3 rfl rfl [0, 1, 2, 3, 4, 5, 6, 7, 8, 9, 10, 11, 12, 13, 14, 15, 16, 17, 18, 19, 20, 21, 22, 23, 24, 25, 26, 27, 28, 29, 30, 31, 45, 46, 47, 48, 32, 33, 34, 35, 36, 37, 38, 39, 40, 41, 42, 43, 44] (by decide) (fun _ => rfl) (rfl) (fun _ H locs hp hP hD hS => ?_)
        refine lv_icmp_eq (tgt := 807) hx hb dL_law_779 (by decide) (fun _ => ?_) (fun h9 => absurd (show nI (c 0) = aSave g (xs (i + 1)) by rw [f1]; exact congrArg nI kp.1.1) h9)
        refine W.widen (show cells + 8 + 0 ≤ cells + 8 by omega) (show slots + 261 + 0 ≤ slots + 261 by omega) ?_
        rw [f2, f3] at hP hD
        have e9 : va_up (fO none o1) 0 (some (u 0)) = (fO (some (u, cpy c (fun _ => 0))) o1) := fO_up0 o1 (u, cpy c (fun _ => 0))
        rw [e9] at hP hD
        exact cont _ _ ⟨c, ev, r, g, svS sl 0 g 290, upd sv 0 1, z, some (u, cpy c (fun _ => 0)), o1, kp, SR_new kp, SR_other s1 (by decide), hP.asc, hD.asc, hS⟩
      | some q =>
        obtain ⟨ck, d⟩ := q
        have hP : va_P (dC, dI) vwCl (LX cI cZ cR cG xo cd ce so sd ad c ev r g sl sv z (fO (some (ck, d)) o1) ++ cW cI ck d ++ sB cI o1) H := va_P.csa hP
        have hD : va_D (fun q => s.heap.size ≤ q) (LX cI cZ cR cG xo cd ce so sd ad c ev r g sl sv z (fO (some (ck, d)) o1) ++ cW cI ck d ++ sB cI o1) := va_D.csa hD
        refine CI.callVU (wr := (cW cI ce ev) ++ (tF cI cG sd (r 0) (r 1) (r 2) (r 3) (r 4) (r 5) (r 6) (r 7) (r 8) (r 9) (r 10)) ++ (mW cI cZ ad g sl sv (z 0) (z 1) (z 2) (z 3) (z 4))) (As := [.int (nI 0)]) (rest := []) (w3 := (fun _ => LX cI cZ cR cG xo cd ce so sd ad c ev r g sl sv z (fO (some (ck, d)) o1) ++ cW cI ck (cpy c d))) (c_X2_saveS l dC dI cI cZ cR cG xo cd ce so sd c (fO (some (ck, d)) o1) 0 (by decide) ck d rfl okc) ⟨hx, hb, hml, hown, hts⟩ (cwV 1 hts gL_law_X2_save rfl rfl rfl (by decide +kernel) ⟨(Nat.le_of_ble_eq_true rfl), (Nat.le_of_ble_eq_true rfl)⟩) rfl hl.1 (Nat.le_of_ble_eq_true rfl) dL_law_767 ⟨by show cells + 0 ≤ 600000; omega, by show slots + 0 ≤ 7302250; omega⟩ hA hS hP hK hD [0, 1, 2, 3, 4, 5, 6, 7, 8, 17, 41, 42, 43, 44, 45, 46, 47, 48] [9, 10, 11, 12, 13, 14, 15, 16, 18, 19, 20, 21, 22, 23, 24, 25, 26, 27, 28, 29, 30, 31, 32, 33, 34, 35, 36, 37, 38, 39, 40] rfl rfl (by decide) (by decide) (by decide) 0 2 rfl rfl [31, 32, 33, 34, 35, 36, 37, 38, 39, 0, 1, 2, 3, 4, 5, 6, 7, 40, 8, 9, 10, 11, 12, 13, 14, 15, 16, 17, 18, 19, 20, 21, 22, 23, 24, 25, 26, 27, 28, 29, 30, 41, 42, 43, 44, 45, 46, 47, 48] (by decide) (fun _ => rfl) (by rw [hxj]; rfl) (fun _ H locs hp hP hD hS => ?_)
        refine lv_aload_n hx hb dL_law_770 rfl (lv_at hl 1 rfl) ?_
        refine lv_aload_n hx hb dL_law_771 rfl (lv_at hl 3 rfl) ?_
        refine lv_iload_n hx hb dL_law_772 rfl (lv_at hl 0 rfl) ?_
        refine lv_iconst (v := nI 1) hx hb dL_law_773 (by decide) ?_
        refine my_iadd (x := i) (y := 1) hx hb dL_law_774 ?_
        refine my_sld (n := i + 1) hx hb hX hbl hbA hS (by omega) hL dL_law_775 ?_
        refine CI.callVU (wr := (xB xo cd ce so sd) ++ (cW cI cd c) ++ (cW cI ce ev) ++ (qB cR so (fO (some (ck, d)) o1)) ++ (tF cI cG sd (r 0) (r 1) (r 2) (r 3) (r 4) (r 5) (r 6) (r 7) (r 8) (r 9) (r 10)) ++ ([(ad 4, .inl (cI, 24, .inl (nA (z 0)))), (ad 5, .inl (cI, 24, .inl (nA (z 1)))), (ad 6, .inl (cI, 24, .inl (nA (z 2)))), (ad 7, .inl (cI, 40, .inl (nA (z 3)))), (ad 8, .inl (cI, 290, .inl (nA (z 4))))]) ++ (cW cI ck (cpy c d))) (As := [.int (xs (i + 1))]) (rest := [_]) (w3 := (fun _ => LX cI cZ cR cG xo cd ce so sd ad c ev r g (slSave g sl (xs (i + 1))) (svSave sv (xs (i + 1))) z (fO (some (ck, d)) o1) ++ cW cI ck (cpy c d))) (c_X3_save l dC dI cI cZ cR cG ad g sl sv (xs (i + 1))) ⟨hx, hb, hml, hown, hts⟩ (cwV 1 hts gL_law_X3_save rfl rfl rfl (by decide +kernel) ⟨(Nat.le_of_ble_eq_true rfl), (Nat.le_of_ble_eq_true rfl)⟩) rfl hl.1 (Nat.le_of_ble_eq_true rfl) dL_law_776 ⟨by show cells + 0 + 0 ≤ 600000; omega, by show slots + 0 + 0 ≤ 7302250; omega⟩ hA hS hP hK hD [32, 33, 34, 35] [0, 1, 2, 3, 4, 5, 6, 7, 8, 9, 10, 11, 12, 13, 14, 15, 16, 17, 18, 19, 20, 21, 22, 23, 24, 25, 26, 27, 28, 29, 30, 31, 36, 37, 38, 39, 40, 41, 42, 43, 44, 45, 46, 47, 48] rfl rfl (by decide) (by decide) (by decide) 0 3 rfl rfl [0, 1, 2, 3, 4, 5, 6, 7, 8, 9, 10, 11, 12, 13, 14, 15, 16, 17, 18, 19, 20, 21, 22, 23, 24, 25, 26, 27, 28, 29, 30, 31, 45, 46, 47, 48, 32, 33, 34, 35, 36, 37, 38, 39, 40, 41, 42, 43, 44] (by decide) (fun _ => rfl) (rfl) (fun _ H locs hp hP hD hS => ?_)
        refine lv_icmp_eq (tgt := 807) hx hb dL_law_779 (by decide) (fun _ => ?_) (fun h9 => absurd (show nI (c 0) = aSave g (xs (i + 1)) by rw [f1]; exact congrArg nI kp.1.1) h9)
        refine W.widen (show cells + 0 + 0 ≤ cells + 8 by omega) (show slots + 0 + 0 ≤ slots + 261 by omega) ?_
        rw [f2, f3] at hP hD
        rw [fO_s0 o1 ck d (cpy c d)] at hP hD
        exact cont _ _ ⟨c, ev, r, g, svS sl 0 g 290, upd sv 0 1, z, some (ck, cpy c d), o1, kp, SR_new kp, SR_other s1 (by decide), hP.asc, hD.asc, hS⟩
    · cases o1 with
      | none =>
        have hP : va_P (dC, dI) vwCl (LX cI cZ cR cG xo cd ce so sd ad c ev r g sl sv z (fO o0 none) ++ sB cI o0) H := nilP hP
        have hD : va_D (fun q => s.heap.size ≤ q) (LX cI cZ cR cG xo cd ce so sd ad c ev r g sl sv z (fO o0 none) ++ sB cI o0) := nilD hD
        refine XI.callVU (wr := (cW cI ce ev) ++ (tF cI cG sd (r 0) (r 1) (r 2) (r 3) (r 4) (r 5) (r 6) (r 7) (r 8) (r 9) (r 10)) ++ (mW cI cZ ad g sl sv (z 0) (z 1) (z 2) (z 3) (z 4))) (As := [.int (nI 1)]) (rest := []) (w3 := (fun u => LX cI cZ cR cG xo cd ce so sd ad c ev r g sl sv z (va_up (fO o0 none) 1 (some (u 0))) ++ cW cI u (cpy c (fun _ => 0)))) hEX (c_X2_saveN l dC dI cI cZ cR cG xo cd ce so sd c (fO o0 none) 1 (by decide) rfl okc) ⟨hx, hb, hml, hown, hts⟩ (cwV 1 hts gL_law_X2_save rfl rfl rfl (by decide +kernel) ⟨(Nat.le_of_ble_eq_true rfl), (Nat.le_of_ble_eq_true rfl)⟩) rfl hl.1 (Nat.le_of_ble_eq_true rfl) dL_law_767 ⟨by show cells + 8 ≤ 600000; omega, by show slots + 261 ≤ 7302250; omega⟩ hA hS hP hK hD [0, 1, 2, 3, 4, 5, 6, 7, 8, 17] [9, 10, 11, 12, 13, 14, 15, 16, 18, 19, 20, 21, 22, 23, 24, 25, 26, 27, 28, 29, 30, 31, 32, 33, 34, 35, 36, 37, 38, 39, 40] rfl rfl (by decide) (by decide) (by decide) 0 2 rfl rfl [31, 32, 33, 34, 35, 36, 37, 38, 39, 0, 1, 2, 3, 4, 5, 6, 7, 40, 8, 9, 10, 11, 12, 13, 14, 15, 16, 17, 18, 19, 20, 21, 22, 23, 24, 25, 26, 27, 28, 29, 30, 41, 42, 43, 44, 45, 46, 47, 48] (by decide) (fun _ => rfl) (by rw [hxj]; rfl) (fun u H locs hp hP hD hS => ?_)
        refine lv_aload_n hx hb dL_law_770 rfl (lv_at hl 1 rfl) ?_
        refine lv_aload_n hx hb dL_law_771 rfl (lv_at hl 3 rfl) ?_
        refine lv_iload_n hx hb dL_law_772 rfl (lv_at hl 0 rfl) ?_
        refine lv_iconst (v := nI 1) hx hb dL_law_773 (by decide) ?_
        refine my_iadd (x := i) (y := 1) hx hb dL_law_774 ?_
        refine my_sld (n := i + 1) hx hb hX hbl hbA hS (by omega) hL dL_law_775 ?_
        refine CI.callVU (wr := (xB xo cd ce so sd) ++ (cW cI cd c) ++ (cW cI ce ev) ++ (qB cR so (va_up (fO o0 none) 1 (some (u 0)))) ++ (tF cI cG sd (r 0) (r 1) (r 2) (r 3) (r 4) (r 5) (r 6) (r 7) (r 8) (r 9) (r 10)) ++ ([(ad 4, .inl (cI, 24, .inl (nA (z 0)))), (ad 5, .inl (cI, 24, .inl (nA (z 1)))), (ad 6, .inl (cI, 24, .inl (nA (z 2)))), (ad 7, .inl (cI, 40, .inl (nA (z 3)))), (ad 8, .inl (cI, 290, .inl (nA (z 4))))]) ++ (cW cI u (cpy c (fun _ => 0)))) (As := [.int (xs (i + 1))]) (rest := [_]) (w3 := (fun _ => LX cI cZ cR cG xo cd ce so sd ad c ev r g (slSave g sl (xs (i + 1))) (svSave sv (xs (i + 1))) z (va_up (fO o0 none) 1 (some (u 0))) ++ cW cI u (cpy c (fun _ => 0)))) (c_X3_save l dC dI cI cZ cR cG ad g sl sv (xs (i + 1))) ⟨hx, hb, hml, hown, hts⟩ (cwV 1 hts gL_law_X3_save rfl rfl rfl (by decide +kernel) ⟨(Nat.le_of_ble_eq_true rfl), (Nat.le_of_ble_eq_true rfl)⟩) rfl hl.1 (Nat.le_of_ble_eq_true rfl) dL_law_776 ⟨by show cells + 8 + 0 ≤ 600000; omega, by show slots + 261 + 0 ≤ 7302250; omega⟩ hA hS hP hK hD [32, 33, 34, 35] [0, 1, 2, 3, 4, 5, 6, 7, 8, 9, 10, 11, 12, 13, 14, 15, 16, 17, 18, 19, 20, 21, 22, 23, 24, 25, 26, 27, 28, 29, 30, 31, 36, 37, 38, 39, 40, 41, 42, 43, 44, 45, 46, 47, 48] rfl rfl (by decide) (by decide) (by decide) 0 3 rfl rfl [0, 1, 2, 3, 4, 5, 6, 7, 8, 9, 10, 11, 12, 13, 14, 15, 16, 17, 18, 19, 20, 21, 22, 23, 24, 25, 26, 27, 28, 29, 30, 31, 45, 46, 47, 48, 32, 33, 34, 35, 36, 37, 38, 39, 40, 41, 42, 43, 44] (by decide) (fun _ => rfl) (rfl) (fun _ H locs hp hP hD hS => ?_)
        refine lv_icmp_eq (tgt := 807) hx hb dL_law_779 (by decide) (fun _ => ?_) (fun h9 => absurd (show nI (c 0) = aSave g (xs (i + 1)) by rw [f1]; exact congrArg nI kp.1.1) h9)
        refine W.widen (show cells + 8 + 0 ≤ cells + 8 by omega) (show slots + 261 + 0 ≤ slots + 261 by omega) ?_
        rw [f2, f3] at hP hD
        have e9 : va_up (fO o0 none) 1 (some (u 0)) = (fO o0 (some (u, cpy c (fun _ => 0)))) := fO_up1 o0 (u, cpy c (fun _ => 0))
        rw [e9] at hP hD
        exact cont _ _ ⟨c, ev, r, g, svS sl 1 g 290, upd sv 1 1, z, o0, some (u, cpy c (fun _ => 0)), kp, SR_other s0 (by decide), SR_new kp, hP.swap.asc, hD.swap.asc, hS⟩
      | some q =>
        obtain ⟨ck, d⟩ := q
        have hP : va_P (dC, dI) vwCl ((LX cI cZ cR cG xo cd ce so sd ad c ev r g sl sv z (fO o0 (some (ck, d))) ++ cW cI ck d) ++ sB cI o0) H := va_P.swap (va_P.csa hP)
        have hD : va_D (fun q => s.heap.size ≤ q) ((LX cI cZ cR cG xo cd ce so sd ad c ev r g sl sv z (fO o0 (some (ck, d))) ++ cW cI ck d) ++ sB cI o0) := va_D.swap (va_D.csa hD)
        refine CI.callVU (wr := (cW cI ce ev) ++ (tF cI cG sd (r 0) (r 1) (r 2) (r 3) (r 4) (r 5) (r 6) (r 7) (r 8) (r 9) (r 10)) ++ (mW cI cZ ad g sl sv (z 0) (z 1) (z 2) (z 3) (z 4))) (As := [.int (nI 1)]) (rest := []) (w3 := (fun _ => LX cI cZ cR cG xo cd ce so sd ad c ev r g sl sv z (fO o0 (some (ck, d))) ++ cW cI ck (cpy c d))) (c_X2_saveS l dC dI cI cZ cR cG xo cd ce so sd c (fO o0 (some (ck, d))) 1 (by decide) ck d rfl okc) ⟨hx, hb, hml, hown, hts⟩ (cwV 1 hts gL_law_X2_save rfl rfl rfl (by decide +kernel) ⟨(Nat.le_of_ble_eq_true rfl), (Nat.le_of_ble_eq_true rfl)⟩) rfl hl.1 (Nat.le_of_ble_eq_true rfl) dL_law_767 ⟨by show cells + 0 ≤ 600000; omega, by show slots + 0 ≤ 7302250; omega⟩ hA hS hP hK hD [0, 1, 2, 3, 4, 5, 6, 7, 8, 17, 41, 42, 43, 44, 45, 46, 47, 48] [9, 10, 11, 12, 13, 14, 15, 16, 18, 19, 20, 21, 22, 23, 24, 25, 26, 27, 28, 29, 30, 31, 32, 33, 34, 35, 36, 37, 38, 39, 40] rfl rfl (by decide) (by decide) (by decide) 0 2 rfl rfl [31, 32, 33, 34, 35, 36, 37, 38, 39, 0, 1, 2, 3, 4, 5, 6, 7, 40, 8, 9, 10, 11, 12, 13, 14, 15, 16, 17, 18, 19, 20, 21, 22, 23, 24, 25, 26, 27, 28, 29, 30, 41, 42, 43, 44, 45, 46, 47, 48] (by decide) (fun _ => rfl) (by rw [hxj]; rfl) (fun _ H locs hp hP hD hS => ?_)
        refine lv_aload_n hx hb dL_law_770 rfl (lv_at hl 1 rfl) ?_
        refine lv_aload_n hx hb dL_law_771 rfl (lv_at hl 3 rfl) ?_
        refine lv_iload_n hx hb dL_law_772 rfl (lv_at hl 0 rfl) ?_
        refine lv_iconst (v := nI 1) hx hb dL_law_773 (by decide) ?_
        refine my_iadd (x := i) (y := 1) hx hb dL_law_774 ?_
        refine my_sld (n := i + 1) hx hb hX hbl hbA hS (by omega) hL dL_law_775 ?_
        refine CI.callVU (wr := (xB xo cd ce so sd) ++ (cW cI cd c) ++ (cW cI ce ev) ++ (qB cR so (fO o0 (some (ck, d)))) ++ (tF cI cG sd (r 0) (r 1) (r 2) (r 3) (r 4) (r 5) (r 6) (r 7) (r 8) (r 9) (r 10)) ++ ([(ad 4, .inl (cI, 24, .inl (nA (z 0)))), (ad 5, .inl (cI, 24, .inl (nA (z 1)))), (ad 6, .inl (cI, 24, .inl (nA (z 2)))), (ad 7, .inl (cI, 40, .inl (nA (z 3)))), (ad 8, .inl (cI, 290, .inl (nA (z 4))))]) ++ (cW cI ck (cpy c d))) (As := [.int (xs (i + 1))]) (rest := [_]) (w3 := (fun _ => LX cI cZ cR cG xo cd ce so sd ad c ev r g (slSave g sl (xs (i + 1))) (svSave sv (xs (i + 1))) z (fO o0 (some (ck, d))) ++ cW cI ck (cpy c d))) (c_X3_save l dC dI cI cZ cR cG ad g sl sv (xs (i + 1))) ⟨hx, hb, hml, hown, hts⟩ (cwV 1 hts gL_law_X3_save rfl rfl rfl (by decide +kernel) ⟨(Nat.le_of_ble_eq_true rfl), (Nat.le_of_ble_eq_true rfl)⟩) rfl hl.1 (Nat.le_of_ble_eq_true rfl) dL_law_776 ⟨by show cells + 0 + 0 ≤ 600000; omega, by show slots + 0 + 0 ≤ 7302250; omega⟩ hA hS hP hK hD [32, 33, 34, 35] [0, 1, 2, 3, 4, 5, 6, 7, 8, 9, 10, 11, 12, 13, 14, 15, 16, 17, 18, 19, 20, 21, 22, 23, 24, 25, 26, 27, 28, 29, 30, 31, 36, 37, 38, 39, 40, 41, 42, 43, 44, 45, 46, 47, 48] rfl rfl (by decide) (by decide) (by decide) 0 3 rfl rfl [0, 1, 2, 3, 4, 5, 6, 7, 8, 9, 10, 11, 12, 13, 14, 15, 16, 17, 18, 19, 20, 21, 22, 23, 24, 25, 26, 27, 28, 29, 30, 31, 45, 46, 47, 48, 32, 33, 34, 35, 36, 37, 38, 39, 40, 41, 42, 43, 44] (by decide) (fun _ => rfl) (rfl) (fun _ H locs hp hP hD hS => ?_)
        refine lv_icmp_eq (tgt := 807) hx hb dL_law_779 (by decide) (fun _ => ?_) (fun h9 => absurd (show nI (c 0) = aSave g (xs (i + 1)) by rw [f1]; exact congrArg nI kp.1.1) h9)
        refine W.widen (show cells + 0 + 0 ≤ cells + 8 by omega) (show slots + 0 + 0 ≤ slots + 261 by omega) ?_
        rw [f2, f3] at hP hD
        rw [fO_s1 o0 ck d (cpy c d)] at hP hD
        exact cont _ _ ⟨c, ev, r, g, svS sl 1 g 290, upd sv 1 1, z, o0, some (ck, cpy c d), kp, SR_other s0 (by decide), SR_new kp, hP.swap.asc, hD.swap.asc, hS⟩
  · have e2 : inR (xs (i + 1)) 0 1 = false := Bool.eq_false_iff.mpr e1
    refine CI.callVU (wr := (cW cI cd c) ++ (cW cI ce ev) ++ (qB cR so (fO o0 o1)) ++ (tF cI cG sd (r 0) (r 1) (r 2) (r 3) (r 4) (r 5) (r 6) (r 7) (r 8) (r 9) (r 10)) ++ (mW cI cZ ad g sl sv (z 0) (z 1) (z 2) (z 3) (z 4))) (As := [.int (xs (i + 1))]) (rest := []) (w3 := (fun _ => LX cI cZ cR cG xo cd ce so sd ad c ev r g sl sv z (fO o0 o1))) (c_X2_saveE l dC dI cI cZ cR cG xo cd ce so sd (xs (i + 1)) e2) ⟨hx, hb, hml, hown, hts⟩ (cwV 1 hts gL_law_X2_save rfl rfl rfl (by decide +kernel) ⟨(Nat.le_of_ble_eq_true rfl), (Nat.le_of_ble_eq_true rfl)⟩) rfl hl.1 (Nat.le_of_ble_eq_true rfl) dL_law_767 ⟨by show cells + 0 ≤ 600000; omega, by show slots + 0 ≤ 7302250; omega⟩ hA hS hP hK hD [0] [1, 2, 3, 4, 5, 6, 7, 8, 9, 10, 11, 12, 13, 14, 15, 16, 17, 18, 19, 20, 21, 22, 23, 24, 25, 26, 27, 28, 29, 30, 31, 32, 33, 34, 35, 36, 37, 38, 39, 40] rfl rfl (by decide) (by decide) (by decide) 0 2 rfl rfl [40, 0, 1, 2, 3, 4, 5, 6, 7, 8, 9, 10, 11, 12, 13, 14, 15, 16, 17, 18, 19, 20, 21, 22, 23, 24, 25, 26, 27, 28, 29, 30, 31, 32, 33, 34, 35, 36, 37, 38, 39] (by decide) (fun _ => rfl) (rfl) (fun _ H locs hp hP hD hS => ?_)
    refine lv_aload_n hx hb dL_law_770 rfl (lv_at hl 1 rfl) ?_
    refine lv_aload_n hx hb dL_law_771 rfl (lv_at hl 3 rfl) ?_
    refine lv_iload_n hx hb dL_law_772 rfl (lv_at hl 0 rfl) ?_
    refine lv_iconst (v := nI 1) hx hb dL_law_773 (by decide) ?_
    refine my_iadd (x := i) (y := 1) hx hb dL_law_774 ?_
    refine my_sld (n := i + 1) hx hb hX hbl hbA hS (by omega) hL dL_law_775 ?_
    refine CI.callVU (wr := (xB xo cd ce so sd) ++ (cW cI cd c) ++ (cW cI ce ev) ++ (qB cR so (fO o0 o1)) ++ (tF cI cG sd (r 0) (r 1) (r 2) (r 3) (r 4) (r 5) (r 6) (r 7) (r 8) (r 9) (r 10)) ++ ([(ad 4, .inl (cI, 24, .inl (nA (z 0)))), (ad 5, .inl (cI, 24, .inl (nA (z 1)))), (ad 6, .inl (cI, 24, .inl (nA (z 2)))), (ad 7, .inl (cI, 40, .inl (nA (z 3)))), (ad 8, .inl (cI, 290, .inl (nA (z 4))))])) (As := [.int (xs (i + 1))]) (rest := [_]) (w3 := (fun _ => LX cI cZ cR cG xo cd ce so sd ad c ev r g (slSave g sl (xs (i + 1))) (svSave sv (xs (i + 1))) z (fO o0 o1))) (c_X3_save l dC dI cI cZ cR cG ad g sl sv (xs (i + 1))) ⟨hx, hb, hml, hown, hts⟩ (cwV 1 hts gL_law_X3_save rfl rfl rfl (by decide +kernel) ⟨(Nat.le_of_ble_eq_true rfl), (Nat.le_of_ble_eq_true rfl)⟩) rfl hl.1 (Nat.le_of_ble_eq_true rfl) dL_law_776 ⟨by show cells + 0 + 0 ≤ 600000; omega, by show slots + 0 + 0 ≤ 7302250; omega⟩ hA hS hP hK hD [32, 33, 34, 35] [0, 1, 2, 3, 4, 5, 6, 7, 8, 9, 10, 11, 12, 13, 14, 15, 16, 17, 18, 19, 20, 21, 22, 23, 24, 25, 26, 27, 28, 29, 30, 31, 36, 37, 38, 39, 40] rfl rfl (by decide) (by decide) (by decide) 0 3 rfl rfl [0, 1, 2, 3, 4, 5, 6, 7, 8, 9, 10, 11, 12, 13, 14, 15, 16, 17, 18, 19, 20, 21, 22, 23, 24, 25, 26, 27, 28, 29, 30, 31, 37, 38, 39, 40, 32, 33, 34, 35, 36] (by decide) (fun _ => rfl) (rfl) (fun _ H locs hp hP hD hS => ?_)
    refine lv_icmp_eq (tgt := 807) hx hb dL_law_779 (by decide) (fun _ => ?_) (fun h9 => absurd (show (-3 : Int32) = aSave g (xs (i + 1)) from (if_neg e1).symm) h9)
    refine W.widen (show cells + 0 + 0 ≤ cells + 8 by omega) (show slots + 0 + 0 ≤ slots + 261 by omega) ?_
    rw [show slSave g sl (xs (i + 1)) = sl from if_neg e1, show svSave sv (xs (i + 1)) = sv from if_neg e1] at hP hD
    exact cont _ _ ⟨c, ev, r, g, sl, sv, z, o0, o1, kp, s0, s1, hP, hD, hS⟩
set_option maxHeartbeats 8000000 in
set_option maxRecDepth 100000 in
theorem op_26 {p : Program} {e : Env} {s : State} {m : MethodId} {below : List Frame} {meth : Method} {kc : Code} (l : Launch) {b L : Nat} {xs : Nat → Int32} {dC : Nat → ClassId} {dI : Nat → Nat → Nat} {cI cZ cR cG : ClassId} (C0 : LC p s m kc b L xs dC dI cI cZ cR cG) {i : Nat} (hi : i + 6 ≤ L) (hL : L ≤ 3072) {xo : Nat} {cd ce : Nat → Nat} {so : Nat} {sd ad : Nat → Nat} {H : Heap} {locs : List Loc} {ls : Array Slot} {cells slots : Nat} {Q : State → Prop} (hcl : cells + 8 ≤ 600000) (hsl : slots + 261 ≤ 7302250) (hI : LI dC dI cI cZ cR cG xo cd ce so sd ad s.heap H locs) (hl : lv_has ls 4 [(3, .int (nI i)), (2, .ref (ad 0)), (1, .ref xo), (0, .ref b)])
    (cont : ∀ (H : Heap) (locs : List Loc), LI dC dI cI cZ cR cG xo cd ce so sd ad s.heap H locs → W p l e room_1 s m #[Value.ref b] below meth kc H locs (cells + 8) (slots + 261) Q (F0 m 807 ls [])) : W p l e room_1 s m #[Value.ref b] below meth kc H locs cells slots Q (F0 m 784 ls []) := by
  obtain ⟨hx, hb, hml, hown, hts, hX, hbl, hK, hEX⟩ := C0
  obtain ⟨c, ev, r, g, sl, sv, z, o0, o1, kp, s0, s1, hP, hD, hS⟩ := hI
  have hA : ∀ q : Nat, s.heap.size ≤ q → (fun q : Nat => s.heap.size ≤ q) q := fun _ h => h
  have hbA : ¬ (fun q : Nat => s.heap.size ≤ q) b := Nat.not_le.mpr hbl
  have okc : okG c := kp.1.ok kp.2
  refine lv_aload_n hx hb dL_law_784 rfl (lv_at hl 2 rfl) ?_
  refine lv_aload_n hx hb dL_law_785 rfl (lv_at hl 3 rfl) ?_
  refine lv_iload_n hx hb dL_law_786 rfl (lv_at hl 0 rfl) ?_
  refine lv_iconst (v := nI 1) hx hb dL_law_787 (by decide) ?_
  refine my_iadd (x := i) (y := 1) hx hb dL_law_788 ?_
  refine my_sld (n := i + 1) hx hb hX hbl hbA hS (by omega) hL dL_law_789 ?_
  by_cases e1 : inR (xs (i + 1)) 0 1 = true
  · obtain ⟨j, -, hj, -, hxj, hnx⟩ := inR_at e1
    have hnx : nx (xs (i + 1)) = j := hnx
    have f1 : aRes sl sv (xs (i + 1)) = if sv j = 0 then -9 else nI (sl (290 * j + 0)) := by unfold aRes; rw [if_pos e1, hnx]
    have f2 : gRes g sl sv (xs (i + 1)) = if sv j = 0 then g else fun t => sl (290 * j + t) := by unfold gRes; rw [if_pos e1, hnx]
    rcases (show j = 0 ∨ j = 1 by omega) with rfl | rfl
    · cases o0 with
      | none =>
        have s0z : sv 0 = 0 := s0
        refine CI.callVU (wr := (cW cI cd c) ++ (cW cI ce ev) ++ (tF cI cG sd (r 0) (r 1) (r 2) (r 3) (r 4) (r 5) (r 6) (r 7) (r 8) (r 9) (r 10)) ++ (mW cI cZ ad g sl sv (z 0) (z 1) (z 2) (z 3) (z 4))) (As := [.int (nI 0)]) (rest := []) (w3 := (fun _ => LX cI cZ cR cG xo cd ce so sd ad c ev r g sl sv z (fO none o1))) (c_X2_restoreN l dC dI cI cZ cR cG xo cd ce so sd (fO none o1) 0 (by decide) rfl) ⟨hx, hb, hml, hown, hts⟩ (cwV 1 hts gL_law_X2_restore rfl rfl rfl (by decide +kernel) ⟨(Nat.le_of_ble_eq_true rfl), (Nat.le_of_ble_eq_true rfl)⟩) rfl hl.1 (Nat.le_of_ble_eq_true rfl) dL_law_790 ⟨by show cells + 0 ≤ 600000; omega, by show slots + 0 ≤ 7302250; omega⟩ hA hS hP hK hD [0, 17] [1, 2, 3, 4, 5, 6, 7, 8, 9, 10, 11, 12, 13, 14, 15, 16, 18, 19, 20, 21, 22, 23, 24, 25, 26, 27, 28, 29, 30, 31, 32, 33, 34, 35, 36, 37, 38, 39, 40] rfl rfl (by decide) (by decide) (by decide) 0 2 rfl rfl [39, 0, 1, 2, 3, 4, 5, 6, 7, 8, 9, 10, 11, 12, 13, 14, 15, 40, 16, 17, 18, 19, 20, 21, 22, 23, 24, 25, 26, 27, 28, 29, 30, 31, 32, 33, 34, 35, 36, 37, 38] (by decide) (fun _ => rfl) (by rw [hxj]; rfl) (fun _ H locs hp hP hD hS => ?_)
        refine lv_aload_n hx hb dL_law_793 rfl (lv_at hl 1 rfl) ?_
        refine lv_aload_n hx hb dL_law_794 rfl (lv_at hl 3 rfl) ?_
        refine lv_iload_n hx hb dL_law_795 rfl (lv_at hl 0 rfl) ?_
        refine lv_iconst (v := nI 1) hx hb dL_law_796 (by decide) ?_
        refine my_iadd (x := i) (y := 1) hx hb dL_law_797 ?_
        refine my_sld (n := i + 1) hx hb hX hbl hbA hS (by omega) hL dL_law_798 ?_
        refine CI.callVU (wr := (xB xo cd ce so sd) ++ (cW cI cd c) ++ (cW cI ce ev) ++ (qB cR so (fO none o1)) ++ (tF cI cG sd (r 0) (r 1) (r 2) (r 3) (r 4) (r 5) (r 6) (r 7) (r 8) (r 9) (r 10)) ++ ([(ad 4, .inl (cI, 24, .inl (nA (z 0)))), (ad 5, .inl (cI, 24, .inl (nA (z 1)))), (ad 6, .inl (cI, 24, .inl (nA (z 2)))), (ad 7, .inl (cI, 40, .inl (nA (z 3)))), (ad 8, .inl (cI, 290, .inl (nA (z 4))))])) (As := [.int (xs (i + 1))]) (rest := [_]) (w3 := (fun _ => LX cI cZ cR cG xo cd ce so sd ad c ev r (gRes g sl sv (xs (i + 1))) sl sv z (fO none o1))) (c_X3_restore l dC dI cI cZ cR cG ad g sl sv (xs (i + 1))) ⟨hx, hb, hml, hown, hts⟩ (cwV 1 hts gL_law_X3_restore rfl rfl rfl (by decide +kernel) ⟨(Nat.le_of_ble_eq_true rfl), (Nat.le_of_ble_eq_true rfl)⟩) rfl hl.1 (Nat.le_of_ble_eq_true rfl) dL_law_799 ⟨by show cells + 0 + 0 ≤ 600000; omega, by show slots + 0 + 0 ≤ 7302250; omega⟩ hA hS hP hK hD [32, 33, 34, 35] [0, 1, 2, 3, 4, 5, 6, 7, 8, 9, 10, 11, 12, 13, 14, 15, 16, 17, 18, 19, 20, 21, 22, 23, 24, 25, 26, 27, 28, 29, 30, 31, 36, 37, 38, 39, 40] rfl rfl (by decide) (by decide) (by decide) 0 3 rfl rfl [0, 1, 2, 3, 4, 5, 6, 7, 8, 9, 10, 11, 12, 13, 14, 15, 16, 17, 18, 19, 20, 21, 22, 23, 24, 25, 26, 27, 28, 29, 30, 31, 37, 38, 39, 40, 32, 33, 34, 35, 36] (by decide) (fun _ => rfl) (rfl) (fun _ H locs hp hP hD hS => ?_)
        refine lv_icmp_eq (tgt := 807) hx hb dL_law_802 (by decide) (fun _ => ?_) (fun h9 => absurd (show (-9 : Int32) = aRes sl sv (xs (i + 1)) by rw [f1, if_pos s0z]) h9)
        refine W.widen (show cells + 0 + 0 ≤ cells + 8 by omega) (show slots + 0 + 0 ≤ slots + 261 by omega) ?_
        rw [if_pos s0z] at f2
        rw [f2] at hP hD
        exact cont _ _ ⟨c, ev, r, g, sl, sv, z, none, o1, kp, s0, s1, hP, hD, hS⟩
      | some q =>
        obtain ⟨ck, d⟩ := q
        have okd : okG d := (s0.2.1).ok s0.2.2
        have hP : va_P (dC, dI) vwCl (LX cI cZ cR cG xo cd ce so sd ad c ev r g sl sv z (fO (some (ck, d)) o1) ++ cW cI ck d ++ sB cI o1) H := va_P.csa hP
        have hD : va_D (fun q => s.heap.size ≤ q) (LX cI cZ cR cG xo cd ce so sd ad c ev r g sl sv z (fO (some (ck, d)) o1) ++ cW cI ck d ++ sB cI o1) := va_D.csa hD
        refine CI.callVU (wr := (cW cI ce ev) ++ (tF cI cG sd (r 0) (r 1) (r 2) (r 3) (r 4) (r 5) (r 6) (r 7) (r 8) (r 9) (r 10)) ++ (mW cI cZ ad g sl sv (z 0) (z 1) (z 2) (z 3) (z 4))) (As := [.int (nI 0)]) (rest := []) (w3 := (fun _ => LX cI cZ cR cG xo cd ce so sd ad (cpy d c) ev r g sl sv z (fO (some (ck, d)) o1) ++ cW cI ck d)) (c_X2_restoreS l dC dI cI cZ cR cG xo cd ce so sd c (fO (some (ck, d)) o1) 0 (by decide) ck d rfl okd) ⟨hx, hb, hml, hown, hts⟩ (cwV 1 hts gL_law_X2_restore rfl rfl rfl (by decide +kernel) ⟨(Nat.le_of_ble_eq_true rfl), (Nat.le_of_ble_eq_true rfl)⟩) rfl hl.1 (Nat.le_of_ble_eq_true rfl) dL_law_790 ⟨by show cells + 0 ≤ 600000; omega, by show slots + 0 ≤ 7302250; omega⟩ hA hS hP hK hD [0, 1, 2, 3, 4, 5, 6, 7, 8, 17, 41, 42, 43, 44, 45, 46, 47, 48] [9, 10, 11, 12, 13, 14, 15, 16, 18, 19, 20, 21, 22, 23, 24, 25, 26, 27, 28, 29, 30, 31, 32, 33, 34, 35, 36, 37, 38, 39, 40] rfl rfl (by decide) (by decide) (by decide) 0 2 rfl rfl [31, 32, 33, 34, 35, 36, 37, 38, 39, 0, 1, 2, 3, 4, 5, 6, 7, 40, 8, 9, 10, 11, 12, 13, 14, 15, 16, 17, 18, 19, 20, 21, 22, 23, 24, 25, 26, 27, 28, 29, 30, 41, 42, 43, 44, 45, 46, 47, 48] (by decide) (fun _ => rfl) (by rw [hxj]; rfl) (fun _ H locs hp hP hD hS => ?_)
        refine lv_aload_n hx hb dL_law_793 rfl (lv_at hl 1 rfl) ?_
        refine lv_aload_n hx hb dL_law_794 rfl (lv_at hl 3 rfl) ?_
        refine lv_iload_n hx hb dL_law_795 rfl (lv_at hl 0 rfl) ?_
        refine lv_iconst (v := nI 1) hx hb dL_law_796 (by decide) ?_
        refine my_iadd (x := i) (y := 1) hx hb dL_law_797 ?_
        refine my_sld (n := i + 1) hx hb hX hbl hbA hS (by omega) hL dL_law_798 ?_
        refine CI.callVU (wr := (xB xo cd ce so sd) ++ (cW cI cd (cpy d c)) ++ (cW cI ce ev) ++ (qB cR so (fO (some (ck, d)) o1)) ++ (tF cI cG sd (r 0) (r 1) (r 2) (r 3) (r 4) (r 5) (r 6) (r 7) (r 8) (r 9) (r 10)) ++ ([(ad 4, .inl (cI, 24, .inl (nA (z 0)))), (ad 5, .inl (cI, 24, .inl (nA (z 1)))), (ad 6, .inl (cI, 24, .inl (nA (z 2)))), (ad 7, .inl (cI, 40, .inl (nA (z 3)))), (ad 8, .inl (cI, 290, .inl (nA (z 4))))]) ++ (cW cI ck d)) (As := [.int (xs (i + 1))]) (rest := [_]) (w3 := (fun _ => LX cI cZ cR cG xo cd ce so sd ad (cpy d c) ev r (gRes g sl sv (xs (i + 1))) sl sv z (fO (some (ck, d)) o1) ++ cW cI ck d)) (c_X3_restore l dC dI cI cZ cR cG ad g sl sv (xs (i + 1))) ⟨hx, hb, hml, hown, hts⟩ (cwV 1 hts gL_law_X3_restore rfl rfl rfl (by decide +kernel) ⟨(Nat.le_of_ble_eq_true rfl), (Nat.le_of_ble_eq_true rfl)⟩) rfl hl.1 (Nat.le_of_ble_eq_true rfl) dL_law_799 ⟨by show cells + 0 + 0 ≤ 600000; omega, by show slots + 0 + 0 ≤ 7302250; omega⟩ hA hS hP hK hD [32, 33, 34, 35] [0, 1, 2, 3, 4, 5, 6, 7, 8, 9, 10, 11, 12, 13, 14, 15, 16, 17, 18, 19, 20, 21, 22, 23, 24, 25, 26, 27, 28, 29, 30, 31, 36, 37, 38, 39, 40, 41, 42, 43, 44, 45, 46, 47, 48] rfl rfl (by decide) (by decide) (by decide) 0 3 rfl rfl [0, 1, 2, 3, 4, 5, 6, 7, 8, 9, 10, 11, 12, 13, 14, 15, 16, 17, 18, 19, 20, 21, 22, 23, 24, 25, 26, 27, 28, 29, 30, 31, 45, 46, 47, 48, 32, 33, 34, 35, 36, 37, 38, 39, 40, 41, 42, 43, 44] (by decide) (fun _ => rfl) (rfl) (fun _ H locs hp hP hD hS => ?_)
        refine lv_icmp_eq (tgt := 807) hx hb dL_law_802 (by decide) (fun _ => ?_) (fun h9 => absurd (show nI (d 0) = aRes sl sv (xs (i + 1)) by rw [f1, if_neg s0.1]; exact congrArg nI s0.2.1.1) h9)
        refine W.widen (show cells + 0 + 0 ≤ cells + 8 by omega) (show slots + 0 + 0 ≤ slots + 261 by omega) ?_
        rw [if_neg s0.1] at f2
        rw [f2] at hP hD
        exact cont _ _ ⟨cpy d c, ev, r, fun t => sl (290 * 0 + t), sl, sv, z, some (ck, d), o1, ⟨(cpy_Rel d c okd.1 okd.2.1).tr s0.2.1, s0.2.2⟩, s0, s1, hP.asc, hD.asc, hS⟩
    · cases o1 with
      | none =>
        have s1z : sv 1 = 0 := s1
        refine CI.callVU (wr := (cW cI cd c) ++ (cW cI ce ev) ++ (tF cI cG sd (r 0) (r 1) (r 2) (r 3) (r 4) (r 5) (r 6) (r 7) (r 8) (r 9) (r 10)) ++ (mW cI cZ ad g sl sv (z 0) (z 1) (z 2) (z 3) (z 4))) (As := [.int (nI 1)]) (rest := []) (w3 := (fun _ => LX cI cZ cR cG xo cd ce so sd ad c ev r g sl sv z (fO o0 none))) (c_X2_restoreN l dC dI cI cZ cR cG xo cd ce so sd (fO o0 none) 1 (by decide) rfl) ⟨hx, hb, hml, hown, hts⟩ (cwV 1 hts gL_law_X2_restore rfl rfl rfl (by decide +kernel) ⟨(Nat.le_of_ble_eq_true rfl), (Nat.le_of_ble_eq_true rfl)⟩) rfl hl.1 (Nat.le_of_ble_eq_true rfl) dL_law_790 ⟨by show cells + 0 ≤ 600000; omega, by show slots + 0 ≤ 7302250; omega⟩ hA hS hP hK hD [0, 17] [1, 2, 3, 4, 5, 6, 7, 8, 9, 10, 11, 12, 13, 14, 15, 16, 18, 19, 20, 21, 22, 23, 24, 25, 26, 27, 28, 29, 30, 31, 32, 33, 34, 35, 36, 37, 38, 39, 40] rfl rfl (by decide) (by decide) (by decide) 0 2 rfl rfl [39, 0, 1, 2, 3, 4, 5, 6, 7, 8, 9, 10, 11, 12, 13, 14, 15, 40, 16, 17, 18, 19, 20, 21, 22, 23, 24, 25, 26, 27, 28, 29, 30, 31, 32, 33, 34, 35, 36, 37, 38] (by decide) (fun _ => rfl) (by rw [hxj]; rfl) (fun _ H locs hp hP hD hS => ?_)
        refine lv_aload_n hx hb dL_law_793 rfl (lv_at hl 1 rfl) ?_
        refine lv_aload_n hx hb dL_law_794 rfl (lv_at hl 3 rfl) ?_
        refine lv_iload_n hx hb dL_law_795 rfl (lv_at hl 0 rfl) ?_
        refine lv_iconst (v := nI 1) hx hb dL_law_796 (by decide) ?_
        refine my_iadd (x := i) (y := 1) hx hb dL_law_797 ?_
        refine my_sld (n := i + 1) hx hb hX hbl hbA hS (by omega) hL dL_law_798 ?_
        refine CI.callVU (wr := (xB xo cd ce so sd) ++ (cW cI cd c) ++ (cW cI ce ev) ++ (qB cR so (fO o0 none)) ++ (tF cI cG sd (r 0) (r 1) (r 2) (r 3) (r 4) (r 5) (r 6) (r 7) (r 8) (r 9) (r 10)) ++ ([(ad 4, .inl (cI, 24, .inl (nA (z 0)))), (ad 5, .inl (cI, 24, .inl (nA (z 1)))), (ad 6, .inl (cI, 24, .inl (nA (z 2)))), (ad 7, .inl (cI, 40, .inl (nA (z 3)))), (ad 8, .inl (cI, 290, .inl (nA (z 4))))])) (As := [.int (xs (i + 1))]) (rest := [_]) (w3 := (fun _ => LX cI cZ cR cG xo cd ce so sd ad c ev r (gRes g sl sv (xs (i + 1))) sl sv z (fO o0 none))) (c_X3_restore l dC dI cI cZ cR cG ad g sl sv (xs (i + 1))) ⟨hx, hb, hml, hown, hts⟩ (cwV 1 hts gL_law_X3_restore rfl rfl rfl (by decide +kernel) ⟨(Nat.le_of_ble_eq_true rfl), (Nat.le_of_ble_eq_true rfl)⟩) rfl hl.1 (Nat.le_of_ble_eq_true rfl) dL_law_799 ⟨by show cells + 0 + 0 ≤ 600000; omega, by show slots + 0 + 0 ≤ 7302250; omega⟩ hA hS hP hK hD [32, 33, 34, 35] [0, 1, 2, 3, 4, 5, 6, 7, 8, 9, 10, 11, 12, 13, 14, 15, 16, 17, 18, 19, 20, 21, 22, 23, 24, 25, 26, 27, 28, 29, 30, 31, 36, 37, 38, 39, 40] rfl rfl (by decide) (by decide) (by decide) 0 3 rfl rfl [0, 1, 2, 3, 4, 5, 6, 7, 8, 9, 10, 11, 12, 13, 14, 15, 16, 17, 18, 19, 20, 21, 22, 23, 24, 25, 26, 27, 28, 29, 30, 31, 37, 38, 39, 40, 32, 33, 34, 35, 36] (by decide) (fun _ => rfl) (rfl) (fun _ H locs hp hP hD hS => ?_)
        refine lv_icmp_eq (tgt := 807) hx hb dL_law_802 (by decide) (fun _ => ?_) (fun h9 => absurd (show (-9 : Int32) = aRes sl sv (xs (i + 1)) by rw [f1, if_pos s1z]) h9)
        refine W.widen (show cells + 0 + 0 ≤ cells + 8 by omega) (show slots + 0 + 0 ≤ slots + 261 by omega) ?_
        rw [if_pos s1z] at f2
        rw [f2] at hP hD
        exact cont _ _ ⟨c, ev, r, g, sl, sv, z, o0, none, kp, s0, s1, hP, hD, hS⟩
      | some q =>
        obtain ⟨ck, d⟩ := q
        have okd : okG d := (s1.2.1).ok s1.2.2
        have hP : va_P (dC, dI) vwCl ((LX cI cZ cR cG xo cd ce so sd ad c ev r g sl sv z (fO o0 (some (ck, d))) ++ cW cI ck d) ++ sB cI o0) H := va_P.swap (va_P.csa hP)
        have hD : va_D (fun q => s.heap.size ≤ q) ((LX cI cZ cR cG xo cd ce so sd ad c ev r g sl sv z (fO o0 (some (ck, d))) ++ cW cI ck d) ++ sB cI o0) := va_D.swap (va_D.csa hD)
        refine CI.callVU (wr := (cW cI ce ev) ++ (tF cI cG sd (r 0) (r 1) (r 2) (r 3) (r 4) (r 5) (r 6) (r 7) (r 8) (r 9) (r 10)) ++ (mW cI cZ ad g sl sv (z 0) (z 1) (z 2) (z 3) (z 4))) (As := [.int (nI 1)]) (rest := []) (w3 := (fun _ => LX cI cZ cR cG xo cd ce so sd ad (cpy d c) ev r g sl sv z (fO o0 (some (ck, d))) ++ cW cI ck d)) (c_X2_restoreS l dC dI cI cZ cR cG xo cd ce so sd c (fO o0 (some (ck, d))) 1 (by decide) ck d rfl okd) ⟨hx, hb, hml, hown, hts⟩ (cwV 1 hts gL_law_X2_restore rfl rfl rfl (by decide +kernel) ⟨(Nat.le_of_ble_eq_true rfl), (Nat.le_of_ble_eq_true rfl)⟩) rfl hl.1 (Nat.le_of_ble_eq_true rfl) dL_law_790 ⟨by show cells + 0 ≤ 600000; omega, by show slots + 0 ≤ 7302250; omega⟩ hA hS hP hK hD [0, 1, 2, 3, 4, 5, 6, 7, 8, 17, 41, 42, 43, 44, 45, 46, 47, 48] [9, 10, 11, 12, 13, 14, 15, 16, 18, 19, 20, 21, 22, 23, 24, 25, 26, 27, 28, 29, 30, 31, 32, 33, 34, 35, 36, 37, 38, 39, 40] rfl rfl (by decide) (by decide) (by decide) 0 2 rfl rfl [31, 32, 33, 34, 35, 36, 37, 38, 39, 0, 1, 2, 3, 4, 5, 6, 7, 40, 8, 9, 10, 11, 12, 13, 14, 15, 16, 17, 18, 19, 20, 21, 22, 23, 24, 25, 26, 27, 28, 29, 30, 41, 42, 43, 44, 45, 46, 47, 48] (by decide) (fun _ => rfl) (by rw [hxj]; rfl) (fun _ H locs hp hP hD hS => ?_)
        refine lv_aload_n hx hb dL_law_793 rfl (lv_at hl 1 rfl) ?_
        refine lv_aload_n hx hb dL_law_794 rfl (lv_at hl 3 rfl) ?_
        refine lv_iload_n hx hb dL_law_795 rfl (lv_at hl 0 rfl) ?_
        refine lv_iconst (v := nI 1) hx hb dL_law_796 (by decide) ?_
        refine my_iadd (x := i) (y := 1) hx hb dL_law_797 ?_
        refine my_sld (n := i + 1) hx hb hX hbl hbA hS (by omega) hL dL_law_798 ?_
        refine CI.callVU (wr := (xB xo cd ce so sd) ++ (cW cI cd (cpy d c)) ++ (cW cI ce ev) ++ (qB cR so (fO o0 (some (ck, d)))) ++ (tF cI cG sd (r 0) (r 1) (r 2) (r 3) (r 4) (r 5) (r 6) (r 7) (r 8) (r 9) (r 10)) ++ ([(ad 4, .inl (cI, 24, .inl (nA (z 0)))), (ad 5, .inl (cI, 24, .inl (nA (z 1)))), (ad 6, .inl (cI, 24, .inl (nA (z 2)))), (ad 7, .inl (cI, 40, .inl (nA (z 3)))), (ad 8, .inl (cI, 290, .inl (nA (z 4))))]) ++ (cW cI ck d)) (As := [.int (xs (i + 1))]) (rest := [_]) (w3 := (fun _ => LX cI cZ cR cG xo cd ce so sd ad (cpy d c) ev r (gRes g sl sv (xs (i + 1))) sl sv z (fO o0 (some (ck, d))) ++ cW cI ck d)) (c_X3_restore l dC dI cI cZ cR cG ad g sl sv (xs (i + 1))) ⟨hx, hb, hml, hown, hts⟩ (cwV 1 hts gL_law_X3_restore rfl rfl rfl (by decide +kernel) ⟨(Nat.le_of_ble_eq_true rfl), (Nat.le_of_ble_eq_true rfl)⟩) rfl hl.1 (Nat.le_of_ble_eq_true rfl) dL_law_799 ⟨by show cells + 0 + 0 ≤ 600000; omega, by show slots + 0 + 0 ≤ 7302250; omega⟩ hA hS hP hK hD [32, 33, 34, 35] [0, 1, 2, 3, 4, 5, 6, 7, 8, 9, 10, 11, 12, 13, 14, 15, 16, 17, 18, 19, 20, 21, 22, 23, 24, 25, 26, 27, 28, 29, 30, 31, 36, 37, 38, 39, 40, 41, 42, 43, 44, 45, 46, 47, 48] rfl rfl (by decide) (by decide) (by decide) 0 3 rfl rfl [0, 1, 2, 3, 4, 5, 6, 7, 8, 9, 10, 11, 12, 13, 14, 15, 16, 17, 18, 19, 20, 21, 22, 23, 24, 25, 26, 27, 28, 29, 30, 31, 45, 46, 47, 48, 32, 33, 34, 35, 36, 37, 38, 39, 40, 41, 42, 43, 44] (by decide) (fun _ => rfl) (rfl) (fun _ H locs hp hP hD hS => ?_)
        refine lv_icmp_eq (tgt := 807) hx hb dL_law_802 (by decide) (fun _ => ?_) (fun h9 => absurd (show nI (d 0) = aRes sl sv (xs (i + 1)) by rw [f1, if_neg s1.1]; exact congrArg nI s1.2.1.1) h9)
        refine W.widen (show cells + 0 + 0 ≤ cells + 8 by omega) (show slots + 0 + 0 ≤ slots + 261 by omega) ?_
        rw [if_neg s1.1] at f2
        rw [f2] at hP hD
        exact cont _ _ ⟨cpy d c, ev, r, fun t => sl (290 * 1 + t), sl, sv, z, o0, some (ck, d), ⟨(cpy_Rel d c okd.1 okd.2.1).tr s1.2.1, s1.2.2⟩, s0, s1, hP.swap.asc, hD.swap.asc, hS⟩
  · have e2 : inR (xs (i + 1)) 0 1 = false := Bool.eq_false_iff.mpr e1
    refine CI.callVU (wr := (cW cI cd c) ++ (cW cI ce ev) ++ (qB cR so (fO o0 o1)) ++ (tF cI cG sd (r 0) (r 1) (r 2) (r 3) (r 4) (r 5) (r 6) (r 7) (r 8) (r 9) (r 10)) ++ (mW cI cZ ad g sl sv (z 0) (z 1) (z 2) (z 3) (z 4))) (As := [.int (xs (i + 1))]) (rest := []) (w3 := (fun _ => LX cI cZ cR cG xo cd ce so sd ad c ev r g sl sv z (fO o0 o1))) (c_X2_restoreE l dC dI cI cZ cR cG xo cd ce so sd (xs (i + 1)) e2) ⟨hx, hb, hml, hown, hts⟩ (cwV 1 hts gL_law_X2_restore rfl rfl rfl (by decide +kernel) ⟨(Nat.le_of_ble_eq_true rfl), (Nat.le_of_ble_eq_true rfl)⟩) rfl hl.1 (Nat.le_of_ble_eq_true rfl) dL_law_790 ⟨by show cells + 0 ≤ 600000; omega, by show slots + 0 ≤ 7302250; omega⟩ hA hS hP hK hD [0] [1, 2, 3, 4, 5, 6, 7, 8, 9, 10, 11, 12, 13, 14, 15, 16, 17, 18, 19, 20, 21, 22, 23, 24, 25, 26, 27, 28, 29, 30, 31, 32, 33, 34, 35, 36, 37, 38, 39, 40] rfl rfl (by decide) (by decide) (by decide) 0 2 rfl rfl [40, 0, 1, 2, 3, 4, 5, 6, 7, 8, 9, 10, 11, 12, 13, 14, 15, 16, 17, 18, 19, 20, 21, 22, 23, 24, 25, 26, 27, 28, 29, 30, 31, 32, 33, 34, 35, 36, 37, 38, 39] (by decide) (fun _ => rfl) (rfl) (fun _ H locs hp hP hD hS => ?_)
    refine lv_aload_n hx hb dL_law_793 rfl (lv_at hl 1 rfl) ?_
    refine lv_aload_n hx hb dL_law_794 rfl (lv_at hl 3 rfl) ?_
    refine lv_iload_n hx hb dL_law_795 rfl (lv_at hl 0 rfl) ?_
    refine lv_iconst (v := nI 1) hx hb dL_law_796 (by decide) ?_
    refine my_iadd (x := i) (y := 1) hx hb dL_law_797 ?_
    refine my_sld (n := i + 1) hx hb hX hbl hbA hS (by omega) hL dL_law_798 ?_
    refine CI.callVU (wr := (xB xo cd ce so sd) ++ (cW cI cd c) ++ (cW cI ce ev) ++ (qB cR so (fO o0 o1)) ++ (tF cI cG sd (r 0) (r 1) (r 2) (r 3) (r 4) (r 5) (r 6) (r 7) (r 8) (r 9) (r 10)) ++ ([(ad 4, .inl (cI, 24, .inl (nA (z 0)))), (ad 5, .inl (cI, 24, .inl (nA (z 1)))), (ad 6, .inl (cI, 24, .inl (nA (z 2)))), (ad 7, .inl (cI, 40, .inl (nA (z 3)))), (ad 8, .inl (cI, 290, .inl (nA (z 4))))])) (As := [.int (xs (i + 1))]) (rest := [_]) (w3 := (fun _ => LX cI cZ cR cG xo cd ce so sd ad c ev r (gRes g sl sv (xs (i + 1))) sl sv z (fO o0 o1))) (c_X3_restore l dC dI cI cZ cR cG ad g sl sv (xs (i + 1))) ⟨hx, hb, hml, hown, hts⟩ (cwV 1 hts gL_law_X3_restore rfl rfl rfl (by decide +kernel) ⟨(Nat.le_of_ble_eq_true rfl), (Nat.le_of_ble_eq_true rfl)⟩) rfl hl.1 (Nat.le_of_ble_eq_true rfl) dL_law_799 ⟨by show cells + 0 + 0 ≤ 600000; omega, by show slots + 0 + 0 ≤ 7302250; omega⟩ hA hS hP hK hD [32, 33, 34, 35] [0, 1, 2, 3, 4, 5, 6, 7, 8, 9, 10, 11, 12, 13, 14, 15, 16, 17, 18, 19, 20, 21, 22, 23, 24, 25, 26, 27, 28, 29, 30, 31, 36, 37, 38, 39, 40] rfl rfl (by decide) (by decide) (by decide) 0 3 rfl rfl [0, 1, 2, 3, 4, 5, 6, 7, 8, 9, 10, 11, 12, 13, 14, 15, 16, 17, 18, 19, 20, 21, 22, 23, 24, 25, 26, 27, 28, 29, 30, 31, 37, 38, 39, 40, 32, 33, 34, 35, 36] (by decide) (fun _ => rfl) (rfl) (fun _ H locs hp hP hD hS => ?_)
    refine lv_icmp_eq (tgt := 807) hx hb dL_law_802 (by decide) (fun _ => ?_) (fun h9 => absurd (show (-3 : Int32) = aRes sl sv (xs (i + 1)) from (if_neg e1).symm) h9)
    refine W.widen (show cells + 0 + 0 ≤ cells + 8 by omega) (show slots + 0 + 0 ≤ slots + 261 by omega) ?_
    rw [show gRes g sl sv (xs (i + 1)) = g from if_neg e1] at hP hD
    exact cont _ _ ⟨c, ev, r, g, sl, sv, z, o0, o1, kp, s0, s1, hP, hD, hS⟩
