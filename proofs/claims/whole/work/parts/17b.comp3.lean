/-- the rows that a search leaves: the levels, the neighbours -/
def mk9 (q u d r1 r2 r3 t1 t2 t3 : Nat → Int32) : Nat → Nat → Int32 := fun k => if k = 0 then q else if k = 1 then u else if k = 2 then d else if k = 3 then r1 else if k = 4 then r2 else if k = 5 then r3 else if k = 6 then t1 else if k = 7 then t2 else t3
def FND (c : Nat → Nat) (q u d : Nat → Int32) : Prop := (∀ lv, 1 ≤ lv → lv ≤ 7 → q lv = msk (lvQ c lv)) ∧ (∀ lv, 1 ≤ lv → lv ≤ 7 → u lv = msk (lvU c 1 lv)) ∧ (∀ lv, 1 ≤ lv → lv ≤ 7 → d lv = msk (lvU c 0 lv))
abbrev rm_X1_find : Room := { frames := 3, cells := 0, slots := 0, locals := 74 }
set_option maxHeartbeats 4000000 in
set_option maxRecDepth 100000 in
theorem c_X1_find (l : Launch) (dC : Nat → ClassId) (dI : Nat → Nat → Nat) (cI cZ cR cG : ClassId) (sd cd : Nat → Nat) (fq fu fd r0 r1 r2 r3 t0 t1 t2 t3 : Nat → Int32) (c : Nat → Nat) (ok : okG c) : CV l (dC, dI) (tyL cI cZ cR cG) yX1_find wsX1_find rm_X1_find [.ref (sd 0), .ref (cd 0)] ((tF cI cG sd fq fu fd r0 r1 r2 r3 t0 t1 t2 t3) ++ (cF cI cd (nI (c 0)) (msk (inp c)) (msk (sto c)) (msk (m0 c)) (msk (m1 c)) (nI (c 1)) (szA c) (pA c 50) (pA c 90) (pA c 130) (pA c 170) (pA c 210) (pA c 250))) (S := Nat → Nat → Int32) (fun u => FND c (u 0) (u 1) (u 2)) (fun u => tF cI cG sd (u 0) (u 1) (u 2) r0 (u 3) (u 4) (u 5) t0 (u 6) (u 7) (u 8) ++ cW cI cd c) := by
  refine CV.of (cc := cX1_find) (maxL := 2) (lv := [(0, .ref (sd 0)), (1, .ref (cd 0))]) (by decide) rfl (Nat.le_of_ble_eq_true rfl) rfl ?_
  intro p e s m ar below meth kc A Qz ls hx hb hml hown hts hnm hA hS hP hK hD hl ret
  have h0 := ok.1
  have h1 := ok.2.1
  refine lv_aload_n hx hb dX1_find_0 rfl (lv_at hl 0 rfl) ?_
  refine lv_aload_n hx hb dX1_find_1 rfl (lv_at hl 1 rfl) ?_
  refine CV.callV (As := [.ref (cd 0)]) (rest := []) (w3 := (fun w_nb => (tF cI cG sd fq fu fd r0 (w_nb 1) (w_nb 2) (w_nb 3) t0 (w_nb 4) (w_nb 5) (w_nb 6)) ++ (cF cI cd (nI (c 0)) (msk (inp c)) (msk (sto c)) (msk (m0 c)) (msk (m1 c)) (nI (c 1)) (szA c) (pA c 50) (pA c 90) (pA c 130) (pA c 170) (pA c 210) (pA c 250)))) (c_X1_findNeighbors l dC dI cI cZ cR cG sd cd fq fu fd r0 r1 r2 r3 t0 t1 t2 t3 c (ok)) ⟨hx, hb, hml, hown, hts⟩ (cwV 1 hts gX1_find_X1_findNeighbors rfl rfl rfl (by decide +kernel) ⟨Nat.le_of_ble_eq_true rfl, Nat.le_of_ble_eq_true rfl⟩) rfl hl.1 (Nat.le_of_ble_eq_true rfl) dX1_find_2 ⟨Nat.le_of_ble_eq_true rfl, Nat.le_of_ble_eq_true rfl⟩ hA hS hP hK hD [0, 1, 2, 3, 4, 5, 6, 7, 8, 9, 10, 11, 12, 13, 14, 15, 16, 17, 18, 19, 20, 21] [] rfl rfl (by decide) (by decide) (by decide) 0 1 rfl rfl [0, 1, 2, 3, 4, 5, 6, 7, 8, 9, 10, 11, 12, 13, 14, 15, 16, 17, 18, 19, 20, 21] (by decide) (fun _ => rfl) rfl (fun w_nb H locs hp_1 hP hD hS => ?_)
  have hnb : NB c (w_nb 1) (w_nb 2) (w_nb 3) (w_nb 4) (w_nb 5) (w_nb 6) := hp_1
  refine lv_aload_n hx hb dX1_find_5 rfl (lv_at hl 0 rfl) ?_
  refine lv_aload_n hx hb dX1_find_6 rfl (lv_at hl 1 rfl) ?_
  refine CV.callV (As := [.ref (cd 0)]) (rest := []) (w3 := (fun w_fq => (tF cI cG sd w_fq fu fd r0 (w_nb 1) (w_nb 2) (w_nb 3) t0 (w_nb 4) (w_nb 5) (w_nb 6)) ++ (cF cI cd (nI (c 0)) (msk (inp c)) (msk (sto c)) (msk (m0 c)) (msk (m1 c)) (nI (c 1)) (szA c) (pA c 50) (pA c 90) (pA c 130) (pA c 170) (pA c 210) (pA c 250)))) (c_X1_findDefinite l dC dI cI cZ cR cG sd cd fq fu fd r0 (w_nb 1) (w_nb 2) (w_nb 3) t0 (w_nb 4) (w_nb 5) (w_nb 6) c (ok) (hnb)) ⟨hx, hb, hml, hown, hts⟩ (cwV 1 hts gX1_find_X1_findDefinite rfl rfl rfl (by decide +kernel) ⟨Nat.le_of_ble_eq_true rfl, Nat.le_of_ble_eq_true rfl⟩) rfl hl.1 (Nat.le_of_ble_eq_true rfl) dX1_find_7 ⟨Nat.le_of_ble_eq_true rfl, Nat.le_of_ble_eq_true rfl⟩ hA hS hP hK hD [0, 1, 2, 3, 4, 5, 6, 7, 8, 9, 10, 11, 12, 13, 14, 15, 16, 17, 18, 19, 20, 21] [] rfl rfl (by decide) (by decide) (by decide) 0 1 rfl rfl [0, 1, 2, 3, 4, 5, 6, 7, 8, 9, 10, 11, 12, 13, 14, 15, 16, 17, 18, 19, 20, 21] (by decide) (fun _ => rfl) rfl (fun w_fq H locs hp_2 hP hD hS => ?_)
  have hq := hp_2
  refine lv_aload_n hx hb dX1_find_10 rfl (lv_at hl 0 rfl) ?_
  refine lv_aload_n hx hb dX1_find_11 rfl (lv_at hl 0 rfl) ?_
  refine va_get (D := (dC, dI)) (ci := 1) (v := .ref (sd 2)) (C := RX1) (T := TX1) (N := 5) hx hb hts (fun _ h9 => List.mem_cons_of_mem _ (List.mem_append_left _ (List.mem_append_right _ h9))) hown hK hP 0 rfl rfl 1 (by decide) (hts (.fieldLink RX1 15 "SwitchLevelSimulator$SteadyState" "up" "[I") (List.mem_of_getElem? (i := 1) rfl)) (fun _ h9 => h9) rfl dX1_find_12 ?_
  refine lv_aload_n hx hb dX1_find_15 rfl (lv_at hl 1 rfl) ?_
  refine va_get (D := (dC, dI)) (ci := 0) (v := .int (msk (m1 c))) (C := RX0) (T := TX0) (N := 13) hx hb hts (fun _ h9 => List.mem_cons_of_mem _ (List.mem_append_right _ h9)) hown hK hP 14 rfl rfl 5 (by decide) (hts (.fieldLink RX1 36 "SwitchLevelSimulator$Circuit" "mayBeOne" "I") (List.mem_of_getElem? (i := 2) rfl)) (fun _ h9 => h9) rfl dX1_find_16 ?_
  refine my_cast (show msk (m1 c) = msk (car c 1) from car_1 ok) ?_
  refine lv_aload_n hx hb dX1_find_19 rfl (lv_at hl 1 rfl) ?_
  refine CV.callV (As := [.ref (sd 2), .int (msk (car c 1)), .ref (cd 0)]) (rest := []) (w3 := (fun w_fu => (tF cI cG sd w_fq w_fu fd r0 (w_nb 1) (w_nb 2) (w_nb 3) t0 (w_nb 4) (w_nb 5) (w_nb 6)) ++ (cF cI cd (nI (c 0)) (msk (inp c)) (msk (sto c)) (msk (m0 c)) (msk (m1 c)) (nI (c 1)) (szA c) (pA c 50) (pA c 90) (pA c 130) (pA c 170) (pA c 210) (pA c 250)))) (c_X1_findSide l dC dI cI cZ cR cG sd (sd 2) cd w_fq fu t0 (w_nb 4) (w_nb 5) (w_nb 6) c 1 (ok) (hq) (⟨hnb.2.2.2.1, hnb.2.2.2.2.1, hnb.2.2.2.2.2⟩)) ⟨hx, hb, hml, hown, hts⟩ (cwV 3 hts gX1_find_X1_findSide rfl rfl rfl (by decide +kernel) ⟨Nat.le_of_ble_eq_true rfl, Nat.le_of_ble_eq_true rfl⟩) rfl hl.1 (Nat.le_of_ble_eq_true rfl) dX1_find_20 ⟨Nat.le_of_ble_eq_true rfl, Nat.le_of_ble_eq_true rfl⟩ hA hS hP hK hD [0, 1, 5, 10, 11, 12, 13, 2, 14, 15, 16, 17, 18, 19, 20, 21] [3, 4, 6, 7, 8, 9] rfl rfl (by decide) (by decide) (by decide) 0 1 rfl rfl [6, 7, 13, 0, 1, 8, 2, 3, 4, 5, 9, 10, 11, 12, 14, 15, 16, 17, 18, 19, 20, 21] (by decide) (fun _ => rfl) rfl (fun w_fu H locs hp_3 hP hD hS => ?_)
  have hu := hp_3
  refine lv_aload_n hx hb dX1_find_23 rfl (lv_at hl 0 rfl) ?_
  refine lv_aload_n hx hb dX1_find_24 rfl (lv_at hl 0 rfl) ?_
  refine va_get (D := (dC, dI)) (ci := 1) (v := .ref (sd 3)) (C := RX1) (T := TX1) (N := 5) hx hb hts (fun _ h9 => List.mem_cons_of_mem _ (List.mem_append_left _ (List.mem_append_right _ h9))) hown hK hP 0 rfl rfl 2 (by decide) (hts (.fieldLink RX1 18 "SwitchLevelSimulator$SteadyState" "down" "[I") (List.mem_of_getElem? (i := 3) rfl)) (fun _ h9 => h9) rfl dX1_find_25 ?_
  refine lv_aload_n hx hb dX1_find_28 rfl (lv_at hl 1 rfl) ?_
  refine va_get (D := (dC, dI)) (ci := 0) (v := .int (msk (m0 c))) (C := RX0) (T := TX0) (N := 13) hx hb hts (fun _ h9 => List.mem_cons_of_mem _ (List.mem_append_right _ h9)) hown hK hP 14 rfl rfl 4 (by decide) (hts (.fieldLink RX1 46 "SwitchLevelSimulator$Circuit" "mayBeZero" "I") (List.mem_of_getElem? (i := 4) rfl)) (fun _ h9 => h9) rfl dX1_find_29 ?_
  refine my_cast (show msk (m0 c) = msk (car c 0) from car_0 ok) ?_
  refine lv_aload_n hx hb dX1_find_32 rfl (lv_at hl 1 rfl) ?_
  refine CV.callV (As := [.ref (sd 3), .int (msk (car c 0)), .ref (cd 0)]) (rest := []) (w3 := (fun w_fd => (tF cI cG sd w_fq w_fu w_fd r0 (w_nb 1) (w_nb 2) (w_nb 3) t0 (w_nb 4) (w_nb 5) (w_nb 6)) ++ (cF cI cd (nI (c 0)) (msk (inp c)) (msk (sto c)) (msk (m0 c)) (msk (m1 c)) (nI (c 1)) (szA c) (pA c 50) (pA c 90) (pA c 130) (pA c 170) (pA c 210) (pA c 250)))) (c_X1_findSide l dC dI cI cZ cR cG sd (sd 3) cd w_fq fd t0 (w_nb 4) (w_nb 5) (w_nb 6) c 0 (ok) (hq) (⟨hnb.2.2.2.1, hnb.2.2.2.2.1, hnb.2.2.2.2.2⟩)) ⟨hx, hb, hml, hown, hts⟩ (cwV 3 hts gX1_find_X1_findSide rfl rfl rfl (by decide +kernel) ⟨Nat.le_of_ble_eq_true rfl, Nat.le_of_ble_eq_true rfl⟩) rfl hl.1 (Nat.le_of_ble_eq_true rfl) dX1_find_33 ⟨Nat.le_of_ble_eq_true rfl, Nat.le_of_ble_eq_true rfl⟩ hA hS hP hK hD [0, 1, 5, 10, 11, 12, 13, 3, 14, 15, 16, 17, 18, 19, 20, 21] [2, 4, 6, 7, 8, 9] rfl rfl (by decide) (by decide) (by decide) 0 1 rfl rfl [6, 7, 0, 13, 1, 8, 2, 3, 4, 5, 9, 10, 11, 12, 14, 15, 16, 17, 18, 19, 20, 21] (by decide) (fun _ => rfl) rfl (fun w_fd H locs hp_4 hP hD hS => ?_)
  have hd := hp_4
  exact ret (mk9 w_fq w_fu w_fd (w_nb 1) (w_nb 2) (w_nb 3) (w_nb 4) (w_nb 5) (w_nb 6)) _ _ _ _ _ _ _ (⟨hq, hu, hd⟩) (rfl) hP hD hS (Nat.le_of_ble_eq_true rfl) (Nat.le_of_ble_eq_true rfl) dX1_find_36
abbrev rm_X1_definiteLevel : Room := { frames := 1, cells := 0, slots := 0, locals := 22 }
set_option maxHeartbeats 4000000 in
set_option maxRecDepth 100000 in
theorem c_X1_definiteLevel (l : Launch) (dC : Nat → ClassId) (dI : Nat → Nat → Nat) (cI cZ cR cG : ClassId) (sd : Nat → Nat) (fq fu fd r0 r1 r2 r3 t0 t1 t2 t3 : Nat → Int32) (c : Nat → Nat) (j : Nat) (ok : okG c) (hf : ∀ lv, 1 ≤ lv → lv ≤ 7 → fq lv = msk (lvQ c lv)) (hj : j < c 0) : CI l (dC, dI) (tyL cI cZ cR cG) yX1_definiteLevel wsX1_definiteLevel rm_X1_definiteLevel [.ref (sd 0), .int (nI j)] (tF cI cG sd fq fu fd r0 r1 r2 r3 t0 t1 t2 t3) (S := Unit) (fun _ => nI (qF c j)) (fun _ => True) (fun _ => tF cI cG sd fq fu fd r0 r1 r2 r3 t0 t1 t2 t3) := by
  refine CI.of (cc := cX1_definiteLevel) (maxL := 2) (rt := .int) (lv := [(0, .ref (sd 0)), (1, .int (nI j))]) (by decide) rfl (Nat.le_of_ble_eq_true rfl) rfl (Or.inl rfl) ?_
  intro p e s m ar below meth kc A Qz ls hx hb hml hown hts hnm hA hS hP hK hD hl ret
  have h0 := ok.1
  have h1 := ok.2.1
  refine lv_aload_n hx hb dX1_definiteLevel_0 rfl (lv_at hl 0 rfl) ?_
  refine va_get (D := (dC, dI)) (ci := 1) (v := .ref (sd 1)) (C := RX1) (T := TX1) (N := 5) hx hb hts (fun _ h9 => List.mem_cons_of_mem _ (List.mem_append_right _ h9)) hown hK hP 0 rfl rfl 0 (by decide) (hts (.fieldLink RX1 9 "SwitchLevelSimulator$SteadyState" "definite" "[I") (List.mem_of_getElem? (i := 1) rfl)) (fun _ h9 => h9) rfl dX1_definiteLevel_1 ?_
  refine lv_iload_n hx hb dX1_definiteLevel_4 rfl (lv_at hl 1 rfl) ?_
  refine CI.callS (As := [.ref (sd 1), .int (nI j)]) (rest := []) (w3 := (fun _ => tF cI cG sd fq fu fd r0 r1 r2 r3 t0 t1 t2 t3)) (c_X1_levelIn l dC dI cI cZ cR cG (sd 1) fq (qF c) (c 0) j (hf) (h0) (by omega) (q_le7 ok j)) ⟨hx, hb, hml, hown, hts⟩ (va_cwS 2 hts gX1_definiteLevel_X1_levelIn rfl rfl rfl (by decide +kernel) ⟨Nat.le_of_ble_eq_true rfl, Nat.le_of_ble_eq_true rfl⟩) rfl hl.1 (Nat.le_of_ble_eq_true rfl) dX1_definiteLevel_5 ⟨Nat.le_of_ble_eq_true rfl, Nat.le_of_ble_eq_true rfl⟩ hA hS hP hK hD [1] [0, 2, 3, 4, 5, 6, 7, 8, 9, 10, 11, 12, 13] rfl rfl (by decide) (by decide) (by decide) [0, 13, 1, 2, 3, 4, 5, 6, 7, 8, 9, 10, 11, 12] (by decide) (fun _ => rfl) rfl (fun _ H locs hp_1 hP hD hS => ?_)
  exact ret () _ _ _ _ _ _ _ _ (rfl) (trivial) (rfl) hP hD hS (Nat.le_of_ble_eq_true rfl) (Nat.le_of_ble_eq_true rfl) dX1_definiteLevel_8
abbrev rm_X1_upLevel : Room := { frames := 1, cells := 0, slots := 0, locals := 22 }
set_option maxHeartbeats 4000000 in
set_option maxRecDepth 100000 in
theorem c_X1_upLevel (l : Launch) (dC : Nat → ClassId) (dI : Nat → Nat → Nat) (cI cZ cR cG : ClassId) (sd : Nat → Nat) (fq fu fd r0 r1 r2 r3 t0 t1 t2 t3 : Nat → Int32) (c : Nat → Nat) (j : Nat) (ok : okG c) (hf : ∀ lv, 1 ≤ lv → lv ≤ 7 → fu lv = msk (lvU c 1 lv)) (hj : j < c 0) : CI l (dC, dI) (tyL cI cZ cR cG) yX1_upLevel wsX1_upLevel rm_X1_upLevel [.ref (sd 0), .int (nI j)] (tF cI cG sd fq fu fd r0 r1 r2 r3 t0 t1 t2 t3) (S := Unit) (fun _ => nI (uF c 1 j)) (fun _ => True) (fun _ => tF cI cG sd fq fu fd r0 r1 r2 r3 t0 t1 t2 t3) := by
  refine CI.of (cc := cX1_upLevel) (maxL := 2) (rt := .int) (lv := [(0, .ref (sd 0)), (1, .int (nI j))]) (by decide) rfl (Nat.le_of_ble_eq_true rfl) rfl (Or.inl rfl) ?_
  intro p e s m ar below meth kc A Qz ls hx hb hml hown hts hnm hA hS hP hK hD hl ret
  have h0 := ok.1
  have h1 := ok.2.1
  refine lv_aload_n hx hb dX1_upLevel_0 rfl (lv_at hl 0 rfl) ?_
  refine va_get (D := (dC, dI)) (ci := 1) (v := .ref (sd 2)) (C := RX1) (T := TX1) (N := 5) hx hb hts (fun _ h9 => List.mem_cons_of_mem _ (List.mem_append_right _ h9)) hown hK hP 0 rfl rfl 1 (by decide) (hts (.fieldLink RX1 15 "SwitchLevelSimulator$SteadyState" "up" "[I") (List.mem_of_getElem? (i := 1) rfl)) (fun _ h9 => h9) rfl dX1_upLevel_1 ?_
  refine lv_iload_n hx hb dX1_upLevel_4 rfl (lv_at hl 1 rfl) ?_
  refine CI.callS (As := [.ref (sd 2), .int (nI j)]) (rest := []) (w3 := (fun _ => tF cI cG sd fq fu fd r0 r1 r2 r3 t0 t1 t2 t3)) (c_X1_levelIn l dC dI cI cZ cR cG (sd 2) fu (uF c 1) (c 0) j (hf) (h0) (by omega) (u_le7 ok 1 j)) ⟨hx, hb, hml, hown, hts⟩ (va_cwS 2 hts gX1_upLevel_X1_levelIn rfl rfl rfl (by decide +kernel) ⟨Nat.le_of_ble_eq_true rfl, Nat.le_of_ble_eq_true rfl⟩) rfl hl.1 (Nat.le_of_ble_eq_true rfl) dX1_upLevel_5 ⟨Nat.le_of_ble_eq_true rfl, Nat.le_of_ble_eq_true rfl⟩ hA hS hP hK hD [2] [0, 1, 3, 4, 5, 6, 7, 8, 9, 10, 11, 12, 13] rfl rfl (by decide) (by decide) (by decide) [0, 1, 13, 2, 3, 4, 5, 6, 7, 8, 9, 10, 11, 12] (by decide) (fun _ => rfl) rfl (fun _ H locs hp_1 hP hD hS => ?_)
  exact ret () _ _ _ _ _ _ _ _ (rfl) (trivial) (rfl) hP hD hS (Nat.le_of_ble_eq_true rfl) (Nat.le_of_ble_eq_true rfl) dX1_upLevel_8
abbrev rm_X1_downLevel : Room := { frames := 1, cells := 0, slots := 0, locals := 22 }
set_option maxHeartbeats 4000000 in
set_option maxRecDepth 100000 in
theorem c_X1_downLevel (l : Launch) (dC : Nat → ClassId) (dI : Nat → Nat → Nat) (cI cZ cR cG : ClassId) (sd : Nat → Nat) (fq fu fd r0 r1 r2 r3 t0 t1 t2 t3 : Nat → Int32) (c : Nat → Nat) (j : Nat) (ok : okG c) (hf : ∀ lv, 1 ≤ lv → lv ≤ 7 → fd lv = msk (lvU c 0 lv)) (hj : j < c 0) : CI l (dC, dI) (tyL cI cZ cR cG) yX1_downLevel wsX1_downLevel rm_X1_downLevel [.ref (sd 0), .int (nI j)] (tF cI cG sd fq fu fd r0 r1 r2 r3 t0 t1 t2 t3) (S := Unit) (fun _ => nI (uF c 0 j)) (fun _ => True) (fun _ => tF cI cG sd fq fu fd r0 r1 r2 r3 t0 t1 t2 t3) := by
  refine CI.of (cc := cX1_downLevel) (maxL := 2) (rt := .int) (lv := [(0, .ref (sd 0)), (1, .int (nI j))]) (by decide) rfl (Nat.le_of_ble_eq_true rfl) rfl (Or.inl rfl) ?_
  intro p e s m ar below meth kc A Qz ls hx hb hml hown hts hnm hA hS hP hK hD hl ret
  have h0 := ok.1
  have h1 := ok.2.1
  refine lv_aload_n hx hb dX1_downLevel_0 rfl (lv_at hl 0 rfl) ?_
  refine va_get (D := (dC, dI)) (ci := 1) (v := .ref (sd 3)) (C := RX1) (T := TX1) (N := 5) hx hb hts (fun _ h9 => List.mem_cons_of_mem _ (List.mem_append_right _ h9)) hown hK hP 0 rfl rfl 2 (by decide) (hts (.fieldLink RX1 18 "SwitchLevelSimulator$SteadyState" "down" "[I") (List.mem_of_getElem? (i := 1) rfl)) (fun _ h9 => h9) rfl dX1_downLevel_1 ?_
  refine lv_iload_n hx hb dX1_downLevel_4 rfl (lv_at hl 1 rfl) ?_
  refine CI.callS (As := [.ref (sd 3), .int (nI j)]) (rest := []) (w3 := (fun _ => tF cI cG sd fq fu fd r0 r1 r2 r3 t0 t1 t2 t3)) (c_X1_levelIn l dC dI cI cZ cR cG (sd 3) fd (uF c 0) (c 0) j (hf) (h0) (by omega) (u_le7 ok 0 j)) ⟨hx, hb, hml, hown, hts⟩ (va_cwS 2 hts gX1_downLevel_X1_levelIn rfl rfl rfl (by decide +kernel) ⟨Nat.le_of_ble_eq_true rfl, Nat.le_of_ble_eq_true rfl⟩) rfl hl.1 (Nat.le_of_ble_eq_true rfl) dX1_downLevel_5 ⟨Nat.le_of_ble_eq_true rfl, Nat.le_of_ble_eq_true rfl⟩ hA hS hP hK hD [3] [0, 1, 2, 4, 5, 6, 7, 8, 9, 10, 11, 12, 13] rfl rfl (by decide) (by decide) (by decide) [0, 1, 2, 13, 3, 4, 5, 6, 7, 8, 9, 10, 11, 12] (by decide) (fun _ => rfl) rfl (fun _ H locs hp_1 hP hD hS => ?_)
  exact ret () _ _ _ _ _ _ _ _ (rfl) (trivial) (rfl) hP hD hS (Nat.le_of_ble_eq_true rfl) (Nat.le_of_ble_eq_true rfl) dX1_downLevel_8
abbrev rm_X1_changesOf : Room := { frames := 0, cells := 0, slots := 0, locals := 0 }
set_option maxHeartbeats 4000000 in
set_option maxRecDepth 100000 in
theorem c_X1_changesOf (l : Launch) (dC : Nat → ClassId) (dI : Nat → Nat → Nat) (cI cZ cR cG : ClassId) (sd cd : Nat → Nat) (fq fu fd r0 r1 r2 r3 t0 t1 t2 t3 : Nat → Int32) (c : Nat → Nat) (ok : okG c) (hu : fu 1 = msk (lvU c 1 1)) (hd : fd 1 = msk (lvU c 0 1)) : CI l (dC, dI) (tyL cI cZ cR cG) yX1_changesOf wsX1_changesOf rm_X1_changesOf [.ref (sd 0), .ref (cd 0)] ((tF cI cG sd fq fu fd r0 r1 r2 r3 t0 t1 t2 t3) ++ (cF cI cd (nI (c 0)) (msk (inp c)) (msk (sto c)) (msk (m0 c)) (msk (m1 c)) (nI (c 1)) (szA c) (pA c 50) (pA c 90) (pA c 130) (pA c 170) (pA c 210) (pA c 250))) (S := Unit) (fun _ => msk (act c)) (fun _ => True) (fun _ => tF cI cG sd fq fu fd r0 r1 r2 r3 t0 t1 t2 t3 ++ cW cI cd c) := by
  refine CI.of (cc := cX1_changesOf) (maxL := 2) (rt := .int) (lv := [(0, .ref (sd 0)), (1, .ref (cd 0))]) (by decide) rfl (Nat.le_of_ble_eq_true rfl) rfl (Or.inl rfl) ?_
  intro p e s m ar below meth kc A Qz ls hx hb hml hown hts hnm hA hS hP hK hD hl ret
  have h0 := ok.1
  have h1 := ok.2.1
  refine lv_aload_n hx hb dX1_changesOf_0 rfl (lv_at hl 0 rfl) ?_
  refine va_get (D := (dC, dI)) (ci := 1) (v := .ref (sd 2)) (C := RX1) (T := TX1) (N := 5) hx hb hts (fun _ h9 => List.mem_cons_of_mem _ (List.mem_append_left _ (List.mem_append_right _ h9))) hown hK hP 0 rfl rfl 1 (by decide) (hts (.fieldLink RX1 15 "SwitchLevelSimulator$SteadyState" "up" "[I") (List.mem_of_getElem? (i := 1) rfl)) (fun _ h9 => h9) rfl dX1_changesOf_1 ?_
  refine lv_iconst (v := nI 1) hx hb dX1_changesOf_4 (by decide) ?_
  refine my_iald (i := 1) hx hb hK hP 2 0 rfl rfl (by omega) (by decide) dX1_changesOf_5 ?_
  refine my_cast (show fu 1 = msk (lvU c 1 1) from hu) ?_
  refine lv_aload_n hx hb dX1_changesOf_6 rfl (lv_at hl 1 rfl) ?_
  refine va_get (D := (dC, dI)) (ci := 0) (v := .int (msk (m1 c))) (C := RX0) (T := TX0) (N := 13) hx hb hts (fun _ h9 => List.mem_cons_of_mem _ (List.mem_append_right _ h9)) hown hK hP 14 rfl rfl 5 (by decide) (hts (.fieldLink RX1 36 "SwitchLevelSimulator$Circuit" "mayBeOne" "I") (List.mem_of_getElem? (i := 2) rfl)) (fun _ h9 => h9) rfl dX1_changesOf_7 ?_
  refine lv_ixor hx hb dX1_changesOf_10 ?_
  refine lv_aload_n hx hb dX1_changesOf_11 rfl (lv_at hl 0 rfl) ?_
  refine va_get (D := (dC, dI)) (ci := 1) (v := .ref (sd 3)) (C := RX1) (T := TX1) (N := 5) hx hb hts (fun _ h9 => List.mem_cons_of_mem _ (List.mem_append_left _ (List.mem_append_right _ h9))) hown hK hP 0 rfl rfl 2 (by decide) (hts (.fieldLink RX1 18 "SwitchLevelSimulator$SteadyState" "down" "[I") (List.mem_of_getElem? (i := 3) rfl)) (fun _ h9 => h9) rfl dX1_changesOf_12 ?_
  refine lv_iconst (v := nI 1) hx hb dX1_changesOf_15 (by decide) ?_
  refine my_iald (i := 1) hx hb hK hP 3 0 rfl rfl (by omega) (by decide) dX1_changesOf_16 ?_
  refine my_cast (show fd 1 = msk (lvU c 0 1) from hd) ?_
  refine lv_aload_n hx hb dX1_changesOf_17 rfl (lv_at hl 1 rfl) ?_
  refine va_get (D := (dC, dI)) (ci := 0) (v := .int (msk (m0 c))) (C := RX0) (T := TX0) (N := 13) hx hb hts (fun _ h9 => List.mem_cons_of_mem _ (List.mem_append_right _ h9)) hown hK hP 14 rfl rfl 4 (by decide) (hts (.fieldLink RX1 46 "SwitchLevelSimulator$Circuit" "mayBeZero" "I") (List.mem_of_getElem? (i := 4) rfl)) (fun _ h9 => h9) rfl dX1_changesOf_18 ?_
  refine lv_ixor hx hb dX1_changesOf_21 ?_
  refine lv_ior hx hb dX1_changesOf_22 ?_
  exact ret () _ _ _ _ _ _ _ _ (chg_m ok) (trivial) (rfl) hP hD hS (Nat.le_of_ble_eq_true rfl) (Nat.le_of_ble_eq_true rfl) dX1_changesOf_23
abbrev rm_X1_putInto : Room := { frames := 0, cells := 0, slots := 0, locals := 0 }
set_option maxHeartbeats 4000000 in
set_option maxRecDepth 100000 in
theorem c_X1_putInto (l : Launch) (dC : Nat → ClassId) (dI : Nat → Nat → Nat) (cI cZ cR cG : ClassId) (sd cd : Nat → Nat) (fq fu fd r0 r1 r2 r3 t0 t1 t2 t3 : Nat → Int32) (c : Nat → Nat) (ok : okG c) (hu : fu 1 = msk (lvU c 1 1)) (hd : fd 1 = msk (lvU c 0 1)) : CV l (dC, dI) (tyL cI cZ cR cG) yX1_putInto wsX1_putInto rm_X1_putInto [.ref (sd 0), .ref (cd 0)] ((tF cI cG sd fq fu fd r0 r1 r2 r3 t0 t1 t2 t3) ++ (cF cI cd (nI (c 0)) (msk (inp c)) (msk (sto c)) (msk (m0 c)) (msk (m1 c)) (nI (c 1)) (szA c) (pA c 50) (pA c 90) (pA c 130) (pA c 170) (pA c 210) (pA c 250))) (S := Unit) (fun _ => True) (fun _ => tF cI cG sd fq fu fd r0 r1 r2 r3 t0 t1 t2 t3 ++ cW cI cd (stp c)) := by
  refine CV.of (cc := cX1_putInto) (maxL := 2) (lv := [(0, .ref (sd 0)), (1, .ref (cd 0))]) (by decide) rfl (Nat.le_of_ble_eq_true rfl) rfl ?_
  intro p e s m ar below meth kc A Qz ls hx hb hml hown hts hnm hA hS hP hK hD hl ret
  have h0 := ok.1
  have h1 := ok.2.1
  refine lv_aload_n hx hb dX1_putInto_0 rfl (lv_at hl 1 rfl) ?_
  refine lv_aload_n hx hb dX1_putInto_1 rfl (lv_at hl 0 rfl) ?_
  refine va_get (D := (dC, dI)) (ci := 1) (v := .ref (sd 2)) (C := RX1) (T := TX1) (N := 5) hx hb hts (fun _ h9 => List.mem_cons_of_mem _ (List.mem_append_left _ (List.mem_append_right _ h9))) hown hK hP 0 rfl rfl 1 (by decide) (hts (.fieldLink RX1 15 "SwitchLevelSimulator$SteadyState" "up" "[I") (List.mem_of_getElem? (i := 1) rfl)) (fun _ h9 => h9) rfl dX1_putInto_2 ?_
  refine lv_iconst (v := nI 1) hx hb dX1_putInto_5 (by decide) ?_
  refine my_iald (i := 1) hx hb hK hP 2 0 rfl rfl (by omega) (by decide) dX1_putInto_6 ?_
  refine my_cast (show fu 1 = msk (lvU c 1 1) from hu) ?_
  refine va_put (D := (dC, dI)) (ci := 0) (v := .int (msk (lvU c 1 1))) (ty := .int) (C := RX0) (T := TX0) (N := 13) hx hb hts (fun _ h9 => List.mem_cons_of_mem _ (List.mem_append_right _ h9)) tyX0 tyX0_ok nmX0 hown hK hP hD hS 14 rfl rfl 5 (by decide) (hts (.fieldLink RX1 36 "SwitchLevelSimulator$Circuit" "mayBeOne" "I") (List.mem_of_getElem? (i := 2) rfl)) (fun _ h9 => h9) rfl (by decide +kernel) rfl rfl (Nat.le_of_ble_eq_true rfl) dX1_putInto_7 (fun H locs hP hD hS => ?_)
  have hP : va_P (dC, dI) vwCl ((tF cI cG sd fq fu fd r0 r1 r2 r3 t0 t1 t2 t3) ++ (cF cI cd (nI (c 0)) (msk (inp c)) (msk (sto c)) (msk (m0 c)) (msk (lvU c 1 1)) (nI (c 1)) (szA c) (pA c 50) (pA c 90) (pA c 130) (pA c 170) (pA c 210) (pA c 250))) H := hP
  have hD : va_D A ((tF cI cG sd fq fu fd r0 r1 r2 r3 t0 t1 t2 t3) ++ (cF cI cd (nI (c 0)) (msk (inp c)) (msk (sto c)) (msk (m0 c)) (msk (lvU c 1 1)) (nI (c 1)) (szA c) (pA c 50) (pA c 90) (pA c 130) (pA c 170) (pA c 210) (pA c 250))) := hD
  refine lv_aload_n hx hb dX1_putInto_10 rfl (lv_at hl 1 rfl) ?_
  refine lv_aload_n hx hb dX1_putInto_11 rfl (lv_at hl 0 rfl) ?_
  refine va_get (D := (dC, dI)) (ci := 1) (v := .ref (sd 3)) (C := RX1) (T := TX1) (N := 5) hx hb hts (fun _ h9 => List.mem_cons_of_mem _ (List.mem_append_left _ (List.mem_append_right _ h9))) hown hK hP 0 rfl rfl 2 (by decide) (hts (.fieldLink RX1 18 "SwitchLevelSimulator$SteadyState" "down" "[I") (List.mem_of_getElem? (i := 3) rfl)) (fun _ h9 => h9) rfl dX1_putInto_12 ?_
  refine lv_iconst (v := nI 1) hx hb dX1_putInto_15 (by decide) ?_
  refine my_iald (i := 1) hx hb hK hP 3 0 rfl rfl (by omega) (by decide) dX1_putInto_16 ?_
  refine my_cast (show fd 1 = msk (lvU c 0 1) from hd) ?_
  refine va_put (D := (dC, dI)) (ci := 0) (v := .int (msk (lvU c 0 1))) (ty := .int) (C := RX0) (T := TX0) (N := 13) hx hb hts (fun _ h9 => List.mem_cons_of_mem _ (List.mem_append_right _ h9)) tyX0 tyX0_ok nmX0 hown hK hP hD hS 14 rfl rfl 4 (by decide) (hts (.fieldLink RX1 46 "SwitchLevelSimulator$Circuit" "mayBeZero" "I") (List.mem_of_getElem? (i := 4) rfl)) (fun _ h9 => h9) rfl (by decide +kernel) rfl rfl (Nat.le_of_ble_eq_true rfl) dX1_putInto_17 (fun H locs hP hD hS => ?_)
  have hP : va_P (dC, dI) vwCl ((tF cI cG sd fq fu fd r0 r1 r2 r3 t0 t1 t2 t3) ++ (cF cI cd (nI (c 0)) (msk (inp c)) (msk (sto c)) (msk (lvU c 0 1)) (msk (lvU c 1 1)) (nI (c 1)) (szA c) (pA c 50) (pA c 90) (pA c 130) (pA c 170) (pA c 210) (pA c 250))) H := hP
  have hD : va_D A ((tF cI cG sd fq fu fd r0 r1 r2 r3 t0 t1 t2 t3) ++ (cF cI cd (nI (c 0)) (msk (inp c)) (msk (sto c)) (msk (lvU c 0 1)) (msk (lvU c 1 1)) (nI (c 1)) (szA c) (pA c 50) (pA c 90) (pA c 130) (pA c 170) (pA c 210) (pA c 250))) := hD
  exact ret () _ _ _ _ _ _ _ (trivial) (by show tF cI cG sd fq fu fd r0 r1 r2 r3 t0 t1 t2 t3 ++ cW cI cd (stp c) = _; rw [cW_stp ok]) hP hD hS (Nat.le_of_ble_eq_true rfl) (Nat.le_of_ble_eq_true rfl) dX1_putInto_20
abbrev rm_X1_storageAround : Room := { frames := 3, cells := 0, slots := 0, locals := 69 }
set_option maxHeartbeats 4000000 in
set_option maxRecDepth 100000 in
theorem c_X1_storageAround (l : Launch) (dC : Nat → ClassId) (dI : Nat → Nat → Nat) (cI cZ cR cG : ClassId) (sd cd : Nat → Nat) (fq fu fd r0 r1 r2 r3 t0 t1 t2 t3 : Nat → Int32) (c : Nat → Nat) (j : Nat) (ok : okG c) (hj : j < c 0) (hs : c (2 + j) ≠ 0) : CI l (dC, dI) (tyL cI cZ cR cG) yX1_storageAround wsX1_storageAround rm_X1_storageAround [.ref (sd 0), .int (nI j), .ref (cd 0)] ((tF cI cG sd fq fu fd r0 r1 r2 r3 t0 t1 t2 t3) ++ (cF cI cd (nI (c 0)) (msk (inp c)) (msk (sto c)) (msk (m0 c)) (msk (m1 c)) (nI (c 1)) (szA c) (pA c 50) (pA c 90) (pA c 130) (pA c 170) (pA c 210) (pA c 250))) (S := Nat → Nat → Int32) (fun _ => msk (vicS c j)) (fun _ => True) (fun u => tF cI cG sd fq fu fd r0 (u 1) (u 2) (u 3) t0 (u 4) (u 5) (u 6) ++ cW cI cd c) := by
  refine CI.of (cc := cX1_storageAround) (maxL := 3) (rt := .int) (lv := [(0, .ref (sd 0)), (1, .int (nI j)), (2, .ref (cd 0))]) (by decide) rfl (Nat.le_of_ble_eq_true rfl) rfl (Or.inl rfl) ?_
  intro p e s m ar below meth kc A Qz ls hx hb hml hown hts hnm hA hS hP hK hD hl ret
  have h0 := ok.1
  have h1 := ok.2.1
  refine lv_aload_n hx hb dX1_storageAround_0 rfl (lv_at hl 0 rfl) ?_
  refine lv_aload_n hx hb dX1_storageAround_1 rfl (lv_at hl 2 rfl) ?_
  refine CV.callV (As := [.ref (cd 0)]) (rest := []) (w3 := (fun w_nb => (tF cI cG sd fq fu fd r0 (w_nb 1) (w_nb 2) (w_nb 3) t0 (w_nb 4) (w_nb 5) (w_nb 6)) ++ (cF cI cd (nI (c 0)) (msk (inp c)) (msk (sto c)) (msk (m0 c)) (msk (m1 c)) (nI (c 1)) (szA c) (pA c 50) (pA c 90) (pA c 130) (pA c 170) (pA c 210) (pA c 250)))) (c_X1_findNeighbors l dC dI cI cZ cR cG sd cd fq fu fd r0 r1 r2 r3 t0 t1 t2 t3 c (ok)) ⟨hx, hb, hml, hown, hts⟩ (cwV 1 hts gX1_storageAround_X1_findNeighbors rfl rfl rfl (by decide +kernel) ⟨Nat.le_of_ble_eq_true rfl, Nat.le_of_ble_eq_true rfl⟩) rfl hl.1 (Nat.le_of_ble_eq_true rfl) dX1_storageAround_2 ⟨Nat.le_of_ble_eq_true rfl, Nat.le_of_ble_eq_true rfl⟩ hA hS hP hK hD [0, 1, 2, 3, 4, 5, 6, 7, 8, 9, 10, 11, 12, 13, 14, 15, 16, 17, 18, 19, 20, 21] [] rfl rfl (by decide) (by decide) (by decide) 0 1 rfl rfl [0, 1, 2, 3, 4, 5, 6, 7, 8, 9, 10, 11, 12, 13, 14, 15, 16, 17, 18, 19, 20, 21] (by decide) (fun _ => rfl) rfl (fun w_nb H locs hp_1 hP hD hS => ?_)
  have hnb : NB c (w_nb 1) (w_nb 2) (w_nb 3) (w_nb 4) (w_nb 5) (w_nb 6) := hp_1
  refine lv_iconst (v := nI 1) hx hb dX1_storageAround_5 (by decide) ?_
  refine lv_iload_n hx hb dX1_storageAround_6 rfl (lv_at hl 1 rfl) ?_
  refine lv_ishl hx hb dX1_storageAround_7 ?_
  refine my_cast (show (1 : Int32) <<< (nI j &&& 31) = msk (fun i => decide (i = j)) from msk_bit j (by omega)) ?_
  refine lv_aload_n hx hb dX1_storageAround_8 rfl (lv_at hl 0 rfl) ?_
  refine va_get (D := (dC, dI)) (ci := 1) (v := .ref (sd 5)) (C := RX1) (T := TX1) (N := 5) hx hb hts (fun _ h9 => List.mem_cons_of_mem _ (List.mem_append_left _ (List.mem_append_right _ h9))) hown hK hP 0 rfl rfl 4 (by decide) (hts (.fieldLink RX1 26 "SwitchLevelSimulator$SteadyState" "byNotOpen" "[[I") (List.mem_of_getElem? (i := 1) rfl)) (fun _ h9 => h9) rfl dX1_storageAround_9 ?_
  refine lv_iconst (v := nI 1) hx hb dX1_storageAround_12 (by decide) ?_
  refine my_aldr (i := 1) (ty := .array .int) (v := .ref (sd 11)) hx hb hK hP 5 3 rfl rfl rfl (by omega) (by decide) dX1_storageAround_13 rfl ?_
  refine lv_aload_n hx hb dX1_storageAround_14 rfl (lv_at hl 2 rfl) ?_
  refine va_get (D := (dC, dI)) (ci := 0) (v := .int (msk (sto c))) (C := RX0) (T := TX0) (N := 13) hx hb hts (fun _ h9 => List.mem_cons_of_mem _ (List.mem_append_right _ h9)) hown hK hP 14 rfl rfl 2 (by decide) (hts (.fieldLink RX1 53 "SwitchLevelSimulator$Circuit" "storageNodes" "I") (List.mem_of_getElem? (i := 2) rfl)) (fun _ h9 => h9) rfl dX1_storageAround_15 ?_
  refine CI.callS (As := [.int (msk (fun i => decide (i = j))), .ref (sd 11), .int (msk (sto c))]) (rest := []) (w3 := (fun _ => (tF cI cG sd fq fu fd r0 (w_nb 1) (w_nb 2) (w_nb 3) t0 (w_nb 4) (w_nb 5) (w_nb 6)) ++ (cF cI cd (nI (c 0)) (msk (inp c)) (msk (sto c)) (msk (m0 c)) (msk (m1 c)) (nI (c 1)) (szA c) (pA c 50) (pA c 90) (pA c 130) (pA c 170) (pA c 210) (pA c 250)))) (c_X1_reach l dC dI cI cZ cR cG (sd 11) (w_nb 4) (eK c false 1 (c 1)) (fun i => decide (i = j)) (sto c) (fun i _ h => hnb.2.2.2.1 i (h.elim (fun z => by rw [of_decide_eq_true z]; exact hj) sto_lt)) (fun i h => Nat.lt_of_lt_of_le (sto_lt h) h0) (fun i h => by rw [of_decide_eq_true h]; omega)) ⟨hx, hb, hml, hown, hts⟩ (va_cwS 3 hts gX1_storageAround_X1_reach rfl rfl rfl (by decide +kernel) ⟨Nat.le_of_ble_eq_true rfl, Nat.le_of_ble_eq_true rfl⟩) rfl hl.1 (Nat.le_of_ble_eq_true rfl) dX1_storageAround_18 ⟨Nat.le_of_ble_eq_true rfl, Nat.le_of_ble_eq_true rfl⟩ hA hS hP hK hD [11] [0, 1, 2, 3, 4, 5, 6, 7, 8, 9, 10, 12, 13, 14, 15, 16, 17, 18, 19, 20, 21] rfl rfl (by decide) (by decide) (by decide) [0, 1, 2, 3, 4, 5, 6, 7, 8, 9, 10, 21, 11, 12, 13, 14, 15, 16, 17, 18, 19, 20] (by decide) (fun _ => rfl) rfl (fun _ H locs hp_2 hP hD hS => ?_)
  exact ret w_nb _ _ _ _ _ _ _ _ (by show _ = msk (vicS c j); rw [vic_E ok hs]) (trivial) (rfl) hP hD hS (Nat.le_of_ble_eq_true rfl) (Nat.le_of_ble_eq_true rfl) dX1_storageAround_21
