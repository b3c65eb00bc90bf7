abbrev rm_X1_findNeighbors : Room := { frames := 2, cells := 0, slots := 0, locals := 46 }
set_option maxHeartbeats 4000000 in
set_option maxRecDepth 100000 in
theorem c_X1_findNeighbors (l : Launch) (dC : Nat → ClassId) (dI : Nat → Nat → Nat) (cI cZ cR cG : ClassId) (sd cd : Nat → Nat) (fq fu fd r0 r1 r2 r3 t0 t1 t2 t3 : Nat → Int32) (c : Nat → Nat) (ok : okG c) : CV l (dC, dI) (tyL cI cZ cR cG) yX1_findNeighbors wsX1_findNeighbors rm_X1_findNeighbors [.ref (sd 0), .ref (cd 0)] ((tF cI cG sd fq fu fd r0 r1 r2 r3 t0 t1 t2 t3) ++ (cF cI cd (nI (c 0)) (msk (inp c)) (msk (sto c)) (msk (m0 c)) (msk (m1 c)) (nI (c 1)) (szA c) (pA c 50) (pA c 90) (pA c 130) (pA c 170) (pA c 210) (pA c 250))) (S := Nat → Nat → Int32) (fun u => NB c (u 1) (u 2) (u 3) (u 4) (u 5) (u 6)) (fun u => tF cI cG sd fq fu fd r0 (u 1) (u 2) (u 3) t0 (u 4) (u 5) (u 6) ++ cW cI cd c) := by
  refine CV.of (cc := cX1_findNeighbors) (maxL := 4) (lv := [(0, .ref (sd 0)), (1, .ref (cd 0))]) (by decide) rfl (Nat.le_of_ble_eq_true rfl) rfl ?_
  intro p e s m ar below meth kc A Qz ls hx hb hml hown hts hnm hA hS hP hK hD hl ret
  have h0 := ok.1
  have h1 := ok.2.1
  refine lv_iconst (v := nI 1) hx hb dX1_findNeighbors_0 (by decide) ?_
  refine lv_istore_n (lv' := [(2, .int (nI 1)), (0, .ref (sd 0)), (1, .ref (cd 0))]) hx hb dX1_findNeighbors_1 rfl hl (by decide) rfl (fun ls hl => ?_)
  refine lv_iload_n hx hb dX1_findNeighbors_2 rfl (lv_at hl 0 rfl) ?_
  refine lv_iconst (v := nI 3) hx hb dX1_findNeighbors_3 (by decide) ?_
  refine my_icmp_gt (x := 1) (y := 3) (tgt := 47) hx hb (by omega) (by omega) dX1_findNeighbors_4 (by decide) (fun c_1 => absurd c_1 (by decide)) (fun _ => ?_)
  refine lv_iconst (v := nI 0) hx hb dX1_findNeighbors_7 (by decide) ?_
  refine lv_istore_n (lv' := [(3, .int (nI 0)), (2, .int (nI 1)), (0, .ref (sd 0)), (1, .ref (cd 0))]) hx hb dX1_findNeighbors_8 rfl hl (by decide) rfl (fun ls hl => ?_)
  have key_9_1 : ∀ (zfu : Nat) (n1 : Nat) (fr1 : Nat → Int32) (ft1 : Nat → Int32), (c 0 - n1) < zfu → (n1 ≤ c 0) → (∀ i, i < n1 → fr1 i = 0 ∧ ft1 i = 0) → ∀ (H : Heap) (locs : List Loc) (ls : Array Slot), va_P (dC, dI) vwCl ((tF cI cG sd fq fu fd r0 fr1 r2 r3 t0 ft1 t2 t3) ++ (cF cI cd (nI (c 0)) (msk (inp c)) (msk (sto c)) (msk (m0 c)) (msk (m1 c)) (nI (c 1)) (szA c) (pA c 50) (pA c 90) (pA c 130) (pA c 170) (pA c 210) (pA c 250))) H → va_D A ((tF cI cG sd fq fu fd r0 fr1 r2 r3 t0 ft1 t2 t3) ++ (cF cI cd (nI (c 0)) (msk (inp c)) (msk (sto c)) (msk (m0 c)) (msk (m1 c)) (nI (c 1)) (szA c) (pA c 50) (pA c 90) (pA c 130) (pA c 170) (pA c 210) (pA c 250))) → va_S A s.heap H locs → lv_has ls 4 [(3, .int (nI n1)), (2, .int (nI 1)), (0, .ref (sd 0)), (1, .ref (cd 0))] → W p l e rm_X1_findNeighbors s m ar below meth kc H locs 0 0 Qz (F0 m 9 ls []) := by
    intro zfu
    induction zfu with
    | zero => intro n1 fr1 ft1 hmu; exact absurd hmu (Nat.not_lt_zero _)
    | succ zfu ih_9_1 =>
      intro n1 fr1 ft1 hmu_9_1 hn1 hz1 H locs ls hP hD hS hl
      refine lv_iload_n hx hb dX1_findNeighbors_9 rfl (lv_at hl 0 rfl) ?_
      refine lv_aload_n hx hb dX1_findNeighbors_10 rfl (lv_at hl 3 rfl) ?_
      refine va_get (D := (dC, dI)) (ci := 0) (v := .int (nI (c 0))) (C := RX0) (T := TX0) (N := 13) hx hb hts (fun _ h9 => List.mem_cons_of_mem _ (List.mem_append_left _ (List.mem_append_right _ h9))) hown hK hP 14 rfl rfl 0 (by decide) (hts (.fieldLink RX1 76 "SwitchLevelSimulator$Circuit" "nodeTotal" "I") (List.mem_of_getElem? (i := 1) rfl)) (fun _ h9 => h9) rfl dX1_findNeighbors_11 ?_
      refine my_icmp_ge (x := n1) (y := (c 0)) (tgt := 41) hx hb (by omega) (by omega) dX1_findNeighbors_14 (by decide) (fun c_3 => ?_) (fun c_3 => ?_)
      · refine my_iinc (k := 1) (x := 1) (d := 1) (lv' := [(2, .int (nI 2)), (3, .int (nI n1)), (0, .ref (sd 0)), (1, .ref (cd 0))]) hx hb dX1_findNeighbors_41 hl rfl (by decide) (by decide) rfl (fun ls hl => ?_)
        refine lv_goto (tgt := 2) hx hb dX1_findNeighbors_44 (by decide) ?_
        refine lv_iload_n hx hb dX1_findNeighbors_2 rfl (lv_at hl 0 rfl) ?_
        refine lv_iconst (v := nI 3) hx hb dX1_findNeighbors_3 (by decide) ?_
        refine my_icmp_gt (x := 2) (y := 3) (tgt := 47) hx hb (by omega) (by omega) dX1_findNeighbors_4 (by decide) (fun c_4 => absurd c_4 (by decide)) (fun _ => ?_)
        refine lv_iconst (v := nI 0) hx hb dX1_findNeighbors_7 (by decide) ?_
        refine lv_istore_n (lv' := [(3, .int (nI 0)), (2, .int (nI 2)), (0, .ref (sd 0)), (1, .ref (cd 0))]) hx hb dX1_findNeighbors_8 rfl hl (by decide) rfl (fun ls hl => ?_)
        have key_9_2 : ∀ (zfu : Nat) (n2 : Nat) (fr2 : Nat → Int32) (ft2 : Nat → Int32), (c 0 - n2) < zfu → (n2 ≤ c 0) → (∀ i, i < n2 → fr2 i = 0 ∧ ft2 i = 0) → ∀ (H : Heap) (locs : List Loc) (ls : Array Slot), va_P (dC, dI) vwCl ((tF cI cG sd fq fu fd r0 fr1 fr2 r3 t0 ft1 ft2 t3) ++ (cF cI cd (nI (c 0)) (msk (inp c)) (msk (sto c)) (msk (m0 c)) (msk (m1 c)) (nI (c 1)) (szA c) (pA c 50) (pA c 90) (pA c 130) (pA c 170) (pA c 210) (pA c 250))) H → va_D A ((tF cI cG sd fq fu fd r0 fr1 fr2 r3 t0 ft1 ft2 t3) ++ (cF cI cd (nI (c 0)) (msk (inp c)) (msk (sto c)) (msk (m0 c)) (msk (m1 c)) (nI (c 1)) (szA c) (pA c 50) (pA c 90) (pA c 130) (pA c 170) (pA c 210) (pA c 250))) → va_S A s.heap H locs → lv_has ls 4 [(3, .int (nI n2)), (2, .int (nI 2)), (0, .ref (sd 0)), (1, .ref (cd 0))] → W p l e rm_X1_findNeighbors s m ar below meth kc H locs 0 0 Qz (F0 m 9 ls []) := by
          intro zfu
          induction zfu with
          | zero => intro n2 fr2 ft2 hmu; exact absurd hmu (Nat.not_lt_zero _)
          | succ zfu ih_9_2 =>
            intro n2 fr2 ft2 hmu_9_2 hn2 hz2 H locs ls hP hD hS hl
            refine lv_iload_n hx hb dX1_findNeighbors_9 rfl (lv_at hl 0 rfl) ?_
            refine lv_aload_n hx hb dX1_findNeighbors_10 rfl (lv_at hl 3 rfl) ?_
            refine va_get (D := (dC, dI)) (ci := 0) (v := .int (nI (c 0))) (C := RX0) (T := TX0) (N := 13) hx hb hts (fun _ h9 => List.mem_cons_of_mem _ (List.mem_append_left _ (List.mem_append_right _ h9))) hown hK hP 14 rfl rfl 0 (by decide) (hts (.fieldLink RX1 76 "SwitchLevelSimulator$Circuit" "nodeTotal" "I") (List.mem_of_getElem? (i := 1) rfl)) (fun _ h9 => h9) rfl dX1_findNeighbors_11 ?_
            refine my_icmp_ge (x := n2) (y := (c 0)) (tgt := 41) hx hb (by omega) (by omega) dX1_findNeighbors_14 (by decide) (fun c_6 => ?_) (fun c_6 => ?_)
            · refine my_iinc (k := 1) (x := 2) (d := 1) (lv' := [(2, .int (nI 3)), (3, .int (nI n2)), (0, .ref (sd 0)), (1, .ref (cd 0))]) hx hb dX1_findNeighbors_41 hl rfl (by decide) (by decide) rfl (fun ls hl => ?_)
              refine lv_goto (tgt := 2) hx hb dX1_findNeighbors_44 (by decide) ?_
              refine lv_iload_n hx hb dX1_findNeighbors_2 rfl (lv_at hl 0 rfl) ?_
              refine lv_iconst (v := nI 3) hx hb dX1_findNeighbors_3 (by decide) ?_
              refine my_icmp_gt (x := 3) (y := 3) (tgt := 47) hx hb (by omega) (by omega) dX1_findNeighbors_4 (by decide) (fun c_7 => absurd c_7 (by decide)) (fun _ => ?_)
              refine lv_iconst (v := nI 0) hx hb dX1_findNeighbors_7 (by decide) ?_
              refine lv_istore_n (lv' := [(3, .int (nI 0)), (2, .int (nI 3)), (0, .ref (sd 0)), (1, .ref (cd 0))]) hx hb dX1_findNeighbors_8 rfl hl (by decide) rfl (fun ls hl => ?_)
              have key_9_3 : ∀ (zfu : Nat) (n3 : Nat) (fr3 : Nat → Int32) (ft3 : Nat → Int32), (c 0 - n3) < zfu → (n3 ≤ c 0) → (∀ i, i < n3 → fr3 i = 0 ∧ ft3 i = 0) → ∀ (H : Heap) (locs : List Loc) (ls : Array Slot), va_P (dC, dI) vwCl ((tF cI cG sd fq fu fd r0 fr1 fr2 fr3 t0 ft1 ft2 ft3) ++ (cF cI cd (nI (c 0)) (msk (inp c)) (msk (sto c)) (msk (m0 c)) (msk (m1 c)) (nI (c 1)) (szA c) (pA c 50) (pA c 90) (pA c 130) (pA c 170) (pA c 210) (pA c 250))) H → va_D A ((tF cI cG sd fq fu fd r0 fr1 fr2 fr3 t0 ft1 ft2 ft3) ++ (cF cI cd (nI (c 0)) (msk (inp c)) (msk (sto c)) (msk (m0 c)) (msk (m1 c)) (nI (c 1)) (szA c) (pA c 50) (pA c 90) (pA c 130) (pA c 170) (pA c 210) (pA c 250))) → va_S A s.heap H locs → lv_has ls 4 [(3, .int (nI n3)), (2, .int (nI 3)), (0, .ref (sd 0)), (1, .ref (cd 0))] → W p l e rm_X1_findNeighbors s m ar below meth kc H locs 0 0 Qz (F0 m 9 ls []) := by
                intro zfu
                induction zfu with
                | zero => intro n3 fr3 ft3 hmu; exact absurd hmu (Nat.not_lt_zero _)
                | succ zfu ih_9_3 =>
                  intro n3 fr3 ft3 hmu_9_3 hn3 hz3 H locs ls hP hD hS hl
                  refine lv_iload_n hx hb dX1_findNeighbors_9 rfl (lv_at hl 0 rfl) ?_
                  refine lv_aload_n hx hb dX1_findNeighbors_10 rfl (lv_at hl 3 rfl) ?_
                  refine va_get (D := (dC, dI)) (ci := 0) (v := .int (nI (c 0))) (C := RX0) (T := TX0) (N := 13) hx hb hts (fun _ h9 => List.mem_cons_of_mem _ (List.mem_append_left _ (List.mem_append_right _ h9))) hown hK hP 14 rfl rfl 0 (by decide) (hts (.fieldLink RX1 76 "SwitchLevelSimulator$Circuit" "nodeTotal" "I") (List.mem_of_getElem? (i := 1) rfl)) (fun _ h9 => h9) rfl dX1_findNeighbors_11 ?_
                  refine my_icmp_ge (x := n3) (y := (c 0)) (tgt := 41) hx hb (by omega) (by omega) dX1_findNeighbors_14 (by decide) (fun c_9 => ?_) (fun c_9 => ?_)
                  · refine my_iinc (k := 1) (x := 3) (d := 1) (lv' := [(2, .int (nI 4)), (3, .int (nI n3)), (0, .ref (sd 0)), (1, .ref (cd 0))]) hx hb dX1_findNeighbors_41 hl rfl (by decide) (by decide) rfl (fun ls hl => ?_)
                    refine lv_goto (tgt := 2) hx hb dX1_findNeighbors_44 (by decide) ?_
                    refine lv_iload_n hx hb dX1_findNeighbors_2 rfl (lv_at hl 0 rfl) ?_
                    refine lv_iconst (v := nI 3) hx hb dX1_findNeighbors_3 (by decide) ?_
                    refine my_icmp_gt (x := 4) (y := 3) (tgt := 47) hx hb (by omega) (by omega) dX1_findNeighbors_4 (by decide) (fun _ => ?_) (fun c_10 => absurd c_10 (by decide))
                    refine lv_iconst (v := nI 0) hx hb dX1_findNeighbors_47 (by decide) ?_
                    refine lv_istore_n (lv' := [(2, .int (nI 0)), (3, .int (nI n3)), (0, .ref (sd 0)), (1, .ref (cd 0))]) hx hb dX1_findNeighbors_48 rfl hl (by decide) rfl (fun ls hl => ?_)
                    have key_49 : ∀ (zfu : Nat) (T : Nat) (a1 : Nat → Int32) (a2 : Nat → Int32) (a3 : Nat → Int32) (b1 : Nat → Int32) (b2 : Nat → Int32) (b3 : Nat → Int32), (c 1 - T) < zfu → (T ≤ c 1) → (∀ i, i < c 0 → a1 i = msk (eK c true 1 T i)) → (∀ i, i < c 0 → a2 i = msk (eK c true 2 T i)) → (∀ i, i < c 0 → a3 i = msk (eK c true 3 T i)) → (∀ i, i < c 0 → b1 i = msk (eK c false 1 T i)) → (∀ i, i < c 0 → b2 i = msk (eK c false 2 T i)) → (∀ i, i < c 0 → b3 i = msk (eK c false 3 T i)) → ∀ (H : Heap) (locs : List Loc) (ls : Array Slot), va_P (dC, dI) vwCl ((tF cI cG sd fq fu fd r0 a1 a2 a3 t0 b1 b2 b3) ++ (cF cI cd (nI (c 0)) (msk (inp c)) (msk (sto c)) (msk (m0 c)) (msk (m1 c)) (nI (c 1)) (szA c) (pA c 50) (pA c 90) (pA c 130) (pA c 170) (pA c 210) (pA c 250))) H → va_D A ((tF cI cG sd fq fu fd r0 a1 a2 a3 t0 b1 b2 b3) ++ (cF cI cd (nI (c 0)) (msk (inp c)) (msk (sto c)) (msk (m0 c)) (msk (m1 c)) (nI (c 1)) (szA c) (pA c 50) (pA c 90) (pA c 130) (pA c 170) (pA c 210) (pA c 250))) → va_S A s.heap H locs → lv_has ls 4 [(2, .int (nI T)), (0, .ref (sd 0)), (1, .ref (cd 0))] → W p l e rm_X1_findNeighbors s m ar below meth kc H locs 0 0 Qz (F0 m 49 ls []) := by
                      intro zfu
                      induction zfu with
                      | zero => intro T a1 a2 a3 b1 b2 b3 hmu; exact absurd hmu (Nat.not_lt_zero _)
                      | succ zfu ih_49 =>
                        intro T a1 a2 a3 b1 b2 b3 hmu_49 hT hB1 hB2 hB3 hB4 hB5 hB6 H locs ls hP hD hS hl
                        refine lv_iload_n hx hb dX1_findNeighbors_49 rfl (lv_at hl 0 rfl) ?_
                        refine lv_aload_n hx hb dX1_findNeighbors_50 rfl (lv_at hl 2 rfl) ?_
                        refine va_get (D := (dC, dI)) (ci := 0) (v := .int (nI (c 1))) (C := RX0) (T := TX0) (N := 13) hx hb hts (fun _ h9 => List.mem_cons_of_mem _ (List.mem_append_left _ (List.mem_append_right _ h9))) hown hK hP 14 rfl rfl 6 (by decide) (hts (.fieldLink RX1 79 "SwitchLevelSimulator$Circuit" "transistorTotal" "I") (List.mem_of_getElem? (i := 4) rfl)) (fun _ h9 => h9) rfl dX1_findNeighbors_51 ?_
                        refine my_icmp_ge (x := T) (y := (c 1)) (tgt := 96) hx hb (by omega) (by omega) dX1_findNeighbors_54 (by decide) (fun c_12 => ?_) (fun c_12 => ?_)
                        · exact ret (mk6 a1 a2 a3 b1 b2 b3) _ _ _ _ _ _ _ ((by rw [show T = c 1 by omega] at hB1 hB2 hB3 hB4 hB5 hB6; exact ⟨hB1, hB2, hB3, hB4, hB5, hB6⟩)) (rfl) hP hD hS (Nat.le_of_ble_eq_true rfl) (Nat.le_of_ble_eq_true rfl) dX1_findNeighbors_96
                        · have hTl : T < c 1 := by omega
                          refine lv_aload_n hx hb dX1_findNeighbors_57 rfl (lv_at hl 2 rfl) ?_
                          refine lv_iload_n hx hb dX1_findNeighbors_58 rfl (lv_at hl 0 rfl) ?_
                          refine CI.callV (As := [.int (nI T)]) (rest := []) (w3 := (fun _ => (tF cI cG sd fq fu fd r0 a1 a2 a3 t0 b1 b2 b3) ++ (cF cI cd (nI (c 0)) (msk (inp c)) (msk (sto c)) (msk (m0 c)) (msk (m1 c)) (nI (c 1)) (szA c) (pA c 50) (pA c 90) (pA c 130) (pA c 170) (pA c 210) (pA c 250)))) (c_X0_stateOf l dC dI cI cZ cR cG cd c T (ok) (by omega)) ⟨hx, hb, hml, hown, hts⟩ (cwV 1 hts gX1_findNeighbors_X0_stateOf rfl rfl rfl (by decide +kernel) ⟨Nat.le_of_ble_eq_true rfl, Nat.le_of_ble_eq_true rfl⟩) rfl hl.1 (Nat.le_of_ble_eq_true rfl) dX1_findNeighbors_59 ⟨Nat.le_of_ble_eq_true rfl, Nat.le_of_ble_eq_true rfl⟩ hA hS hP hK hD [14, 15, 16, 17, 18, 19, 20, 21] [0, 1, 2, 3, 4, 5, 6, 7, 8, 9, 10, 11, 12, 13] rfl rfl (by decide) (by decide) (by decide) 0 0 rfl rfl [0, 1, 2, 3, 4, 5, 6, 7, 8, 9, 10, 11, 12, 13, 14, 15, 16, 17, 18, 19, 20, 21] (by decide) (fun _ => rfl) rfl (fun _ H locs hp_13 hP hD hS => ?_)
                          have hsl := swS_le c T
                          refine lv_istore_n (lv' := [(3, .int (nI (swS c T))), (2, .int (nI T)), (0, .ref (sd 0)), (1, .ref (cd 0))]) hx hb dX1_findNeighbors_62 rfl hl (by decide) rfl (fun ls hl => ?_)
                          refine lv_iload_n hx hb dX1_findNeighbors_63 rfl (lv_at hl 0 rfl) ?_
                          refine my_if_eqN (x := (swS c T)) (tgt := 76) hx hb (by omega) dX1_findNeighbors_64 (by decide) (fun c_14 => ?_) (fun c_14 => ?_)
                          · refine lv_iload_n hx hb dX1_findNeighbors_76 rfl (lv_at hl 0 rfl) ?_
                            refine lv_iconst (v := nI 1) hx hb dX1_findNeighbors_77 (by decide) ?_
                            refine my_icmp_ne (x := (swS c T)) (y := 1) (tgt := 90) hx hb (by omega) (by omega) dX1_findNeighbors_78 (by decide) (fun c_15 => ?_) (fun c_15 => ?_)
                            · refine my_iinc (k := 1) (x := T) (d := 1) (lv' := [(2, .int (nI (T + 1))), (3, .int (nI (swS c T))), (0, .ref (sd 0)), (1, .ref (cd 0))]) hx hb dX1_findNeighbors_90 hl rfl (by decide) (by decide) rfl (fun ls hl => ?_)
                              refine lv_goto (tgt := 49) hx hb dX1_findNeighbors_93 (by decide) ?_
                              exact ih_49 (T + 1) a1 a2 a3 b1 b2 b3 (by omega) (by omega) (eK_sk (by rw [if_pos rfl, decide_eq_false (by omega)]) hB1) (eK_sk (by rw [if_pos rfl, decide_eq_false (by omega)]) hB2) (eK_sk (by rw [if_pos rfl, decide_eq_false (by omega)]) hB3) (eK_sk (by rw [if_neg (by decide), decide_eq_true c_14]; rfl) hB4) (eK_sk (by rw [if_neg (by decide), decide_eq_true c_14]; rfl) hB5) (eK_sk (by rw [if_neg (by decide), decide_eq_true c_14]; rfl) hB6) _ _ _ hP hD hS (lv_sub hl [0, 2, 3] rfl)
                            · exact absurd (c_14.symm.trans c_15) (by decide)
                          · refine lv_aload_n hx hb dX1_findNeighbors_67 rfl (lv_at hl 2 rfl) ?_
                            refine va_get (D := (dC, dI)) (ci := 1) (v := .ref (sd 5)) (C := RX1) (T := TX1) (N := 5) hx hb hts (fun _ h9 => List.mem_cons_of_mem _ (List.mem_append_right _ h9)) hown hK hP 0 rfl rfl 4 (by decide) (hts (.fieldLink RX1 26 "SwitchLevelSimulator$SteadyState" "byNotOpen" "[[I") (List.mem_of_getElem? (i := 3) rfl)) (fun _ h9 => h9) rfl dX1_findNeighbors_68 ?_
                            refine lv_aload_n hx hb dX1_findNeighbors_71 rfl (lv_at hl 3 rfl) ?_
                            refine lv_iload_n hx hb dX1_findNeighbors_72 rfl (lv_at hl 1 rfl) ?_
                            refine CV.callS (As := [.ref (sd 5), .ref (cd 0), .int (nI T)]) (rest := []) (w3 := (fun _ => (tF cI cG sd fq fu fd r0 a1 a2 a3 t0 (cnI (c (90 + T)) 1 b1 (c (170 + T)) (c (210 + T))) (cnI (c (90 + T)) 2 b2 (c (170 + T)) (c (210 + T))) (cnI (c (90 + T)) 3 b3 (c (170 + T)) (c (210 + T)))) ++ (cF cI cd (nI (c 0)) (msk (inp c)) (msk (sto c)) (msk (m0 c)) (msk (m1 c)) (nI (c 1)) (szA c) (pA c 50) (pA c 90) (pA c 130) (pA c 170) (pA c 210) (pA c 250)))) (c_X1_connect l dC dI cI cZ cR cG (sd 5) (fun i => sd (10 + i)) cd t0 b1 b2 b3 c T (ok) (by omega)) ⟨hx, hb, hml, hown, hts⟩ (va_cwS 3 hts gX1_findNeighbors_X1_connect rfl rfl rfl (by decide +kernel) ⟨Nat.le_of_ble_eq_true rfl, Nat.le_of_ble_eq_true rfl⟩) rfl hl.1 (Nat.le_of_ble_eq_true rfl) dX1_findNeighbors_73 ⟨Nat.le_of_ble_eq_true rfl, Nat.le_of_ble_eq_true rfl⟩ hA hS hP hK hD [5, 10, 11, 12, 13, 14, 15, 16, 17, 18, 19, 20, 21] [0, 1, 2, 3, 4, 6, 7, 8, 9] rfl rfl (by decide) (by decide) (by decide) [0, 1, 2, 3, 4, 9, 5, 6, 7, 8, 10, 11, 12, 13, 14, 15, 16, 17, 18, 19, 20, 21] (by decide) (fun _ => rfl) rfl (fun _ H locs hp_16 hP hD hS => ?_)
                            refine lv_iload_n hx hb dX1_findNeighbors_76 rfl (lv_at hl 0 rfl) ?_
                            refine lv_iconst (v := nI 1) hx hb dX1_findNeighbors_77 (by decide) ?_
                            refine my_icmp_ne (x := (swS c T)) (y := 1) (tgt := 90) hx hb (by omega) (by omega) dX1_findNeighbors_78 (by decide) (fun c_17 => ?_) (fun c_17 => ?_)
                            · refine my_iinc (k := 1) (x := T) (d := 1) (lv' := [(2, .int (nI (T + 1))), (3, .int (nI (swS c T))), (0, .ref (sd 0)), (1, .ref (cd 0))]) hx hb dX1_findNeighbors_90 hl rfl (by decide) (by decide) rfl (fun ls hl => ?_)
                              refine lv_goto (tgt := 49) hx hb dX1_findNeighbors_93 (by decide) ?_
                              exact ih_49 (T + 1) a1 a2 a3 (cnI (c (90 + T)) 1 b1 (c (170 + T)) (c (210 + T))) (cnI (c (90 + T)) 2 b2 (c (170 + T)) (c (210 + T))) (cnI (c (90 + T)) 3 b3 (c (170 + T)) (c (210 + T))) (by omega) (by omega) (eK_sk (by rw [if_pos rfl, decide_eq_false c_17]) hB1) (eK_sk (by rw [if_pos rfl, decide_eq_false c_17]) hB2) (eK_sk (by rw [if_pos rfl, decide_eq_false c_17]) hB3) (eK_st ok hTl (by rw [if_neg (by decide), decide_eq_false c_14]; rfl) hB4) (eK_st ok hTl (by rw [if_neg (by decide), decide_eq_false c_14]; rfl) hB5) (eK_st ok hTl (by rw [if_neg (by decide), decide_eq_false c_14]; rfl) hB6) _ _ _ hP hD hS (lv_sub hl [0, 2, 3] rfl)
                            · refine lv_aload_n hx hb dX1_findNeighbors_81 rfl (lv_at hl 2 rfl) ?_
                              refine va_get (D := (dC, dI)) (ci := 1) (v := .ref (sd 4)) (C := RX1) (T := TX1) (N := 5) hx hb hts (fun _ h9 => List.mem_cons_of_mem _ (List.mem_append_right _ h9)) hown hK hP 0 rfl rfl 3 (by decide) (hts (.fieldLink RX1 23 "SwitchLevelSimulator$SteadyState" "byClosed" "[[I") (List.mem_of_getElem? (i := 2) rfl)) (fun _ h9 => h9) rfl dX1_findNeighbors_82 ?_
                              refine lv_aload_n hx hb dX1_findNeighbors_85 rfl (lv_at hl 3 rfl) ?_
                              refine lv_iload_n hx hb dX1_findNeighbors_86 rfl (lv_at hl 1 rfl) ?_
                              refine CV.callS (As := [.ref (sd 4), .ref (cd 0), .int (nI T)]) (rest := []) (w3 := (fun _ => (tF cI cG sd fq fu fd r0 (cnI (c (90 + T)) 1 a1 (c (170 + T)) (c (210 + T))) (cnI (c (90 + T)) 2 a2 (c (170 + T)) (c (210 + T))) (cnI (c (90 + T)) 3 a3 (c (170 + T)) (c (210 + T))) t0 (cnI (c (90 + T)) 1 b1 (c (170 + T)) (c (210 + T))) (cnI (c (90 + T)) 2 b2 (c (170 + T)) (c (210 + T))) (cnI (c (90 + T)) 3 b3 (c (170 + T)) (c (210 + T)))) ++ (cF cI cd (nI (c 0)) (msk (inp c)) (msk (sto c)) (msk (m0 c)) (msk (m1 c)) (nI (c 1)) (szA c) (pA c 50) (pA c 90) (pA c 130) (pA c 170) (pA c 210) (pA c 250)))) (c_X1_connect l dC dI cI cZ cR cG (sd 4) (fun i => sd (6 + i)) cd r0 a1 a2 a3 c T (ok) (by omega)) ⟨hx, hb, hml, hown, hts⟩ (va_cwS 3 hts gX1_findNeighbors_X1_connect rfl rfl rfl (by decide +kernel) ⟨Nat.le_of_ble_eq_true rfl, Nat.le_of_ble_eq_true rfl⟩) rfl hl.1 (Nat.le_of_ble_eq_true rfl) dX1_findNeighbors_87 ⟨Nat.le_of_ble_eq_true rfl, Nat.le_of_ble_eq_true rfl⟩ hA hS hP hK hD [4, 6, 7, 8, 9, 14, 15, 16, 17, 18, 19, 20, 21] [0, 1, 2, 3, 5, 10, 11, 12, 13] rfl rfl (by decide) (by decide) (by decide) [0, 1, 2, 3, 9, 4, 10, 11, 12, 13, 5, 6, 7, 8, 14, 15, 16, 17, 18, 19, 20, 21] (by decide) (fun _ => rfl) rfl (fun _ H locs hp_18 hP hD hS => ?_)
                              refine my_iinc (k := 1) (x := T) (d := 1) (lv' := [(2, .int (nI (T + 1))), (3, .int (nI (swS c T))), (0, .ref (sd 0)), (1, .ref (cd 0))]) hx hb dX1_findNeighbors_90 hl rfl (by decide) (by decide) rfl (fun ls hl => ?_)
                              refine lv_goto (tgt := 49) hx hb dX1_findNeighbors_93 (by decide) ?_
                              exact ih_49 (T + 1) (cnI (c (90 + T)) 1 a1 (c (170 + T)) (c (210 + T))) (cnI (c (90 + T)) 2 a2 (c (170 + T)) (c (210 + T))) (cnI (c (90 + T)) 3 a3 (c (170 + T)) (c (210 + T))) (cnI (c (90 + T)) 1 b1 (c (170 + T)) (c (210 + T))) (cnI (c (90 + T)) 2 b2 (c (170 + T)) (c (210 + T))) (cnI (c (90 + T)) 3 b3 (c (170 + T)) (c (210 + T))) (by omega) (by omega) (eK_st ok hTl (by rw [if_pos rfl, decide_eq_true c_17]) hB1) (eK_st ok hTl (by rw [if_pos rfl, decide_eq_true c_17]) hB2) (eK_st ok hTl (by rw [if_pos rfl, decide_eq_true c_17]) hB3) (eK_st ok hTl (by rw [if_neg (by decide), decide_eq_false c_14]; rfl) hB4) (eK_st ok hTl (by rw [if_neg (by decide), decide_eq_false c_14]; rfl) hB5) (eK_st ok hTl (by rw [if_neg (by decide), decide_eq_false c_14]; rfl) hB6) _ _ _ hP hD hS (lv_sub hl [0, 2, 3] rfl)
                    exact key_49 _ 0 fr1 fr2 fr3 ft1 ft2 ft3 (Nat.lt_succ_self _) (Nat.zero_le _) (fun i hi => by rw [(hz1 i (by omega)).1, eK_0]) (fun i hi => by rw [(hz2 i (by omega)).1, eK_0]) (fun i hi => by rw [(hz3 i (by omega)).1, eK_0]) (fun i hi => by rw [(hz1 i (by omega)).2, eK_0]) (fun i hi => by rw [(hz2 i (by omega)).2, eK_0]) (fun i hi => by rw [(hz3 i (by omega)).2, eK_0]) _ _ _ hP hD hS (lv_sub hl [0, 2, 3] rfl)
                  · refine lv_aload_n hx hb dX1_findNeighbors_17 rfl (lv_at hl 2 rfl) ?_
                    refine va_get (D := (dC, dI)) (ci := 1) (v := .ref (sd 4)) (C := RX1) (T := TX1) (N := 5) hx hb hts (fun _ h9 => List.mem_cons_of_mem _ (List.mem_append_right _ h9)) hown hK hP 0 rfl rfl 3 (by decide) (hts (.fieldLink RX1 23 "SwitchLevelSimulator$SteadyState" "byClosed" "[[I") (List.mem_of_getElem? (i := 2) rfl)) (fun _ h9 => h9) rfl dX1_findNeighbors_18 ?_
                    refine lv_iload_n hx hb dX1_findNeighbors_21 rfl (lv_at hl 1 rfl) ?_
                    refine my_aldr (i := 3) (ty := .array .int) (v := .ref (sd 9)) hx hb hK hP 4 3 rfl rfl rfl (by omega) (by decide) dX1_findNeighbors_22 rfl ?_
                    refine lv_iload_n hx hb dX1_findNeighbors_23 rfl (lv_at hl 0 rfl) ?_
                    refine lv_iconst (v := nI 0) hx hb dX1_findNeighbors_24 (by decide) ?_
                    refine my_iast (i := n3) (x := (nI 0)) (f := fr3) (ws' := (tF cI cG sd fq fu fd r0 fr1 fr2 (upd fr3 n3 (nI 0)) t0 ft1 ft2 ft3) ++ (cF cI cd (nI (c 0)) (msk (inp c)) (msk (sto c)) (msk (m0 c)) (msk (m1 c)) (nI (c 1)) (szA c) (pA c 50) (pA c 90) (pA c 130) (pA c 170) (pA c 210) (pA c 250))) hx hb hK hP hD hS 9 0 rfl rfl (by omega) (by decide) dX1_findNeighbors_25 rfl (fun H locs hP hD hS => ?_)
                    refine lv_aload_n hx hb dX1_findNeighbors_26 rfl (lv_at hl 2 rfl) ?_
                    refine va_get (D := (dC, dI)) (ci := 1) (v := .ref (sd 5)) (C := RX1) (T := TX1) (N := 5) hx hb hts (fun _ h9 => List.mem_cons_of_mem _ (List.mem_append_right _ h9)) hown hK hP 0 rfl rfl 4 (by decide) (hts (.fieldLink RX1 26 "SwitchLevelSimulator$SteadyState" "byNotOpen" "[[I") (List.mem_of_getElem? (i := 3) rfl)) (fun _ h9 => h9) rfl dX1_findNeighbors_27 ?_
                    refine lv_iload_n hx hb dX1_findNeighbors_30 rfl (lv_at hl 1 rfl) ?_
                    refine my_aldr (i := 3) (ty := .array .int) (v := .ref (sd 13)) hx hb hK hP 5 3 rfl rfl rfl (by omega) (by decide) dX1_findNeighbors_31 rfl ?_
                    refine lv_iload_n hx hb dX1_findNeighbors_32 rfl (lv_at hl 0 rfl) ?_
                    refine lv_iconst (v := nI 0) hx hb dX1_findNeighbors_33 (by decide) ?_
                    refine my_iast (i := n3) (x := (nI 0)) (f := ft3) (ws' := (tF cI cG sd fq fu fd r0 fr1 fr2 (upd fr3 n3 (nI 0)) t0 ft1 ft2 (upd ft3 n3 (nI 0))) ++ (cF cI cd (nI (c 0)) (msk (inp c)) (msk (sto c)) (msk (m0 c)) (msk (m1 c)) (nI (c 1)) (szA c) (pA c 50) (pA c 90) (pA c 130) (pA c 170) (pA c 210) (pA c 250))) hx hb hK hP hD hS 13 0 rfl rfl (by omega) (by decide) dX1_findNeighbors_34 rfl (fun H locs hP hD hS => ?_)
                    refine my_iinc (k := 0) (x := n3) (d := 1) (lv' := [(3, .int (nI (n3 + 1))), (2, .int (nI 3)), (0, .ref (sd 0)), (1, .ref (cd 0))]) hx hb dX1_findNeighbors_35 hl rfl (by decide) (by decide) rfl (fun ls hl => ?_)
                    refine lv_goto (tgt := 9) hx hb dX1_findNeighbors_38 (by decide) ?_
                    exact ih_9_3 (n3 + 1) (upd fr3 n3 (nI 0)) (upd ft3 n3 (nI 0)) (by omega) (by omega) (fun i hi => (by by_cases e9 : i = n3; (subst e9; exact ⟨if_pos rfl, if_pos rfl⟩); (unfold upd; rw [if_neg e9, if_neg e9]; exact hz3 i (by omega)))) _ _ _ hP hD hS (lv_sub hl [0, 1, 2, 3] rfl)
              exact key_9_3 _ 0 r3 t3 (Nat.lt_succ_self _) (Nat.zero_le _) (fun i hi => absurd hi (Nat.not_lt_zero i)) _ _ _ hP hD hS (lv_sub hl [0, 1, 2, 3] rfl)
            · refine lv_aload_n hx hb dX1_findNeighbors_17 rfl (lv_at hl 2 rfl) ?_
              refine va_get (D := (dC, dI)) (ci := 1) (v := .ref (sd 4)) (C := RX1) (T := TX1) (N := 5) hx hb hts (fun _ h9 => List.mem_cons_of_mem _ (List.mem_append_right _ h9)) hown hK hP 0 rfl rfl 3 (by decide) (hts (.fieldLink RX1 23 "SwitchLevelSimulator$SteadyState" "byClosed" "[[I") (List.mem_of_getElem? (i := 2) rfl)) (fun _ h9 => h9) rfl dX1_findNeighbors_18 ?_
              refine lv_iload_n hx hb dX1_findNeighbors_21 rfl (lv_at hl 1 rfl) ?_
              refine my_aldr (i := 2) (ty := .array .int) (v := .ref (sd 8)) hx hb hK hP 4 3 rfl rfl rfl (by omega) (by decide) dX1_findNeighbors_22 rfl ?_
              refine lv_iload_n hx hb dX1_findNeighbors_23 rfl (lv_at hl 0 rfl) ?_
              refine lv_iconst (v := nI 0) hx hb dX1_findNeighbors_24 (by decide) ?_
              refine my_iast (i := n2) (x := (nI 0)) (f := fr2) (ws' := (tF cI cG sd fq fu fd r0 fr1 (upd fr2 n2 (nI 0)) r3 t0 ft1 ft2 t3) ++ (cF cI cd (nI (c 0)) (msk (inp c)) (msk (sto c)) (msk (m0 c)) (msk (m1 c)) (nI (c 1)) (szA c) (pA c 50) (pA c 90) (pA c 130) (pA c 170) (pA c 210) (pA c 250))) hx hb hK hP hD hS 8 0 rfl rfl (by omega) (by decide) dX1_findNeighbors_25 rfl (fun H locs hP hD hS => ?_)
              refine lv_aload_n hx hb dX1_findNeighbors_26 rfl (lv_at hl 2 rfl) ?_
              refine va_get (D := (dC, dI)) (ci := 1) (v := .ref (sd 5)) (C := RX1) (T := TX1) (N := 5) hx hb hts (fun _ h9 => List.mem_cons_of_mem _ (List.mem_append_right _ h9)) hown hK hP 0 rfl rfl 4 (by decide) (hts (.fieldLink RX1 26 "SwitchLevelSimulator$SteadyState" "byNotOpen" "[[I") (List.mem_of_getElem? (i := 3) rfl)) (fun _ h9 => h9) rfl dX1_findNeighbors_27 ?_
              refine lv_iload_n hx hb dX1_findNeighbors_30 rfl (lv_at hl 1 rfl) ?_
              refine my_aldr (i := 2) (ty := .array .int) (v := .ref (sd 12)) hx hb hK hP 5 3 rfl rfl rfl (by omega) (by decide) dX1_findNeighbors_31 rfl ?_
              refine lv_iload_n hx hb dX1_findNeighbors_32 rfl (lv_at hl 0 rfl) ?_
              refine lv_iconst (v := nI 0) hx hb dX1_findNeighbors_33 (by decide) ?_
              refine my_iast (i := n2) (x := (nI 0)) (f := ft2) (ws' := (tF cI cG sd fq fu fd r0 fr1 (upd fr2 n2 (nI 0)) r3 t0 ft1 (upd ft2 n2 (nI 0)) t3) ++ (cF cI cd (nI (c 0)) (msk (inp c)) (msk (sto c)) (msk (m0 c)) (msk (m1 c)) (nI (c 1)) (szA c) (pA c 50) (pA c 90) (pA c 130) (pA c 170) (pA c 210) (pA c 250))) hx hb hK hP hD hS 12 0 rfl rfl (by omega) (by decide) dX1_findNeighbors_34 rfl (fun H locs hP hD hS => ?_)
              refine my_iinc (k := 0) (x := n2) (d := 1) (lv' := [(3, .int (nI (n2 + 1))), (2, .int (nI 2)), (0, .ref (sd 0)), (1, .ref (cd 0))]) hx hb dX1_findNeighbors_35 hl rfl (by decide) (by decide) rfl (fun ls hl => ?_)
              refine lv_goto (tgt := 9) hx hb dX1_findNeighbors_38 (by decide) ?_
              exact ih_9_2 (n2 + 1) (upd fr2 n2 (nI 0)) (upd ft2 n2 (nI 0)) (by omega) (by omega) (fun i hi => (by by_cases e9 : i = n2; (subst e9; exact ⟨if_pos rfl, if_pos rfl⟩); (unfold upd; rw [if_neg e9, if_neg e9]; exact hz2 i (by omega)))) _ _ _ hP hD hS (lv_sub hl [0, 1, 2, 3] rfl)
        exact key_9_2 _ 0 r2 t2 (Nat.lt_succ_self _) (Nat.zero_le _) (fun i hi => absurd hi (Nat.not_lt_zero i)) _ _ _ hP hD hS (lv_sub hl [0, 1, 2, 3] rfl)
      · refine lv_aload_n hx hb dX1_findNeighbors_17 rfl (lv_at hl 2 rfl) ?_
        refine va_get (D := (dC, dI)) (ci := 1) (v := .ref (sd 4)) (C := RX1) (T := TX1) (N := 5) hx hb hts (fun _ h9 => List.mem_cons_of_mem _ (List.mem_append_right _ h9)) hown hK hP 0 rfl rfl 3 (by decide) (hts (.fieldLink RX1 23 "SwitchLevelSimulator$SteadyState" "byClosed" "[[I") (List.mem_of_getElem? (i := 2) rfl)) (fun _ h9 => h9) rfl dX1_findNeighbors_18 ?_
        refine lv_iload_n hx hb dX1_findNeighbors_21 rfl (lv_at hl 1 rfl) ?_
        refine my_aldr (i := 1) (ty := .array .int) (v := .ref (sd 7)) hx hb hK hP 4 3 rfl rfl rfl (by omega) (by decide) dX1_findNeighbors_22 rfl ?_
        refine lv_iload_n hx hb dX1_findNeighbors_23 rfl (lv_at hl 0 rfl) ?_
        refine lv_iconst (v := nI 0) hx hb dX1_findNeighbors_24 (by decide) ?_
        refine my_iast (i := n1) (x := (nI 0)) (f := fr1) (ws' := (tF cI cG sd fq fu fd r0 (upd fr1 n1 (nI 0)) r2 r3 t0 ft1 t2 t3) ++ (cF cI cd (nI (c 0)) (msk (inp c)) (msk (sto c)) (msk (m0 c)) (msk (m1 c)) (nI (c 1)) (szA c) (pA c 50) (pA c 90) (pA c 130) (pA c 170) (pA c 210) (pA c 250))) hx hb hK hP hD hS 7 0 rfl rfl (by omega) (by decide) dX1_findNeighbors_25 rfl (fun H locs hP hD hS => ?_)
        refine lv_aload_n hx hb dX1_findNeighbors_26 rfl (lv_at hl 2 rfl) ?_
        refine va_get (D := (dC, dI)) (ci := 1) (v := .ref (sd 5)) (C := RX1) (T := TX1) (N := 5) hx hb hts (fun _ h9 => List.mem_cons_of_mem _ (List.mem_append_right _ h9)) hown hK hP 0 rfl rfl 4 (by decide) (hts (.fieldLink RX1 26 "SwitchLevelSimulator$SteadyState" "byNotOpen" "[[I") (List.mem_of_getElem? (i := 3) rfl)) (fun _ h9 => h9) rfl dX1_findNeighbors_27 ?_
        refine lv_iload_n hx hb dX1_findNeighbors_30 rfl (lv_at hl 1 rfl) ?_
        refine my_aldr (i := 1) (ty := .array .int) (v := .ref (sd 11)) hx hb hK hP 5 3 rfl rfl rfl (by omega) (by decide) dX1_findNeighbors_31 rfl ?_
        refine lv_iload_n hx hb dX1_findNeighbors_32 rfl (lv_at hl 0 rfl) ?_
        refine lv_iconst (v := nI 0) hx hb dX1_findNeighbors_33 (by decide) ?_
        refine my_iast (i := n1) (x := (nI 0)) (f := ft1) (ws' := (tF cI cG sd fq fu fd r0 (upd fr1 n1 (nI 0)) r2 r3 t0 (upd ft1 n1 (nI 0)) t2 t3) ++ (cF cI cd (nI (c 0)) (msk (inp c)) (msk (sto c)) (msk (m0 c)) (msk (m1 c)) (nI (c 1)) (szA c) (pA c 50) (pA c 90) (pA c 130) (pA c 170) (pA c 210) (pA c 250))) hx hb hK hP hD hS 11 0 rfl rfl (by omega) (by decide) dX1_findNeighbors_34 rfl (fun H locs hP hD hS => ?_)
        refine my_iinc (k := 0) (x := n1) (d := 1) (lv' := [(3, .int (nI (n1 + 1))), (2, .int (nI 1)), (0, .ref (sd 0)), (1, .ref (cd 0))]) hx hb dX1_findNeighbors_35 hl rfl (by decide) (by decide) rfl (fun ls hl => ?_)
        refine lv_goto (tgt := 9) hx hb dX1_findNeighbors_38 (by decide) ?_
        exact ih_9_1 (n1 + 1) (upd fr1 n1 (nI 0)) (upd ft1 n1 (nI 0)) (by omega) (by omega) (fun i hi => (by by_cases e9 : i = n1; (subst e9; exact ⟨if_pos rfl, if_pos rfl⟩); (unfold upd; rw [if_neg e9, if_neg e9]; exact hz1 i (by omega)))) _ _ _ hP hD hS (lv_sub hl [0, 1, 2, 3] rfl)
  exact key_9_1 _ 0 r1 t1 (Nat.lt_succ_self _) (Nat.zero_le _) (fun i hi => absurd hi (Nat.not_lt_zero i)) _ _ _ hP hD hS (lv_sub hl [0, 1, 2, 3] rfl)
abbrev rm_X1_findDefinite : Room := { frames := 2, cells := 0, slots := 0, locals := 48 }
set_option maxHeartbeats 4000000 in
set_option maxRecDepth 100000 in
theorem c_X1_findDefinite (l : Launch) (dC : Nat → ClassId) (dI : Nat → Nat → Nat) (cI cZ cR cG : ClassId) (sd cd : Nat → Nat) (fq fu fd r0 r1 r2 r3 t0 t1 t2 t3 : Nat → Int32) (c : Nat → Nat) (ok : okG c) (hn : NB c r1 r2 r3 t1 t2 t3) : CV l (dC, dI) (tyL cI cZ cR cG) yX1_findDefinite wsX1_findDefinite rm_X1_findDefinite [.ref (sd 0), .ref (cd 0)] ((tF cI cG sd fq fu fd r0 r1 r2 r3 t0 t1 t2 t3) ++ (cF cI cd (nI (c 0)) (msk (inp c)) (msk (sto c)) (msk (m0 c)) (msk (m1 c)) (nI (c 1)) (szA c) (pA c 50) (pA c 90) (pA c 130) (pA c 170) (pA c 210) (pA c 250))) (S := Nat → Int32) (fun u => ∀ lv, 1 ≤ lv → lv ≤ 7 → u lv = msk (lvQ c lv)) (fun u => tF cI cG sd u fu fd r0 r1 r2 r3 t0 t1 t2 t3 ++ cW cI cd c) := by
  refine CV.of (cc := cX1_findDefinite) (maxL := 4) (lv := [(0, .ref (sd 0)), (1, .ref (cd 0))]) (by decide) rfl (Nat.le_of_ble_eq_true rfl) rfl ?_
  intro p e s m ar below meth kc A Qz ls hx hb hml hown hts hnm hA hS hP hK hD hl ret
  have h0 := ok.1
  have h1 := ok.2.1
  obtain ⟨nb1, nb2, nb3, nb4, nb5, nb6⟩ := hn
  refine lv_aload_n hx hb dX1_findDefinite_0 rfl (lv_at hl 0 rfl) ?_
  refine va_get (D := (dC, dI)) (ci := 1) (v := .ref (sd 1)) (C := RX1) (T := TX1) (N := 5) hx hb hts (fun _ h9 => List.mem_cons_of_mem _ (List.mem_append_left _ (List.mem_append_right _ h9))) hown hK hP 0 rfl rfl 0 (by decide) (hts (.fieldLink RX1 9 "SwitchLevelSimulator$SteadyState" "definite" "[I") (List.mem_of_getElem? (i := 1) rfl)) (fun _ h9 => h9) rfl dX1_findDefinite_1 ?_
  refine lv_bipush (v := nI 7) hx hb dX1_findDefinite_4 (by decide) ?_
  refine lv_aload_n hx hb dX1_findDefinite_6 rfl (lv_at hl 1 rfl) ?_
  refine va_get (D := (dC, dI)) (ci := 0) (v := .int (msk (inp c))) (C := RX0) (T := TX0) (N := 13) hx hb hts (fun _ h9 => List.mem_cons_of_mem _ (List.mem_append_right _ h9)) hown hK hP 14 rfl rfl 1 (by decide) (hts (.fieldLink RX1 60 "SwitchLevelSimulator$Circuit" "inputNodes" "I") (List.mem_of_getElem? (i := 2) rfl)) (fun _ h9 => h9) rfl dX1_findDefinite_7 ?_
  refine my_iast (i := 7) (x := (msk (inp c))) (f := fq) (ws' := (tF cI cG sd (upd fq 7 (msk (inp c))) fu fd r0 r1 r2 r3 t0 t1 t2 t3) ++ (cF cI cd (nI (c 0)) (msk (inp c)) (msk (sto c)) (msk (m0 c)) (msk (m1 c)) (nI (c 1)) (szA c) (pA c 50) (pA c 90) (pA c 130) (pA c 170) (pA c 210) (pA c 250))) hx hb hK hP hD hS 1 0 rfl rfl (by omega) (by decide) dX1_findDefinite_10 rfl (fun H locs hP hD hS => ?_)
  obtain ⟨f_7, ef_7⟩ : ∃ y : Nat → Int32, y = upd fq 7 (msk (inp c)) := ⟨_, rfl⟩
  rw [← ef_7] at hP hD
  have hL_7 : ∀ k, 7 ≤ k → k ≤ 7 → f_7 k = msk (lvQ c k) := by rw [ef_7]; exact lv_pick9 (P := fun k => msk (lvQ c k)) (fun j h1 h2 => by omega) (msk_cong (fun i _ => lvQ_7 ok i))
  refine lv_bipush (v := nI 6) hx hb dX1_findDefinite_11 (by decide) ?_
  refine lv_istore_n (lv' := [(2, .int (nI 6)), (0, .ref (sd 0)), (1, .ref (cd 0))]) hx hb dX1_findDefinite_13 rfl hl (by decide) rfl (fun ls hl => ?_)
  refine lv_iload_n hx hb dX1_findDefinite_14 rfl (lv_at hl 0 rfl) ?_
  refine lv_iconst (v := nI 1) hx hb dX1_findDefinite_15 (by decide) ?_
  refine my_icmp_lt (x := 6) (y := 1) (tgt := 64) hx hb (by omega) (by omega) dX1_findDefinite_16 (by decide) (fun c_1 => absurd c_1 (by decide)) (fun _ => ?_)
  refine lv_aload_n hx hb dX1_findDefinite_19 rfl (lv_at hl 1 rfl) ?_
  refine va_get (D := (dC, dI)) (ci := 1) (v := .ref (sd 1)) (C := RX1) (T := TX1) (N := 5) hx hb hts (fun _ h9 => List.mem_cons_of_mem _ (List.mem_append_left _ (List.mem_append_right _ h9))) hown hK hP 0 rfl rfl 0 (by decide) (hts (.fieldLink RX1 9 "SwitchLevelSimulator$SteadyState" "definite" "[I") (List.mem_of_getElem? (i := 1) rfl)) (fun _ h9 => h9) rfl dX1_findDefinite_20 ?_
  refine lv_iload_n hx hb dX1_findDefinite_23 rfl (lv_at hl 0 rfl) ?_
  refine lv_iconst (v := nI 1) hx hb dX1_findDefinite_24 (by decide) ?_
  refine my_iadd (x := 6) (y := 1) hx hb dX1_findDefinite_25 ?_
  refine my_iald (i := 7) hx hb hK hP 1 0 rfl rfl (by omega) (by decide) dX1_findDefinite_26 ?_
  refine my_cast (show f_7 7 = msk (lvQ c 7) from hL_7 7 (by omega) (by omega)) ?_
  refine lv_aload_n hx hb dX1_findDefinite_27 rfl (lv_at hl 2 rfl) ?_
  refine va_get (D := (dC, dI)) (ci := 0) (v := .ref (cd 1)) (C := RX0) (T := TX0) (N := 13) hx hb hts (fun _ h9 => List.mem_cons_of_mem _ (List.mem_append_right _ h9)) hown hK hP 14 rfl rfl 3 (by decide) (hts (.fieldLink RX1 63 "SwitchLevelSimulator$Circuit" "sizedAtLeast" "[I") (List.mem_of_getElem? (i := 3) rfl)) (fun _ h9 => h9) rfl dX1_findDefinite_28 ?_
  refine lv_iload_n hx hb dX1_findDefinite_31 rfl (lv_at hl 0 rfl) ?_
  refine my_iald (i := 6) hx hb hK hP 15 0 rfl rfl (by omega) (by decide) dX1_findDefinite_32 ?_
  refine lv_ior hx hb dX1_findDefinite_33 ?_
  refine my_cast (show (msk (lvQ c 7)) ||| (msk (szB c 6)) = msk (fun i => lvQ c 7 i || szB c 6 i) from msk_or _ _) ?_
  refine lv_istore_n (lv' := [(3, .int (msk (fun i => lvQ c 7 i || szB c 6 i))), (2, .int (nI 6)), (0, .ref (sd 0)), (1, .ref (cd 0))]) hx hb dX1_findDefinite_34 rfl hl (by decide) rfl (fun ls hl => ?_)
  refine lv_aload_n hx hb dX1_findDefinite_35 rfl (lv_at hl 2 rfl) ?_
  refine va_get (D := (dC, dI)) (ci := 1) (v := .ref (sd 1)) (C := RX1) (T := TX1) (N := 5) hx hb hts (fun _ h9 => List.mem_cons_of_mem _ (List.mem_append_left _ (List.mem_append_right _ h9))) hown hK hP 0 rfl rfl 0 (by decide) (hts (.fieldLink RX1 9 "SwitchLevelSimulator$SteadyState" "definite" "[I") (List.mem_of_getElem? (i := 1) rfl)) (fun _ h9 => h9) rfl dX1_findDefinite_36 ?_
  refine lv_iload_n hx hb dX1_findDefinite_39 rfl (lv_at hl 1 rfl) ?_
  refine lv_iload_n hx hb dX1_findDefinite_40 rfl (lv_at hl 0 rfl) ?_
  refine lv_aload_n hx hb dX1_findDefinite_41 rfl (lv_at hl 2 rfl) ?_
  refine va_get (D := (dC, dI)) (ci := 1) (v := .ref (sd 4)) (C := RX1) (T := TX1) (N := 5) hx hb hts (fun _ h9 => List.mem_cons_of_mem _ (List.mem_append_left _ (List.mem_append_right _ h9))) hown hK hP 0 rfl rfl 3 (by decide) (hts (.fieldLink RX1 23 "SwitchLevelSimulator$SteadyState" "byClosed" "[[I") (List.mem_of_getElem? (i := 4) rfl)) (fun _ h9 => h9) rfl dX1_findDefinite_42 ?_
  refine lv_iload_n hx hb dX1_findDefinite_45 rfl (lv_at hl 1 rfl) ?_
  refine CI.callS (As := [.int (nI 6)]) (rest := [.ref (sd 4), .int (msk (fun i => lvQ c 7 i || szB c 6 i)), .int (nI 6), .ref (sd 1)]) (w3 := (fun _ => (tF cI cG sd f_7 fu fd r0 r1 r2 r3 t0 t1 t2 t3) ++ (cF cI cd (nI (c 0)) (msk (inp c)) (msk (sto c)) (msk (m0 c)) (msk (m1 c)) (nI (c 1)) (szA c) (pA c 50) (pA c 90) (pA c 130) (pA c 170) (pA c 210) (pA c 250)))) (c_X1_strengthPassing l dC dI cI cZ cR cG 6 (by decide) (by decide)) ⟨hx, hb, hml, hown, hts⟩ (va_cwS 1 hts gX1_findDefinite_X1_strengthPassing rfl rfl rfl (by decide +kernel) ⟨Nat.le_of_ble_eq_true rfl, Nat.le_of_ble_eq_true rfl⟩) rfl hl.1 (Nat.le_of_ble_eq_true rfl) dX1_findDefinite_46 ⟨Nat.le_of_ble_eq_true rfl, Nat.le_of_ble_eq_true rfl⟩ hA hS hP hK hD [] [0, 1, 2, 3, 4, 5, 6, 7, 8, 9, 10, 11, 12, 13, 14, 15, 16, 17, 18, 19, 20, 21] rfl rfl (by decide) (by decide) (by decide) [0, 1, 2, 3, 4, 5, 6, 7, 8, 9, 10, 11, 12, 13, 14, 15, 16, 17, 18, 19, 20, 21] (by decide) (fun _ => rfl) rfl (fun _ H locs hp_2 hP hD hS => ?_)
  refine my_aldr (i := 3) (ty := .array .int) (v := .ref (sd 9)) hx hb hK hP 4 3 rfl rfl rfl (by omega) (by decide) dX1_findDefinite_49 rfl ?_
  refine lv_aload_n hx hb dX1_findDefinite_50 rfl (lv_at hl 3 rfl) ?_
  refine va_get (D := (dC, dI)) (ci := 0) (v := .int (msk (sto c))) (C := RX0) (T := TX0) (N := 13) hx hb hts (fun _ h9 => List.mem_cons_of_mem _ (List.mem_append_right _ h9)) hown hK hP 14 rfl rfl 2 (by decide) (hts (.fieldLink RX1 53 "SwitchLevelSimulator$Circuit" "storageNodes" "I") (List.mem_of_getElem? (i := 5) rfl)) (fun _ h9 => h9) rfl dX1_findDefinite_51 ?_
  refine CI.callS (As := [.int (msk (fun i => lvQ c 7 i || szB c 6 i)), .ref (sd 9), .int (msk (sto c))]) (rest := [.int (nI 6), .ref (sd 1)]) (w3 := (fun _ => (tF cI cG sd f_7 fu fd r0 r1 r2 r3 t0 t1 t2 t3) ++ (cF cI cd (nI (c 0)) (msk (inp c)) (msk (sto c)) (msk (m0 c)) (msk (m1 c)) (nI (c 1)) (szA c) (pA c 50) (pA c 90) (pA c 130) (pA c 170) (pA c 210) (pA c 250)))) (c_X1_reach l dC dI cI cZ cR cG (sd 9) r3 (eK c true 3 (c 1)) (fun i => lvQ c 7 i || szB c 6 i) (sto c) (fun i _ h => nb3 i (h.elim srcQ_lt sto_lt)) (fun i h => Nat.lt_of_lt_of_le (sto_lt h) h0) (fun i h => Nat.lt_of_lt_of_le (srcQ_lt h) h0)) ⟨hx, hb, hml, hown, hts⟩ (va_cwS 3 hts gX1_findDefinite_X1_reach rfl rfl rfl (by decide +kernel) ⟨Nat.le_of_ble_eq_true rfl, Nat.le_of_ble_eq_true rfl⟩) rfl hl.1 (Nat.le_of_ble_eq_true rfl) dX1_findDefinite_54 ⟨Nat.le_of_ble_eq_true rfl, Nat.le_of_ble_eq_true rfl⟩ hA hS hP hK hD [9] [0, 1, 2, 3, 4, 5, 6, 7, 8, 10, 11, 12, 13, 14, 15, 16, 17, 18, 19, 20, 21] rfl rfl (by decide) (by decide) (by decide) [0, 1, 2, 3, 4, 5, 6, 7, 8, 21, 9, 10, 11, 12, 13, 14, 15, 16, 17, 18, 19, 20] (by decide) (fun _ => rfl) rfl (fun _ H locs hp_3 hP hD hS => ?_)
  refine my_cast (show msk (rch (fun a b => (eK c true 3 (c 1)) a b = true) (fun i => lvQ c 7 i || szB c 6 i) (sto c)) = msk (lvQ c 6) from msk_cong (fun i _ => lvQ_s (lv := 6) ok (by omega) (by omega) i)) ?_
  refine my_iast (i := 6) (x := (msk (lvQ c 6))) (f := f_7) (ws' := (tF cI cG sd (upd f_7 6 (msk (lvQ c 6))) fu fd r0 r1 r2 r3 t0 t1 t2 t3) ++ (cF cI cd (nI (c 0)) (msk (inp c)) (msk (sto c)) (msk (m0 c)) (msk (m1 c)) (nI (c 1)) (szA c) (pA c 50) (pA c 90) (pA c 130) (pA c 170) (pA c 210) (pA c 250))) hx hb hK hP hD hS 1 0 rfl rfl (by omega) (by decide) dX1_findDefinite_57 rfl (fun H locs hP hD hS => ?_)
  obtain ⟨f_6, ef_6⟩ : ∃ y : Nat → Int32, y = upd f_7 6 (msk (lvQ c 6)) := ⟨_, rfl⟩
  rw [← ef_6] at hP hD
  have hL_6 : ∀ k, 6 ≤ k → k ≤ 7 → f_6 k = msk (lvQ c k) := by rw [ef_6]; exact lv_pick9 (P := fun k => msk (lvQ c k)) hL_7 rfl
  refine lv_iinc (v := nI 5) (lv' := [(2, .int (nI 5)), (3, .int (msk (fun i => lvQ c 7 i || szB c 6 i))), (0, .ref (sd 0)), (1, .ref (cd 0))]) hx hb dX1_findDefinite_58 hl (k := 1) rfl (by decide) (by decide) rfl (fun ls hl => ?_)
  refine lv_goto (tgt := 14) hx hb dX1_findDefinite_61 (by decide) ?_
  refine lv_iload_n hx hb dX1_findDefinite_14 rfl (lv_at hl 0 rfl) ?_
  refine lv_iconst (v := nI 1) hx hb dX1_findDefinite_15 (by decide) ?_
  refine my_icmp_lt (x := 5) (y := 1) (tgt := 64) hx hb (by omega) (by omega) dX1_findDefinite_16 (by decide) (fun c_4 => absurd c_4 (by decide)) (fun _ => ?_)
  refine lv_aload_n hx hb dX1_findDefinite_19 rfl (lv_at hl 2 rfl) ?_
  refine va_get (D := (dC, dI)) (ci := 1) (v := .ref (sd 1)) (C := RX1) (T := TX1) (N := 5) hx hb hts (fun _ h9 => List.mem_cons_of_mem _ (List.mem_append_left _ (List.mem_append_right _ h9))) hown hK hP 0 rfl rfl 0 (by decide) (hts (.fieldLink RX1 9 "SwitchLevelSimulator$SteadyState" "definite" "[I") (List.mem_of_getElem? (i := 1) rfl)) (fun _ h9 => h9) rfl dX1_findDefinite_20 ?_
  refine lv_iload_n hx hb dX1_findDefinite_23 rfl (lv_at hl 0 rfl) ?_
  refine lv_iconst (v := nI 1) hx hb dX1_findDefinite_24 (by decide) ?_
  refine my_iadd (x := 5) (y := 1) hx hb dX1_findDefinite_25 ?_
  refine my_iald (i := 6) hx hb hK hP 1 0 rfl rfl (by omega) (by decide) dX1_findDefinite_26 ?_
  refine my_cast (show f_6 6 = msk (lvQ c 6) from hL_6 6 (by omega) (by omega)) ?_
  refine lv_aload_n hx hb dX1_findDefinite_27 rfl (lv_at hl 3 rfl) ?_
  refine va_get (D := (dC, dI)) (ci := 0) (v := .ref (cd 1)) (C := RX0) (T := TX0) (N := 13) hx hb hts (fun _ h9 => List.mem_cons_of_mem _ (List.mem_append_right _ h9)) hown hK hP 14 rfl rfl 3 (by decide) (hts (.fieldLink RX1 63 "SwitchLevelSimulator$Circuit" "sizedAtLeast" "[I") (List.mem_of_getElem? (i := 3) rfl)) (fun _ h9 => h9) rfl dX1_findDefinite_28 ?_
  refine lv_iload_n hx hb dX1_findDefinite_31 rfl (lv_at hl 0 rfl) ?_
  refine my_iald (i := 5) hx hb hK hP 15 0 rfl rfl (by omega) (by decide) dX1_findDefinite_32 ?_
  refine lv_ior hx hb dX1_findDefinite_33 ?_
  refine my_cast (show (msk (lvQ c 6)) ||| (msk (szB c 5)) = msk (fun i => lvQ c 6 i || szB c 5 i) from msk_or _ _) ?_
  refine lv_istore_n (lv' := [(3, .int (msk (fun i => lvQ c 6 i || szB c 5 i))), (2, .int (nI 5)), (0, .ref (sd 0)), (1, .ref (cd 0))]) hx hb dX1_findDefinite_34 rfl hl (by decide) rfl (fun ls hl => ?_)
  refine lv_aload_n hx hb dX1_findDefinite_35 rfl (lv_at hl 2 rfl) ?_
  refine va_get (D := (dC, dI)) (ci := 1) (v := .ref (sd 1)) (C := RX1) (T := TX1) (N := 5) hx hb hts (fun _ h9 => List.mem_cons_of_mem _ (List.mem_append_left _ (List.mem_append_right _ h9))) hown hK hP 0 rfl rfl 0 (by decide) (hts (.fieldLink RX1 9 "SwitchLevelSimulator$SteadyState" "definite" "[I") (List.mem_of_getElem? (i := 1) rfl)) (fun _ h9 => h9) rfl dX1_findDefinite_36 ?_
  refine lv_iload_n hx hb dX1_findDefinite_39 rfl (lv_at hl 1 rfl) ?_
  refine lv_iload_n hx hb dX1_findDefinite_40 rfl (lv_at hl 0 rfl) ?_
  refine lv_aload_n hx hb dX1_findDefinite_41 rfl (lv_at hl 2 rfl) ?_
  refine va_get (D := (dC, dI)) (ci := 1) (v := .ref (sd 4)) (C := RX1) (T := TX1) (N := 5) hx hb hts (fun _ h9 => List.mem_cons_of_mem _ (List.mem_append_left _ (List.mem_append_right _ h9))) hown hK hP 0 rfl rfl 3 (by decide) (hts (.fieldLink RX1 23 "SwitchLevelSimulator$SteadyState" "byClosed" "[[I") (List.mem_of_getElem? (i := 4) rfl)) (fun _ h9 => h9) rfl dX1_findDefinite_42 ?_
  refine lv_iload_n hx hb dX1_findDefinite_45 rfl (lv_at hl 1 rfl) ?_
  refine CI.callS (As := [.int (nI 5)]) (rest := [.ref (sd 4), .int (msk (fun i => lvQ c 6 i || szB c 5 i)), .int (nI 5), .ref (sd 1)]) (w3 := (fun _ => (tF cI cG sd f_6 fu fd r0 r1 r2 r3 t0 t1 t2 t3) ++ (cF cI cd (nI (c 0)) (msk (inp c)) (msk (sto c)) (msk (m0 c)) (msk (m1 c)) (nI (c 1)) (szA c) (pA c 50) (pA c 90) (pA c 130) (pA c 170) (pA c 210) (pA c 250)))) (c_X1_strengthPassing l dC dI cI cZ cR cG 5 (by decide) (by decide)) ⟨hx, hb, hml, hown, hts⟩ (va_cwS 1 hts gX1_findDefinite_X1_strengthPassing rfl rfl rfl (by decide +kernel) ⟨Nat.le_of_ble_eq_true rfl, Nat.le_of_ble_eq_true rfl⟩) rfl hl.1 (Nat.le_of_ble_eq_true rfl) dX1_findDefinite_46 ⟨Nat.le_of_ble_eq_true rfl, Nat.le_of_ble_eq_true rfl⟩ hA hS hP hK hD [] [0, 1, 2, 3, 4, 5, 6, 7, 8, 9, 10, 11, 12, 13, 14, 15, 16, 17, 18, 19, 20, 21] rfl rfl (by decide) (by decide) (by decide) [0, 1, 2, 3, 4, 5, 6, 7, 8, 9, 10, 11, 12, 13, 14, 15, 16, 17, 18, 19, 20, 21] (by decide) (fun _ => rfl) rfl (fun _ H locs hp_5 hP hD hS => ?_)
  refine my_aldr (i := 2) (ty := .array .int) (v := .ref (sd 8)) hx hb hK hP 4 3 rfl rfl rfl (by omega) (by decide) dX1_findDefinite_49 rfl ?_
  refine lv_aload_n hx hb dX1_findDefinite_50 rfl (lv_at hl 3 rfl) ?_
  refine va_get (D := (dC, dI)) (ci := 0) (v := .int (msk (sto c))) (C := RX0) (T := TX0) (N := 13) hx hb hts (fun _ h9 => List.mem_cons_of_mem _ (List.mem_append_right _ h9)) hown hK hP 14 rfl rfl 2 (by decide) (hts (.fieldLink RX1 53 "SwitchLevelSimulator$Circuit" "storageNodes" "I") (List.mem_of_getElem? (i := 5) rfl)) (fun _ h9 => h9) rfl dX1_findDefinite_51 ?_
  refine CI.callS (As := [.int (msk (fun i => lvQ c 6 i || szB c 5 i)), .ref (sd 8), .int (msk (sto c))]) (rest := [.int (nI 5), .ref (sd 1)]) (w3 := (fun _ => (tF cI cG sd f_6 fu fd r0 r1 r2 r3 t0 t1 t2 t3) ++ (cF cI cd (nI (c 0)) (msk (inp c)) (msk (sto c)) (msk (m0 c)) (msk (m1 c)) (nI (c 1)) (szA c) (pA c 50) (pA c 90) (pA c 130) (pA c 170) (pA c 210) (pA c 250)))) (c_X1_reach l dC dI cI cZ cR cG (sd 8) r2 (eK c true 2 (c 1)) (fun i => lvQ c 6 i || szB c 5 i) (sto c) (fun i _ h => nb2 i (h.elim srcQ_lt sto_lt)) (fun i h => Nat.lt_of_lt_of_le (sto_lt h) h0) (fun i h => Nat.lt_of_lt_of_le (srcQ_lt h) h0)) ⟨hx, hb, hml, hown, hts⟩ (va_cwS 3 hts gX1_findDefinite_X1_reach rfl rfl rfl (by decide +kernel) ⟨Nat.le_of_ble_eq_true rfl, Nat.le_of_ble_eq_true rfl⟩) rfl hl.1 (Nat.le_of_ble_eq_true rfl) dX1_findDefinite_54 ⟨Nat.le_of_ble_eq_true rfl, Nat.le_of_ble_eq_true rfl⟩ hA hS hP hK hD [8] [0, 1, 2, 3, 4, 5, 6, 7, 9, 10, 11, 12, 13, 14, 15, 16, 17, 18, 19, 20, 21] rfl rfl (by decide) (by decide) (by decide) [0, 1, 2, 3, 4, 5, 6, 7, 21, 8, 9, 10, 11, 12, 13, 14, 15, 16, 17, 18, 19, 20] (by decide) (fun _ => rfl) rfl (fun _ H locs hp_6 hP hD hS => ?_)
  refine my_cast (show msk (rch (fun a b => (eK c true 2 (c 1)) a b = true) (fun i => lvQ c 6 i || szB c 5 i) (sto c)) = msk (lvQ c 5) from msk_cong (fun i _ => lvQ_s (lv := 5) ok (by omega) (by omega) i)) ?_
  refine my_iast (i := 5) (x := (msk (lvQ c 5))) (f := f_6) (ws' := (tF cI cG sd (upd f_6 5 (msk (lvQ c 5))) fu fd r0 r1 r2 r3 t0 t1 t2 t3) ++ (cF cI cd (nI (c 0)) (msk (inp c)) (msk (sto c)) (msk (m0 c)) (msk (m1 c)) (nI (c 1)) (szA c) (pA c 50) (pA c 90) (pA c 130) (pA c 170) (pA c 210) (pA c 250))) hx hb hK hP hD hS 1 0 rfl rfl (by omega) (by decide) dX1_findDefinite_57 rfl (fun H locs hP hD hS => ?_)
  obtain ⟨f_5, ef_5⟩ : ∃ y : Nat → Int32, y = upd f_6 5 (msk (lvQ c 5)) := ⟨_, rfl⟩
  rw [← ef_5] at hP hD
  have hL_5 : ∀ k, 5 ≤ k → k ≤ 7 → f_5 k = msk (lvQ c k) := by rw [ef_5]; exact lv_pick9 (P := fun k => msk (lvQ c k)) hL_6 rfl
  refine lv_iinc (v := nI 4) (lv' := [(2, .int (nI 4)), (3, .int (msk (fun i => lvQ c 6 i || szB c 5 i))), (0, .ref (sd 0)), (1, .ref (cd 0))]) hx hb dX1_findDefinite_58 hl (k := 1) rfl (by decide) (by decide) rfl (fun ls hl => ?_)
  refine lv_goto (tgt := 14) hx hb dX1_findDefinite_61 (by decide) ?_
  refine lv_iload_n hx hb dX1_findDefinite_14 rfl (lv_at hl 0 rfl) ?_
  refine lv_iconst (v := nI 1) hx hb dX1_findDefinite_15 (by decide) ?_
  refine my_icmp_lt (x := 4) (y := 1) (tgt := 64) hx hb (by omega) (by omega) dX1_findDefinite_16 (by decide) (fun c_7 => absurd c_7 (by decide)) (fun _ => ?_)
  refine lv_aload_n hx hb dX1_findDefinite_19 rfl (lv_at hl 2 rfl) ?_
  refine va_get (D := (dC, dI)) (ci := 1) (v := .ref (sd 1)) (C := RX1) (T := TX1) (N := 5) hx hb hts (fun _ h9 => List.mem_cons_of_mem _ (List.mem_append_left _ (List.mem_append_right _ h9))) hown hK hP 0 rfl rfl 0 (by decide) (hts (.fieldLink RX1 9 "SwitchLevelSimulator$SteadyState" "definite" "[I") (List.mem_of_getElem? (i := 1) rfl)) (fun _ h9 => h9) rfl dX1_findDefinite_20 ?_
  refine lv_iload_n hx hb dX1_findDefinite_23 rfl (lv_at hl 0 rfl) ?_
  refine lv_iconst (v := nI 1) hx hb dX1_findDefinite_24 (by decide) ?_
  refine my_iadd (x := 4) (y := 1) hx hb dX1_findDefinite_25 ?_
  refine my_iald (i := 5) hx hb hK hP 1 0 rfl rfl (by omega) (by decide) dX1_findDefinite_26 ?_
  refine my_cast (show f_5 5 = msk (lvQ c 5) from hL_5 5 (by omega) (by omega)) ?_
  refine lv_aload_n hx hb dX1_findDefinite_27 rfl (lv_at hl 3 rfl) ?_
  refine va_get (D := (dC, dI)) (ci := 0) (v := .ref (cd 1)) (C := RX0) (T := TX0) (N := 13) hx hb hts (fun _ h9 => List.mem_cons_of_mem _ (List.mem_append_right _ h9)) hown hK hP 14 rfl rfl 3 (by decide) (hts (.fieldLink RX1 63 "SwitchLevelSimulator$Circuit" "sizedAtLeast" "[I") (List.mem_of_getElem? (i := 3) rfl)) (fun _ h9 => h9) rfl dX1_findDefinite_28 ?_
  refine lv_iload_n hx hb dX1_findDefinite_31 rfl (lv_at hl 0 rfl) ?_
  refine my_iald (i := 4) hx hb hK hP 15 0 rfl rfl (by omega) (by decide) dX1_findDefinite_32 ?_
  refine lv_ior hx hb dX1_findDefinite_33 ?_
  refine my_cast (show (msk (lvQ c 5)) ||| (msk (szB c 4)) = msk (fun i => lvQ c 5 i || szB c 4 i) from msk_or _ _) ?_
  refine lv_istore_n (lv' := [(3, .int (msk (fun i => lvQ c 5 i || szB c 4 i))), (2, .int (nI 4)), (0, .ref (sd 0)), (1, .ref (cd 0))]) hx hb dX1_findDefinite_34 rfl hl (by decide) rfl (fun ls hl => ?_)
  refine lv_aload_n hx hb dX1_findDefinite_35 rfl (lv_at hl 2 rfl) ?_
  refine va_get (D := (dC, dI)) (ci := 1) (v := .ref (sd 1)) (C := RX1) (T := TX1) (N := 5) hx hb hts (fun _ h9 => List.mem_cons_of_mem _ (List.mem_append_left _ (List.mem_append_right _ h9))) hown hK hP 0 rfl rfl 0 (by decide) (hts (.fieldLink RX1 9 "SwitchLevelSimulator$SteadyState" "definite" "[I") (List.mem_of_getElem? (i := 1) rfl)) (fun _ h9 => h9) rfl dX1_findDefinite_36 ?_
  refine lv_iload_n hx hb dX1_findDefinite_39 rfl (lv_at hl 1 rfl) ?_
  refine lv_iload_n hx hb dX1_findDefinite_40 rfl (lv_at hl 0 rfl) ?_
  refine lv_aload_n hx hb dX1_findDefinite_41 rfl (lv_at hl 2 rfl) ?_
  refine va_get (D := (dC, dI)) (ci := 1) (v := .ref (sd 4)) (C := RX1) (T := TX1) (N := 5) hx hb hts (fun _ h9 => List.mem_cons_of_mem _ (List.mem_append_left _ (List.mem_append_right _ h9))) hown hK hP 0 rfl rfl 3 (by decide) (hts (.fieldLink RX1 23 "SwitchLevelSimulator$SteadyState" "byClosed" "[[I") (List.mem_of_getElem? (i := 4) rfl)) (fun _ h9 => h9) rfl dX1_findDefinite_42 ?_
  refine lv_iload_n hx hb dX1_findDefinite_45 rfl (lv_at hl 1 rfl) ?_
  refine CI.callS (As := [.int (nI 4)]) (rest := [.ref (sd 4), .int (msk (fun i => lvQ c 5 i || szB c 4 i)), .int (nI 4), .ref (sd 1)]) (w3 := (fun _ => (tF cI cG sd f_5 fu fd r0 r1 r2 r3 t0 t1 t2 t3) ++ (cF cI cd (nI (c 0)) (msk (inp c)) (msk (sto c)) (msk (m0 c)) (msk (m1 c)) (nI (c 1)) (szA c) (pA c 50) (pA c 90) (pA c 130) (pA c 170) (pA c 210) (pA c 250)))) (c_X1_strengthPassing l dC dI cI cZ cR cG 4 (by decide) (by decide)) ⟨hx, hb, hml, hown, hts⟩ (va_cwS 1 hts gX1_findDefinite_X1_strengthPassing rfl rfl rfl (by decide +kernel) ⟨Nat.le_of_ble_eq_true rfl, Nat.le_of_ble_eq_true rfl⟩) rfl hl.1 (Nat.le_of_ble_eq_true rfl) dX1_findDefinite_46 ⟨Nat.le_of_ble_eq_true rfl, Nat.le_of_ble_eq_true rfl⟩ hA hS hP hK hD [] [0, 1, 2, 3, 4, 5, 6, 7, 8, 9, 10, 11, 12, 13, 14, 15, 16, 17, 18, 19, 20, 21] rfl rfl (by decide) (by decide) (by decide) [0, 1, 2, 3, 4, 5, 6, 7, 8, 9, 10, 11, 12, 13, 14, 15, 16, 17, 18, 19, 20, 21] (by decide) (fun _ => rfl) rfl (fun _ H locs hp_8 hP hD hS => ?_)
  refine my_aldr (i := 1) (ty := .array .int) (v := .ref (sd 7)) hx hb hK hP 4 3 rfl rfl rfl (by omega) (by decide) dX1_findDefinite_49 rfl ?_
  refine lv_aload_n hx hb dX1_findDefinite_50 rfl (lv_at hl 3 rfl) ?_
  refine va_get (D := (dC, dI)) (ci := 0) (v := .int (msk (sto c))) (C := RX0) (T := TX0) (N := 13) hx hb hts (fun _ h9 => List.mem_cons_of_mem _ (List.mem_append_right _ h9)) hown hK hP 14 rfl rfl 2 (by decide) (hts (.fieldLink RX1 53 "SwitchLevelSimulator$Circuit" "storageNodes" "I") (List.mem_of_getElem? (i := 5) rfl)) (fun _ h9 => h9) rfl dX1_findDefinite_51 ?_
  refine CI.callS (As := [.int (msk (fun i => lvQ c 5 i || szB c 4 i)), .ref (sd 7), .int (msk (sto c))]) (rest := [.int (nI 4), .ref (sd 1)]) (w3 := (fun _ => (tF cI cG sd f_5 fu fd r0 r1 r2 r3 t0 t1 t2 t3) ++ (cF cI cd (nI (c 0)) (msk (inp c)) (msk (sto c)) (msk (m0 c)) (msk (m1 c)) (nI (c 1)) (szA c) (pA c 50) (pA c 90) (pA c 130) (pA c 170) (pA c 210) (pA c 250)))) (c_X1_reach l dC dI cI cZ cR cG (sd 7) r1 (eK c true 1 (c 1)) (fun i => lvQ c 5 i || szB c 4 i) (sto c) (fun i _ h => nb1 i (h.elim srcQ_lt sto_lt)) (fun i h => Nat.lt_of_lt_of_le (sto_lt h) h0) (fun i h => Nat.lt_of_lt_of_le (srcQ_lt h) h0)) ⟨hx, hb, hml, hown, hts⟩ (va_cwS 3 hts gX1_findDefinite_X1_reach rfl rfl rfl (by decide +kernel) ⟨Nat.le_of_ble_eq_true rfl, Nat.le_of_ble_eq_true rfl⟩) rfl hl.1 (Nat.le_of_ble_eq_true rfl) dX1_findDefinite_54 ⟨Nat.le_of_ble_eq_true rfl, Nat.le_of_ble_eq_true rfl⟩ hA hS hP hK hD [7] [0, 1, 2, 3, 4, 5, 6, 8, 9, 10, 11, 12, 13, 14, 15, 16, 17, 18, 19, 20, 21] rfl rfl (by decide) (by decide) (by decide) [0, 1, 2, 3, 4, 5, 6, 21, 7, 8, 9, 10, 11, 12, 13, 14, 15, 16, 17, 18, 19, 20] (by decide) (fun _ => rfl) rfl (fun _ H locs hp_9 hP hD hS => ?_)
  refine my_cast (show msk (rch (fun a b => (eK c true 1 (c 1)) a b = true) (fun i => lvQ c 5 i || szB c 4 i) (sto c)) = msk (lvQ c 4) from msk_cong (fun i _ => lvQ_s (lv := 4) ok (by omega) (by omega) i)) ?_
  refine my_iast (i := 4) (x := (msk (lvQ c 4))) (f := f_5) (ws' := (tF cI cG sd (upd f_5 4 (msk (lvQ c 4))) fu fd r0 r1 r2 r3 t0 t1 t2 t3) ++ (cF cI cd (nI (c 0)) (msk (inp c)) (msk (sto c)) (msk (m0 c)) (msk (m1 c)) (nI (c 1)) (szA c) (pA c 50) (pA c 90) (pA c 130) (pA c 170) (pA c 210) (pA c 250))) hx hb hK hP hD hS 1 0 rfl rfl (by omega) (by decide) dX1_findDefinite_57 rfl (fun H locs hP hD hS => ?_)
  obtain ⟨f_4, ef_4⟩ : ∃ y : Nat → Int32, y = upd f_5 4 (msk (lvQ c 4)) := ⟨_, rfl⟩
  rw [← ef_4] at hP hD
  have hL_4 : ∀ k, 4 ≤ k → k ≤ 7 → f_4 k = msk (lvQ c k) := by rw [ef_4]; exact lv_pick9 (P := fun k => msk (lvQ c k)) hL_5 rfl
  refine lv_iinc (v := nI 3) (lv' := [(2, .int (nI 3)), (3, .int (msk (fun i => lvQ c 5 i || szB c 4 i))), (0, .ref (sd 0)), (1, .ref (cd 0))]) hx hb dX1_findDefinite_58 hl (k := 1) rfl (by decide) (by decide) rfl (fun ls hl => ?_)
  refine lv_goto (tgt := 14) hx hb dX1_findDefinite_61 (by decide) ?_
  refine lv_iload_n hx hb dX1_findDefinite_14 rfl (lv_at hl 0 rfl) ?_
  refine lv_iconst (v := nI 1) hx hb dX1_findDefinite_15 (by decide) ?_
  refine my_icmp_lt (x := 3) (y := 1) (tgt := 64) hx hb (by omega) (by omega) dX1_findDefinite_16 (by decide) (fun c_10 => absurd c_10 (by decide)) (fun _ => ?_)
  refine lv_aload_n hx hb dX1_findDefinite_19 rfl (lv_at hl 2 rfl) ?_
  refine va_get (D := (dC, dI)) (ci := 1) (v := .ref (sd 1)) (C := RX1) (T := TX1) (N := 5) hx hb hts (fun _ h9 => List.mem_cons_of_mem _ (List.mem_append_left _ (List.mem_append_right _ h9))) hown hK hP 0 rfl rfl 0 (by decide) (hts (.fieldLink RX1 9 "SwitchLevelSimulator$SteadyState" "definite" "[I") (List.mem_of_getElem? (i := 1) rfl)) (fun _ h9 => h9) rfl dX1_findDefinite_20 ?_
  refine lv_iload_n hx hb dX1_findDefinite_23 rfl (lv_at hl 0 rfl) ?_
  refine lv_iconst (v := nI 1) hx hb dX1_findDefinite_24 (by decide) ?_
  refine my_iadd (x := 3) (y := 1) hx hb dX1_findDefinite_25 ?_
  refine my_iald (i := 4) hx hb hK hP 1 0 rfl rfl (by omega) (by decide) dX1_findDefinite_26 ?_
  refine my_cast (show f_4 4 = msk (lvQ c 4) from hL_4 4 (by omega) (by omega)) ?_
  refine lv_aload_n hx hb dX1_findDefinite_27 rfl (lv_at hl 3 rfl) ?_
  refine va_get (D := (dC, dI)) (ci := 0) (v := .ref (cd 1)) (C := RX0) (T := TX0) (N := 13) hx hb hts (fun _ h9 => List.mem_cons_of_mem _ (List.mem_append_right _ h9)) hown hK hP 14 rfl rfl 3 (by decide) (hts (.fieldLink RX1 63 "SwitchLevelSimulator$Circuit" "sizedAtLeast" "[I") (List.mem_of_getElem? (i := 3) rfl)) (fun _ h9 => h9) rfl dX1_findDefinite_28 ?_
  refine lv_iload_n hx hb dX1_findDefinite_31 rfl (lv_at hl 0 rfl) ?_
  refine my_iald (i := 3) hx hb hK hP 15 0 rfl rfl (by omega) (by decide) dX1_findDefinite_32 ?_
  refine lv_ior hx hb dX1_findDefinite_33 ?_
  refine my_cast (show (msk (lvQ c 4)) ||| (msk (szB c 3)) = msk (fun i => lvQ c 4 i || szB c 3 i) from msk_or _ _) ?_
  refine lv_istore_n (lv' := [(3, .int (msk (fun i => lvQ c 4 i || szB c 3 i))), (2, .int (nI 3)), (0, .ref (sd 0)), (1, .ref (cd 0))]) hx hb dX1_findDefinite_34 rfl hl (by decide) rfl (fun ls hl => ?_)
  refine lv_aload_n hx hb dX1_findDefinite_35 rfl (lv_at hl 2 rfl) ?_
  refine va_get (D := (dC, dI)) (ci := 1) (v := .ref (sd 1)) (C := RX1) (T := TX1) (N := 5) hx hb hts (fun _ h9 => List.mem_cons_of_mem _ (List.mem_append_left _ (List.mem_append_right _ h9))) hown hK hP 0 rfl rfl 0 (by decide) (hts (.fieldLink RX1 9 "SwitchLevelSimulator$SteadyState" "definite" "[I") (List.mem_of_getElem? (i := 1) rfl)) (fun _ h9 => h9) rfl dX1_findDefinite_36 ?_
  refine lv_iload_n hx hb dX1_findDefinite_39 rfl (lv_at hl 1 rfl) ?_
  refine lv_iload_n hx hb dX1_findDefinite_40 rfl (lv_at hl 0 rfl) ?_
  refine lv_aload_n hx hb dX1_findDefinite_41 rfl (lv_at hl 2 rfl) ?_
  refine va_get (D := (dC, dI)) (ci := 1) (v := .ref (sd 4)) (C := RX1) (T := TX1) (N := 5) hx hb hts (fun _ h9 => List.mem_cons_of_mem _ (List.mem_append_left _ (List.mem_append_right _ h9))) hown hK hP 0 rfl rfl 3 (by decide) (hts (.fieldLink RX1 23 "SwitchLevelSimulator$SteadyState" "byClosed" "[[I") (List.mem_of_getElem? (i := 4) rfl)) (fun _ h9 => h9) rfl dX1_findDefinite_42 ?_
  refine lv_iload_n hx hb dX1_findDefinite_45 rfl (lv_at hl 1 rfl) ?_
  refine CI.callS (As := [.int (nI 3)]) (rest := [.ref (sd 4), .int (msk (fun i => lvQ c 4 i || szB c 3 i)), .int (nI 3), .ref (sd 1)]) (w3 := (fun _ => (tF cI cG sd f_4 fu fd r0 r1 r2 r3 t0 t1 t2 t3) ++ (cF cI cd (nI (c 0)) (msk (inp c)) (msk (sto c)) (msk (m0 c)) (msk (m1 c)) (nI (c 1)) (szA c) (pA c 50) (pA c 90) (pA c 130) (pA c 170) (pA c 210) (pA c 250)))) (c_X1_strengthPassing l dC dI cI cZ cR cG 3 (by decide) (by decide)) ⟨hx, hb, hml, hown, hts⟩ (va_cwS 1 hts gX1_findDefinite_X1_strengthPassing rfl rfl rfl (by decide +kernel) ⟨Nat.le_of_ble_eq_true rfl, Nat.le_of_ble_eq_true rfl⟩) rfl hl.1 (Nat.le_of_ble_eq_true rfl) dX1_findDefinite_46 ⟨Nat.le_of_ble_eq_true rfl, Nat.le_of_ble_eq_true rfl⟩ hA hS hP hK hD [] [0, 1, 2, 3, 4, 5, 6, 7, 8, 9, 10, 11, 12, 13, 14, 15, 16, 17, 18, 19, 20, 21] rfl rfl (by decide) (by decide) (by decide) [0, 1, 2, 3, 4, 5, 6, 7, 8, 9, 10, 11, 12, 13, 14, 15, 16, 17, 18, 19, 20, 21] (by decide) (fun _ => rfl) rfl (fun _ H locs hp_11 hP hD hS => ?_)
  refine my_aldr (i := 1) (ty := .array .int) (v := .ref (sd 7)) hx hb hK hP 4 3 rfl rfl rfl (by omega) (by decide) dX1_findDefinite_49 rfl ?_
  refine lv_aload_n hx hb dX1_findDefinite_50 rfl (lv_at hl 3 rfl) ?_
  refine va_get (D := (dC, dI)) (ci := 0) (v := .int (msk (sto c))) (C := RX0) (T := TX0) (N := 13) hx hb hts (fun _ h9 => List.mem_cons_of_mem _ (List.mem_append_right _ h9)) hown hK hP 14 rfl rfl 2 (by decide) (hts (.fieldLink RX1 53 "SwitchLevelSimulator$Circuit" "storageNodes" "I") (List.mem_of_getElem? (i := 5) rfl)) (fun _ h9 => h9) rfl dX1_findDefinite_51 ?_
  refine CI.callS (As := [.int (msk (fun i => lvQ c 4 i || szB c 3 i)), .ref (sd 7), .int (msk (sto c))]) (rest := [.int (nI 3), .ref (sd 1)]) (w3 := (fun _ => (tF cI cG sd f_4 fu fd r0 r1 r2 r3 t0 t1 t2 t3) ++ (cF cI cd (nI (c 0)) (msk (inp c)) (msk (sto c)) (msk (m0 c)) (msk (m1 c)) (nI (c 1)) (szA c) (pA c 50) (pA c 90) (pA c 130) (pA c 170) (pA c 210) (pA c 250)))) (c_X1_reach l dC dI cI cZ cR cG (sd 7) r1 (eK c true 1 (c 1)) (fun i => lvQ c 4 i || szB c 3 i) (sto c) (fun i _ h => nb1 i (h.elim srcQ_lt sto_lt)) (fun i h => Nat.lt_of_lt_of_le (sto_lt h) h0) (fun i h => Nat.lt_of_lt_of_le (srcQ_lt h) h0)) ⟨hx, hb, hml, hown, hts⟩ (va_cwS 3 hts gX1_findDefinite_X1_reach rfl rfl rfl (by decide +kernel) ⟨Nat.le_of_ble_eq_true rfl, Nat.le_of_ble_eq_true rfl⟩) rfl hl.1 (Nat.le_of_ble_eq_true rfl) dX1_findDefinite_54 ⟨Nat.le_of_ble_eq_true rfl, Nat.le_of_ble_eq_true rfl⟩ hA hS hP hK hD [7] [0, 1, 2, 3, 4, 5, 6, 8, 9, 10, 11, 12, 13, 14, 15, 16, 17, 18, 19, 20, 21] rfl rfl (by decide) (by decide) (by decide) [0, 1, 2, 3, 4, 5, 6, 21, 7, 8, 9, 10, 11, 12, 13, 14, 15, 16, 17, 18, 19, 20] (by decide) (fun _ => rfl) rfl (fun _ H locs hp_12 hP hD hS => ?_)
  refine my_cast (show msk (rch (fun a b => (eK c true 1 (c 1)) a b = true) (fun i => lvQ c 4 i || szB c 3 i) (sto c)) = msk (lvQ c 3) from msk_cong (fun i _ => lvQ_s (lv := 3) ok (by omega) (by omega) i)) ?_
  refine my_iast (i := 3) (x := (msk (lvQ c 3))) (f := f_4) (ws' := (tF cI cG sd (upd f_4 3 (msk (lvQ c 3))) fu fd r0 r1 r2 r3 t0 t1 t2 t3) ++ (cF cI cd (nI (c 0)) (msk (inp c)) (msk (sto c)) (msk (m0 c)) (msk (m1 c)) (nI (c 1)) (szA c) (pA c 50) (pA c 90) (pA c 130) (pA c 170) (pA c 210) (pA c 250))) hx hb hK hP hD hS 1 0 rfl rfl (by omega) (by decide) dX1_findDefinite_57 rfl (fun H locs hP hD hS => ?_)
  obtain ⟨f_3, ef_3⟩ : ∃ y : Nat → Int32, y = upd f_4 3 (msk (lvQ c 3)) := ⟨_, rfl⟩
  rw [← ef_3] at hP hD
  have hL_3 : ∀ k, 3 ≤ k → k ≤ 7 → f_3 k = msk (lvQ c k) := by rw [ef_3]; exact lv_pick9 (P := fun k => msk (lvQ c k)) hL_4 rfl
  refine lv_iinc (v := nI 2) (lv' := [(2, .int (nI 2)), (3, .int (msk (fun i => lvQ c 4 i || szB c 3 i))), (0, .ref (sd 0)), (1, .ref (cd 0))]) hx hb dX1_findDefinite_58 hl (k := 1) rfl (by decide) (by decide) rfl (fun ls hl => ?_)
  refine lv_goto (tgt := 14) hx hb dX1_findDefinite_61 (by decide) ?_
  refine lv_iload_n hx hb dX1_findDefinite_14 rfl (lv_at hl 0 rfl) ?_
  refine lv_iconst (v := nI 1) hx hb dX1_findDefinite_15 (by decide) ?_
  refine my_icmp_lt (x := 2) (y := 1) (tgt := 64) hx hb (by omega) (by omega) dX1_findDefinite_16 (by decide) (fun c_13 => absurd c_13 (by decide)) (fun _ => ?_)
  refine lv_aload_n hx hb dX1_findDefinite_19 rfl (lv_at hl 2 rfl) ?_
  refine va_get (D := (dC, dI)) (ci := 1) (v := .ref (sd 1)) (C := RX1) (T := TX1) (N := 5) hx hb hts (fun _ h9 => List.mem_cons_of_mem _ (List.mem_append_left _ (List.mem_append_right _ h9))) hown hK hP 0 rfl rfl 0 (by decide) (hts (.fieldLink RX1 9 "SwitchLevelSimulator$SteadyState" "definite" "[I") (List.mem_of_getElem? (i := 1) rfl)) (fun _ h9 => h9) rfl dX1_findDefinite_20 ?_
  refine lv_iload_n hx hb dX1_findDefinite_23 rfl (lv_at hl 0 rfl) ?_
  refine lv_iconst (v := nI 1) hx hb dX1_findDefinite_24 (by decide) ?_
  refine my_iadd (x := 2) (y := 1) hx hb dX1_findDefinite_25 ?_
  refine my_iald (i := 3) hx hb hK hP 1 0 rfl rfl (by omega) (by decide) dX1_findDefinite_26 ?_
  refine my_cast (show f_3 3 = msk (lvQ c 3) from hL_3 3 (by omega) (by omega)) ?_
  refine lv_aload_n hx hb dX1_findDefinite_27 rfl (lv_at hl 3 rfl) ?_
  refine va_get (D := (dC, dI)) (ci := 0) (v := .ref (cd 1)) (C := RX0) (T := TX0) (N := 13) hx hb hts (fun _ h9 => List.mem_cons_of_mem _ (List.mem_append_right _ h9)) hown hK hP 14 rfl rfl 3 (by decide) (hts (.fieldLink RX1 63 "SwitchLevelSimulator$Circuit" "sizedAtLeast" "[I") (List.mem_of_getElem? (i := 3) rfl)) (fun _ h9 => h9) rfl dX1_findDefinite_28 ?_
  refine lv_iload_n hx hb dX1_findDefinite_31 rfl (lv_at hl 0 rfl) ?_
  refine my_iald (i := 2) hx hb hK hP 15 0 rfl rfl (by omega) (by decide) dX1_findDefinite_32 ?_
  refine lv_ior hx hb dX1_findDefinite_33 ?_
  refine my_cast (show (msk (lvQ c 3)) ||| (msk (szB c 2)) = msk (fun i => lvQ c 3 i || szB c 2 i) from msk_or _ _) ?_
  refine lv_istore_n (lv' := [(3, .int (msk (fun i => lvQ c 3 i || szB c 2 i))), (2, .int (nI 2)), (0, .ref (sd 0)), (1, .ref (cd 0))]) hx hb dX1_findDefinite_34 rfl hl (by decide) rfl (fun ls hl => ?_)
  refine lv_aload_n hx hb dX1_findDefinite_35 rfl (lv_at hl 2 rfl) ?_
  refine va_get (D := (dC, dI)) (ci := 1) (v := .ref (sd 1)) (C := RX1) (T := TX1) (N := 5) hx hb hts (fun _ h9 => List.mem_cons_of_mem _ (List.mem_append_left _ (List.mem_append_right _ h9))) hown hK hP 0 rfl rfl 0 (by decide) (hts (.fieldLink RX1 9 "SwitchLevelSimulator$SteadyState" "definite" "[I") (List.mem_of_getElem? (i := 1) rfl)) (fun _ h9 => h9) rfl dX1_findDefinite_36 ?_
  refine lv_iload_n hx hb dX1_findDefinite_39 rfl (lv_at hl 1 rfl) ?_
  refine lv_iload_n hx hb dX1_findDefinite_40 rfl (lv_at hl 0 rfl) ?_
  refine lv_aload_n hx hb dX1_findDefinite_41 rfl (lv_at hl 2 rfl) ?_
  refine va_get (D := (dC, dI)) (ci := 1) (v := .ref (sd 4)) (C := RX1) (T := TX1) (N := 5) hx hb hts (fun _ h9 => List.mem_cons_of_mem _ (List.mem_append_left _ (List.mem_append_right _ h9))) hown hK hP 0 rfl rfl 3 (by decide) (hts (.fieldLink RX1 23 "SwitchLevelSimulator$SteadyState" "byClosed" "[[I") (List.mem_of_getElem? (i := 4) rfl)) (fun _ h9 => h9) rfl dX1_findDefinite_42 ?_
  refine lv_iload_n hx hb dX1_findDefinite_45 rfl (lv_at hl 1 rfl) ?_
  refine CI.callS (As := [.int (nI 2)]) (rest := [.ref (sd 4), .int (msk (fun i => lvQ c 3 i || szB c 2 i)), .int (nI 2), .ref (sd 1)]) (w3 := (fun _ => (tF cI cG sd f_3 fu fd r0 r1 r2 r3 t0 t1 t2 t3) ++ (cF cI cd (nI (c 0)) (msk (inp c)) (msk (sto c)) (msk (m0 c)) (msk (m1 c)) (nI (c 1)) (szA c) (pA c 50) (pA c 90) (pA c 130) (pA c 170) (pA c 210) (pA c 250)))) (c_X1_strengthPassing l dC dI cI cZ cR cG 2 (by decide) (by decide)) ⟨hx, hb, hml, hown, hts⟩ (va_cwS 1 hts gX1_findDefinite_X1_strengthPassing rfl rfl rfl (by decide +kernel) ⟨Nat.le_of_ble_eq_true rfl, Nat.le_of_ble_eq_true rfl⟩) rfl hl.1 (Nat.le_of_ble_eq_true rfl) dX1_findDefinite_46 ⟨Nat.le_of_ble_eq_true rfl, Nat.le_of_ble_eq_true rfl⟩ hA hS hP hK hD [] [0, 1, 2, 3, 4, 5, 6, 7, 8, 9, 10, 11, 12, 13, 14, 15, 16, 17, 18, 19, 20, 21] rfl rfl (by decide) (by decide) (by decide) [0, 1, 2, 3, 4, 5, 6, 7, 8, 9, 10, 11, 12, 13, 14, 15, 16, 17, 18, 19, 20, 21] (by decide) (fun _ => rfl) rfl (fun _ H locs hp_14 hP hD hS => ?_)
  refine my_aldr (i := 1) (ty := .array .int) (v := .ref (sd 7)) hx hb hK hP 4 3 rfl rfl rfl (by omega) (by decide) dX1_findDefinite_49 rfl ?_
  refine lv_aload_n hx hb dX1_findDefinite_50 rfl (lv_at hl 3 rfl) ?_
  refine va_get (D := (dC, dI)) (ci := 0) (v := .int (msk (sto c))) (C := RX0) (T := TX0) (N := 13) hx hb hts (fun _ h9 => List.mem_cons_of_mem _ (List.mem_append_right _ h9)) hown hK hP 14 rfl rfl 2 (by decide) (hts (.fieldLink RX1 53 "SwitchLevelSimulator$Circuit" "storageNodes" "I") (List.mem_of_getElem? (i := 5) rfl)) (fun _ h9 => h9) rfl dX1_findDefinite_51 ?_
  refine CI.callS (As := [.int (msk (fun i => lvQ c 3 i || szB c 2 i)), .ref (sd 7), .int (msk (sto c))]) (rest := [.int (nI 2), .ref (sd 1)]) (w3 := (fun _ => (tF cI cG sd f_3 fu fd r0 r1 r2 r3 t0 t1 t2 t3) ++ (cF cI cd (nI (c 0)) (msk (inp c)) (msk (sto c)) (msk (m0 c)) (msk (m1 c)) (nI (c 1)) (szA c) (pA c 50) (pA c 90) (pA c 130) (pA c 170) (pA c 210) (pA c 250)))) (c_X1_reach l dC dI cI cZ cR cG (sd 7) r1 (eK c true 1 (c 1)) (fun i => lvQ c 3 i || szB c 2 i) (sto c) (fun i _ h => nb1 i (h.elim srcQ_lt sto_lt)) (fun i h => Nat.lt_of_lt_of_le (sto_lt h) h0) (fun i h => Nat.lt_of_lt_of_le (srcQ_lt h) h0)) ⟨hx, hb, hml, hown, hts⟩ (va_cwS 3 hts gX1_findDefinite_X1_reach rfl rfl rfl (by decide +kernel) ⟨Nat.le_of_ble_eq_true rfl, Nat.le_of_ble_eq_true rfl⟩) rfl hl.1 (Nat.le_of_ble_eq_true rfl) dX1_findDefinite_54 ⟨Nat.le_of_ble_eq_true rfl, Nat.le_of_ble_eq_true rfl⟩ hA hS hP hK hD [7] [0, 1, 2, 3, 4, 5, 6, 8, 9, 10, 11, 12, 13, 14, 15, 16, 17, 18, 19, 20, 21] rfl rfl (by decide) (by decide) (by decide) [0, 1, 2, 3, 4, 5, 6, 21, 7, 8, 9, 10, 11, 12, 13, 14, 15, 16, 17, 18, 19, 20] (by decide) (fun _ => rfl) rfl (fun _ H locs hp_15 hP hD hS => ?_)
  refine my_cast (show msk (rch (fun a b => (eK c true 1 (c 1)) a b = true) (fun i => lvQ c 3 i || szB c 2 i) (sto c)) = msk (lvQ c 2) from msk_cong (fun i _ => lvQ_s (lv := 2) ok (by omega) (by omega) i)) ?_
  refine my_iast (i := 2) (x := (msk (lvQ c 2))) (f := f_3) (ws' := (tF cI cG sd (upd f_3 2 (msk (lvQ c 2))) fu fd r0 r1 r2 r3 t0 t1 t2 t3) ++ (cF cI cd (nI (c 0)) (msk (inp c)) (msk (sto c)) (msk (m0 c)) (msk (m1 c)) (nI (c 1)) (szA c) (pA c 50) (pA c 90) (pA c 130) (pA c 170) (pA c 210) (pA c 250))) hx hb hK hP hD hS 1 0 rfl rfl (by omega) (by decide) dX1_findDefinite_57 rfl (fun H locs hP hD hS => ?_)
  obtain ⟨f_2, ef_2⟩ : ∃ y : Nat → Int32, y = upd f_3 2 (msk (lvQ c 2)) := ⟨_, rfl⟩
  rw [← ef_2] at hP hD
  have hL_2 : ∀ k, 2 ≤ k → k ≤ 7 → f_2 k = msk (lvQ c k) := by rw [ef_2]; exact lv_pick9 (P := fun k => msk (lvQ c k)) hL_3 rfl
  refine lv_iinc (v := nI 1) (lv' := [(2, .int (nI 1)), (3, .int (msk (fun i => lvQ c 3 i || szB c 2 i))), (0, .ref (sd 0)), (1, .ref (cd 0))]) hx hb dX1_findDefinite_58 hl (k := 1) rfl (by decide) (by decide) rfl (fun ls hl => ?_)
  refine lv_goto (tgt := 14) hx hb dX1_findDefinite_61 (by decide) ?_
  refine lv_iload_n hx hb dX1_findDefinite_14 rfl (lv_at hl 0 rfl) ?_
  refine lv_iconst (v := nI 1) hx hb dX1_findDefinite_15 (by decide) ?_
  refine my_icmp_lt (x := 1) (y := 1) (tgt := 64) hx hb (by omega) (by omega) dX1_findDefinite_16 (by decide) (fun c_16 => absurd c_16 (by decide)) (fun _ => ?_)
  refine lv_aload_n hx hb dX1_findDefinite_19 rfl (lv_at hl 2 rfl) ?_
  refine va_get (D := (dC, dI)) (ci := 1) (v := .ref (sd 1)) (C := RX1) (T := TX1) (N := 5) hx hb hts (fun _ h9 => List.mem_cons_of_mem _ (List.mem_append_left _ (List.mem_append_right _ h9))) hown hK hP 0 rfl rfl 0 (by decide) (hts (.fieldLink RX1 9 "SwitchLevelSimulator$SteadyState" "definite" "[I") (List.mem_of_getElem? (i := 1) rfl)) (fun _ h9 => h9) rfl dX1_findDefinite_20 ?_
  refine lv_iload_n hx hb dX1_findDefinite_23 rfl (lv_at hl 0 rfl) ?_
  refine lv_iconst (v := nI 1) hx hb dX1_findDefinite_24 (by decide) ?_
  refine my_iadd (x := 1) (y := 1) hx hb dX1_findDefinite_25 ?_
  refine my_iald (i := 2) hx hb hK hP 1 0 rfl rfl (by omega) (by decide) dX1_findDefinite_26 ?_
  refine my_cast (show f_2 2 = msk (lvQ c 2) from hL_2 2 (by omega) (by omega)) ?_
  refine lv_aload_n hx hb dX1_findDefinite_27 rfl (lv_at hl 3 rfl) ?_
  refine va_get (D := (dC, dI)) (ci := 0) (v := .ref (cd 1)) (C := RX0) (T := TX0) (N := 13) hx hb hts (fun _ h9 => List.mem_cons_of_mem _ (List.mem_append_right _ h9)) hown hK hP 14 rfl rfl 3 (by decide) (hts (.fieldLink RX1 63 "SwitchLevelSimulator$Circuit" "sizedAtLeast" "[I") (List.mem_of_getElem? (i := 3) rfl)) (fun _ h9 => h9) rfl dX1_findDefinite_28 ?_
  refine lv_iload_n hx hb dX1_findDefinite_31 rfl (lv_at hl 0 rfl) ?_
  refine my_iald (i := 1) hx hb hK hP 15 0 rfl rfl (by omega) (by decide) dX1_findDefinite_32 ?_
  refine lv_ior hx hb dX1_findDefinite_33 ?_
  refine my_cast (show (msk (lvQ c 2)) ||| (msk (szB c 1)) = msk (fun i => lvQ c 2 i || szB c 1 i) from msk_or _ _) ?_
  refine lv_istore_n (lv' := [(3, .int (msk (fun i => lvQ c 2 i || szB c 1 i))), (2, .int (nI 1)), (0, .ref (sd 0)), (1, .ref (cd 0))]) hx hb dX1_findDefinite_34 rfl hl (by decide) rfl (fun ls hl => ?_)
  refine lv_aload_n hx hb dX1_findDefinite_35 rfl (lv_at hl 2 rfl) ?_
  refine va_get (D := (dC, dI)) (ci := 1) (v := .ref (sd 1)) (C := RX1) (T := TX1) (N := 5) hx hb hts (fun _ h9 => List.mem_cons_of_mem _ (List.mem_append_left _ (List.mem_append_right _ h9))) hown hK hP 0 rfl rfl 0 (by decide) (hts (.fieldLink RX1 9 "SwitchLevelSimulator$SteadyState" "definite" "[I") (List.mem_of_getElem? (i := 1) rfl)) (fun _ h9 => h9) rfl dX1_findDefinite_36 ?_
  refine lv_iload_n hx hb dX1_findDefinite_39 rfl (lv_at hl 1 rfl) ?_
  refine lv_iload_n hx hb dX1_findDefinite_40 rfl (lv_at hl 0 rfl) ?_
  refine lv_aload_n hx hb dX1_findDefinite_41 rfl (lv_at hl 2 rfl) ?_
  refine va_get (D := (dC, dI)) (ci := 1) (v := .ref (sd 4)) (C := RX1) (T := TX1) (N := 5) hx hb hts (fun _ h9 => List.mem_cons_of_mem _ (List.mem_append_left _ (List.mem_append_right _ h9))) hown hK hP 0 rfl rfl 3 (by decide) (hts (.fieldLink RX1 23 "SwitchLevelSimulator$SteadyState" "byClosed" "[[I") (List.mem_of_getElem? (i := 4) rfl)) (fun _ h9 => h9) rfl dX1_findDefinite_42 ?_
  refine lv_iload_n hx hb dX1_findDefinite_45 rfl (lv_at hl 1 rfl) ?_
  refine CI.callS (As := [.int (nI 1)]) (rest := [.ref (sd 4), .int (msk (fun i => lvQ c 2 i || szB c 1 i)), .int (nI 1), .ref (sd 1)]) (w3 := (fun _ => (tF cI cG sd f_2 fu fd r0 r1 r2 r3 t0 t1 t2 t3) ++ (cF cI cd (nI (c 0)) (msk (inp c)) (msk (sto c)) (msk (m0 c)) (msk (m1 c)) (nI (c 1)) (szA c) (pA c 50) (pA c 90) (pA c 130) (pA c 170) (pA c 210) (pA c 250)))) (c_X1_strengthPassing l dC dI cI cZ cR cG 1 (by decide) (by decide)) ⟨hx, hb, hml, hown, hts⟩ (va_cwS 1 hts gX1_findDefinite_X1_strengthPassing rfl rfl rfl (by decide +kernel) ⟨Nat.le_of_ble_eq_true rfl, Nat.le_of_ble_eq_true rfl⟩) rfl hl.1 (Nat.le_of_ble_eq_true rfl) dX1_findDefinite_46 ⟨Nat.le_of_ble_eq_true rfl, Nat.le_of_ble_eq_true rfl⟩ hA hS hP hK hD [] [0, 1, 2, 3, 4, 5, 6, 7, 8, 9, 10, 11, 12, 13, 14, 15, 16, 17, 18, 19, 20, 21] rfl rfl (by decide) (by decide) (by decide) [0, 1, 2, 3, 4, 5, 6, 7, 8, 9, 10, 11, 12, 13, 14, 15, 16, 17, 18, 19, 20, 21] (by decide) (fun _ => rfl) rfl (fun _ H locs hp_17 hP hD hS => ?_)
  refine my_aldr (i := 1) (ty := .array .int) (v := .ref (sd 7)) hx hb hK hP 4 3 rfl rfl rfl (by omega) (by decide) dX1_findDefinite_49 rfl ?_
  refine lv_aload_n hx hb dX1_findDefinite_50 rfl (lv_at hl 3 rfl) ?_
  refine va_get (D := (dC, dI)) (ci := 0) (v := .int (msk (sto c))) (C := RX0) (T := TX0) (N := 13) hx hb hts (fun _ h9 => List.mem_cons_of_mem _ (List.mem_append_right _ h9)) hown hK hP 14 rfl rfl 2 (by decide) (hts (.fieldLink RX1 53 "SwitchLevelSimulator$Circuit" "storageNodes" "I") (List.mem_of_getElem? (i := 5) rfl)) (fun _ h9 => h9) rfl dX1_findDefinite_51 ?_
  refine CI.callS (As := [.int (msk (fun i => lvQ c 2 i || szB c 1 i)), .ref (sd 7), .int (msk (sto c))]) (rest := [.int (nI 1), .ref (sd 1)]) (w3 := (fun _ => (tF cI cG sd f_2 fu fd r0 r1 r2 r3 t0 t1 t2 t3) ++ (cF cI cd (nI (c 0)) (msk (inp c)) (msk (sto c)) (msk (m0 c)) (msk (m1 c)) (nI (c 1)) (szA c) (pA c 50) (pA c 90) (pA c 130) (pA c 170) (pA c 210) (pA c 250)))) (c_X1_reach l dC dI cI cZ cR cG (sd 7) r1 (eK c true 1 (c 1)) (fun i => lvQ c 2 i || szB c 1 i) (sto c) (fun i _ h => nb1 i (h.elim srcQ_lt sto_lt)) (fun i h => Nat.lt_of_lt_of_le (sto_lt h) h0) (fun i h => Nat.lt_of_lt_of_le (srcQ_lt h) h0)) ⟨hx, hb, hml, hown, hts⟩ (va_cwS 3 hts gX1_findDefinite_X1_reach rfl rfl rfl (by decide +kernel) ⟨Nat.le_of_ble_eq_true rfl, Nat.le_of_ble_eq_true rfl⟩) rfl hl.1 (Nat.le_of_ble_eq_true rfl) dX1_findDefinite_54 ⟨Nat.le_of_ble_eq_true rfl, Nat.le_of_ble_eq_true rfl⟩ hA hS hP hK hD [7] [0, 1, 2, 3, 4, 5, 6, 8, 9, 10, 11, 12, 13, 14, 15, 16, 17, 18, 19, 20, 21] rfl rfl (by decide) (by decide) (by decide) [0, 1, 2, 3, 4, 5, 6, 21, 7, 8, 9, 10, 11, 12, 13, 14, 15, 16, 17, 18, 19, 20] (by decide) (fun _ => rfl) rfl (fun _ H locs hp_18 hP hD hS => ?_)
  refine my_cast (show msk (rch (fun a b => (eK c true 1 (c 1)) a b = true) (fun i => lvQ c 2 i || szB c 1 i) (sto c)) = msk (lvQ c 1) from msk_cong (fun i _ => lvQ_s (lv := 1) ok (by omega) (by omega) i)) ?_
  refine my_iast (i := 1) (x := (msk (lvQ c 1))) (f := f_2) (ws' := (tF cI cG sd (upd f_2 1 (msk (lvQ c 1))) fu fd r0 r1 r2 r3 t0 t1 t2 t3) ++ (cF cI cd (nI (c 0)) (msk (inp c)) (msk (sto c)) (msk (m0 c)) (msk (m1 c)) (nI (c 1)) (szA c) (pA c 50) (pA c 90) (pA c 130) (pA c 170) (pA c 210) (pA c 250))) hx hb hK hP hD hS 1 0 rfl rfl (by omega) (by decide) dX1_findDefinite_57 rfl (fun H locs hP hD hS => ?_)
  obtain ⟨f_1, ef_1⟩ : ∃ y : Nat → Int32, y = upd f_2 1 (msk (lvQ c 1)) := ⟨_, rfl⟩
  rw [← ef_1] at hP hD
  have hL_1 : ∀ k, 1 ≤ k → k ≤ 7 → f_1 k = msk (lvQ c k) := by rw [ef_1]; exact lv_pick9 (P := fun k => msk (lvQ c k)) hL_2 rfl
  refine lv_iinc (v := nI 0) (lv' := [(2, .int (nI 0)), (3, .int (msk (fun i => lvQ c 2 i || szB c 1 i))), (0, .ref (sd 0)), (1, .ref (cd 0))]) hx hb dX1_findDefinite_58 hl (k := 1) rfl (by decide) (by decide) rfl (fun ls hl => ?_)
  refine lv_goto (tgt := 14) hx hb dX1_findDefinite_61 (by decide) ?_
  refine lv_iload_n hx hb dX1_findDefinite_14 rfl (lv_at hl 0 rfl) ?_
  refine lv_iconst (v := nI 1) hx hb dX1_findDefinite_15 (by decide) ?_
  refine my_icmp_lt (x := 0) (y := 1) (tgt := 64) hx hb (by omega) (by omega) dX1_findDefinite_16 (by decide) (fun _ => ?_) (fun c_19 => absurd c_19 (by decide))
  exact ret f_1 _ _ _ _ _ _ _ (hL_1) (rfl) hP hD hS (Nat.le_of_ble_eq_true rfl) (Nat.le_of_ble_eq_true rfl) dX1_findDefinite_64
abbrev rm_X1_findSide : Room := { frames := 2, cells := 0, slots := 0, locals := 48 }
set_option maxHeartbeats 4000000 in
set_option maxRecDepth 100000 in
theorem c_X1_findSide (l : Launch) (dC : Nat → ClassId) (dI : Nat → Nat → Nat) (cI cZ cR cG : ClassId) (sd : Nat → Nat) (sx : Nat) (cd : Nat → Nat) (fq fs t0 t1 t2 t3 : Nat → Int32) (c : Nat → Nat) (v : Nat) (ok : okG c) (hq : ∀ lv, 1 ≤ lv → lv ≤ 7 → fq lv = msk (lvQ c lv)) (hn : (∀ i, i < c 0 → t1 i = msk (eK c false 1 (c 1) i)) ∧ (∀ i, i < c 0 → t2 i = msk (eK c false 2 (c 1) i)) ∧ (∀ i, i < c 0 → t3 i = msk (eK c false 3 (c 1) i))) : CV l (dC, dI) (tyL cI cZ cR cG) yX1_findSide wsX1_findSide rm_X1_findSide [.ref (sd 0), .ref sx, .int (msk (car c v)), .ref (cd 0)] ((vF cI cG sd sx fq fs t0 t1 t2 t3) ++ (cF cI cd (nI (c 0)) (msk (inp c)) (msk (sto c)) (msk (m0 c)) (msk (m1 c)) (nI (c 1)) (szA c) (pA c 50) (pA c 90) (pA c 130) (pA c 170) (pA c 210) (pA c 250))) (S := Nat → Int32) (fun u => ∀ lv, 1 ≤ lv → lv ≤ 7 → u lv = msk (lvU c v lv)) (fun u => vF cI cG sd sx fq u t0 t1 t2 t3 ++ cW cI cd c) := by
  refine CV.of (cc := cX1_findSide) (maxL := 7) (lv := [(0, .ref (sd 0)), (1, .ref sx), (2, .int (msk (car c v))), (3, .ref (cd 0))]) (by decide) rfl (Nat.le_of_ble_eq_true rfl) rfl ?_
  intro p e s m ar below meth kc A Qz ls hx hb hml hown hts hnm hA hS hP hK hD hl ret
  have h0 := ok.1
  have h1 := ok.2.1
  obtain ⟨nb1, nb2, nb3⟩ := hn
  refine lv_aload_n hx hb dX1_findSide_0 rfl (lv_at hl 1 rfl) ?_
  refine lv_bipush (v := nI 7) hx hb dX1_findSide_1 (by decide) ?_
  refine lv_aload_n hx hb dX1_findSide_3 rfl (lv_at hl 3 rfl) ?_
  refine va_get (D := (dC, dI)) (ci := 0) (v := .int (msk (inp c))) (C := RX0) (T := TX0) (N := 13) hx hb hts (fun _ h9 => List.mem_cons_of_mem _ (List.mem_append_left _ (List.mem_append_right _ h9))) hown hK hP 8 rfl rfl 1 (by decide) (hts (.fieldLink RX1 60 "SwitchLevelSimulator$Circuit" "inputNodes" "I") (List.mem_of_getElem? (i := 1) rfl)) (fun _ h9 => h9) rfl dX1_findSide_4 ?_
  refine lv_iload_n hx hb dX1_findSide_7 rfl (lv_at hl 2 rfl) ?_
  refine lv_iand hx hb dX1_findSide_8 ?_
  refine my_iast (i := 7) (x := ((msk (inp c)) &&& (msk (car c v)))) (f := fs) (ws' := (vF cI cG sd sx fq (upd fs 7 ((msk (inp c)) &&& (msk (car c v)))) t0 t1 t2 t3) ++ (cF cI cd (nI (c 0)) (msk (inp c)) (msk (sto c)) (msk (m0 c)) (msk (m1 c)) (nI (c 1)) (szA c) (pA c 50) (pA c 90) (pA c 130) (pA c 170) (pA c 210) (pA c 250))) hx hb hK hP hD hS 7 0 rfl rfl (by omega) (by decide) dX1_findSide_9 rfl (fun H locs hP hD hS => ?_)
  obtain ⟨f_7, ef_7⟩ : ∃ y : Nat → Int32, y = upd fs 7 ((msk (inp c)) &&& (msk (car c v))) := ⟨_, rfl⟩
  rw [← ef_7] at hP hD
  have hL_7 : ∀ k, 7 ≤ k → k ≤ 7 → f_7 k = msk (lvU c v k) := by rw [ef_7]; exact lv_pick9 (P := fun k => msk (lvU c v k)) (fun j h1 h2 => by omega) ((msk_and _ _).trans (msk_cong (fun i _ => lvU_7 ok v i)))
  refine lv_bipush (v := nI 6) hx hb dX1_findSide_10 (by decide) ?_
  refine lv_istore (lv' := [(4, .int (nI 6)), (0, .ref (sd 0)), (1, .ref sx), (2, .int (msk (car c v))), (3, .ref (cd 0))]) hx hb dX1_findSide_12 hl (by decide) rfl (fun ls hl => ?_)
  refine lv_iload hx hb dX1_findSide_14 (lv_at hl 0 rfl) ?_
  refine lv_iconst (v := nI 1) hx hb dX1_findSide_16 (by decide) ?_
  refine my_icmp_lt (x := 6) (y := 1) (tgt := 86) hx hb (by omega) (by omega) dX1_findSide_17 (by decide) (fun c_1 => absurd c_1 (by decide)) (fun _ => ?_)
  refine lv_aload_n hx hb dX1_findSide_20 rfl (lv_at hl 4 rfl) ?_
  refine va_get (D := (dC, dI)) (ci := 0) (v := .int (msk (sto c))) (C := RX0) (T := TX0) (N := 13) hx hb hts (fun _ h9 => List.mem_cons_of_mem _ (List.mem_append_left _ (List.mem_append_right _ h9))) hown hK hP 8 rfl rfl 2 (by decide) (hts (.fieldLink RX1 53 "SwitchLevelSimulator$Circuit" "storageNodes" "I") (List.mem_of_getElem? (i := 2) rfl)) (fun _ h9 => h9) rfl dX1_findSide_21 ?_
  refine lv_aload_n hx hb dX1_findSide_24 rfl (lv_at hl 1 rfl) ?_
  refine va_get (D := (dC, dI)) (ci := 1) (v := .ref (sd 1)) (C := RX1) (T := TX1) (N := 5) hx hb hts (fun _ h9 => List.mem_cons_of_mem _ (List.mem_append_right _ h9)) hown hK hP 0 rfl rfl 0 (by decide) (hts (.fieldLink RX1 9 "SwitchLevelSimulator$SteadyState" "definite" "[I") (List.mem_of_getElem? (i := 3) rfl)) (fun _ h9 => h9) rfl dX1_findSide_25 ?_
  refine lv_iload hx hb dX1_findSide_28 (lv_at hl 0 rfl) ?_
  refine lv_iconst (v := nI 1) hx hb dX1_findSide_30 (by decide) ?_
  refine my_iadd (x := 6) (y := 1) hx hb dX1_findSide_31 ?_
  refine my_iald (i := 7) hx hb hK hP 1 0 rfl rfl (by omega) (by decide) dX1_findSide_32 ?_
  refine my_cast (show fq 7 = msk (lvQ c 7) from hq 7 (by omega) (by omega)) ?_
  refine lv_iconst (v := -1) hx hb dX1_findSide_33 (by decide) ?_
  refine lv_ixor hx hb dX1_findSide_34 ?_
  refine lv_iand hx hb dX1_findSide_35 ?_
  refine my_cast (show (msk (sto c)) &&& ((msk (lvQ c 7)) ^^^ (-1)) = msk (rcp c 6) from rcp_m c 6) ?_
  refine lv_istore (lv' := [(5, .int (msk (rcp c 6))), (4, .int (nI 6)), (0, .ref (sd 0)), (1, .ref sx), (2, .int (msk (car c v))), (3, .ref (cd 0))]) hx hb dX1_findSide_36 hl (by decide) rfl (fun ls hl => ?_)
  refine lv_aload_n hx hb dX1_findSide_38 rfl (lv_at hl 3 rfl) ?_
  refine lv_iload hx hb dX1_findSide_39 (lv_at hl 1 rfl) ?_
  refine lv_iconst (v := nI 1) hx hb dX1_findSide_41 (by decide) ?_
  refine my_iadd (x := 6) (y := 1) hx hb dX1_findSide_42 ?_
  refine my_iald (i := 7) hx hb hK hP 7 0 rfl rfl (by omega) (by decide) dX1_findSide_43 ?_
  refine my_cast (show f_7 7 = msk (lvU c v 7) from hL_7 7 (by omega) (by omega)) ?_
  refine lv_aload_n hx hb dX1_findSide_44 rfl (lv_at hl 5 rfl) ?_
  refine va_get (D := (dC, dI)) (ci := 0) (v := .ref (cd 1)) (C := RX0) (T := TX0) (N := 13) hx hb hts (fun _ h9 => List.mem_cons_of_mem _ (List.mem_append_left _ (List.mem_append_right _ h9))) hown hK hP 8 rfl rfl 3 (by decide) (hts (.fieldLink RX1 63 "SwitchLevelSimulator$Circuit" "sizedAtLeast" "[I") (List.mem_of_getElem? (i := 4) rfl)) (fun _ h9 => h9) rfl dX1_findSide_45 ?_
  refine lv_iload hx hb dX1_findSide_48 (lv_at hl 1 rfl) ?_
  refine my_iald (i := 6) hx hb hK hP 9 0 rfl rfl (by omega) (by decide) dX1_findSide_50 ?_
  refine lv_iload_n hx hb dX1_findSide_51 rfl (lv_at hl 4 rfl) ?_
  refine lv_iand hx hb dX1_findSide_52 ?_
  refine lv_iload hx hb dX1_findSide_53 (lv_at hl 0 rfl) ?_
  refine lv_iand hx hb dX1_findSide_55 ?_
  refine lv_ior hx hb dX1_findSide_56 ?_
  refine my_cast (show (msk (lvU c v 7)) ||| (((msk (szB c 6)) &&& (msk (car c v))) &&& (msk (rcp c 6))) = msk (fun i => lvU c v 7 i || ((szB c 6 i && car c v i) && rcp c 6 i)) from srcU_m c v 6) ?_
  refine lv_istore (lv' := [(6, .int (msk (fun i => lvU c v 7 i || ((szB c 6 i && car c v i) && rcp c 6 i)))), (5, .int (msk (rcp c 6))), (4, .int (nI 6)), (0, .ref (sd 0)), (1, .ref sx), (2, .int (msk (car c v))), (3, .ref (cd 0))]) hx hb dX1_findSide_57 hl (by decide) rfl (fun ls hl => ?_)
  refine lv_aload_n hx hb dX1_findSide_59 rfl (lv_at hl 4 rfl) ?_
  refine lv_iload hx hb dX1_findSide_60 (lv_at hl 2 rfl) ?_
  refine lv_iload hx hb dX1_findSide_62 (lv_at hl 0 rfl) ?_
  refine lv_aload_n hx hb dX1_findSide_64 rfl (lv_at hl 3 rfl) ?_
  refine va_get (D := (dC, dI)) (ci := 1) (v := .ref (sd 5)) (C := RX1) (T := TX1) (N := 5) hx hb hts (fun _ h9 => List.mem_cons_of_mem _ (List.mem_append_right _ h9)) hown hK hP 0 rfl rfl 4 (by decide) (hts (.fieldLink RX1 26 "SwitchLevelSimulator$SteadyState" "byNotOpen" "[[I") (List.mem_of_getElem? (i := 5) rfl)) (fun _ h9 => h9) rfl dX1_findSide_65 ?_
  refine lv_iload hx hb dX1_findSide_68 (lv_at hl 2 rfl) ?_
  refine CI.callS (As := [.int (nI 6)]) (rest := [.ref (sd 5), .int (msk (fun i => lvU c v 7 i || ((szB c 6 i && car c v i) && rcp c 6 i))), .int (nI 6), .ref sx]) (w3 := (fun _ => (vF cI cG sd sx fq f_7 t0 t1 t2 t3) ++ (cF cI cd (nI (c 0)) (msk (inp c)) (msk (sto c)) (msk (m0 c)) (msk (m1 c)) (nI (c 1)) (szA c) (pA c 50) (pA c 90) (pA c 130) (pA c 170) (pA c 210) (pA c 250)))) (c_X1_strengthPassing l dC dI cI cZ cR cG 6 (by decide) (by decide)) ⟨hx, hb, hml, hown, hts⟩ (va_cwS 1 hts gX1_findSide_X1_strengthPassing rfl rfl rfl (by decide +kernel) ⟨Nat.le_of_ble_eq_true rfl, Nat.le_of_ble_eq_true rfl⟩) rfl hl.1 (Nat.le_of_ble_eq_true rfl) dX1_findSide_70 ⟨Nat.le_of_ble_eq_true rfl, Nat.le_of_ble_eq_true rfl⟩ hA hS hP hK hD [] [0, 1, 2, 3, 4, 5, 6, 7, 8, 9, 10, 11, 12, 13, 14, 15] rfl rfl (by decide) (by decide) (by decide) [0, 1, 2, 3, 4, 5, 6, 7, 8, 9, 10, 11, 12, 13, 14, 15] (by decide) (fun _ => rfl) rfl (fun _ H locs hp_2 hP hD hS => ?_)
  refine my_aldr (i := 3) (ty := .array .int) (v := .ref (sd 13)) hx hb hK hP 2 3 rfl rfl rfl (by omega) (by decide) dX1_findSide_73 rfl ?_
  refine lv_iload hx hb dX1_findSide_74 (lv_at hl 1 rfl) ?_
  refine CI.callS (As := [.int (msk (fun i => lvU c v 7 i || ((szB c 6 i && car c v i) && rcp c 6 i))), .ref (sd 13), .int (msk (rcp c 6))]) (rest := [.int (nI 6), .ref sx]) (w3 := (fun _ => (vF cI cG sd sx fq f_7 t0 t1 t2 t3) ++ (cF cI cd (nI (c 0)) (msk (inp c)) (msk (sto c)) (msk (m0 c)) (msk (m1 c)) (nI (c 1)) (szA c) (pA c 50) (pA c 90) (pA c 130) (pA c 170) (pA c 210) (pA c 250)))) (c_X1_reach l dC dI cI cZ cR cG (sd 13) t3 (eK c false 3 (c 1)) (fun i => lvU c v 7 i || ((szB c 6 i && car c v i) && rcp c 6 i)) (rcp c 6) (fun i _ h => nb3 i (h.elim srcU_lt rcp_lt)) (fun i h => Nat.lt_of_lt_of_le (rcp_lt h) h0) (fun i h => Nat.lt_of_lt_of_le (srcU_lt h) h0)) ⟨hx, hb, hml, hown, hts⟩ (va_cwS 3 hts gX1_findSide_X1_reach rfl rfl rfl (by decide +kernel) ⟨Nat.le_of_ble_eq_true rfl, Nat.le_of_ble_eq_true rfl⟩) rfl hl.1 (Nat.le_of_ble_eq_true rfl) dX1_findSide_76 ⟨Nat.le_of_ble_eq_true rfl, Nat.le_of_ble_eq_true rfl⟩ hA hS hP hK hD [6] [0, 1, 2, 3, 4, 5, 7, 8, 9, 10, 11, 12, 13, 14, 15] rfl rfl (by decide) (by decide) (by decide) [0, 1, 2, 3, 4, 5, 15, 6, 7, 8, 9, 10, 11, 12, 13, 14] (by decide) (fun _ => rfl) rfl (fun _ H locs hp_3 hP hD hS => ?_)
  refine my_cast (show msk (rch (fun a b => (eK c false 3 (c 1)) a b = true) (fun i => lvU c v 7 i || ((szB c 6 i && car c v i) && rcp c 6 i)) (rcp c 6)) = msk (lvU c v 6) from msk_cong (fun i _ => lvU_s (lv := 6) ok v (by omega) (by omega) i)) ?_
  refine my_iast (i := 6) (x := (msk (lvU c v 6))) (f := f_7) (ws' := (vF cI cG sd sx fq (upd f_7 6 (msk (lvU c v 6))) t0 t1 t2 t3) ++ (cF cI cd (nI (c 0)) (msk (inp c)) (msk (sto c)) (msk (m0 c)) (msk (m1 c)) (nI (c 1)) (szA c) (pA c 50) (pA c 90) (pA c 130) (pA c 170) (pA c 210) (pA c 250))) hx hb hK hP hD hS 7 0 rfl rfl (by omega) (by decide) dX1_findSide_79 rfl (fun H locs hP hD hS => ?_)
  obtain ⟨f_6, ef_6⟩ : ∃ y : Nat → Int32, y = upd f_7 6 (msk (lvU c v 6)) := ⟨_, rfl⟩
  rw [← ef_6] at hP hD
  have hL_6 : ∀ k, 6 ≤ k → k ≤ 7 → f_6 k = msk (lvU c v k) := by rw [ef_6]; exact lv_pick9 (P := fun k => msk (lvU c v k)) hL_7 rfl
  refine lv_iinc (v := nI 5) (lv' := [(4, .int (nI 5)), (6, .int (msk (fun i => lvU c v 7 i || ((szB c 6 i && car c v i) && rcp c 6 i)))), (5, .int (msk (rcp c 6))), (0, .ref (sd 0)), (1, .ref sx), (2, .int (msk (car c v))), (3, .ref (cd 0))]) hx hb dX1_findSide_80 hl (k := 2) rfl (by decide) (by decide) rfl (fun ls hl => ?_)
  refine lv_goto (tgt := 14) hx hb dX1_findSide_83 (by decide) ?_
  refine lv_iload hx hb dX1_findSide_14 (lv_at hl 0 rfl) ?_
  refine lv_iconst (v := nI 1) hx hb dX1_findSide_16 (by decide) ?_
  refine my_icmp_lt (x := 5) (y := 1) (tgt := 86) hx hb (by omega) (by omega) dX1_findSide_17 (by decide) (fun c_4 => absurd c_4 (by decide)) (fun _ => ?_)
  refine lv_aload_n hx hb dX1_findSide_20 rfl (lv_at hl 6 rfl) ?_
  refine va_get (D := (dC, dI)) (ci := 0) (v := .int (msk (sto c))) (C := RX0) (T := TX0) (N := 13) hx hb hts (fun _ h9 => List.mem_cons_of_mem _ (List.mem_append_left _ (List.mem_append_right _ h9))) hown hK hP 8 rfl rfl 2 (by decide) (hts (.fieldLink RX1 53 "SwitchLevelSimulator$Circuit" "storageNodes" "I") (List.mem_of_getElem? (i := 2) rfl)) (fun _ h9 => h9) rfl dX1_findSide_21 ?_
  refine lv_aload_n hx hb dX1_findSide_24 rfl (lv_at hl 3 rfl) ?_
  refine va_get (D := (dC, dI)) (ci := 1) (v := .ref (sd 1)) (C := RX1) (T := TX1) (N := 5) hx hb hts (fun _ h9 => List.mem_cons_of_mem _ (List.mem_append_right _ h9)) hown hK hP 0 rfl rfl 0 (by decide) (hts (.fieldLink RX1 9 "SwitchLevelSimulator$SteadyState" "definite" "[I") (List.mem_of_getElem? (i := 3) rfl)) (fun _ h9 => h9) rfl dX1_findSide_25 ?_
  refine lv_iload hx hb dX1_findSide_28 (lv_at hl 0 rfl) ?_
  refine lv_iconst (v := nI 1) hx hb dX1_findSide_30 (by decide) ?_
  refine my_iadd (x := 5) (y := 1) hx hb dX1_findSide_31 ?_
  refine my_iald (i := 6) hx hb hK hP 1 0 rfl rfl (by omega) (by decide) dX1_findSide_32 ?_
  refine my_cast (show fq 6 = msk (lvQ c 6) from hq 6 (by omega) (by omega)) ?_
  refine lv_iconst (v := -1) hx hb dX1_findSide_33 (by decide) ?_
  refine lv_ixor hx hb dX1_findSide_34 ?_
  refine lv_iand hx hb dX1_findSide_35 ?_
  refine my_cast (show (msk (sto c)) &&& ((msk (lvQ c 6)) ^^^ (-1)) = msk (rcp c 5) from rcp_m c 5) ?_
  refine lv_istore (lv' := [(5, .int (msk (rcp c 5))), (4, .int (nI 5)), (6, .int (msk (fun i => lvU c v 7 i || ((szB c 6 i && car c v i) && rcp c 6 i)))), (0, .ref (sd 0)), (1, .ref sx), (2, .int (msk (car c v))), (3, .ref (cd 0))]) hx hb dX1_findSide_36 hl (by decide) rfl (fun ls hl => ?_)
  refine lv_aload_n hx hb dX1_findSide_38 rfl (lv_at hl 4 rfl) ?_
  refine lv_iload hx hb dX1_findSide_39 (lv_at hl 1 rfl) ?_
  refine lv_iconst (v := nI 1) hx hb dX1_findSide_41 (by decide) ?_
  refine my_iadd (x := 5) (y := 1) hx hb dX1_findSide_42 ?_
  refine my_iald (i := 6) hx hb hK hP 7 0 rfl rfl (by omega) (by decide) dX1_findSide_43 ?_
  refine my_cast (show f_6 6 = msk (lvU c v 6) from hL_6 6 (by omega) (by omega)) ?_
  refine lv_aload_n hx hb dX1_findSide_44 rfl (lv_at hl 6 rfl) ?_
  refine va_get (D := (dC, dI)) (ci := 0) (v := .ref (cd 1)) (C := RX0) (T := TX0) (N := 13) hx hb hts (fun _ h9 => List.mem_cons_of_mem _ (List.mem_append_left _ (List.mem_append_right _ h9))) hown hK hP 8 rfl rfl 3 (by decide) (hts (.fieldLink RX1 63 "SwitchLevelSimulator$Circuit" "sizedAtLeast" "[I") (List.mem_of_getElem? (i := 4) rfl)) (fun _ h9 => h9) rfl dX1_findSide_45 ?_
  refine lv_iload hx hb dX1_findSide_48 (lv_at hl 1 rfl) ?_
  refine my_iald (i := 5) hx hb hK hP 9 0 rfl rfl (by omega) (by decide) dX1_findSide_50 ?_
  refine lv_iload_n hx hb dX1_findSide_51 rfl (lv_at hl 5 rfl) ?_
  refine lv_iand hx hb dX1_findSide_52 ?_
  refine lv_iload hx hb dX1_findSide_53 (lv_at hl 0 rfl) ?_
  refine lv_iand hx hb dX1_findSide_55 ?_
  refine lv_ior hx hb dX1_findSide_56 ?_
  refine my_cast (show (msk (lvU c v 6)) ||| (((msk (szB c 5)) &&& (msk (car c v))) &&& (msk (rcp c 5))) = msk (fun i => lvU c v 6 i || ((szB c 5 i && car c v i) && rcp c 5 i)) from srcU_m c v 5) ?_
  refine lv_istore (lv' := [(6, .int (msk (fun i => lvU c v 6 i || ((szB c 5 i && car c v i) && rcp c 5 i)))), (5, .int (msk (rcp c 5))), (4, .int (nI 5)), (0, .ref (sd 0)), (1, .ref sx), (2, .int (msk (car c v))), (3, .ref (cd 0))]) hx hb dX1_findSide_57 hl (by decide) rfl (fun ls hl => ?_)
  refine lv_aload_n hx hb dX1_findSide_59 rfl (lv_at hl 4 rfl) ?_
  refine lv_iload hx hb dX1_findSide_60 (lv_at hl 2 rfl) ?_
  refine lv_iload hx hb dX1_findSide_62 (lv_at hl 0 rfl) ?_
  refine lv_aload_n hx hb dX1_findSide_64 rfl (lv_at hl 3 rfl) ?_
  refine va_get (D := (dC, dI)) (ci := 1) (v := .ref (sd 5)) (C := RX1) (T := TX1) (N := 5) hx hb hts (fun _ h9 => List.mem_cons_of_mem _ (List.mem_append_right _ h9)) hown hK hP 0 rfl rfl 4 (by decide) (hts (.fieldLink RX1 26 "SwitchLevelSimulator$SteadyState" "byNotOpen" "[[I") (List.mem_of_getElem? (i := 5) rfl)) (fun _ h9 => h9) rfl dX1_findSide_65 ?_
  refine lv_iload hx hb dX1_findSide_68 (lv_at hl 2 rfl) ?_
  refine CI.callS (As := [.int (nI 5)]) (rest := [.ref (sd 5), .int (msk (fun i => lvU c v 6 i || ((szB c 5 i && car c v i) && rcp c 5 i))), .int (nI 5), .ref sx]) (w3 := (fun _ => (vF cI cG sd sx fq f_6 t0 t1 t2 t3) ++ (cF cI cd (nI (c 0)) (msk (inp c)) (msk (sto c)) (msk (m0 c)) (msk (m1 c)) (nI (c 1)) (szA c) (pA c 50) (pA c 90) (pA c 130) (pA c 170) (pA c 210) (pA c 250)))) (c_X1_strengthPassing l dC dI cI cZ cR cG 5 (by decide) (by decide)) ⟨hx, hb, hml, hown, hts⟩ (va_cwS 1 hts gX1_findSide_X1_strengthPassing rfl rfl rfl (by decide +kernel) ⟨Nat.le_of_ble_eq_true rfl, Nat.le_of_ble_eq_true rfl⟩) rfl hl.1 (Nat.le_of_ble_eq_true rfl) dX1_findSide_70 ⟨Nat.le_of_ble_eq_true rfl, Nat.le_of_ble_eq_true rfl⟩ hA hS hP hK hD [] [0, 1, 2, 3, 4, 5, 6, 7, 8, 9, 10, 11, 12, 13, 14, 15] rfl rfl (by decide) (by decide) (by decide) [0, 1, 2, 3, 4, 5, 6, 7, 8, 9, 10, 11, 12, 13, 14, 15] (by decide) (fun _ => rfl) rfl (fun _ H locs hp_5 hP hD hS => ?_)
  refine my_aldr (i := 2) (ty := .array .int) (v := .ref (sd 12)) hx hb hK hP 2 3 rfl rfl rfl (by omega) (by decide) dX1_findSide_73 rfl ?_
  refine lv_iload hx hb dX1_findSide_74 (lv_at hl 1 rfl) ?_
  refine CI.callS (As := [.int (msk (fun i => lvU c v 6 i || ((szB c 5 i && car c v i) && rcp c 5 i))), .ref (sd 12), .int (msk (rcp c 5))]) (rest := [.int (nI 5), .ref sx]) (w3 := (fun _ => (vF cI cG sd sx fq f_6 t0 t1 t2 t3) ++ (cF cI cd (nI (c 0)) (msk (inp c)) (msk (sto c)) (msk (m0 c)) (msk (m1 c)) (nI (c 1)) (szA c) (pA c 50) (pA c 90) (pA c 130) (pA c 170) (pA c 210) (pA c 250)))) (c_X1_reach l dC dI cI cZ cR cG (sd 12) t2 (eK c false 2 (c 1)) (fun i => lvU c v 6 i || ((szB c 5 i && car c v i) && rcp c 5 i)) (rcp c 5) (fun i _ h => nb2 i (h.elim srcU_lt rcp_lt)) (fun i h => Nat.lt_of_lt_of_le (rcp_lt h) h0) (fun i h => Nat.lt_of_lt_of_le (srcU_lt h) h0)) ⟨hx, hb, hml, hown, hts⟩ (va_cwS 3 hts gX1_findSide_X1_reach rfl rfl rfl (by decide +kernel) ⟨Nat.le_of_ble_eq_true rfl, Nat.le_of_ble_eq_true rfl⟩) rfl hl.1 (Nat.le_of_ble_eq_true rfl) dX1_findSide_76 ⟨Nat.le_of_ble_eq_true rfl, Nat.le_of_ble_eq_true rfl⟩ hA hS hP hK hD [5] [0, 1, 2, 3, 4, 6, 7, 8, 9, 10, 11, 12, 13, 14, 15] rfl rfl (by decide) (by decide) (by decide) [0, 1, 2, 3, 4, 15, 5, 6, 7, 8, 9, 10, 11, 12, 13, 14] (by decide) (fun _ => rfl) rfl (fun _ H locs hp_6 hP hD hS => ?_)
  refine my_cast (show msk (rch (fun a b => (eK c false 2 (c 1)) a b = true) (fun i => lvU c v 6 i || ((szB c 5 i && car c v i) && rcp c 5 i)) (rcp c 5)) = msk (lvU c v 5) from msk_cong (fun i _ => lvU_s (lv := 5) ok v (by omega) (by omega) i)) ?_
  refine my_iast (i := 5) (x := (msk (lvU c v 5))) (f := f_6) (ws' := (vF cI cG sd sx fq (upd f_6 5 (msk (lvU c v 5))) t0 t1 t2 t3) ++ (cF cI cd (nI (c 0)) (msk (inp c)) (msk (sto c)) (msk (m0 c)) (msk (m1 c)) (nI (c 1)) (szA c) (pA c 50) (pA c 90) (pA c 130) (pA c 170) (pA c 210) (pA c 250))) hx hb hK hP hD hS 7 0 rfl rfl (by omega) (by decide) dX1_findSide_79 rfl (fun H locs hP hD hS => ?_)
  obtain ⟨f_5, ef_5⟩ : ∃ y : Nat → Int32, y = upd f_6 5 (msk (lvU c v 5)) := ⟨_, rfl⟩
  rw [← ef_5] at hP hD
  have hL_5 : ∀ k, 5 ≤ k → k ≤ 7 → f_5 k = msk (lvU c v k) := by rw [ef_5]; exact lv_pick9 (P := fun k => msk (lvU c v k)) hL_6 rfl
  refine lv_iinc (v := nI 4) (lv' := [(4, .int (nI 4)), (6, .int (msk (fun i => lvU c v 6 i || ((szB c 5 i && car c v i) && rcp c 5 i)))), (5, .int (msk (rcp c 5))), (0, .ref (sd 0)), (1, .ref sx), (2, .int (msk (car c v))), (3, .ref (cd 0))]) hx hb dX1_findSide_80 hl (k := 2) rfl (by decide) (by decide) rfl (fun ls hl => ?_)
  refine lv_goto (tgt := 14) hx hb dX1_findSide_83 (by decide) ?_
  refine lv_iload hx hb dX1_findSide_14 (lv_at hl 0 rfl) ?_
  refine lv_iconst (v := nI 1) hx hb dX1_findSide_16 (by decide) ?_
  refine my_icmp_lt (x := 4) (y := 1) (tgt := 86) hx hb (by omega) (by omega) dX1_findSide_17 (by decide) (fun c_7 => absurd c_7 (by decide)) (fun _ => ?_)
  refine lv_aload_n hx hb dX1_findSide_20 rfl (lv_at hl 6 rfl) ?_
  refine va_get (D := (dC, dI)) (ci := 0) (v := .int (msk (sto c))) (C := RX0) (T := TX0) (N := 13) hx hb hts (fun _ h9 => List.mem_cons_of_mem _ (List.mem_append_left _ (List.mem_append_right _ h9))) hown hK hP 8 rfl rfl 2 (by decide) (hts (.fieldLink RX1 53 "SwitchLevelSimulator$Circuit" "storageNodes" "I") (List.mem_of_getElem? (i := 2) rfl)) (fun _ h9 => h9) rfl dX1_findSide_21 ?_
  refine lv_aload_n hx hb dX1_findSide_24 rfl (lv_at hl 3 rfl) ?_
  refine va_get (D := (dC, dI)) (ci := 1) (v := .ref (sd 1)) (C := RX1) (T := TX1) (N := 5) hx hb hts (fun _ h9 => List.mem_cons_of_mem _ (List.mem_append_right _ h9)) hown hK hP 0 rfl rfl 0 (by decide) (hts (.fieldLink RX1 9 "SwitchLevelSimulator$SteadyState" "definite" "[I") (List.mem_of_getElem? (i := 3) rfl)) (fun _ h9 => h9) rfl dX1_findSide_25 ?_
  refine lv_iload hx hb dX1_findSide_28 (lv_at hl 0 rfl) ?_
  refine lv_iconst (v := nI 1) hx hb dX1_findSide_30 (by decide) ?_
  refine my_iadd (x := 4) (y := 1) hx hb dX1_findSide_31 ?_
  refine my_iald (i := 5) hx hb hK hP 1 0 rfl rfl (by omega) (by decide) dX1_findSide_32 ?_
  refine my_cast (show fq 5 = msk (lvQ c 5) from hq 5 (by omega) (by omega)) ?_
  refine lv_iconst (v := -1) hx hb dX1_findSide_33 (by decide) ?_
  refine lv_ixor hx hb dX1_findSide_34 ?_
  refine lv_iand hx hb dX1_findSide_35 ?_
  refine my_cast (show (msk (sto c)) &&& ((msk (lvQ c 5)) ^^^ (-1)) = msk (rcp c 4) from rcp_m c 4) ?_
  refine lv_istore (lv' := [(5, .int (msk (rcp c 4))), (4, .int (nI 4)), (6, .int (msk (fun i => lvU c v 6 i || ((szB c 5 i && car c v i) && rcp c 5 i)))), (0, .ref (sd 0)), (1, .ref sx), (2, .int (msk (car c v))), (3, .ref (cd 0))]) hx hb dX1_findSide_36 hl (by decide) rfl (fun ls hl => ?_)
  refine lv_aload_n hx hb dX1_findSide_38 rfl (lv_at hl 4 rfl) ?_
  refine lv_iload hx hb dX1_findSide_39 (lv_at hl 1 rfl) ?_
  refine lv_iconst (v := nI 1) hx hb dX1_findSide_41 (by decide) ?_
  refine my_iadd (x := 4) (y := 1) hx hb dX1_findSide_42 ?_
  refine my_iald (i := 5) hx hb hK hP 7 0 rfl rfl (by omega) (by decide) dX1_findSide_43 ?_
  refine my_cast (show f_5 5 = msk (lvU c v 5) from hL_5 5 (by omega) (by omega)) ?_
  refine lv_aload_n hx hb dX1_findSide_44 rfl (lv_at hl 6 rfl) ?_
  refine va_get (D := (dC, dI)) (ci := 0) (v := .ref (cd 1)) (C := RX0) (T := TX0) (N := 13) hx hb hts (fun _ h9 => List.mem_cons_of_mem _ (List.mem_append_left _ (List.mem_append_right _ h9))) hown hK hP 8 rfl rfl 3 (by decide) (hts (.fieldLink RX1 63 "SwitchLevelSimulator$Circuit" "sizedAtLeast" "[I") (List.mem_of_getElem? (i := 4) rfl)) (fun _ h9 => h9) rfl dX1_findSide_45 ?_
  refine lv_iload hx hb dX1_findSide_48 (lv_at hl 1 rfl) ?_
  refine my_iald (i := 4) hx hb hK hP 9 0 rfl rfl (by omega) (by decide) dX1_findSide_50 ?_
  refine lv_iload_n hx hb dX1_findSide_51 rfl (lv_at hl 5 rfl) ?_
  refine lv_iand hx hb dX1_findSide_52 ?_
  refine lv_iload hx hb dX1_findSide_53 (lv_at hl 0 rfl) ?_
  refine lv_iand hx hb dX1_findSide_55 ?_
  refine lv_ior hx hb dX1_findSide_56 ?_
  refine my_cast (show (msk (lvU c v 5)) ||| (((msk (szB c 4)) &&& (msk (car c v))) &&& (msk (rcp c 4))) = msk (fun i => lvU c v 5 i || ((szB c 4 i && car c v i) && rcp c 4 i)) from srcU_m c v 4) ?_
  refine lv_istore (lv' := [(6, .int (msk (fun i => lvU c v 5 i || ((szB c 4 i && car c v i) && rcp c 4 i)))), (5, .int (msk (rcp c 4))), (4, .int (nI 4)), (0, .ref (sd 0)), (1, .ref sx), (2, .int (msk (car c v))), (3, .ref (cd 0))]) hx hb dX1_findSide_57 hl (by decide) rfl (fun ls hl => ?_)
  refine lv_aload_n hx hb dX1_findSide_59 rfl (lv_at hl 4 rfl) ?_
  refine lv_iload hx hb dX1_findSide_60 (lv_at hl 2 rfl) ?_
  refine lv_iload hx hb dX1_findSide_62 (lv_at hl 0 rfl) ?_
  refine lv_aload_n hx hb dX1_findSide_64 rfl (lv_at hl 3 rfl) ?_
  refine va_get (D := (dC, dI)) (ci := 1) (v := .ref (sd 5)) (C := RX1) (T := TX1) (N := 5) hx hb hts (fun _ h9 => List.mem_cons_of_mem _ (List.mem_append_right _ h9)) hown hK hP 0 rfl rfl 4 (by decide) (hts (.fieldLink RX1 26 "SwitchLevelSimulator$SteadyState" "byNotOpen" "[[I") (List.mem_of_getElem? (i := 5) rfl)) (fun _ h9 => h9) rfl dX1_findSide_65 ?_
  refine lv_iload hx hb dX1_findSide_68 (lv_at hl 2 rfl) ?_
  refine CI.callS (As := [.int (nI 4)]) (rest := [.ref (sd 5), .int (msk (fun i => lvU c v 5 i || ((szB c 4 i && car c v i) && rcp c 4 i))), .int (nI 4), .ref sx]) (w3 := (fun _ => (vF cI cG sd sx fq f_5 t0 t1 t2 t3) ++ (cF cI cd (nI (c 0)) (msk (inp c)) (msk (sto c)) (msk (m0 c)) (msk (m1 c)) (nI (c 1)) (szA c) (pA c 50) (pA c 90) (pA c 130) (pA c 170) (pA c 210) (pA c 250)))) (c_X1_strengthPassing l dC dI cI cZ cR cG 4 (by decide) (by decide)) ⟨hx, hb, hml, hown, hts⟩ (va_cwS 1 hts gX1_findSide_X1_strengthPassing rfl rfl rfl (by decide +kernel) ⟨Nat.le_of_ble_eq_true rfl, Nat.le_of_ble_eq_true rfl⟩) rfl hl.1 (Nat.le_of_ble_eq_true rfl) dX1_findSide_70 ⟨Nat.le_of_ble_eq_true rfl, Nat.le_of_ble_eq_true rfl⟩ hA hS hP hK hD [] [0, 1, 2, 3, 4, 5, 6, 7, 8, 9, 10, 11, 12, 13, 14, 15] rfl rfl (by decide) (by decide) (by decide) [0, 1, 2, 3, 4, 5, 6, 7, 8, 9, 10, 11, 12, 13, 14, 15] (by decide) (fun _ => rfl) rfl (fun _ H locs hp_8 hP hD hS => ?_)
  refine my_aldr (i := 1) (ty := .array .int) (v := .ref (sd 11)) hx hb hK hP 2 3 rfl rfl rfl (by omega) (by decide) dX1_findSide_73 rfl ?_
  refine lv_iload hx hb dX1_findSide_74 (lv_at hl 1 rfl) ?_
  refine CI.callS (As := [.int (msk (fun i => lvU c v 5 i || ((szB c 4 i && car c v i) && rcp c 4 i))), .ref (sd 11), .int (msk (rcp c 4))]) (rest := [.int (nI 4), .ref sx]) (w3 := (fun _ => (vF cI cG sd sx fq f_5 t0 t1 t2 t3) ++ (cF cI cd (nI (c 0)) (msk (inp c)) (msk (sto c)) (msk (m0 c)) (msk (m1 c)) (nI (c 1)) (szA c) (pA c 50) (pA c 90) (pA c 130) (pA c 170) (pA c 210) (pA c 250)))) (c_X1_reach l dC dI cI cZ cR cG (sd 11) t1 (eK c false 1 (c 1)) (fun i => lvU c v 5 i || ((szB c 4 i && car c v i) && rcp c 4 i)) (rcp c 4) (fun i _ h => nb1 i (h.elim srcU_lt rcp_lt)) (fun i h => Nat.lt_of_lt_of_le (rcp_lt h) h0) (fun i h => Nat.lt_of_lt_of_le (srcU_lt h) h0)) ⟨hx, hb, hml, hown, hts⟩ (va_cwS 3 hts gX1_findSide_X1_reach rfl rfl rfl (by decide +kernel) ⟨Nat.le_of_ble_eq_true rfl, Nat.le_of_ble_eq_true rfl⟩) rfl hl.1 (Nat.le_of_ble_eq_true rfl) dX1_findSide_76 ⟨Nat.le_of_ble_eq_true rfl, Nat.le_of_ble_eq_true rfl⟩ hA hS hP hK hD [4] [0, 1, 2, 3, 5, 6, 7, 8, 9, 10, 11, 12, 13, 14, 15] rfl rfl (by decide) (by decide) (by decide) [0, 1, 2, 3, 15, 4, 5, 6, 7, 8, 9, 10, 11, 12, 13, 14] (by decide) (fun _ => rfl) rfl (fun _ H locs hp_9 hP hD hS => ?_)
  refine my_cast (show msk (rch (fun a b => (eK c false 1 (c 1)) a b = true) (fun i => lvU c v 5 i || ((szB c 4 i && car c v i) && rcp c 4 i)) (rcp c 4)) = msk (lvU c v 4) from msk_cong (fun i _ => lvU_s (lv := 4) ok v (by omega) (by omega) i)) ?_
  refine my_iast (i := 4) (x := (msk (lvU c v 4))) (f := f_5) (ws' := (vF cI cG sd sx fq (upd f_5 4 (msk (lvU c v 4))) t0 t1 t2 t3) ++ (cF cI cd (nI (c 0)) (msk (inp c)) (msk (sto c)) (msk (m0 c)) (msk (m1 c)) (nI (c 1)) (szA c) (pA c 50) (pA c 90) (pA c 130) (pA c 170) (pA c 210) (pA c 250))) hx hb hK hP hD hS 7 0 rfl rfl (by omega) (by decide) dX1_findSide_79 rfl (fun H locs hP hD hS => ?_)
  obtain ⟨f_4, ef_4⟩ : ∃ y : Nat → Int32, y = upd f_5 4 (msk (lvU c v 4)) := ⟨_, rfl⟩
  rw [← ef_4] at hP hD
  have hL_4 : ∀ k, 4 ≤ k → k ≤ 7 → f_4 k = msk (lvU c v k) := by rw [ef_4]; exact lv_pick9 (P := fun k => msk (lvU c v k)) hL_5 rfl
  refine lv_iinc (v := nI 3) (lv' := [(4, .int (nI 3)), (6, .int (msk (fun i => lvU c v 5 i || ((szB c 4 i && car c v i) && rcp c 4 i)))), (5, .int (msk (rcp c 4))), (0, .ref (sd 0)), (1, .ref sx), (2, .int (msk (car c v))), (3, .ref (cd 0))]) hx hb dX1_findSide_80 hl (k := 2) rfl (by decide) (by decide) rfl (fun ls hl => ?_)
  refine lv_goto (tgt := 14) hx hb dX1_findSide_83 (by decide) ?_
  refine lv_iload hx hb dX1_findSide_14 (lv_at hl 0 rfl) ?_
  refine lv_iconst (v := nI 1) hx hb dX1_findSide_16 (by decide) ?_
  refine my_icmp_lt (x := 3) (y := 1) (tgt := 86) hx hb (by omega) (by omega) dX1_findSide_17 (by decide) (fun c_10 => absurd c_10 (by decide)) (fun _ => ?_)
  refine lv_aload_n hx hb dX1_findSide_20 rfl (lv_at hl 6 rfl) ?_
  refine va_get (D := (dC, dI)) (ci := 0) (v := .int (msk (sto c))) (C := RX0) (T := TX0) (N := 13) hx hb hts (fun _ h9 => List.mem_cons_of_mem _ (List.mem_append_left _ (List.mem_append_right _ h9))) hown hK hP 8 rfl rfl 2 (by decide) (hts (.fieldLink RX1 53 "SwitchLevelSimulator$Circuit" "storageNodes" "I") (List.mem_of_getElem? (i := 2) rfl)) (fun _ h9 => h9) rfl dX1_findSide_21 ?_
  refine lv_aload_n hx hb dX1_findSide_24 rfl (lv_at hl 3 rfl) ?_
  refine va_get (D := (dC, dI)) (ci := 1) (v := .ref (sd 1)) (C := RX1) (T := TX1) (N := 5) hx hb hts (fun _ h9 => List.mem_cons_of_mem _ (List.mem_append_right _ h9)) hown hK hP 0 rfl rfl 0 (by decide) (hts (.fieldLink RX1 9 "SwitchLevelSimulator$SteadyState" "definite" "[I") (List.mem_of_getElem? (i := 3) rfl)) (fun _ h9 => h9) rfl dX1_findSide_25 ?_
  refine lv_iload hx hb dX1_findSide_28 (lv_at hl 0 rfl) ?_
  refine lv_iconst (v := nI 1) hx hb dX1_findSide_30 (by decide) ?_
  refine my_iadd (x := 3) (y := 1) hx hb dX1_findSide_31 ?_
  refine my_iald (i := 4) hx hb hK hP 1 0 rfl rfl (by omega) (by decide) dX1_findSide_32 ?_
  refine my_cast (show fq 4 = msk (lvQ c 4) from hq 4 (by omega) (by omega)) ?_
  refine lv_iconst (v := -1) hx hb dX1_findSide_33 (by decide) ?_
  refine lv_ixor hx hb dX1_findSide_34 ?_
  refine lv_iand hx hb dX1_findSide_35 ?_
  refine my_cast (show (msk (sto c)) &&& ((msk (lvQ c 4)) ^^^ (-1)) = msk (rcp c 3) from rcp_m c 3) ?_
  refine lv_istore (lv' := [(5, .int (msk (rcp c 3))), (4, .int (nI 3)), (6, .int (msk (fun i => lvU c v 5 i || ((szB c 4 i && car c v i) && rcp c 4 i)))), (0, .ref (sd 0)), (1, .ref sx), (2, .int (msk (car c v))), (3, .ref (cd 0))]) hx hb dX1_findSide_36 hl (by decide) rfl (fun ls hl => ?_)
  refine lv_aload_n hx hb dX1_findSide_38 rfl (lv_at hl 4 rfl) ?_
  refine lv_iload hx hb dX1_findSide_39 (lv_at hl 1 rfl) ?_
  refine lv_iconst (v := nI 1) hx hb dX1_findSide_41 (by decide) ?_
  refine my_iadd (x := 3) (y := 1) hx hb dX1_findSide_42 ?_
  refine my_iald (i := 4) hx hb hK hP 7 0 rfl rfl (by omega) (by decide) dX1_findSide_43 ?_
  refine my_cast (show f_4 4 = msk (lvU c v 4) from hL_4 4 (by omega) (by omega)) ?_
  refine lv_aload_n hx hb dX1_findSide_44 rfl (lv_at hl 6 rfl) ?_
  refine va_get (D := (dC, dI)) (ci := 0) (v := .ref (cd 1)) (C := RX0) (T := TX0) (N := 13) hx hb hts (fun _ h9 => List.mem_cons_of_mem _ (List.mem_append_left _ (List.mem_append_right _ h9))) hown hK hP 8 rfl rfl 3 (by decide) (hts (.fieldLink RX1 63 "SwitchLevelSimulator$Circuit" "sizedAtLeast" "[I") (List.mem_of_getElem? (i := 4) rfl)) (fun _ h9 => h9) rfl dX1_findSide_45 ?_
  refine lv_iload hx hb dX1_findSide_48 (lv_at hl 1 rfl) ?_
  refine my_iald (i := 3) hx hb hK hP 9 0 rfl rfl (by omega) (by decide) dX1_findSide_50 ?_
  refine lv_iload_n hx hb dX1_findSide_51 rfl (lv_at hl 5 rfl) ?_
  refine lv_iand hx hb dX1_findSide_52 ?_
  refine lv_iload hx hb dX1_findSide_53 (lv_at hl 0 rfl) ?_
  refine lv_iand hx hb dX1_findSide_55 ?_
  refine lv_ior hx hb dX1_findSide_56 ?_
  refine my_cast (show (msk (lvU c v 4)) ||| (((msk (szB c 3)) &&& (msk (car c v))) &&& (msk (rcp c 3))) = msk (fun i => lvU c v 4 i || ((szB c 3 i && car c v i) && rcp c 3 i)) from srcU_m c v 3) ?_
  refine lv_istore (lv' := [(6, .int (msk (fun i => lvU c v 4 i || ((szB c 3 i && car c v i) && rcp c 3 i)))), (5, .int (msk (rcp c 3))), (4, .int (nI 3)), (0, .ref (sd 0)), (1, .ref sx), (2, .int (msk (car c v))), (3, .ref (cd 0))]) hx hb dX1_findSide_57 hl (by decide) rfl (fun ls hl => ?_)
  refine lv_aload_n hx hb dX1_findSide_59 rfl (lv_at hl 4 rfl) ?_
  refine lv_iload hx hb dX1_findSide_60 (lv_at hl 2 rfl) ?_
  refine lv_iload hx hb dX1_findSide_62 (lv_at hl 0 rfl) ?_
  refine lv_aload_n hx hb dX1_findSide_64 rfl (lv_at hl 3 rfl) ?_
  refine va_get (D := (dC, dI)) (ci := 1) (v := .ref (sd 5)) (C := RX1) (T := TX1) (N := 5) hx hb hts (fun _ h9 => List.mem_cons_of_mem _ (List.mem_append_right _ h9)) hown hK hP 0 rfl rfl 4 (by decide) (hts (.fieldLink RX1 26 "SwitchLevelSimulator$SteadyState" "byNotOpen" "[[I") (List.mem_of_getElem? (i := 5) rfl)) (fun _ h9 => h9) rfl dX1_findSide_65 ?_
  refine lv_iload hx hb dX1_findSide_68 (lv_at hl 2 rfl) ?_
  refine CI.callS (As := [.int (nI 3)]) (rest := [.ref (sd 5), .int (msk (fun i => lvU c v 4 i || ((szB c 3 i && car c v i) && rcp c 3 i))), .int (nI 3), .ref sx]) (w3 := (fun _ => (vF cI cG sd sx fq f_4 t0 t1 t2 t3) ++ (cF cI cd (nI (c 0)) (msk (inp c)) (msk (sto c)) (msk (m0 c)) (msk (m1 c)) (nI (c 1)) (szA c) (pA c 50) (pA c 90) (pA c 130) (pA c 170) (pA c 210) (pA c 250)))) (c_X1_strengthPassing l dC dI cI cZ cR cG 3 (by decide) (by decide)) ⟨hx, hb, hml, hown, hts⟩ (va_cwS 1 hts gX1_findSide_X1_strengthPassing rfl rfl rfl (by decide +kernel) ⟨Nat.le_of_ble_eq_true rfl, Nat.le_of_ble_eq_true rfl⟩) rfl hl.1 (Nat.le_of_ble_eq_true rfl) dX1_findSide_70 ⟨Nat.le_of_ble_eq_true rfl, Nat.le_of_ble_eq_true rfl⟩ hA hS hP hK hD [] [0, 1, 2, 3, 4, 5, 6, 7, 8, 9, 10, 11, 12, 13, 14, 15] rfl rfl (by decide) (by decide) (by decide) [0, 1, 2, 3, 4, 5, 6, 7, 8, 9, 10, 11, 12, 13, 14, 15] (by decide) (fun _ => rfl) rfl (fun _ H locs hp_11 hP hD hS => ?_)
  refine my_aldr (i := 1) (ty := .array .int) (v := .ref (sd 11)) hx hb hK hP 2 3 rfl rfl rfl (by omega) (by decide) dX1_findSide_73 rfl ?_
  refine lv_iload hx hb dX1_findSide_74 (lv_at hl 1 rfl) ?_
  refine CI.callS (As := [.int (msk (fun i => lvU c v 4 i || ((szB c 3 i && car c v i) && rcp c 3 i))), .ref (sd 11), .int (msk (rcp c 3))]) (rest := [.int (nI 3), .ref sx]) (w3 := (fun _ => (vF cI cG sd sx fq f_4 t0 t1 t2 t3) ++ (cF cI cd (nI (c 0)) (msk (inp c)) (msk (sto c)) (msk (m0 c)) (msk (m1 c)) (nI (c 1)) (szA c) (pA c 50) (pA c 90) (pA c 130) (pA c 170) (pA c 210) (pA c 250)))) (c_X1_reach l dC dI cI cZ cR cG (sd 11) t1 (eK c false 1 (c 1)) (fun i => lvU c v 4 i || ((szB c 3 i && car c v i) && rcp c 3 i)) (rcp c 3) (fun i _ h => nb1 i (h.elim srcU_lt rcp_lt)) (fun i h => Nat.lt_of_lt_of_le (rcp_lt h) h0) (fun i h => Nat.lt_of_lt_of_le (srcU_lt h) h0)) ⟨hx, hb, hml, hown, hts⟩ (va_cwS 3 hts gX1_findSide_X1_reach rfl rfl rfl (by decide +kernel) ⟨Nat.le_of_ble_eq_true rfl, Nat.le_of_ble_eq_true rfl⟩) rfl hl.1 (Nat.le_of_ble_eq_true rfl) dX1_findSide_76 ⟨Nat.le_of_ble_eq_true rfl, Nat.le_of_ble_eq_true rfl⟩ hA hS hP hK hD [4] [0, 1, 2, 3, 5, 6, 7, 8, 9, 10, 11, 12, 13, 14, 15] rfl rfl (by decide) (by decide) (by decide) [0, 1, 2, 3, 15, 4, 5, 6, 7, 8, 9, 10, 11, 12, 13, 14] (by decide) (fun _ => rfl) rfl (fun _ H locs hp_12 hP hD hS => ?_)
  refine my_cast (show msk (rch (fun a b => (eK c false 1 (c 1)) a b = true) (fun i => lvU c v 4 i || ((szB c 3 i && car c v i) && rcp c 3 i)) (rcp c 3)) = msk (lvU c v 3) from msk_cong (fun i _ => lvU_s (lv := 3) ok v (by omega) (by omega) i)) ?_
  refine my_iast (i := 3) (x := (msk (lvU c v 3))) (f := f_4) (ws' := (vF cI cG sd sx fq (upd f_4 3 (msk (lvU c v 3))) t0 t1 t2 t3) ++ (cF cI cd (nI (c 0)) (msk (inp c)) (msk (sto c)) (msk (m0 c)) (msk (m1 c)) (nI (c 1)) (szA c) (pA c 50) (pA c 90) (pA c 130) (pA c 170) (pA c 210) (pA c 250))) hx hb hK hP hD hS 7 0 rfl rfl (by omega) (by decide) dX1_findSide_79 rfl (fun H locs hP hD hS => ?_)
  obtain ⟨f_3, ef_3⟩ : ∃ y : Nat → Int32, y = upd f_4 3 (msk (lvU c v 3)) := ⟨_, rfl⟩
  rw [← ef_3] at hP hD
  have hL_3 : ∀ k, 3 ≤ k → k ≤ 7 → f_3 k = msk (lvU c v k) := by rw [ef_3]; exact lv_pick9 (P := fun k => msk (lvU c v k)) hL_4 rfl
  refine lv_iinc (v := nI 2) (lv' := [(4, .int (nI 2)), (6, .int (msk (fun i => lvU c v 4 i || ((szB c 3 i && car c v i) && rcp c 3 i)))), (5, .int (msk (rcp c 3))), (0, .ref (sd 0)), (1, .ref sx), (2, .int (msk (car c v))), (3, .ref (cd 0))]) hx hb dX1_findSide_80 hl (k := 2) rfl (by decide) (by decide) rfl (fun ls hl => ?_)
  refine lv_goto (tgt := 14) hx hb dX1_findSide_83 (by decide) ?_
  refine lv_iload hx hb dX1_findSide_14 (lv_at hl 0 rfl) ?_
  refine lv_iconst (v := nI 1) hx hb dX1_findSide_16 (by decide) ?_
  refine my_icmp_lt (x := 2) (y := 1) (tgt := 86) hx hb (by omega) (by omega) dX1_findSide_17 (by decide) (fun c_13 => absurd c_13 (by decide)) (fun _ => ?_)
  refine lv_aload_n hx hb dX1_findSide_20 rfl (lv_at hl 6 rfl) ?_
  refine va_get (D := (dC, dI)) (ci := 0) (v := .int (msk (sto c))) (C := RX0) (T := TX0) (N := 13) hx hb hts (fun _ h9 => List.mem_cons_of_mem _ (List.mem_append_left _ (List.mem_append_right _ h9))) hown hK hP 8 rfl rfl 2 (by decide) (hts (.fieldLink RX1 53 "SwitchLevelSimulator$Circuit" "storageNodes" "I") (List.mem_of_getElem? (i := 2) rfl)) (fun _ h9 => h9) rfl dX1_findSide_21 ?_
  refine lv_aload_n hx hb dX1_findSide_24 rfl (lv_at hl 3 rfl) ?_
  refine va_get (D := (dC, dI)) (ci := 1) (v := .ref (sd 1)) (C := RX1) (T := TX1) (N := 5) hx hb hts (fun _ h9 => List.mem_cons_of_mem _ (List.mem_append_right _ h9)) hown hK hP 0 rfl rfl 0 (by decide) (hts (.fieldLink RX1 9 "SwitchLevelSimulator$SteadyState" "definite" "[I") (List.mem_of_getElem? (i := 3) rfl)) (fun _ h9 => h9) rfl dX1_findSide_25 ?_
  refine lv_iload hx hb dX1_findSide_28 (lv_at hl 0 rfl) ?_
  refine lv_iconst (v := nI 1) hx hb dX1_findSide_30 (by decide) ?_
  refine my_iadd (x := 2) (y := 1) hx hb dX1_findSide_31 ?_
  refine my_iald (i := 3) hx hb hK hP 1 0 rfl rfl (by omega) (by decide) dX1_findSide_32 ?_
  refine my_cast (show fq 3 = msk (lvQ c 3) from hq 3 (by omega) (by omega)) ?_
  refine lv_iconst (v := -1) hx hb dX1_findSide_33 (by decide) ?_
  refine lv_ixor hx hb dX1_findSide_34 ?_
  refine lv_iand hx hb dX1_findSide_35 ?_
  refine my_cast (show (msk (sto c)) &&& ((msk (lvQ c 3)) ^^^ (-1)) = msk (rcp c 2) from rcp_m c 2) ?_
  refine lv_istore (lv' := [(5, .int (msk (rcp c 2))), (4, .int (nI 2)), (6, .int (msk (fun i => lvU c v 4 i || ((szB c 3 i && car c v i) && rcp c 3 i)))), (0, .ref (sd 0)), (1, .ref sx), (2, .int (msk (car c v))), (3, .ref (cd 0))]) hx hb dX1_findSide_36 hl (by decide) rfl (fun ls hl => ?_)
  refine lv_aload_n hx hb dX1_findSide_38 rfl (lv_at hl 4 rfl) ?_
  refine lv_iload hx hb dX1_findSide_39 (lv_at hl 1 rfl) ?_
  refine lv_iconst (v := nI 1) hx hb dX1_findSide_41 (by decide) ?_
  refine my_iadd (x := 2) (y := 1) hx hb dX1_findSide_42 ?_
  refine my_iald (i := 3) hx hb hK hP 7 0 rfl rfl (by omega) (by decide) dX1_findSide_43 ?_
  refine my_cast (show f_3 3 = msk (lvU c v 3) from hL_3 3 (by omega) (by omega)) ?_
  refine lv_aload_n hx hb dX1_findSide_44 rfl (lv_at hl 6 rfl) ?_
  refine va_get (D := (dC, dI)) (ci := 0) (v := .ref (cd 1)) (C := RX0) (T := TX0) (N := 13) hx hb hts (fun _ h9 => List.mem_cons_of_mem _ (List.mem_append_left _ (List.mem_append_right _ h9))) hown hK hP 8 rfl rfl 3 (by decide) (hts (.fieldLink RX1 63 "SwitchLevelSimulator$Circuit" "sizedAtLeast" "[I") (List.mem_of_getElem? (i := 4) rfl)) (fun _ h9 => h9) rfl dX1_findSide_45 ?_
  refine lv_iload hx hb dX1_findSide_48 (lv_at hl 1 rfl) ?_
  refine my_iald (i := 2) hx hb hK hP 9 0 rfl rfl (by omega) (by decide) dX1_findSide_50 ?_
  refine lv_iload_n hx hb dX1_findSide_51 rfl (lv_at hl 5 rfl) ?_
  refine lv_iand hx hb dX1_findSide_52 ?_
  refine lv_iload hx hb dX1_findSide_53 (lv_at hl 0 rfl) ?_
  refine lv_iand hx hb dX1_findSide_55 ?_
  refine lv_ior hx hb dX1_findSide_56 ?_
  refine my_cast (show (msk (lvU c v 3)) ||| (((msk (szB c 2)) &&& (msk (car c v))) &&& (msk (rcp c 2))) = msk (fun i => lvU c v 3 i || ((szB c 2 i && car c v i) && rcp c 2 i)) from srcU_m c v 2) ?_
  refine lv_istore (lv' := [(6, .int (msk (fun i => lvU c v 3 i || ((szB c 2 i && car c v i) && rcp c 2 i)))), (5, .int (msk (rcp c 2))), (4, .int (nI 2)), (0, .ref (sd 0)), (1, .ref sx), (2, .int (msk (car c v))), (3, .ref (cd 0))]) hx hb dX1_findSide_57 hl (by decide) rfl (fun ls hl => ?_)
  refine lv_aload_n hx hb dX1_findSide_59 rfl (lv_at hl 4 rfl) ?_
  refine lv_iload hx hb dX1_findSide_60 (lv_at hl 2 rfl) ?_
  refine lv_iload hx hb dX1_findSide_62 (lv_at hl 0 rfl) ?_
  refine lv_aload_n hx hb dX1_findSide_64 rfl (lv_at hl 3 rfl) ?_
  refine va_get (D := (dC, dI)) (ci := 1) (v := .ref (sd 5)) (C := RX1) (T := TX1) (N := 5) hx hb hts (fun _ h9 => List.mem_cons_of_mem _ (List.mem_append_right _ h9)) hown hK hP 0 rfl rfl 4 (by decide) (hts (.fieldLink RX1 26 "SwitchLevelSimulator$SteadyState" "byNotOpen" "[[I") (List.mem_of_getElem? (i := 5) rfl)) (fun _ h9 => h9) rfl dX1_findSide_65 ?_
  refine lv_iload hx hb dX1_findSide_68 (lv_at hl 2 rfl) ?_
  refine CI.callS (As := [.int (nI 2)]) (rest := [.ref (sd 5), .int (msk (fun i => lvU c v 3 i || ((szB c 2 i && car c v i) && rcp c 2 i))), .int (nI 2), .ref sx]) (w3 := (fun _ => (vF cI cG sd sx fq f_3 t0 t1 t2 t3) ++ (cF cI cd (nI (c 0)) (msk (inp c)) (msk (sto c)) (msk (m0 c)) (msk (m1 c)) (nI (c 1)) (szA c) (pA c 50) (pA c 90) (pA c 130) (pA c 170) (pA c 210) (pA c 250)))) (c_X1_strengthPassing l dC dI cI cZ cR cG 2 (by decide) (by decide)) ⟨hx, hb, hml, hown, hts⟩ (va_cwS 1 hts gX1_findSide_X1_strengthPassing rfl rfl rfl (by decide +kernel) ⟨Nat.le_of_ble_eq_true rfl, Nat.le_of_ble_eq_true rfl⟩) rfl hl.1 (Nat.le_of_ble_eq_true rfl) dX1_findSide_70 ⟨Nat.le_of_ble_eq_true rfl, Nat.le_of_ble_eq_true rfl⟩ hA hS hP hK hD [] [0, 1, 2, 3, 4, 5, 6, 7, 8, 9, 10, 11, 12, 13, 14, 15] rfl rfl (by decide) (by decide) (by decide) [0, 1, 2, 3, 4, 5, 6, 7, 8, 9, 10, 11, 12, 13, 14, 15] (by decide) (fun _ => rfl) rfl (fun _ H locs hp_14 hP hD hS => ?_)
  refine my_aldr (i := 1) (ty := .array .int) (v := .ref (sd 11)) hx hb hK hP 2 3 rfl rfl rfl (by omega) (by decide) dX1_findSide_73 rfl ?_
  refine lv_iload hx hb dX1_findSide_74 (lv_at hl 1 rfl) ?_
  refine CI.callS (As := [.int (msk (fun i => lvU c v 3 i || ((szB c 2 i && car c v i) && rcp c 2 i))), .ref (sd 11), .int (msk (rcp c 2))]) (rest := [.int (nI 2), .ref sx]) (w3 := (fun _ => (vF cI cG sd sx fq f_3 t0 t1 t2 t3) ++ (cF cI cd (nI (c 0)) (msk (inp c)) (msk (sto c)) (msk (m0 c)) (msk (m1 c)) (nI (c 1)) (szA c) (pA c 50) (pA c 90) (pA c 130) (pA c 170) (pA c 210) (pA c 250)))) (c_X1_reach l dC dI cI cZ cR cG (sd 11) t1 (eK c false 1 (c 1)) (fun i => lvU c v 3 i || ((szB c 2 i && car c v i) && rcp c 2 i)) (rcp c 2) (fun i _ h => nb1 i (h.elim srcU_lt rcp_lt)) (fun i h => Nat.lt_of_lt_of_le (rcp_lt h) h0) (fun i h => Nat.lt_of_lt_of_le (srcU_lt h) h0)) ⟨hx, hb, hml, hown, hts⟩ (va_cwS 3 hts gX1_findSide_X1_reach rfl rfl rfl (by decide +kernel) ⟨Nat.le_of_ble_eq_true rfl, Nat.le_of_ble_eq_true rfl⟩) rfl hl.1 (Nat.le_of_ble_eq_true rfl) dX1_findSide_76 ⟨Nat.le_of_ble_eq_true rfl, Nat.le_of_ble_eq_true rfl⟩ hA hS hP hK hD [4] [0, 1, 2, 3, 5, 6, 7, 8, 9, 10, 11, 12, 13, 14, 15] rfl rfl (by decide) (by decide) (by decide) [0, 1, 2, 3, 15, 4, 5, 6, 7, 8, 9, 10, 11, 12, 13, 14] (by decide) (fun _ => rfl) rfl (fun _ H locs hp_15 hP hD hS => ?_)
  refine my_cast (show msk (rch (fun a b => (eK c false 1 (c 1)) a b = true) (fun i => lvU c v 3 i || ((szB c 2 i && car c v i) && rcp c 2 i)) (rcp c 2)) = msk (lvU c v 2) from msk_cong (fun i _ => lvU_s (lv := 2) ok v (by omega) (by omega) i)) ?_
  refine my_iast (i := 2) (x := (msk (lvU c v 2))) (f := f_3) (ws' := (vF cI cG sd sx fq (upd f_3 2 (msk (lvU c v 2))) t0 t1 t2 t3) ++ (cF cI cd (nI (c 0)) (msk (inp c)) (msk (sto c)) (msk (m0 c)) (msk (m1 c)) (nI (c 1)) (szA c) (pA c 50) (pA c 90) (pA c 130) (pA c 170) (pA c 210) (pA c 250))) hx hb hK hP hD hS 7 0 rfl rfl (by omega) (by decide) dX1_findSide_79 rfl (fun H locs hP hD hS => ?_)
  obtain ⟨f_2, ef_2⟩ : ∃ y : Nat → Int32, y = upd f_3 2 (msk (lvU c v 2)) := ⟨_, rfl⟩
  rw [← ef_2] at hP hD
  have hL_2 : ∀ k, 2 ≤ k → k ≤ 7 → f_2 k = msk (lvU c v k) := by rw [ef_2]; exact lv_pick9 (P := fun k => msk (lvU c v k)) hL_3 rfl
  refine lv_iinc (v := nI 1) (lv' := [(4, .int (nI 1)), (6, .int (msk (fun i => lvU c v 3 i || ((szB c 2 i && car c v i) && rcp c 2 i)))), (5, .int (msk (rcp c 2))), (0, .ref (sd 0)), (1, .ref sx), (2, .int (msk (car c v))), (3, .ref (cd 0))]) hx hb dX1_findSide_80 hl (k := 2) rfl (by decide) (by decide) rfl (fun ls hl => ?_)
  refine lv_goto (tgt := 14) hx hb dX1_findSide_83 (by decide) ?_
  refine lv_iload hx hb dX1_findSide_14 (lv_at hl 0 rfl) ?_
  refine lv_iconst (v := nI 1) hx hb dX1_findSide_16 (by decide) ?_
  refine my_icmp_lt (x := 1) (y := 1) (tgt := 86) hx hb (by omega) (by omega) dX1_findSide_17 (by decide) (fun c_16 => absurd c_16 (by decide)) (fun _ => ?_)
  refine lv_aload_n hx hb dX1_findSide_20 rfl (lv_at hl 6 rfl) ?_
  refine va_get (D := (dC, dI)) (ci := 0) (v := .int (msk (sto c))) (C := RX0) (T := TX0) (N := 13) hx hb hts (fun _ h9 => List.mem_cons_of_mem _ (List.mem_append_left _ (List.mem_append_right _ h9))) hown hK hP 8 rfl rfl 2 (by decide) (hts (.fieldLink RX1 53 "SwitchLevelSimulator$Circuit" "storageNodes" "I") (List.mem_of_getElem? (i := 2) rfl)) (fun _ h9 => h9) rfl dX1_findSide_21 ?_
  refine lv_aload_n hx hb dX1_findSide_24 rfl (lv_at hl 3 rfl) ?_
  refine va_get (D := (dC, dI)) (ci := 1) (v := .ref (sd 1)) (C := RX1) (T := TX1) (N := 5) hx hb hts (fun _ h9 => List.mem_cons_of_mem _ (List.mem_append_right _ h9)) hown hK hP 0 rfl rfl 0 (by decide) (hts (.fieldLink RX1 9 "SwitchLevelSimulator$SteadyState" "definite" "[I") (List.mem_of_getElem? (i := 3) rfl)) (fun _ h9 => h9) rfl dX1_findSide_25 ?_
  refine lv_iload hx hb dX1_findSide_28 (lv_at hl 0 rfl) ?_
  refine lv_iconst (v := nI 1) hx hb dX1_findSide_30 (by decide) ?_
  refine my_iadd (x := 1) (y := 1) hx hb dX1_findSide_31 ?_
  refine my_iald (i := 2) hx hb hK hP 1 0 rfl rfl (by omega) (by decide) dX1_findSide_32 ?_
  refine my_cast (show fq 2 = msk (lvQ c 2) from hq 2 (by omega) (by omega)) ?_
  refine lv_iconst (v := -1) hx hb dX1_findSide_33 (by decide) ?_
  refine lv_ixor hx hb dX1_findSide_34 ?_
  refine lv_iand hx hb dX1_findSide_35 ?_
  refine my_cast (show (msk (sto c)) &&& ((msk (lvQ c 2)) ^^^ (-1)) = msk (rcp c 1) from rcp_m c 1) ?_
  refine lv_istore (lv' := [(5, .int (msk (rcp c 1))), (4, .int (nI 1)), (6, .int (msk (fun i => lvU c v 3 i || ((szB c 2 i && car c v i) && rcp c 2 i)))), (0, .ref (sd 0)), (1, .ref sx), (2, .int (msk (car c v))), (3, .ref (cd 0))]) hx hb dX1_findSide_36 hl (by decide) rfl (fun ls hl => ?_)
  refine lv_aload_n hx hb dX1_findSide_38 rfl (lv_at hl 4 rfl) ?_
  refine lv_iload hx hb dX1_findSide_39 (lv_at hl 1 rfl) ?_
  refine lv_iconst (v := nI 1) hx hb dX1_findSide_41 (by decide) ?_
  refine my_iadd (x := 1) (y := 1) hx hb dX1_findSide_42 ?_
  refine my_iald (i := 2) hx hb hK hP 7 0 rfl rfl (by omega) (by decide) dX1_findSide_43 ?_
  refine my_cast (show f_2 2 = msk (lvU c v 2) from hL_2 2 (by omega) (by omega)) ?_
  refine lv_aload_n hx hb dX1_findSide_44 rfl (lv_at hl 6 rfl) ?_
  refine va_get (D := (dC, dI)) (ci := 0) (v := .ref (cd 1)) (C := RX0) (T := TX0) (N := 13) hx hb hts (fun _ h9 => List.mem_cons_of_mem _ (List.mem_append_left _ (List.mem_append_right _ h9))) hown hK hP 8 rfl rfl 3 (by decide) (hts (.fieldLink RX1 63 "SwitchLevelSimulator$Circuit" "sizedAtLeast" "[I") (List.mem_of_getElem? (i := 4) rfl)) (fun _ h9 => h9) rfl dX1_findSide_45 ?_
  refine lv_iload hx hb dX1_findSide_48 (lv_at hl 1 rfl) ?_
  refine my_iald (i := 1) hx hb hK hP 9 0 rfl rfl (by omega) (by decide) dX1_findSide_50 ?_
  refine lv_iload_n hx hb dX1_findSide_51 rfl (lv_at hl 5 rfl) ?_
  refine lv_iand hx hb dX1_findSide_52 ?_
  refine lv_iload hx hb dX1_findSide_53 (lv_at hl 0 rfl) ?_
  refine lv_iand hx hb dX1_findSide_55 ?_
  refine lv_ior hx hb dX1_findSide_56 ?_
  refine my_cast (show (msk (lvU c v 2)) ||| (((msk (szB c 1)) &&& (msk (car c v))) &&& (msk (rcp c 1))) = msk (fun i => lvU c v 2 i || ((szB c 1 i && car c v i) && rcp c 1 i)) from srcU_m c v 1) ?_
  refine lv_istore (lv' := [(6, .int (msk (fun i => lvU c v 2 i || ((szB c 1 i && car c v i) && rcp c 1 i)))), (5, .int (msk (rcp c 1))), (4, .int (nI 1)), (0, .ref (sd 0)), (1, .ref sx), (2, .int (msk (car c v))), (3, .ref (cd 0))]) hx hb dX1_findSide_57 hl (by decide) rfl (fun ls hl => ?_)
  refine lv_aload_n hx hb dX1_findSide_59 rfl (lv_at hl 4 rfl) ?_
  refine lv_iload hx hb dX1_findSide_60 (lv_at hl 2 rfl) ?_
  refine lv_iload hx hb dX1_findSide_62 (lv_at hl 0 rfl) ?_
  refine lv_aload_n hx hb dX1_findSide_64 rfl (lv_at hl 3 rfl) ?_
  refine va_get (D := (dC, dI)) (ci := 1) (v := .ref (sd 5)) (C := RX1) (T := TX1) (N := 5) hx hb hts (fun _ h9 => List.mem_cons_of_mem _ (List.mem_append_right _ h9)) hown hK hP 0 rfl rfl 4 (by decide) (hts (.fieldLink RX1 26 "SwitchLevelSimulator$SteadyState" "byNotOpen" "[[I") (List.mem_of_getElem? (i := 5) rfl)) (fun _ h9 => h9) rfl dX1_findSide_65 ?_
  refine lv_iload hx hb dX1_findSide_68 (lv_at hl 2 rfl) ?_
  refine CI.callS (As := [.int (nI 1)]) (rest := [.ref (sd 5), .int (msk (fun i => lvU c v 2 i || ((szB c 1 i && car c v i) && rcp c 1 i))), .int (nI 1), .ref sx]) (w3 := (fun _ => (vF cI cG sd sx fq f_2 t0 t1 t2 t3) ++ (cF cI cd (nI (c 0)) (msk (inp c)) (msk (sto c)) (msk (m0 c)) (msk (m1 c)) (nI (c 1)) (szA c) (pA c 50) (pA c 90) (pA c 130) (pA c 170) (pA c 210) (pA c 250)))) (c_X1_strengthPassing l dC dI cI cZ cR cG 1 (by decide) (by decide)) ⟨hx, hb, hml, hown, hts⟩ (va_cwS 1 hts gX1_findSide_X1_strengthPassing rfl rfl rfl (by decide +kernel) ⟨Nat.le_of_ble_eq_true rfl, Nat.le_of_ble_eq_true rfl⟩) rfl hl.1 (Nat.le_of_ble_eq_true rfl) dX1_findSide_70 ⟨Nat.le_of_ble_eq_true rfl, Nat.le_of_ble_eq_true rfl⟩ hA hS hP hK hD [] [0, 1, 2, 3, 4, 5, 6, 7, 8, 9, 10, 11, 12, 13, 14, 15] rfl rfl (by decide) (by decide) (by decide) [0, 1, 2, 3, 4, 5, 6, 7, 8, 9, 10, 11, 12, 13, 14, 15] (by decide) (fun _ => rfl) rfl (fun _ H locs hp_17 hP hD hS => ?_)
  refine my_aldr (i := 1) (ty := .array .int) (v := .ref (sd 11)) hx hb hK hP 2 3 rfl rfl rfl (by omega) (by decide) dX1_findSide_73 rfl ?_
  refine lv_iload hx hb dX1_findSide_74 (lv_at hl 1 rfl) ?_
  refine CI.callS (As := [.int (msk (fun i => lvU c v 2 i || ((szB c 1 i && car c v i) && rcp c 1 i))), .ref (sd 11), .int (msk (rcp c 1))]) (rest := [.int (nI 1), .ref sx]) (w3 := (fun _ => (vF cI cG sd sx fq f_2 t0 t1 t2 t3) ++ (cF cI cd (nI (c 0)) (msk (inp c)) (msk (sto c)) (msk (m0 c)) (msk (m1 c)) (nI (c 1)) (szA c) (pA c 50) (pA c 90) (pA c 130) (pA c 170) (pA c 210) (pA c 250)))) (c_X1_reach l dC dI cI cZ cR cG (sd 11) t1 (eK c false 1 (c 1)) (fun i => lvU c v 2 i || ((szB c 1 i && car c v i) && rcp c 1 i)) (rcp c 1) (fun i _ h => nb1 i (h.elim srcU_lt rcp_lt)) (fun i h => Nat.lt_of_lt_of_le (rcp_lt h) h0) (fun i h => Nat.lt_of_lt_of_le (srcU_lt h) h0)) ⟨hx, hb, hml, hown, hts⟩ (va_cwS 3 hts gX1_findSide_X1_reach rfl rfl rfl (by decide +kernel) ⟨Nat.le_of_ble_eq_true rfl, Nat.le_of_ble_eq_true rfl⟩) rfl hl.1 (Nat.le_of_ble_eq_true rfl) dX1_findSide_76 ⟨Nat.le_of_ble_eq_true rfl, Nat.le_of_ble_eq_true rfl⟩ hA hS hP hK hD [4] [0, 1, 2, 3, 5, 6, 7, 8, 9, 10, 11, 12, 13, 14, 15] rfl rfl (by decide) (by decide) (by decide) [0, 1, 2, 3, 15, 4, 5, 6, 7, 8, 9, 10, 11, 12, 13, 14] (by decide) (fun _ => rfl) rfl (fun _ H locs hp_18 hP hD hS => ?_)
  refine my_cast (show msk (rch (fun a b => (eK c false 1 (c 1)) a b = true) (fun i => lvU c v 2 i || ((szB c 1 i && car c v i) && rcp c 1 i)) (rcp c 1)) = msk (lvU c v 1) from msk_cong (fun i _ => lvU_s (lv := 1) ok v (by omega) (by omega) i)) ?_
  refine my_iast (i := 1) (x := (msk (lvU c v 1))) (f := f_2) (ws' := (vF cI cG sd sx fq (upd f_2 1 (msk (lvU c v 1))) t0 t1 t2 t3) ++ (cF cI cd (nI (c 0)) (msk (inp c)) (msk (sto c)) (msk (m0 c)) (msk (m1 c)) (nI (c 1)) (szA c) (pA c 50) (pA c 90) (pA c 130) (pA c 170) (pA c 210) (pA c 250))) hx hb hK hP hD hS 7 0 rfl rfl (by omega) (by decide) dX1_findSide_79 rfl (fun H locs hP hD hS => ?_)
  obtain ⟨f_1, ef_1⟩ : ∃ y : Nat → Int32, y = upd f_2 1 (msk (lvU c v 1)) := ⟨_, rfl⟩
  rw [← ef_1] at hP hD
  have hL_1 : ∀ k, 1 ≤ k → k ≤ 7 → f_1 k = msk (lvU c v k) := by rw [ef_1]; exact lv_pick9 (P := fun k => msk (lvU c v k)) hL_2 rfl
  refine lv_iinc (v := nI 0) (lv' := [(4, .int (nI 0)), (6, .int (msk (fun i => lvU c v 2 i || ((szB c 1 i && car c v i) && rcp c 1 i)))), (5, .int (msk (rcp c 1))), (0, .ref (sd 0)), (1, .ref sx), (2, .int (msk (car c v))), (3, .ref (cd 0))]) hx hb dX1_findSide_80 hl (k := 2) rfl (by decide) (by decide) rfl (fun ls hl => ?_)
  refine lv_goto (tgt := 14) hx hb dX1_findSide_83 (by decide) ?_
  refine lv_iload hx hb dX1_findSide_14 (lv_at hl 0 rfl) ?_
  refine lv_iconst (v := nI 1) hx hb dX1_findSide_16 (by decide) ?_
  refine my_icmp_lt (x := 0) (y := 1) (tgt := 86) hx hb (by omega) (by omega) dX1_findSide_17 (by decide) (fun _ => ?_) (fun c_19 => absurd c_19 (by decide))
  exact ret f_1 _ _ _ _ _ _ _ (hL_1) (rfl) hP hD hS (Nat.le_of_ble_eq_true rfl) (Nat.le_of_ble_eq_true rfl) dX1_findSide_86
