abbrev rm_X3_layDefinite : Room := { frames := 2, cells := 0, slots := 0, locals := 46 }
set_option maxHeartbeats 4000000 in
set_option maxRecDepth 100000 in
theorem c_X3_layDefinite (l : Launch) (dC : Nat → ClassId) (dI : Nat → Nat → Nat) (cI cZ cR cG : ClassId) (ad : Nat → Nat) (g de ss : Nat → Nat) (ok : okG g) (hss : ∀ t, t < g 1 → ss t = swS g t) : CV l (dC, dI) (tyL cI cZ cR cG) yX3_layDefinite wsX3_layDefinite rm_X3_layDefinite [.ref (ad 0)] (dW cI ad g de ss) (S := Nat → Nat) (fun u => ∀ n, n < g 0 → u n = qF g n) (fun u => dW cI ad g u ss) := by
  refine CV.of (cc := cX3_layDefinite) (maxL := 3) (lv := [(0, .ref (ad 0))]) (by decide) rfl (Nat.le_of_ble_eq_true rfl) rfl ?_
  intro p e s m ar below meth c A Qz ls hx hb hml hown hts hnm hA hS hP hK hD hl ret
  have h0 := ok.1
  have h1 := ok.2.1
  refine lv_iconst (v := nI 0) hx hb dX3_layDefinite_0 (by decide) ?_
  refine lv_istore_n (lv' := [(1, .int (nI 0)), (0, .ref (ad 0))]) hx hb dX3_layDefinite_1 rfl hl (by decide) rfl (fun ls hl => ?_)
  have key_2 : ∀ (fu : Nat) (n : Nat) (f : Nat → Nat), (g 0 - n) < fu → (n ≤ g 0) → (∀ j, j < n → f j = bas g j) → ∀ (H : Heap) (locs : List Loc) (ls : Array Slot), va_P (dC, dI) vwCl (dW cI ad g f ss) H → va_D A (dW cI ad g f ss) → va_S A s.heap H locs → lv_has ls 3 [(1, .int (nI n)), (0, .ref (ad 0))] → W p l e rm_X3_layDefinite s m ar below meth c H locs 0 0 Qz (F0 m 2 ls []) := by
    intro fu
    induction fu with
    | zero => intro n f hmu; exact absurd hmu (Nat.not_lt_zero _)
    | succ fu ih_2 =>
      intro n f hmu_2 hn hf H locs ls hP hD hS hl
      refine lv_iload_n hx hb dX3_layDefinite_2 rfl (lv_at hl 0 rfl) ?_
      refine lv_aload_n hx hb dX3_layDefinite_3 rfl (lv_at hl 1 rfl) ?_
      refine CI.callV (As := []) (rest := [.int (nI n)]) (w3 := (fun _ => dW cI ad g f ss)) (c_X3_nodes l dC dI cI cZ cR cG ad g) ⟨hx, hb, hml, hown, hts⟩ (cwV 0 hts gX3_layDefinite_X3_nodes rfl rfl rfl (by decide +kernel) ⟨Nat.le_of_ble_eq_true rfl, Nat.le_of_ble_eq_true rfl⟩) rfl hl.1 (Nat.le_of_ble_eq_true rfl) dX3_layDefinite_4 ⟨Nat.le_of_ble_eq_true rfl, Nat.le_of_ble_eq_true rfl⟩ hA hS hP hK hD [0, 1] [2, 3] rfl rfl (by decide) (by decide) (by decide) 0 3 rfl rfl [2, 3, 0, 1] (by decide) (fun _ => rfl) rfl (fun _ H locs hp_2 hP hD hS => ?_)
      refine my_icmp_ge (x := n) (y := (g 0)) (tgt := 43) hx hb (by omega) (by omega) dX3_layDefinite_7 (by decide) (fun c_3 => ?_) (fun c_3 => ?_)
      · refine lv_iconst (v := nI 1) hx hb dX3_layDefinite_43 (by decide) ?_
        refine lv_istore_n (lv' := [(1, .int (nI 1)), (0, .ref (ad 0))]) hx hb dX3_layDefinite_44 rfl hl (by decide) rfl (fun ls hl => ?_)
        have key_45 : ∀ (fu : Nat) (f : Nat → Nat) (mo : Bool), (2 * sm f 24 + (if mo = true then 1 else 0)) < fu → (DI g f) → (mo = false → CloD g f (g 1)) → ∀ (H : Heap) (locs : List Loc) (ls : Array Slot), va_P (dC, dI) vwCl (dW cI ad g f ss) H → va_D A (dW cI ad g f ss) → va_S A s.heap H locs → lv_has ls 3 [(1, .int (bI mo)), (0, .ref (ad 0))] → W p l e rm_X3_layDefinite s m ar below meth c H locs 0 0 Qz (F0 m 45 ls []) := by
          intro fu
          induction fu with
          | zero => intro f mo hmu; exact absurd hmu (Nat.not_lt_zero _)
          | succ fu ih_45 =>
            intro f mo hmu_45 hDI hcl H locs ls hP hD hS hl
            refine lv_iload_n hx hb dX3_layDefinite_45 rfl (lv_at hl 0 rfl) ?_
            refine my_if_eqB (x := mo) (tgt := 156) hx hb dX3_layDefinite_46 (by decide) (fun c_5 => ?_) (fun c_5 => ?_)
            · exact ret f _ _ _ _ _ _ _ (DI_end hDI (hcl c_5)) (rfl) hP hD hS (Nat.le_of_ble_eq_true rfl) (Nat.le_of_ble_eq_true rfl) dX3_layDefinite_156
            · refine lv_iconst (v := nI 0) hx hb dX3_layDefinite_49 (by decide) ?_
              refine lv_istore_n (lv' := [(1, .int (nI 0)), (0, .ref (ad 0))]) hx hb dX3_layDefinite_50 rfl hl (by decide) rfl (fun ls hl => ?_)
              refine lv_iconst (v := nI 0) hx hb dX3_layDefinite_51 (by decide) ?_
              refine lv_istore_n (lv' := [(2, .int (nI 0)), (1, .int (nI 0)), (0, .ref (ad 0))]) hx hb dX3_layDefinite_52 rfl hl (by decide) rfl (fun ls hl => ?_)
              have key_53 : ∀ (fu : Nat) (t : Nat) (f1 : Nat → Nat) (m1 : Bool), (g 1 - t) < fu → (t ≤ g 1) → (RdD g f f1 m1 t) → ∀ (H : Heap) (locs : List Loc) (ls : Array Slot), va_P (dC, dI) vwCl (dW cI ad g f1 ss) H → va_D A (dW cI ad g f1 ss) → va_S A s.heap H locs → lv_has ls 3 [(2, .int (nI t)), (1, .int (bI m1)), (0, .ref (ad 0))] → W p l e rm_X3_layDefinite s m ar below meth c H locs 0 0 Qz (F0 m 53 ls []) := by
                intro fu
                induction fu with
                | zero => intro t f1 m1 hmu; exact absurd hmu (Nat.not_lt_zero _)
                | succ fu ih_53 =>
                  intro t f1 m1 hmu_53 ht hR H locs ls hP hD hS hl
                  refine lv_iload_n hx hb dX3_layDefinite_53 rfl (lv_at hl 0 rfl) ?_
                  refine lv_aload_n hx hb dX3_layDefinite_54 rfl (lv_at hl 2 rfl) ?_
                  refine CI.callV (As := []) (rest := [.int (nI t)]) (w3 := (fun _ => dW cI ad g f1 ss)) (c_X3_many l dC dI cI cZ cR cG ad g) ⟨hx, hb, hml, hown, hts⟩ (cwV 0 hts gX3_layDefinite_X3_many rfl rfl rfl (by decide +kernel) ⟨Nat.le_of_ble_eq_true rfl, Nat.le_of_ble_eq_true rfl⟩) rfl hl.1 (Nat.le_of_ble_eq_true rfl) dX3_layDefinite_55 ⟨Nat.le_of_ble_eq_true rfl, Nat.le_of_ble_eq_true rfl⟩ hA hS hP hK hD [0, 1] [2, 3] rfl rfl (by decide) (by decide) (by decide) 0 3 rfl rfl [2, 3, 0, 1] (by decide) (fun _ => rfl) rfl (fun _ H locs hp_7 hP hD hS => ?_)
                  refine my_icmp_ge (x := t) (y := (g 1)) (tgt := 153) hx hb (by omega) (by omega) dX3_layDefinite_58 (by decide) (fun c_8 => ?_) (fun c_8 => ?_)
                  · refine lv_goto (tgt := 45) hx hb dX3_layDefinite_153 (by decide) ?_
                    exact ih_45 f1 m1 (by have h9 := RdD_mu hR; rw [if_pos c_5] at hmu_45; omega) hR.1 (fun z => by rw [← show t = g 1 by omega]; exact (hR.2.2 z).2) _ _ _ hP hD hS (lv_sub hl [1, 2] rfl)
                  · have hst := hss t (by omega)
                    have hsl := swS_le g t
                    have hT := ok.2.2.2 t (by omega)
                    refine lv_aload_n hx hb dX3_layDefinite_61 rfl (lv_at hl 2 rfl) ?_
                    refine va_get (D := (dC, dI)) (ci := 3) (v := .ref (ad 7)) (C := RX3) (T := TX3) (N := 8) hx hb hts (fun _ h9 => List.mem_cons_of_mem _ (List.mem_append_right _ h9)) hown hK hP 0 rfl rfl 6 (by decide) (hts (.fieldLink RX3 29 "SwitchLevelSimulatorModel" "states" "[I") (List.mem_of_getElem? (i := 3) rfl)) (fun _ h9 => h9) rfl dX3_layDefinite_62 ?_
                    refine lv_iload_n hx hb dX3_layDefinite_65 rfl (lv_at hl 0 rfl) ?_
                    refine my_iald (i := t) hx hb hK hP 3 0 rfl rfl (by omega) (by decide) dX3_layDefinite_66 ?_
                    refine lv_iconst (v := nI 1) hx hb dX3_layDefinite_67 (by decide) ?_
                    refine my_icmp_ne (x := (ss t)) (y := 1) (tgt := 147) hx hb (by omega) (by omega) dX3_layDefinite_68 (by decide) (fun c_9 => ?_) (fun c_9 => ?_)
                    · refine my_iinc (k := 0) (x := t) (d := 1) (lv' := [(2, .int (nI (t + 1))), (1, .int (bI m1)), (0, .ref (ad 0))]) hx hb dX3_layDefinite_147 hl rfl (by decide) (by decide) rfl (fun ls hl => ?_)
                      refine lv_goto (tgt := 53) hx hb dX3_layDefinite_150 (by decide) ?_
                      exact ih_53 (t + 1) f1 m1 (by omega) (by omega) (RdD_k (by rw [← hst]; exact c_9) hR) _ _ _ hP hD hS (lv_sub hl [0, 1, 2] rfl)
                    · have c68 := c_9
                      refine lv_aload_n hx hb dX3_layDefinite_71 rfl (lv_at hl 2 rfl) ?_
                      refine lv_iload_n hx hb dX3_layDefinite_72 rfl (lv_at hl 0 rfl) ?_
                      refine lv_aload_n hx hb dX3_layDefinite_73 rfl (lv_at hl 2 rfl) ?_
                      refine va_get (D := (dC, dI)) (ci := 3) (v := .ref (ad 1)) (C := RX3) (T := TX3) (N := 8) hx hb hts (fun _ h9 => List.mem_cons_of_mem _ (List.mem_append_right _ h9)) hown hK hP 0 rfl rfl 0 (by decide) (hts (.fieldLink RX3 7 "SwitchLevelSimulatorModel" "state" "[I") (List.mem_of_getElem? (i := 2) rfl)) (fun _ h9 => h9) rfl dX3_layDefinite_74 ?_
                      refine lv_sipush (v := nI 170) hx hb dX3_layDefinite_77 (by decide) ?_
                      refine lv_iload_n hx hb dX3_layDefinite_80 rfl (lv_at hl 0 rfl) ?_
                      refine my_iadd (x := 170) (y := t) hx hb dX3_layDefinite_81 ?_
                      refine my_iald (i := (170 + t)) hx hb hK hP 1 0 rfl rfl (by omega) (by decide) dX3_layDefinite_82 ?_
                      refine lv_aload_n hx hb dX3_layDefinite_83 rfl (lv_at hl 2 rfl) ?_
                      refine va_get (D := (dC, dI)) (ci := 3) (v := .ref (ad 1)) (C := RX3) (T := TX3) (N := 8) hx hb hts (fun _ h9 => List.mem_cons_of_mem _ (List.mem_append_right _ h9)) hown hK hP 0 rfl rfl 0 (by decide) (hts (.fieldLink RX3 7 "SwitchLevelSimulatorModel" "state" "[I") (List.mem_of_getElem? (i := 2) rfl)) (fun _ h9 => h9) rfl dX3_layDefinite_84 ?_
                      refine lv_sipush (v := nI 210) hx hb dX3_layDefinite_87 (by decide) ?_
                      refine lv_iload_n hx hb dX3_layDefinite_90 rfl (lv_at hl 0 rfl) ?_
                      refine my_iadd (x := 210) (y := t) hx hb dX3_layDefinite_91 ?_
                      refine my_iald (i := (210 + t)) hx hb hK hP 1 0 rfl rfl (by omega) (by decide) dX3_layDefinite_92 ?_
                      refine CI.callV (As := [.int (nI t), .int (nI (g (170 + t))), .int (nI (g (210 + t)))]) (rest := []) (w3 := (fun _ => dW cI ad g (nxD g f1 t (g (170 + t)) (g (210 + t))) ss)) (c_X3_growDefinite l dC dI cI cZ cR cG ad g f1 ss t (g (170 + t)) (g (210 + t)) (by omega) (by have h9 := ok.2.2.2 t (by omega); omega) (by have h9 := ok.2.2.2 t (by omega); omega) (⟨(ok.2.2.1 _ (by have h9 := ok.2.2.2 t (by omega); omega)).1, by have h9 := ok.2.2.2 t (by omega); omega⟩) (⟨by have h9 := (hR.1 _ (show g (170 + t) < g 0 by omega)).2; have h8 := q_le7 ok (g (170 + t)); omega, by have h9 := (hR.1 _ (show g (210 + t) < g 0 by omega)).2; have h8 := q_le7 ok (g (210 + t)); omega⟩)) ⟨hx, hb, hml, hown, hts⟩ (cwV 3 hts gX3_layDefinite_X3_growDefinite rfl rfl rfl (by decide +kernel) ⟨Nat.le_of_ble_eq_true rfl, Nat.le_of_ble_eq_true rfl⟩) rfl hl.1 (Nat.le_of_ble_eq_true rfl) dX3_layDefinite_93 ⟨Nat.le_of_ble_eq_true rfl, Nat.le_of_ble_eq_true rfl⟩ hA hS hP hK hD [0, 1, 2, 3] [] rfl rfl (by decide) (by decide) (by decide) 0 3 rfl rfl [0, 1, 2, 3] (by decide) (fun _ => rfl) rfl (fun _ H locs hp_10 hP hD hS => ?_)
                      refine my_if_neB (x := (grD g f1 t (g (170 + t)) (g (210 + t)))) (tgt := 103) hx hb dX3_layDefinite_96 (by decide) (fun c_11 => ?_) (fun c_11 => ?_)
                      · refine lv_iconst (v := nI 1) hx hb dX3_layDefinite_103 (by decide) ?_
                        refine lv_goto (tgt := 108) hx hb dX3_layDefinite_104 (by decide) ?_
                        refine lv_istore_n (lv' := [(1, .int (nI 1)), (2, .int (nI t)), (0, .ref (ad 0))]) hx hb dX3_layDefinite_108 rfl hl (by decide) rfl (fun ls hl => ?_)
                        refine lv_aload_n hx hb dX3_layDefinite_109 rfl (lv_at hl 2 rfl) ?_
                        refine lv_iload_n hx hb dX3_layDefinite_110 rfl (lv_at hl 1 rfl) ?_
                        refine lv_aload_n hx hb dX3_layDefinite_111 rfl (lv_at hl 2 rfl) ?_
                        refine va_get (D := (dC, dI)) (ci := 3) (v := .ref (ad 1)) (C := RX3) (T := TX3) (N := 8) hx hb hts (fun _ h9 => List.mem_cons_of_mem _ (List.mem_append_right _ h9)) hown hK hP 0 rfl rfl 0 (by decide) (hts (.fieldLink RX3 7 "SwitchLevelSimulatorModel" "state" "[I") (List.mem_of_getElem? (i := 2) rfl)) (fun _ h9 => h9) rfl dX3_layDefinite_112 ?_
                        refine lv_sipush (v := nI 210) hx hb dX3_layDefinite_115 (by decide) ?_
                        refine lv_iload_n hx hb dX3_layDefinite_118 rfl (lv_at hl 1 rfl) ?_
                        refine my_iadd (x := 210) (y := t) hx hb dX3_layDefinite_119 ?_
                        refine my_iald (i := (210 + t)) hx hb hK hP 1 0 rfl rfl (by omega) (by decide) dX3_layDefinite_120 ?_
                        refine lv_aload_n hx hb dX3_layDefinite_121 rfl (lv_at hl 2 rfl) ?_
                        refine va_get (D := (dC, dI)) (ci := 3) (v := .ref (ad 1)) (C := RX3) (T := TX3) (N := 8) hx hb hts (fun _ h9 => List.mem_cons_of_mem _ (List.mem_append_right _ h9)) hown hK hP 0 rfl rfl 0 (by decide) (hts (.fieldLink RX3 7 "SwitchLevelSimulatorModel" "state" "[I") (List.mem_of_getElem? (i := 2) rfl)) (fun _ h9 => h9) rfl dX3_layDefinite_122 ?_
                        refine lv_sipush (v := nI 170) hx hb dX3_layDefinite_125 (by decide) ?_
                        refine lv_iload_n hx hb dX3_layDefinite_128 rfl (lv_at hl 1 rfl) ?_
                        refine my_iadd (x := 170) (y := t) hx hb dX3_layDefinite_129 ?_
                        refine my_iald (i := (170 + t)) hx hb hK hP 1 0 rfl rfl (by omega) (by decide) dX3_layDefinite_130 ?_
                        refine CI.callV (As := [.int (nI t), .int (nI (g (210 + t))), .int (nI (g (170 + t)))]) (rest := []) (w3 := (fun _ => dW cI ad g (nxD g (nxD g f1 t (g (170 + t)) (g (210 + t))) t (g (210 + t)) (g (170 + t))) ss)) (c_X3_growDefinite l dC dI cI cZ cR cG ad g (nxD g f1 t (g (170 + t)) (g (210 + t))) ss t (g (210 + t)) (g (170 + t)) (by omega) (by have h9 := ok.2.2.2 t (by omega); omega) (by have h9 := ok.2.2.2 t (by omega); omega) (⟨(ok.2.2.1 _ (by have h9 := ok.2.2.2 t (by omega); omega)).1, by have h9 := ok.2.2.2 t (by omega); omega⟩) (⟨by have h9 := ((DI_nx ok hR.1 (show t < g 1 by omega) (by rw [← hst]; exact c68) (edg_1 g t)) _ (show g (210 + t) < g 0 by omega)).2; have h8 := q_le7 ok (g (210 + t)); omega, by have h9 := ((DI_nx ok hR.1 (show t < g 1 by omega) (by rw [← hst]; exact c68) (edg_1 g t)) _ (show g (170 + t) < g 0 by omega)).2; have h8 := q_le7 ok (g (170 + t)); omega⟩)) ⟨hx, hb, hml, hown, hts⟩ (cwV 3 hts gX3_layDefinite_X3_growDefinite rfl rfl rfl (by decide +kernel) ⟨Nat.le_of_ble_eq_true rfl, Nat.le_of_ble_eq_true rfl⟩) rfl hl.1 (Nat.le_of_ble_eq_true rfl) dX3_layDefinite_131 ⟨Nat.le_of_ble_eq_true rfl, Nat.le_of_ble_eq_true rfl⟩ hA hS hP hK hD [0, 1, 2, 3] [] rfl rfl (by decide) (by decide) (by decide) 0 3 rfl rfl [0, 1, 2, 3] (by decide) (fun _ => rfl) rfl (fun _ H locs hp_12 hP hD hS => ?_)
                        refine my_if_neB (x := (grD g (nxD g f1 t (g (170 + t)) (g (210 + t))) t (g (210 + t)) (g (170 + t)))) (tgt := 141) hx hb dX3_layDefinite_134 (by decide) (fun c_13 => ?_) (fun c_13 => ?_)
                        · refine lv_iconst (v := nI 1) hx hb dX3_layDefinite_141 (by decide) ?_
                          refine lv_goto (tgt := 146) hx hb dX3_layDefinite_142 (by decide) ?_
                          refine lv_istore_n (lv' := [(1, .int (nI 1)), (2, .int (nI t)), (0, .ref (ad 0))]) hx hb dX3_layDefinite_146 rfl hl (by decide) rfl (fun ls hl => ?_)
                          refine my_iinc (k := 1) (x := t) (d := 1) (lv' := [(2, .int (nI (t + 1))), (1, .int (nI 1)), (0, .ref (ad 0))]) hx hb dX3_layDefinite_147 hl rfl (by decide) (by decide) rfl (fun ls hl => ?_)
                          refine lv_goto (tgt := 53) hx hb dX3_layDefinite_150 (by decide) ?_
                          exact ih_53 (t + 1) (nxD g (nxD g f1 t (g (170 + t)) (g (210 + t))) t (g (210 + t)) (g (170 + t))) true (by omega) (by omega) (by have h9 := RdD_s ok (show t < g 1 by omega) (by rw [← hst]; exact c_9) hR rfl rfl; simpa only [c_11, c_13, Bool.true_or, Bool.or_true, Bool.false_or, Bool.or_false] using h9) _ _ _ hP hD hS (lv_sub hl [0, 1, 2] rfl)
                        · refine lv_iload_n hx hb dX3_layDefinite_137 rfl (lv_at hl 0 rfl) ?_
                          refine my_if_eqN (x := 1) (tgt := 145) hx hb (by omega) dX3_layDefinite_138 (by decide) (fun c_14 => absurd c_14 (by decide)) (fun _ => ?_)
                          refine lv_iconst (v := nI 1) hx hb dX3_layDefinite_141 (by decide) ?_
                          refine lv_goto (tgt := 146) hx hb dX3_layDefinite_142 (by decide) ?_
                          refine lv_istore_n (lv' := [(1, .int (nI 1)), (2, .int (nI t)), (0, .ref (ad 0))]) hx hb dX3_layDefinite_146 rfl hl (by decide) rfl (fun ls hl => ?_)
                          refine my_iinc (k := 1) (x := t) (d := 1) (lv' := [(2, .int (nI (t + 1))), (1, .int (nI 1)), (0, .ref (ad 0))]) hx hb dX3_layDefinite_147 hl rfl (by decide) (by decide) rfl (fun ls hl => ?_)
                          refine lv_goto (tgt := 53) hx hb dX3_layDefinite_150 (by decide) ?_
                          exact ih_53 (t + 1) (nxD g (nxD g f1 t (g (170 + t)) (g (210 + t))) t (g (210 + t)) (g (170 + t))) true (by omega) (by omega) (by have h9 := RdD_s ok (show t < g 1 by omega) (by rw [← hst]; exact c_9) hR rfl rfl; simpa only [c_11, c_13, Bool.true_or, Bool.or_true, Bool.false_or, Bool.or_false] using h9) _ _ _ hP hD hS (lv_sub hl [0, 1, 2] rfl)
                      · refine lv_iload_n hx hb dX3_layDefinite_99 rfl (lv_at hl 1 rfl) ?_
                        refine my_if_eqB (x := m1) (tgt := 107) hx hb dX3_layDefinite_100 (by decide) (fun c_15 => ?_) (fun c_15 => ?_)
                        · refine lv_iconst (v := nI 0) hx hb dX3_layDefinite_107 (by decide) ?_
                          refine lv_istore_n (lv' := [(1, .int (nI 0)), (2, .int (nI t)), (0, .ref (ad 0))]) hx hb dX3_layDefinite_108 rfl hl (by decide) rfl (fun ls hl => ?_)
                          refine lv_aload_n hx hb dX3_layDefinite_109 rfl (lv_at hl 2 rfl) ?_
                          refine lv_iload_n hx hb dX3_layDefinite_110 rfl (lv_at hl 1 rfl) ?_
                          refine lv_aload_n hx hb dX3_layDefinite_111 rfl (lv_at hl 2 rfl) ?_
                          refine va_get (D := (dC, dI)) (ci := 3) (v := .ref (ad 1)) (C := RX3) (T := TX3) (N := 8) hx hb hts (fun _ h9 => List.mem_cons_of_mem _ (List.mem_append_right _ h9)) hown hK hP 0 rfl rfl 0 (by decide) (hts (.fieldLink RX3 7 "SwitchLevelSimulatorModel" "state" "[I") (List.mem_of_getElem? (i := 2) rfl)) (fun _ h9 => h9) rfl dX3_layDefinite_112 ?_
                          refine lv_sipush (v := nI 210) hx hb dX3_layDefinite_115 (by decide) ?_
                          refine lv_iload_n hx hb dX3_layDefinite_118 rfl (lv_at hl 1 rfl) ?_
                          refine my_iadd (x := 210) (y := t) hx hb dX3_layDefinite_119 ?_
                          refine my_iald (i := (210 + t)) hx hb hK hP 1 0 rfl rfl (by omega) (by decide) dX3_layDefinite_120 ?_
                          refine lv_aload_n hx hb dX3_layDefinite_121 rfl (lv_at hl 2 rfl) ?_
                          refine va_get (D := (dC, dI)) (ci := 3) (v := .ref (ad 1)) (C := RX3) (T := TX3) (N := 8) hx hb hts (fun _ h9 => List.mem_cons_of_mem _ (List.mem_append_right _ h9)) hown hK hP 0 rfl rfl 0 (by decide) (hts (.fieldLink RX3 7 "SwitchLevelSimulatorModel" "state" "[I") (List.mem_of_getElem? (i := 2) rfl)) (fun _ h9 => h9) rfl dX3_layDefinite_122 ?_
                          refine lv_sipush (v := nI 170) hx hb dX3_layDefinite_125 (by decide) ?_
                          refine lv_iload_n hx hb dX3_layDefinite_128 rfl (lv_at hl 1 rfl) ?_
                          refine my_iadd (x := 170) (y := t) hx hb dX3_layDefinite_129 ?_
                          refine my_iald (i := (170 + t)) hx hb hK hP 1 0 rfl rfl (by omega) (by decide) dX3_layDefinite_130 ?_
                          refine CI.callV (As := [.int (nI t), .int (nI (g (210 + t))), .int (nI (g (170 + t)))]) (rest := []) (w3 := (fun _ => dW cI ad g (nxD g (nxD g f1 t (g (170 + t)) (g (210 + t))) t (g (210 + t)) (g (170 + t))) ss)) (c_X3_growDefinite l dC dI cI cZ cR cG ad g (nxD g f1 t (g (170 + t)) (g (210 + t))) ss t (g (210 + t)) (g (170 + t)) (by omega) (by have h9 := ok.2.2.2 t (by omega); omega) (by have h9 := ok.2.2.2 t (by omega); omega) (⟨(ok.2.2.1 _ (by have h9 := ok.2.2.2 t (by omega); omega)).1, by have h9 := ok.2.2.2 t (by omega); omega⟩) (⟨by have h9 := ((DI_nx ok hR.1 (show t < g 1 by omega) (by rw [← hst]; exact c68) (edg_1 g t)) _ (show g (210 + t) < g 0 by omega)).2; have h8 := q_le7 ok (g (210 + t)); omega, by have h9 := ((DI_nx ok hR.1 (show t < g 1 by omega) (by rw [← hst]; exact c68) (edg_1 g t)) _ (show g (170 + t) < g 0 by omega)).2; have h8 := q_le7 ok (g (170 + t)); omega⟩)) ⟨hx, hb, hml, hown, hts⟩ (cwV 3 hts gX3_layDefinite_X3_growDefinite rfl rfl rfl (by decide +kernel) ⟨Nat.le_of_ble_eq_true rfl, Nat.le_of_ble_eq_true rfl⟩) rfl hl.1 (Nat.le_of_ble_eq_true rfl) dX3_layDefinite_131 ⟨Nat.le_of_ble_eq_true rfl, Nat.le_of_ble_eq_true rfl⟩ hA hS hP hK hD [0, 1, 2, 3] [] rfl rfl (by decide) (by decide) (by decide) 0 3 rfl rfl [0, 1, 2, 3] (by decide) (fun _ => rfl) rfl (fun _ H locs hp_16 hP hD hS => ?_)
                          refine my_if_neB (x := (grD g (nxD g f1 t (g (170 + t)) (g (210 + t))) t (g (210 + t)) (g (170 + t)))) (tgt := 141) hx hb dX3_layDefinite_134 (by decide) (fun c_17 => ?_) (fun c_17 => ?_)
                          · refine lv_iconst (v := nI 1) hx hb dX3_layDefinite_141 (by decide) ?_
                            refine lv_goto (tgt := 146) hx hb dX3_layDefinite_142 (by decide) ?_
                            refine lv_istore_n (lv' := [(1, .int (nI 1)), (2, .int (nI t)), (0, .ref (ad 0))]) hx hb dX3_layDefinite_146 rfl hl (by decide) rfl (fun ls hl => ?_)
                            refine my_iinc (k := 1) (x := t) (d := 1) (lv' := [(2, .int (nI (t + 1))), (1, .int (nI 1)), (0, .ref (ad 0))]) hx hb dX3_layDefinite_147 hl rfl (by decide) (by decide) rfl (fun ls hl => ?_)
                            refine lv_goto (tgt := 53) hx hb dX3_layDefinite_150 (by decide) ?_
                            exact ih_53 (t + 1) (nxD g (nxD g f1 t (g (170 + t)) (g (210 + t))) t (g (210 + t)) (g (170 + t))) true (by omega) (by omega) (by have h9 := RdD_s ok (show t < g 1 by omega) (by rw [← hst]; exact c_9) hR rfl rfl; simpa only [c_11, c_15, c_17, Bool.true_or, Bool.or_true, Bool.false_or, Bool.or_false] using h9) _ _ _ hP hD hS (lv_sub hl [0, 1, 2] rfl)
                          · refine lv_iload_n hx hb dX3_layDefinite_137 rfl (lv_at hl 0 rfl) ?_
                            refine my_if_eqN (x := 0) (tgt := 145) hx hb (by omega) dX3_layDefinite_138 (by decide) (fun _ => ?_) (fun c_18 => absurd c_18 (by decide))
                            refine lv_iconst (v := nI 0) hx hb dX3_layDefinite_145 (by decide) ?_
                            refine lv_istore_n (lv' := [(1, .int (nI 0)), (2, .int (nI t)), (0, .ref (ad 0))]) hx hb dX3_layDefinite_146 rfl hl (by decide) rfl (fun ls hl => ?_)
                            refine my_iinc (k := 1) (x := t) (d := 1) (lv' := [(2, .int (nI (t + 1))), (1, .int (nI 0)), (0, .ref (ad 0))]) hx hb dX3_layDefinite_147 hl rfl (by decide) (by decide) rfl (fun ls hl => ?_)
                            refine lv_goto (tgt := 53) hx hb dX3_layDefinite_150 (by decide) ?_
                            exact ih_53 (t + 1) (nxD g (nxD g f1 t (g (170 + t)) (g (210 + t))) t (g (210 + t)) (g (170 + t))) false (by omega) (by omega) (by have h9 := RdD_s ok (show t < g 1 by omega) (by rw [← hst]; exact c_9) hR rfl rfl; simpa only [c_11, c_15, c_17, Bool.true_or, Bool.or_true, Bool.false_or, Bool.or_false] using h9) _ _ _ hP hD hS (lv_sub hl [0, 1, 2] rfl)
                        · refine lv_iconst (v := nI 1) hx hb dX3_layDefinite_103 (by decide) ?_
                          refine lv_goto (tgt := 108) hx hb dX3_layDefinite_104 (by decide) ?_
                          refine lv_istore_n (lv' := [(1, .int (nI 1)), (2, .int (nI t)), (0, .ref (ad 0))]) hx hb dX3_layDefinite_108 rfl hl (by decide) rfl (fun ls hl => ?_)
                          refine lv_aload_n hx hb dX3_layDefinite_109 rfl (lv_at hl 2 rfl) ?_
                          refine lv_iload_n hx hb dX3_layDefinite_110 rfl (lv_at hl 1 rfl) ?_
                          refine lv_aload_n hx hb dX3_layDefinite_111 rfl (lv_at hl 2 rfl) ?_
                          refine va_get (D := (dC, dI)) (ci := 3) (v := .ref (ad 1)) (C := RX3) (T := TX3) (N := 8) hx hb hts (fun _ h9 => List.mem_cons_of_mem _ (List.mem_append_right _ h9)) hown hK hP 0 rfl rfl 0 (by decide) (hts (.fieldLink RX3 7 "SwitchLevelSimulatorModel" "state" "[I") (List.mem_of_getElem? (i := 2) rfl)) (fun _ h9 => h9) rfl dX3_layDefinite_112 ?_
                          refine lv_sipush (v := nI 210) hx hb dX3_layDefinite_115 (by decide) ?_
                          refine lv_iload_n hx hb dX3_layDefinite_118 rfl (lv_at hl 1 rfl) ?_
                          refine my_iadd (x := 210) (y := t) hx hb dX3_layDefinite_119 ?_
                          refine my_iald (i := (210 + t)) hx hb hK hP 1 0 rfl rfl (by omega) (by decide) dX3_layDefinite_120 ?_
                          refine lv_aload_n hx hb dX3_layDefinite_121 rfl (lv_at hl 2 rfl) ?_
                          refine va_get (D := (dC, dI)) (ci := 3) (v := .ref (ad 1)) (C := RX3) (T := TX3) (N := 8) hx hb hts (fun _ h9 => List.mem_cons_of_mem _ (List.mem_append_right _ h9)) hown hK hP 0 rfl rfl 0 (by decide) (hts (.fieldLink RX3 7 "SwitchLevelSimulatorModel" "state" "[I") (List.mem_of_getElem? (i := 2) rfl)) (fun _ h9 => h9) rfl dX3_layDefinite_122 ?_
                          refine lv_sipush (v := nI 170) hx hb dX3_layDefinite_125 (by decide) ?_
                          refine lv_iload_n hx hb dX3_layDefinite_128 rfl (lv_at hl 1 rfl) ?_
                          refine my_iadd (x := 170) (y := t) hx hb dX3_layDefinite_129 ?_
                          refine my_iald (i := (170 + t)) hx hb hK hP 1 0 rfl rfl (by omega) (by decide) dX3_layDefinite_130 ?_
                          refine CI.callV (As := [.int (nI t), .int (nI (g (210 + t))), .int (nI (g (170 + t)))]) (rest := []) (w3 := (fun _ => dW cI ad g (nxD g (nxD g f1 t (g (170 + t)) (g (210 + t))) t (g (210 + t)) (g (170 + t))) ss)) (c_X3_growDefinite l dC dI cI cZ cR cG ad g (nxD g f1 t (g (170 + t)) (g (210 + t))) ss t (g (210 + t)) (g (170 + t)) (by omega) (by have h9 := ok.2.2.2 t (by omega); omega) (by have h9 := ok.2.2.2 t (by omega); omega) (⟨(ok.2.2.1 _ (by have h9 := ok.2.2.2 t (by omega); omega)).1, by have h9 := ok.2.2.2 t (by omega); omega⟩) (⟨by have h9 := ((DI_nx ok hR.1 (show t < g 1 by omega) (by rw [← hst]; exact c68) (edg_1 g t)) _ (show g (210 + t) < g 0 by omega)).2; have h8 := q_le7 ok (g (210 + t)); omega, by have h9 := ((DI_nx ok hR.1 (show t < g 1 by omega) (by rw [← hst]; exact c68) (edg_1 g t)) _ (show g (170 + t) < g 0 by omega)).2; have h8 := q_le7 ok (g (170 + t)); omega⟩)) ⟨hx, hb, hml, hown, hts⟩ (cwV 3 hts gX3_layDefinite_X3_growDefinite rfl rfl rfl (by decide +kernel) ⟨Nat.le_of_ble_eq_true rfl, Nat.le_of_ble_eq_true rfl⟩) rfl hl.1 (Nat.le_of_ble_eq_true rfl) dX3_layDefinite_131 ⟨Nat.le_of_ble_eq_true rfl, Nat.le_of_ble_eq_true rfl⟩ hA hS hP hK hD [0, 1, 2, 3] [] rfl rfl (by decide) (by decide) (by decide) 0 3 rfl rfl [0, 1, 2, 3] (by decide) (fun _ => rfl) rfl (fun _ H locs hp_19 hP hD hS => ?_)
                          refine my_if_neB (x := (grD g (nxD g f1 t (g (170 + t)) (g (210 + t))) t (g (210 + t)) (g (170 + t)))) (tgt := 141) hx hb dX3_layDefinite_134 (by decide) (fun c_20 => ?_) (fun c_20 => ?_)
                          · refine lv_iconst (v := nI 1) hx hb dX3_layDefinite_141 (by decide) ?_
                            refine lv_goto (tgt := 146) hx hb dX3_layDefinite_142 (by decide) ?_
                            refine lv_istore_n (lv' := [(1, .int (nI 1)), (2, .int (nI t)), (0, .ref (ad 0))]) hx hb dX3_layDefinite_146 rfl hl (by decide) rfl (fun ls hl => ?_)
                            refine my_iinc (k := 1) (x := t) (d := 1) (lv' := [(2, .int (nI (t + 1))), (1, .int (nI 1)), (0, .ref (ad 0))]) hx hb dX3_layDefinite_147 hl rfl (by decide) (by decide) rfl (fun ls hl => ?_)
                            refine lv_goto (tgt := 53) hx hb dX3_layDefinite_150 (by decide) ?_
                            exact ih_53 (t + 1) (nxD g (nxD g f1 t (g (170 + t)) (g (210 + t))) t (g (210 + t)) (g (170 + t))) true (by omega) (by omega) (by have h9 := RdD_s ok (show t < g 1 by omega) (by rw [← hst]; exact c_9) hR rfl rfl; simpa only [c_11, c_15, c_20, Bool.true_or, Bool.or_true, Bool.false_or, Bool.or_false] using h9) _ _ _ hP hD hS (lv_sub hl [0, 1, 2] rfl)
                          · refine lv_iload_n hx hb dX3_layDefinite_137 rfl (lv_at hl 0 rfl) ?_
                            refine my_if_eqN (x := 1) (tgt := 145) hx hb (by omega) dX3_layDefinite_138 (by decide) (fun c_21 => absurd c_21 (by decide)) (fun _ => ?_)
                            refine lv_iconst (v := nI 1) hx hb dX3_layDefinite_141 (by decide) ?_
                            refine lv_goto (tgt := 146) hx hb dX3_layDefinite_142 (by decide) ?_
                            refine lv_istore_n (lv' := [(1, .int (nI 1)), (2, .int (nI t)), (0, .ref (ad 0))]) hx hb dX3_layDefinite_146 rfl hl (by decide) rfl (fun ls hl => ?_)
                            refine my_iinc (k := 1) (x := t) (d := 1) (lv' := [(2, .int (nI (t + 1))), (1, .int (nI 1)), (0, .ref (ad 0))]) hx hb dX3_layDefinite_147 hl rfl (by decide) (by decide) rfl (fun ls hl => ?_)
                            refine lv_goto (tgt := 53) hx hb dX3_layDefinite_150 (by decide) ?_
                            exact ih_53 (t + 1) (nxD g (nxD g f1 t (g (170 + t)) (g (210 + t))) t (g (210 + t)) (g (170 + t))) true (by omega) (by omega) (by have h9 := RdD_s ok (show t < g 1 by omega) (by rw [← hst]; exact c_9) hR rfl rfl; simpa only [c_11, c_15, c_20, Bool.true_or, Bool.or_true, Bool.false_or, Bool.or_false] using h9) _ _ _ hP hD hS (lv_sub hl [0, 1, 2] rfl)
              exact key_53 _ 0 f false (Nat.lt_succ_self _) (Nat.zero_le _) (RdD_0 hDI) _ _ _ hP hD hS (lv_sub hl [0, 1, 2] rfl)
        exact key_45 _ f true (Nat.lt_succ_self _) (DI_0 ok (by omega) hf) (fun z => (by cases z)) _ _ _ hP hD hS (lv_sub hl [0, 1] rfl)
      · refine lv_aload_n hx hb dX3_layDefinite_10 rfl (lv_at hl 1 rfl) ?_
        refine va_get (D := (dC, dI)) (ci := 3) (v := .ref (ad 4)) (C := RX3) (T := TX3) (N := 8) hx hb hts (fun _ h9 => List.mem_cons_of_mem _ (List.mem_append_right _ h9)) hown hK hP 0 rfl rfl 3 (by decide) (hts (.fieldLink RX3 20 "SwitchLevelSimulatorModel" "definite" "[I") (List.mem_of_getElem? (i := 1) rfl)) (fun _ h9 => h9) rfl dX3_layDefinite_11 ?_
        refine lv_iload_n hx hb dX3_layDefinite_14 rfl (lv_at hl 0 rfl) ?_
        refine lv_aload_n hx hb dX3_layDefinite_15 rfl (lv_at hl 1 rfl) ?_
        refine lv_iload_n hx hb dX3_layDefinite_16 rfl (lv_at hl 0 rfl) ?_
        refine CI.callV (As := [.int (nI n)]) (rest := [.int (nI n), .ref (ad 4)]) (w3 := (fun _ => dW cI ad g f ss)) (c_X3_isInput l dC dI cI cZ cR cG ad g n (by omega) ((ok.2.2.1 _ (by omega)).1)) ⟨hx, hb, hml, hown, hts⟩ (cwV 1 hts gX3_layDefinite_X3_isInput rfl rfl rfl (by decide +kernel) ⟨Nat.le_of_ble_eq_true rfl, Nat.le_of_ble_eq_true rfl⟩) rfl hl.1 (Nat.le_of_ble_eq_true rfl) dX3_layDefinite_17 ⟨Nat.le_of_ble_eq_true rfl, Nat.le_of_ble_eq_true rfl⟩ hA hS hP hK hD [0, 1] [2, 3] rfl rfl (by decide) (by decide) (by decide) 0 3 rfl rfl [2, 3, 0, 1] (by decide) (fun _ => rfl) rfl (fun _ H locs hp_22 hP hD hS => ?_)
        refine my_if_eqB (x := (decide (g (2 + n) = 0))) (tgt := 28) hx hb dX3_layDefinite_20 (by decide) (fun c_23 => ?_) (fun c_23 => ?_)
        · refine lv_aload_n hx hb dX3_layDefinite_28 rfl (lv_at hl 1 rfl) ?_
          refine va_get (D := (dC, dI)) (ci := 3) (v := .ref (ad 1)) (C := RX3) (T := TX3) (N := 8) hx hb hts (fun _ h9 => List.mem_cons_of_mem _ (List.mem_append_right _ h9)) hown hK hP 0 rfl rfl 0 (by decide) (hts (.fieldLink RX3 7 "SwitchLevelSimulatorModel" "state" "[I") (List.mem_of_getElem? (i := 2) rfl)) (fun _ h9 => h9) rfl dX3_layDefinite_29 ?_
          refine lv_iconst (v := nI 2) hx hb dX3_layDefinite_32 (by decide) ?_
          refine lv_iload_n hx hb dX3_layDefinite_33 rfl (lv_at hl 0 rfl) ?_
          refine my_iadd (x := 2) (y := n) hx hb dX3_layDefinite_34 ?_
          refine my_iald (i := (2 + n)) hx hb hK hP 1 0 rfl rfl (by omega) (by decide) dX3_layDefinite_35 ?_
          refine my_iastN (i := n) (x := (g (2 + n))) (g := f) (ws' := dW cI ad g (up1 f n (g (2 + n))) ss) hx hb hK hP hD hS 2 0 rfl rfl (by omega) (by decide) dX3_layDefinite_36 rfl (fun H locs hP hD hS => ?_)
          refine my_iinc (k := 0) (x := n) (d := 1) (lv' := [(1, .int (nI (n + 1))), (0, .ref (ad 0))]) hx hb dX3_layDefinite_37 hl rfl (by decide) (by decide) rfl (fun ls hl => ?_)
          refine lv_goto (tgt := 2) hx hb dX3_layDefinite_40 (by decide) ?_
          exact ih_2 (n + 1) (up1 f n (g (2 + n))) (by omega) (by omega) (fill_s hf (by unfold bas; rw [if_neg (of_decide_eq_false c_23)])) _ _ _ hP hD hS (lv_sub hl [0, 1] rfl)
        · refine lv_bipush (v := nI 7) hx hb dX3_layDefinite_23 (by decide) ?_
          refine lv_goto (tgt := 36) hx hb dX3_layDefinite_25 (by decide) ?_
          refine my_iastN (i := n) (x := 7) (g := f) (ws' := dW cI ad g (up1 f n 7) ss) hx hb hK hP hD hS 2 0 rfl rfl (by omega) (by decide) dX3_layDefinite_36 rfl (fun H locs hP hD hS => ?_)
          refine my_iinc (k := 0) (x := n) (d := 1) (lv' := [(1, .int (nI (n + 1))), (0, .ref (ad 0))]) hx hb dX3_layDefinite_37 hl rfl (by decide) (by decide) rfl (fun ls hl => ?_)
          refine lv_goto (tgt := 2) hx hb dX3_layDefinite_40 (by decide) ?_
          exact ih_2 (n + 1) (up1 f n 7) (by omega) (by omega) (fill_s hf (by unfold bas; rw [if_pos (of_decide_eq_true c_23)])) _ _ _ hP hD hS (lv_sub hl [0, 1] rfl)
  exact key_2 _ 0 de (Nat.lt_succ_self _) (Nat.zero_le _) fill_0 _ _ _ hP hD hS (lv_sub hl [0, 1] rfl)
abbrev rm_X3_grow : Room := { frames := 1, cells := 0, slots := 0, locals := 21 }
set_option maxHeartbeats 4000000 in
set_option maxRecDepth 100000 in
theorem c_X3_grow (l : Launch) (dC : Nat → ClassId) (dI : Nat → Nat → Nat) (cI cZ cR cG : ClassId) (ad : Nat → Nat) (r : Nat) (g de ss row : Nat → Nat) (t a b : Nat) (ht : t < 40) (ha : a < 24) (hb' : b < 24) (h3 : g (2 + b) ≤ 3 ∧ g (90 + t) ≤ 3) (h7 : row a < 100 ∧ row b < 100 ∧ de b < 100) : CI l (dC, dI) (tyL cI cZ cR cG) yX3_grow wsX3_grow rm_X3_grow [.ref (ad 0), .ref r, .int (nI t), .int (nI a), .int (nI b)] (gW cI ad r g de ss row) (S := Unit) (fun _ => bI (grU g de row t a b)) (fun _ => True) (fun _ => gW cI ad r g de ss (nxU g de row t a b)) := by
  refine CI.of (cc := cX3_grow) (maxL := 7) (rt := .boolean) (lv := [(0, .ref (ad 0)), (1, .ref r), (2, .int (nI t)), (3, .int (nI a)), (4, .int (nI b))]) (by decide) rfl (Nat.le_of_ble_eq_true rfl) rfl (Or.inr ⟨rfl, fun _ => nar_bI _⟩) ?_
  intro p e s m ar below meth c A Qz ls hx hb hml hown hts hnm hA hS hP hK hD hl ret
  refine lv_aload_n hx hb dX3_grow_0 rfl (lv_at hl 0 rfl) ?_
  refine lv_iload_n hx hb dX3_grow_1 rfl (lv_at hl 2 rfl) ?_
  refine CI.callV (As := [.int (nI t)]) (rest := []) (w3 := (fun _ => gW cI ad r g de ss row)) (c_X3_signal l dC dI cI cZ cR cG ad g t (by omega)) ⟨hx, hb, hml, hown, hts⟩ (cwV 1 hts gX3_grow_X3_signal rfl rfl rfl (by decide +kernel) ⟨Nat.le_of_ble_eq_true rfl, Nat.le_of_ble_eq_true rfl⟩) rfl hl.1 (Nat.le_of_ble_eq_true rfl) dX3_grow_2 ⟨Nat.le_of_ble_eq_true rfl, Nat.le_of_ble_eq_true rfl⟩ hA hS hP hK hD [0, 1] [2, 3, 4] rfl rfl (by decide) (by decide) (by decide) 0 3 rfl rfl [3, 4, 0, 1, 2] (by decide) (fun _ => rfl) rfl (fun _ H locs hp_1 hP hD hS => ?_)
  refine lv_aload_n hx hb dX3_grow_5 rfl (lv_at hl 1 rfl) ?_
  refine lv_iload_n hx hb dX3_grow_6 rfl (lv_at hl 3 rfl) ?_
  refine my_iald (i := a) hx hb hK hP 4 0 rfl rfl (by omega) (by decide) dX3_grow_7 ?_
  refine CI.callS (As := [.int (nI (g (90 + t) + 3)), .int (nI (row a))]) (rest := []) (w3 := (fun _ => gW cI ad r g de ss row)) (c_X3_lesser l dC dI cI cZ cR cG (g (90 + t) + 3) (row a) (by omega) (by omega)) ⟨hx, hb, hml, hown, hts⟩ (va_cwS 2 hts gX3_grow_X3_lesser rfl rfl rfl (by decide +kernel) ⟨Nat.le_of_ble_eq_true rfl, Nat.le_of_ble_eq_true rfl⟩) rfl hl.1 (Nat.le_of_ble_eq_true rfl) dX3_grow_8 ⟨Nat.le_of_ble_eq_true rfl, Nat.le_of_ble_eq_true rfl⟩ hA hS hP hK hD [] [0, 1, 2, 3, 4] rfl rfl (by decide) (by decide) (by decide) [0, 1, 2, 3, 4] (by decide) (fun _ => rfl) rfl (fun _ H locs hp_2 hP hD hS => ?_)
  refine lv_istore (lv' := [(5, .int (nI (min (g (90 + t) + 3) (row a)))), (0, .ref (ad 0)), (1, .ref r), (2, .int (nI t)), (3, .int (nI a)), (4, .int (nI b))]) hx hb dX3_grow_11 hl (by decide) rfl (fun ls hl => ?_)
  refine lv_aload_n hx hb dX3_grow_13 rfl (lv_at hl 1 rfl) ?_
  refine lv_iload hx hb dX3_grow_14 (lv_at hl 5 rfl) ?_
  refine CI.callV (As := [.int (nI b)]) (rest := []) (w3 := (fun _ => gW cI ad r g de ss row)) (c_X3_isInput l dC dI cI cZ cR cG ad g b (by omega) (h3.1)) ⟨hx, hb, hml, hown, hts⟩ (cwV 1 hts gX3_grow_X3_isInput rfl rfl rfl (by decide +kernel) ⟨Nat.le_of_ble_eq_true rfl, Nat.le_of_ble_eq_true rfl⟩) rfl hl.1 (Nat.le_of_ble_eq_true rfl) dX3_grow_16 ⟨Nat.le_of_ble_eq_true rfl, Nat.le_of_ble_eq_true rfl⟩ hA hS hP hK hD [0, 1] [2, 3, 4] rfl rfl (by decide) (by decide) (by decide) 0 3 rfl rfl [3, 4, 0, 1, 2] (by decide) (fun _ => rfl) rfl (fun _ H locs hp_3 hP hD hS => ?_)
  refine my_if_neB (x := (decide (g (2 + b) = 0))) (tgt := 47) hx hb dX3_grow_19 (by decide) (fun c_4 => ?_) (fun c_4 => ?_)
  · refine lv_iconst (v := nI 0) hx hb dX3_grow_47 (by decide) ?_
    refine lv_istore (lv' := [(6, .int (nI 0)), (5, .int (nI (min (g (90 + t) + 3) (row a)))), (0, .ref (ad 0)), (1, .ref r), (2, .int (nI t)), (3, .int (nI a)), (4, .int (nI b))]) hx hb dX3_grow_48 hl (by decide) rfl (fun ls hl => ?_)
    refine lv_aload_n hx hb dX3_grow_50 rfl (lv_at hl 3 rfl) ?_
    refine lv_iload hx hb dX3_grow_51 (lv_at hl 6 rfl) ?_
    refine lv_iload hx hb dX3_grow_53 (lv_at hl 0 rfl) ?_
    refine my_if_eqN (x := 0) (tgt := 63) hx hb (by omega) dX3_grow_55 (by decide) (fun _ => ?_) (fun c_5 => absurd c_5 (by decide))
    refine lv_aload_n hx hb dX3_grow_63 rfl (lv_at hl 3 rfl) ?_
    refine lv_iload hx hb dX3_grow_64 (lv_at hl 6 rfl) ?_
    refine my_iald (i := b) hx hb hK hP 4 0 rfl rfl (by omega) (by decide) dX3_grow_66 ?_
    refine my_iastN (i := b) (x := (row b)) (g := row) (ws' := gW cI ad r g de ss (up1 row b (row b))) hx hb hK hP hD hS 4 0 rfl rfl (by omega) (by decide) dX3_grow_67 rfl (fun H locs hP hD hS => ?_)
    refine lv_iload hx hb dX3_grow_68 (lv_at hl 0 rfl) ?_
    have hgr : grU g de row t a b = false := by unfold grU; rw [c_4]; rfl
    exact ret () _ _ _ _ _ _ _ _ (by show _ = bI (grU g de row t a b); rw [hgr]; rfl) (trivial) (by show gW cI ad r g de ss (nxU g de row t a b) = _; unfold nxU; rw [if_neg (by rw [hgr]; decide), up1_same]) hP hD hS (Nat.le_of_ble_eq_true rfl) (Nat.le_of_ble_eq_true rfl) dX3_grow_70
  · refine lv_iload hx hb dX3_grow_22 (lv_at hl 0 rfl) ?_
    refine lv_aload_n hx hb dX3_grow_24 rfl (lv_at hl 2 rfl) ?_
    refine lv_iload hx hb dX3_grow_25 (lv_at hl 5 rfl) ?_
    refine my_iald (i := b) hx hb hK hP 4 0 rfl rfl (by omega) (by decide) dX3_grow_27 ?_
    refine my_icmp_le (x := (min (g (90 + t) + 3) (row a))) (y := (row b)) (tgt := 47) hx hb (by omega) (by omega) dX3_grow_28 (by decide) (fun c_6 => ?_) (fun c_6 => ?_)
    · refine lv_iconst (v := nI 0) hx hb dX3_grow_47 (by decide) ?_
      refine lv_istore (lv' := [(6, .int (nI 0)), (5, .int (nI (min (g (90 + t) + 3) (row a)))), (0, .ref (ad 0)), (1, .ref r), (2, .int (nI t)), (3, .int (nI a)), (4, .int (nI b))]) hx hb dX3_grow_48 hl (by decide) rfl (fun ls hl => ?_)
      refine lv_aload_n hx hb dX3_grow_50 rfl (lv_at hl 3 rfl) ?_
      refine lv_iload hx hb dX3_grow_51 (lv_at hl 6 rfl) ?_
      refine lv_iload hx hb dX3_grow_53 (lv_at hl 0 rfl) ?_
      refine my_if_eqN (x := 0) (tgt := 63) hx hb (by omega) dX3_grow_55 (by decide) (fun _ => ?_) (fun c_7 => absurd c_7 (by decide))
      refine lv_aload_n hx hb dX3_grow_63 rfl (lv_at hl 3 rfl) ?_
      refine lv_iload hx hb dX3_grow_64 (lv_at hl 6 rfl) ?_
      refine my_iald (i := b) hx hb hK hP 4 0 rfl rfl (by omega) (by decide) dX3_grow_66 ?_
      refine my_iastN (i := b) (x := (row b)) (g := row) (ws' := gW cI ad r g de ss (up1 row b (row b))) hx hb hK hP hD hS 4 0 rfl rfl (by omega) (by decide) dX3_grow_67 rfl (fun H locs hP hD hS => ?_)
      refine lv_iload hx hb dX3_grow_68 (lv_at hl 0 rfl) ?_
      have hgr : grU g de row t a b = false := by unfold grU gv; rw [decide_eq_false (Nat.not_lt.mpr c_6), Bool.false_and, Bool.and_false]
      exact ret () _ _ _ _ _ _ _ _ (by show _ = bI (grU g de row t a b); rw [hgr]; rfl) (trivial) (by show gW cI ad r g de ss (nxU g de row t a b) = _; unfold nxU; rw [if_neg (by rw [hgr]; decide), up1_same]) hP hD hS (Nat.le_of_ble_eq_true rfl) (Nat.le_of_ble_eq_true rfl) dX3_grow_70
    · refine lv_iload hx hb dX3_grow_31 (lv_at hl 0 rfl) ?_
      refine lv_aload_n hx hb dX3_grow_33 rfl (lv_at hl 1 rfl) ?_
      refine va_get (D := (dC, dI)) (ci := 3) (v := .ref (ad 4)) (C := RX3) (T := TX3) (N := 8) hx hb hts (fun _ h9 => List.mem_cons_of_mem _ (List.mem_append_right _ h9)) hown hK hP 0 rfl rfl 3 (by decide) (hts (.fieldLink RX3 20 "SwitchLevelSimulatorModel" "definite" "[I") (List.mem_of_getElem? (i := 1) rfl)) (fun _ h9 => h9) rfl dX3_grow_34 ?_
      refine lv_iload hx hb dX3_grow_37 (lv_at hl 5 rfl) ?_
      refine my_iald (i := b) hx hb hK hP 2 0 rfl rfl (by omega) (by decide) dX3_grow_39 ?_
      refine my_icmp_lt (x := (min (g (90 + t) + 3) (row a))) (y := (de b)) (tgt := 47) hx hb (by omega) (by omega) dX3_grow_40 (by decide) (fun c_8 => ?_) (fun c_8 => ?_)
      · refine lv_iconst (v := nI 0) hx hb dX3_grow_47 (by decide) ?_
        refine lv_istore (lv' := [(6, .int (nI 0)), (5, .int (nI (min (g (90 + t) + 3) (row a)))), (0, .ref (ad 0)), (1, .ref r), (2, .int (nI t)), (3, .int (nI a)), (4, .int (nI b))]) hx hb dX3_grow_48 hl (by decide) rfl (fun ls hl => ?_)
        refine lv_aload_n hx hb dX3_grow_50 rfl (lv_at hl 3 rfl) ?_
        refine lv_iload hx hb dX3_grow_51 (lv_at hl 6 rfl) ?_
        refine lv_iload hx hb dX3_grow_53 (lv_at hl 0 rfl) ?_
        refine my_if_eqN (x := 0) (tgt := 63) hx hb (by omega) dX3_grow_55 (by decide) (fun _ => ?_) (fun c_9 => absurd c_9 (by decide))
        refine lv_aload_n hx hb dX3_grow_63 rfl (lv_at hl 3 rfl) ?_
        refine lv_iload hx hb dX3_grow_64 (lv_at hl 6 rfl) ?_
        refine my_iald (i := b) hx hb hK hP 4 0 rfl rfl (by omega) (by decide) dX3_grow_66 ?_
        refine my_iastN (i := b) (x := (row b)) (g := row) (ws' := gW cI ad r g de ss (up1 row b (row b))) hx hb hK hP hD hS 4 0 rfl rfl (by omega) (by decide) dX3_grow_67 rfl (fun H locs hP hD hS => ?_)
        refine lv_iload hx hb dX3_grow_68 (lv_at hl 0 rfl) ?_
        have hgr : grU g de row t a b = false := by unfold grU gv; rw [show decide (de b ≤ min (g (90 + t) + 3) (row a)) = false from decide_eq_false (Nat.not_le.mpr c_8), Bool.and_false, Bool.and_false]
        exact ret () _ _ _ _ _ _ _ _ (by show _ = bI (grU g de row t a b); rw [hgr]; rfl) (trivial) (by show gW cI ad r g de ss (nxU g de row t a b) = _; unfold nxU; rw [if_neg (by rw [hgr]; decide), up1_same]) hP hD hS (Nat.le_of_ble_eq_true rfl) (Nat.le_of_ble_eq_true rfl) dX3_grow_70
      · refine lv_iconst (v := nI 1) hx hb dX3_grow_43 (by decide) ?_
        refine lv_goto (tgt := 48) hx hb dX3_grow_44 (by decide) ?_
        refine lv_istore (lv' := [(6, .int (nI 1)), (5, .int (nI (min (g (90 + t) + 3) (row a)))), (0, .ref (ad 0)), (1, .ref r), (2, .int (nI t)), (3, .int (nI a)), (4, .int (nI b))]) hx hb dX3_grow_48 hl (by decide) rfl (fun ls hl => ?_)
        refine lv_aload_n hx hb dX3_grow_50 rfl (lv_at hl 3 rfl) ?_
        refine lv_iload hx hb dX3_grow_51 (lv_at hl 6 rfl) ?_
        refine lv_iload hx hb dX3_grow_53 (lv_at hl 0 rfl) ?_
        refine my_if_eqN (x := 1) (tgt := 63) hx hb (by omega) dX3_grow_55 (by decide) (fun c_10 => absurd c_10 (by decide)) (fun _ => ?_)
        refine lv_iload hx hb dX3_grow_58 (lv_at hl 1 rfl) ?_
        refine lv_goto (tgt := 67) hx hb dX3_grow_60 (by decide) ?_
        refine my_iastN (i := b) (x := (min (g (90 + t) + 3) (row a))) (g := row) (ws' := gW cI ad r g de ss (up1 row b (min (g (90 + t) + 3) (row a)))) hx hb hK hP hD hS 4 0 rfl rfl (by omega) (by decide) dX3_grow_67 rfl (fun H locs hP hD hS => ?_)
        refine lv_iload hx hb dX3_grow_68 (lv_at hl 0 rfl) ?_
        have hgr : grU g de row t a b = true := by unfold grU gv; rw [c_4, decide_eq_true c_6, decide_eq_true c_8]; rfl
        exact ret () _ _ _ _ _ _ _ _ (by show _ = bI (grU g de row t a b); rw [hgr]; rfl) (trivial) (by show gW cI ad r g de ss (nxU g de row t a b) = _; unfold nxU; rw [if_pos hgr]; rfl) hP hD hS (Nat.le_of_ble_eq_true rfl) (Nat.le_of_ble_eq_true rfl) dX3_grow_70
abbrev rm_X3_layStrength : Room := { frames := 2, cells := 0, slots := 0, locals := 47 }
set_option maxHeartbeats 4000000 in
set_option maxRecDepth 100000 in
theorem c_X3_layStrength (l : Launch) (dC : Nat → ClassId) (dI : Nat → Nat → Nat) (cI cZ cR cG : ClassId) (ad : Nat → Nat) (r : Nat) (g de ss row : Nat → Nat) (v : Nat) (ok : okG g) (hss : ∀ t, t < g 1 → ss t = swS g t) (hq : ∀ n, n < g 0 → de n = qF g n) (hv : v < 2) : CV l (dC, dI) (tyL cI cZ cR cG) yX3_layStrength wsX3_layStrength rm_X3_layStrength [.ref (ad 0), .ref r, .int (nI v)] (gW cI ad r g de ss row) (S := Nat → Nat) (fun u => ∀ n, n < g 0 → u n = uF g v n) (fun u => gW cI ad r g de ss u) := by
  refine CV.of (cc := cX3_layStrength) (maxL := 6) (lv := [(0, .ref (ad 0)), (1, .ref r), (2, .int (nI v))]) (by decide) rfl (Nat.le_of_ble_eq_true rfl) rfl ?_
  intro p e s m ar below meth c A Qz ls hx hb hml hown hts hnm hA hS hP hK hD hl ret
  have h0 := ok.1
  have h1 := ok.2.1
  refine lv_iconst (v := nI 0) hx hb dX3_layStrength_0 (by decide) ?_
  refine lv_istore_n (lv' := [(3, .int (nI 0)), (0, .ref (ad 0)), (1, .ref r), (2, .int (nI v))]) hx hb dX3_layStrength_1 rfl hl (by decide) rfl (fun ls hl => ?_)
  have key_2 : ∀ (fu : Nat) (n : Nat) (f : Nat → Nat), (g 0 - n) < fu → (n ≤ g 0) → (∀ j, j < n → f j = ub g v j) → ∀ (H : Heap) (locs : List Loc) (ls : Array Slot), va_P (dC, dI) vwCl (gW cI ad r g de ss f) H → va_D A (gW cI ad r g de ss f) → va_S A s.heap H locs → lv_has ls 6 [(3, .int (nI n)), (0, .ref (ad 0)), (1, .ref r), (2, .int (nI v))] → W p l e rm_X3_layStrength s m ar below meth c H locs 0 0 Qz (F0 m 2 ls []) := by
    intro fu
    induction fu with
    | zero => intro n f hmu; exact absurd hmu (Nat.not_lt_zero _)
    | succ fu ih_2 =>
      intro n f hmu_2 hn hf H locs ls hP hD hS hl
      refine lv_iload_n hx hb dX3_layStrength_2 rfl (lv_at hl 0 rfl) ?_
      refine lv_aload_n hx hb dX3_layStrength_3 rfl (lv_at hl 1 rfl) ?_
      refine CI.callV (As := []) (rest := [.int (nI n)]) (w3 := (fun _ => gW cI ad r g de ss f)) (c_X3_nodes l dC dI cI cZ cR cG ad g) ⟨hx, hb, hml, hown, hts⟩ (cwV 0 hts gX3_layStrength_X3_nodes rfl rfl rfl (by decide +kernel) ⟨Nat.le_of_ble_eq_true rfl, Nat.le_of_ble_eq_true rfl⟩) rfl hl.1 (Nat.le_of_ble_eq_true rfl) dX3_layStrength_4 ⟨Nat.le_of_ble_eq_true rfl, Nat.le_of_ble_eq_true rfl⟩ hA hS hP hK hD [0, 1] [2, 3, 4] rfl rfl (by decide) (by decide) (by decide) 0 3 rfl rfl [3, 4, 0, 1, 2] (by decide) (fun _ => rfl) rfl (fun _ H locs hp_2 hP hD hS => ?_)
      refine my_icmp_ge (x := n) (y := (g 0)) (tgt := 97) hx hb (by omega) (by omega) dX3_layStrength_7 (by decide) (fun c_3 => ?_) (fun c_3 => ?_)
      · refine lv_iconst (v := nI 1) hx hb dX3_layStrength_97 (by decide) ?_
        refine lv_istore_n (lv' := [(3, .int (nI 1)), (0, .ref (ad 0)), (1, .ref r), (2, .int (nI v))]) hx hb dX3_layStrength_98 rfl hl (by decide) rfl (fun ls hl => ?_)
        have key_99 : ∀ (fu : Nat) (f : Nat → Nat) (mo : Bool), (2 * sm f 24 + (if mo = true then 1 else 0)) < fu → (UI g v f) → (mo = false → CloU g de f (g 1)) → ∀ (H : Heap) (locs : List Loc) (ls : Array Slot), va_P (dC, dI) vwCl (gW cI ad r g de ss f) H → va_D A (gW cI ad r g de ss f) → va_S A s.heap H locs → lv_has ls 6 [(3, .int (bI mo)), (0, .ref (ad 0)), (1, .ref r), (2, .int (nI v))] → W p l e rm_X3_layStrength s m ar below meth c H locs 0 0 Qz (F0 m 99 ls []) := by
          intro fu
          induction fu with
          | zero => intro f mo hmu; exact absurd hmu (Nat.not_lt_zero _)
          | succ fu ih_99 =>
            intro f mo hmu_99 hDI hcl H locs ls hP hD hS hl
            refine lv_iload_n hx hb dX3_layStrength_99 rfl (lv_at hl 0 rfl) ?_
            refine my_if_eqB (x := mo) (tgt := 220) hx hb dX3_layStrength_100 (by decide) (fun c_5 => ?_) (fun c_5 => ?_)
            · exact ret f _ _ _ _ _ _ _ (UI_end hq ok hDI (hcl c_5)) (rfl) hP hD hS (Nat.le_of_ble_eq_true rfl) (Nat.le_of_ble_eq_true rfl) dX3_layStrength_220
            · refine lv_iconst (v := nI 0) hx hb dX3_layStrength_103 (by decide) ?_
              refine lv_istore_n (lv' := [(3, .int (nI 0)), (0, .ref (ad 0)), (1, .ref r), (2, .int (nI v))]) hx hb dX3_layStrength_104 rfl hl (by decide) rfl (fun ls hl => ?_)
              refine lv_iconst (v := nI 0) hx hb dX3_layStrength_105 (by decide) ?_
              refine lv_istore (lv' := [(4, .int (nI 0)), (3, .int (nI 0)), (0, .ref (ad 0)), (1, .ref r), (2, .int (nI v))]) hx hb dX3_layStrength_106 hl (by decide) rfl (fun ls hl => ?_)
              have key_108 : ∀ (fu : Nat) (t : Nat) (f1 : Nat → Nat) (m1 : Bool), (g 1 - t) < fu → (t ≤ g 1) → (RdU g v de f f1 m1 t) → ∀ (H : Heap) (locs : List Loc) (ls : Array Slot), va_P (dC, dI) vwCl (gW cI ad r g de ss f1) H → va_D A (gW cI ad r g de ss f1) → va_S A s.heap H locs → lv_has ls 6 [(4, .int (nI t)), (3, .int (bI m1)), (0, .ref (ad 0)), (1, .ref r), (2, .int (nI v))] → W p l e rm_X3_layStrength s m ar below meth c H locs 0 0 Qz (F0 m 108 ls []) := by
                intro fu
                induction fu with
                | zero => intro t f1 m1 hmu; exact absurd hmu (Nat.not_lt_zero _)
                | succ fu ih_108 =>
                  intro t f1 m1 hmu_108 ht hR H locs ls hP hD hS hl
                  refine lv_iload hx hb dX3_layStrength_108 (lv_at hl 0 rfl) ?_
                  refine lv_aload_n hx hb dX3_layStrength_110 rfl (lv_at hl 2 rfl) ?_
                  refine CI.callV (As := []) (rest := [.int (nI t)]) (w3 := (fun _ => gW cI ad r g de ss f1)) (c_X3_many l dC dI cI cZ cR cG ad g) ⟨hx, hb, hml, hown, hts⟩ (cwV 0 hts gX3_layStrength_X3_many rfl rfl rfl (by decide +kernel) ⟨Nat.le_of_ble_eq_true rfl, Nat.le_of_ble_eq_true rfl⟩) rfl hl.1 (Nat.le_of_ble_eq_true rfl) dX3_layStrength_111 ⟨Nat.le_of_ble_eq_true rfl, Nat.le_of_ble_eq_true rfl⟩ hA hS hP hK hD [0, 1] [2, 3, 4] rfl rfl (by decide) (by decide) (by decide) 0 3 rfl rfl [3, 4, 0, 1, 2] (by decide) (fun _ => rfl) rfl (fun _ H locs hp_7 hP hD hS => ?_)
                  refine my_icmp_ge (x := t) (y := (g 1)) (tgt := 217) hx hb (by omega) (by omega) dX3_layStrength_114 (by decide) (fun c_8 => ?_) (fun c_8 => ?_)
                  · refine lv_goto (tgt := 99) hx hb dX3_layStrength_217 (by decide) ?_
                    exact ih_99 f1 m1 (by have h9 := RdU_mu hR; rw [if_pos c_5] at hmu_99; omega) hR.1 (fun z => by rw [← show t = g 1 by omega]; exact (hR.2.2 z).2) _ _ _ hP hD hS (lv_sub hl [1, 2, 3, 4] rfl)
                  · have hst := hss t (by omega)
                    have hsl := swS_le g t
                    have hT := ok.2.2.2 t (by omega)
                    refine lv_aload_n hx hb dX3_layStrength_117 rfl (lv_at hl 2 rfl) ?_
                    refine va_get (D := (dC, dI)) (ci := 3) (v := .ref (ad 7)) (C := RX3) (T := TX3) (N := 8) hx hb hts (fun _ h9 => List.mem_cons_of_mem _ (List.mem_append_right _ h9)) hown hK hP 0 rfl rfl 6 (by decide) (hts (.fieldLink RX3 29 "SwitchLevelSimulatorModel" "states" "[I") (List.mem_of_getElem? (i := 3) rfl)) (fun _ h9 => h9) rfl dX3_layStrength_118 ?_
                    refine lv_iload hx hb dX3_layStrength_121 (lv_at hl 0 rfl) ?_
                    refine my_iald (i := t) hx hb hK hP 3 0 rfl rfl (by omega) (by decide) dX3_layStrength_123 ?_
                    refine my_if_eqN (x := (ss t)) (tgt := 211) hx hb (by omega) dX3_layStrength_124 (by decide) (fun c_9 => ?_) (fun c_9 => ?_)
                    · refine my_iinc (k := 0) (x := t) (d := 1) (lv' := [(4, .int (nI (t + 1))), (3, .int (bI m1)), (0, .ref (ad 0)), (1, .ref r), (2, .int (nI v))]) hx hb dX3_layStrength_211 hl rfl (by decide) (by decide) rfl (fun ls hl => ?_)
                      refine lv_goto (tgt := 108) hx hb dX3_layStrength_214 (by decide) ?_
                      exact ih_108 (t + 1) f1 m1 (by omega) (by omega) (RdU_k (by rw [← hst]; exact c_9) hR) _ _ _ hP hD hS (lv_sub hl [0, 1, 2, 3, 4] rfl)
                    · have c124 := c_9
                      refine lv_aload_n hx hb dX3_layStrength_127 rfl (lv_at hl 2 rfl) ?_
                      refine lv_aload_n hx hb dX3_layStrength_128 rfl (lv_at hl 3 rfl) ?_
                      refine lv_iload hx hb dX3_layStrength_129 (lv_at hl 0 rfl) ?_
                      refine lv_aload_n hx hb dX3_layStrength_131 rfl (lv_at hl 2 rfl) ?_
                      refine va_get (D := (dC, dI)) (ci := 3) (v := .ref (ad 1)) (C := RX3) (T := TX3) (N := 8) hx hb hts (fun _ h9 => List.mem_cons_of_mem _ (List.mem_append_right _ h9)) hown hK hP 0 rfl rfl 0 (by decide) (hts (.fieldLink RX3 7 "SwitchLevelSimulatorModel" "state" "[I") (List.mem_of_getElem? (i := 1) rfl)) (fun _ h9 => h9) rfl dX3_layStrength_132 ?_
                      refine lv_sipush (v := nI 170) hx hb dX3_layStrength_135 (by decide) ?_
                      refine lv_iload hx hb dX3_layStrength_138 (lv_at hl 0 rfl) ?_
                      refine my_iadd (x := 170) (y := t) hx hb dX3_layStrength_140 ?_
                      refine my_iald (i := (170 + t)) hx hb hK hP 1 0 rfl rfl (by omega) (by decide) dX3_layStrength_141 ?_
                      refine lv_aload_n hx hb dX3_layStrength_142 rfl (lv_at hl 2 rfl) ?_
                      refine va_get (D := (dC, dI)) (ci := 3) (v := .ref (ad 1)) (C := RX3) (T := TX3) (N := 8) hx hb hts (fun _ h9 => List.mem_cons_of_mem _ (List.mem_append_right _ h9)) hown hK hP 0 rfl rfl 0 (by decide) (hts (.fieldLink RX3 7 "SwitchLevelSimulatorModel" "state" "[I") (List.mem_of_getElem? (i := 1) rfl)) (fun _ h9 => h9) rfl dX3_layStrength_143 ?_
                      refine lv_sipush (v := nI 210) hx hb dX3_layStrength_146 (by decide) ?_
                      refine lv_iload hx hb dX3_layStrength_149 (lv_at hl 0 rfl) ?_
                      refine my_iadd (x := 210) (y := t) hx hb dX3_layStrength_151 ?_
                      refine my_iald (i := (210 + t)) hx hb hK hP 1 0 rfl rfl (by omega) (by decide) dX3_layStrength_152 ?_
                      refine CI.callV (As := [.ref r, .int (nI t), .int (nI (g (170 + t))), .int (nI (g (210 + t)))]) (rest := []) (w3 := (fun _ => gW cI ad r g de ss (nxU g de f1 t (g (170 + t)) (g (210 + t))))) (c_X3_grow l dC dI cI cZ cR cG ad r g de ss f1 t (g (170 + t)) (g (210 + t)) (by omega) (by have h9 := ok.2.2.2 t (by omega); omega) (by have h9 := ok.2.2.2 t (by omega); omega) (⟨(ok.2.2.1 _ (by have h9 := ok.2.2.2 t (by omega); omega)).1, by have h9 := ok.2.2.2 t (by omega); omega⟩) (⟨by have h9 := (hR.1 _ (show g (170 + t) < g 0 by omega)).2; have h8 := u_le7 ok v (g (170 + t)); omega, by have h9 := (hR.1 _ (show g (210 + t) < g 0 by omega)).2; have h8 := u_le7 ok v (g (210 + t)); omega, by have h9 := hq _ (show g (210 + t) < g 0 by omega); have h8 := q_le7 ok (g (210 + t)); omega⟩)) ⟨hx, hb, hml, hown, hts⟩ (cwV 4 hts gX3_layStrength_X3_grow rfl rfl rfl (by decide +kernel) ⟨Nat.le_of_ble_eq_true rfl, Nat.le_of_ble_eq_true rfl⟩) rfl hl.1 (Nat.le_of_ble_eq_true rfl) dX3_layStrength_153 ⟨Nat.le_of_ble_eq_true rfl, Nat.le_of_ble_eq_true rfl⟩ hA hS hP hK hD [0, 1, 2, 3, 4] [] rfl rfl (by decide) (by decide) (by decide) 0 3 rfl rfl [0, 1, 2, 3, 4] (by decide) (fun _ => rfl) rfl (fun _ H locs hp_10 hP hD hS => ?_)
                      refine my_if_neB (x := (grU g de f1 t (g (170 + t)) (g (210 + t)))) (tgt := 163) hx hb dX3_layStrength_156 (by decide) (fun c_11 => ?_) (fun c_11 => ?_)
                      · refine lv_iconst (v := nI 1) hx hb dX3_layStrength_163 (by decide) ?_
                        refine lv_goto (tgt := 168) hx hb dX3_layStrength_164 (by decide) ?_
                        refine lv_istore_n (lv' := [(3, .int (nI 1)), (4, .int (nI t)), (0, .ref (ad 0)), (1, .ref r), (2, .int (nI v))]) hx hb dX3_layStrength_168 rfl hl (by decide) rfl (fun ls hl => ?_)
                        refine lv_aload_n hx hb dX3_layStrength_169 rfl (lv_at hl 2 rfl) ?_
                        refine lv_aload_n hx hb dX3_layStrength_170 rfl (lv_at hl 3 rfl) ?_
                        refine lv_iload hx hb dX3_layStrength_171 (lv_at hl 1 rfl) ?_
                        refine lv_aload_n hx hb dX3_layStrength_173 rfl (lv_at hl 2 rfl) ?_
                        refine va_get (D := (dC, dI)) (ci := 3) (v := .ref (ad 1)) (C := RX3) (T := TX3) (N := 8) hx hb hts (fun _ h9 => List.mem_cons_of_mem _ (List.mem_append_right _ h9)) hown hK hP 0 rfl rfl 0 (by decide) (hts (.fieldLink RX3 7 "SwitchLevelSimulatorModel" "state" "[I") (List.mem_of_getElem? (i := 1) rfl)) (fun _ h9 => h9) rfl dX3_layStrength_174 ?_
                        refine lv_sipush (v := nI 210) hx hb dX3_layStrength_177 (by decide) ?_
                        refine lv_iload hx hb dX3_layStrength_180 (lv_at hl 1 rfl) ?_
                        refine my_iadd (x := 210) (y := t) hx hb dX3_layStrength_182 ?_
                        refine my_iald (i := (210 + t)) hx hb hK hP 1 0 rfl rfl (by omega) (by decide) dX3_layStrength_183 ?_
                        refine lv_aload_n hx hb dX3_layStrength_184 rfl (lv_at hl 2 rfl) ?_
                        refine va_get (D := (dC, dI)) (ci := 3) (v := .ref (ad 1)) (C := RX3) (T := TX3) (N := 8) hx hb hts (fun _ h9 => List.mem_cons_of_mem _ (List.mem_append_right _ h9)) hown hK hP 0 rfl rfl 0 (by decide) (hts (.fieldLink RX3 7 "SwitchLevelSimulatorModel" "state" "[I") (List.mem_of_getElem? (i := 1) rfl)) (fun _ h9 => h9) rfl dX3_layStrength_185 ?_
                        refine lv_sipush (v := nI 170) hx hb dX3_layStrength_188 (by decide) ?_
                        refine lv_iload hx hb dX3_layStrength_191 (lv_at hl 1 rfl) ?_
                        refine my_iadd (x := 170) (y := t) hx hb dX3_layStrength_193 ?_
                        refine my_iald (i := (170 + t)) hx hb hK hP 1 0 rfl rfl (by omega) (by decide) dX3_layStrength_194 ?_
                        refine CI.callV (As := [.ref r, .int (nI t), .int (nI (g (210 + t))), .int (nI (g (170 + t)))]) (rest := []) (w3 := (fun _ => gW cI ad r g de ss (nxU g de (nxU g de f1 t (g (170 + t)) (g (210 + t))) t (g (210 + t)) (g (170 + t))))) (c_X3_grow l dC dI cI cZ cR cG ad r g de ss (nxU g de f1 t (g (170 + t)) (g (210 + t))) t (g (210 + t)) (g (170 + t)) (by omega) (by have h9 := ok.2.2.2 t (by omega); omega) (by have h9 := ok.2.2.2 t (by omega); omega) (⟨(ok.2.2.1 _ (by have h9 := ok.2.2.2 t (by omega); omega)).1, by have h9 := ok.2.2.2 t (by omega); omega⟩) (⟨by have h9 := ((UI_nx ok hq hR.1 (show t < g 1 by omega) (by rw [← hst]; exact c124) (edg_1 g t)) _ (show g (210 + t) < g 0 by omega)).2; have h8 := u_le7 ok v (g (210 + t)); omega, by have h9 := ((UI_nx ok hq hR.1 (show t < g 1 by omega) (by rw [← hst]; exact c124) (edg_1 g t)) _ (show g (170 + t) < g 0 by omega)).2; have h8 := u_le7 ok v (g (170 + t)); omega, by have h9 := hq _ (show g (170 + t) < g 0 by omega); have h8 := q_le7 ok (g (170 + t)); omega⟩)) ⟨hx, hb, hml, hown, hts⟩ (cwV 4 hts gX3_layStrength_X3_grow rfl rfl rfl (by decide +kernel) ⟨Nat.le_of_ble_eq_true rfl, Nat.le_of_ble_eq_true rfl⟩) rfl hl.1 (Nat.le_of_ble_eq_true rfl) dX3_layStrength_195 ⟨Nat.le_of_ble_eq_true rfl, Nat.le_of_ble_eq_true rfl⟩ hA hS hP hK hD [0, 1, 2, 3, 4] [] rfl rfl (by decide) (by decide) (by decide) 0 3 rfl rfl [0, 1, 2, 3, 4] (by decide) (fun _ => rfl) rfl (fun _ H locs hp_12 hP hD hS => ?_)
                        refine my_if_neB (x := (grU g de (nxU g de f1 t (g (170 + t)) (g (210 + t))) t (g (210 + t)) (g (170 + t)))) (tgt := 205) hx hb dX3_layStrength_198 (by decide) (fun c_13 => ?_) (fun c_13 => ?_)
                        · refine lv_iconst (v := nI 1) hx hb dX3_layStrength_205 (by decide) ?_
                          refine lv_goto (tgt := 210) hx hb dX3_layStrength_206 (by decide) ?_
                          refine lv_istore_n (lv' := [(3, .int (nI 1)), (4, .int (nI t)), (0, .ref (ad 0)), (1, .ref r), (2, .int (nI v))]) hx hb dX3_layStrength_210 rfl hl (by decide) rfl (fun ls hl => ?_)
                          refine my_iinc (k := 1) (x := t) (d := 1) (lv' := [(4, .int (nI (t + 1))), (3, .int (nI 1)), (0, .ref (ad 0)), (1, .ref r), (2, .int (nI v))]) hx hb dX3_layStrength_211 hl rfl (by decide) (by decide) rfl (fun ls hl => ?_)
                          refine lv_goto (tgt := 108) hx hb dX3_layStrength_214 (by decide) ?_
                          exact ih_108 (t + 1) (nxU g de (nxU g de f1 t (g (170 + t)) (g (210 + t))) t (g (210 + t)) (g (170 + t))) true (by omega) (by omega) (by have h9 := RdU_s ok hq (show t < g 1 by omega) (by rw [← hst]; exact c_9) hR rfl rfl; simpa only [c_11, c_13, Bool.true_or, Bool.or_true, Bool.false_or, Bool.or_false] using h9) _ _ _ hP hD hS (lv_sub hl [0, 1, 2, 3, 4] rfl)
                        · refine lv_iload_n hx hb dX3_layStrength_201 rfl (lv_at hl 0 rfl) ?_
                          refine my_if_eqN (x := 1) (tgt := 209) hx hb (by omega) dX3_layStrength_202 (by decide) (fun c_14 => absurd c_14 (by decide)) (fun _ => ?_)
                          refine lv_iconst (v := nI 1) hx hb dX3_layStrength_205 (by decide) ?_
                          refine lv_goto (tgt := 210) hx hb dX3_layStrength_206 (by decide) ?_
                          refine lv_istore_n (lv' := [(3, .int (nI 1)), (4, .int (nI t)), (0, .ref (ad 0)), (1, .ref r), (2, .int (nI v))]) hx hb dX3_layStrength_210 rfl hl (by decide) rfl (fun ls hl => ?_)
                          refine my_iinc (k := 1) (x := t) (d := 1) (lv' := [(4, .int (nI (t + 1))), (3, .int (nI 1)), (0, .ref (ad 0)), (1, .ref r), (2, .int (nI v))]) hx hb dX3_layStrength_211 hl rfl (by decide) (by decide) rfl (fun ls hl => ?_)
                          refine lv_goto (tgt := 108) hx hb dX3_layStrength_214 (by decide) ?_
                          exact ih_108 (t + 1) (nxU g de (nxU g de f1 t (g (170 + t)) (g (210 + t))) t (g (210 + t)) (g (170 + t))) true (by omega) (by omega) (by have h9 := RdU_s ok hq (show t < g 1 by omega) (by rw [← hst]; exact c_9) hR rfl rfl; simpa only [c_11, c_13, Bool.true_or, Bool.or_true, Bool.false_or, Bool.or_false] using h9) _ _ _ hP hD hS (lv_sub hl [0, 1, 2, 3, 4] rfl)
                      · refine lv_iload_n hx hb dX3_layStrength_159 rfl (lv_at hl 1 rfl) ?_
                        refine my_if_eqB (x := m1) (tgt := 167) hx hb dX3_layStrength_160 (by decide) (fun c_15 => ?_) (fun c_15 => ?_)
                        · refine lv_iconst (v := nI 0) hx hb dX3_layStrength_167 (by decide) ?_
                          refine lv_istore_n (lv' := [(3, .int (nI 0)), (4, .int (nI t)), (0, .ref (ad 0)), (1, .ref r), (2, .int (nI v))]) hx hb dX3_layStrength_168 rfl hl (by decide) rfl (fun ls hl => ?_)
                          refine lv_aload_n hx hb dX3_layStrength_169 rfl (lv_at hl 2 rfl) ?_
                          refine lv_aload_n hx hb dX3_layStrength_170 rfl (lv_at hl 3 rfl) ?_
                          refine lv_iload hx hb dX3_layStrength_171 (lv_at hl 1 rfl) ?_
                          refine lv_aload_n hx hb dX3_layStrength_173 rfl (lv_at hl 2 rfl) ?_
                          refine va_get (D := (dC, dI)) (ci := 3) (v := .ref (ad 1)) (C := RX3) (T := TX3) (N := 8) hx hb hts (fun _ h9 => List.mem_cons_of_mem _ (List.mem_append_right _ h9)) hown hK hP 0 rfl rfl 0 (by decide) (hts (.fieldLink RX3 7 "SwitchLevelSimulatorModel" "state" "[I") (List.mem_of_getElem? (i := 1) rfl)) (fun _ h9 => h9) rfl dX3_layStrength_174 ?_
                          refine lv_sipush (v := nI 210) hx hb dX3_layStrength_177 (by decide) ?_
                          refine lv_iload hx hb dX3_layStrength_180 (lv_at hl 1 rfl) ?_
                          refine my_iadd (x := 210) (y := t) hx hb dX3_layStrength_182 ?_
                          refine my_iald (i := (210 + t)) hx hb hK hP 1 0 rfl rfl (by omega) (by decide) dX3_layStrength_183 ?_
                          refine lv_aload_n hx hb dX3_layStrength_184 rfl (lv_at hl 2 rfl) ?_
                          refine va_get (D := (dC, dI)) (ci := 3) (v := .ref (ad 1)) (C := RX3) (T := TX3) (N := 8) hx hb hts (fun _ h9 => List.mem_cons_of_mem _ (List.mem_append_right _ h9)) hown hK hP 0 rfl rfl 0 (by decide) (hts (.fieldLink RX3 7 "SwitchLevelSimulatorModel" "state" "[I") (List.mem_of_getElem? (i := 1) rfl)) (fun _ h9 => h9) rfl dX3_layStrength_185 ?_
                          refine lv_sipush (v := nI 170) hx hb dX3_layStrength_188 (by decide) ?_
                          refine lv_iload hx hb dX3_layStrength_191 (lv_at hl 1 rfl) ?_
                          refine my_iadd (x := 170) (y := t) hx hb dX3_layStrength_193 ?_
                          refine my_iald (i := (170 + t)) hx hb hK hP 1 0 rfl rfl (by omega) (by decide) dX3_layStrength_194 ?_
                          refine CI.callV (As := [.ref r, .int (nI t), .int (nI (g (210 + t))), .int (nI (g (170 + t)))]) (rest := []) (w3 := (fun _ => gW cI ad r g de ss (nxU g de (nxU g de f1 t (g (170 + t)) (g (210 + t))) t (g (210 + t)) (g (170 + t))))) (c_X3_grow l dC dI cI cZ cR cG ad r g de ss (nxU g de f1 t (g (170 + t)) (g (210 + t))) t (g (210 + t)) (g (170 + t)) (by omega) (by have h9 := ok.2.2.2 t (by omega); omega) (by have h9 := ok.2.2.2 t (by omega); omega) (⟨(ok.2.2.1 _ (by have h9 := ok.2.2.2 t (by omega); omega)).1, by have h9 := ok.2.2.2 t (by omega); omega⟩) (⟨by have h9 := ((UI_nx ok hq hR.1 (show t < g 1 by omega) (by rw [← hst]; exact c124) (edg_1 g t)) _ (show g (210 + t) < g 0 by omega)).2; have h8 := u_le7 ok v (g (210 + t)); omega, by have h9 := ((UI_nx ok hq hR.1 (show t < g 1 by omega) (by rw [← hst]; exact c124) (edg_1 g t)) _ (show g (170 + t) < g 0 by omega)).2; have h8 := u_le7 ok v (g (170 + t)); omega, by have h9 := hq _ (show g (170 + t) < g 0 by omega); have h8 := q_le7 ok (g (170 + t)); omega⟩)) ⟨hx, hb, hml, hown, hts⟩ (cwV 4 hts gX3_layStrength_X3_grow rfl rfl rfl (by decide +kernel) ⟨Nat.le_of_ble_eq_true rfl, Nat.le_of_ble_eq_true rfl⟩) rfl hl.1 (Nat.le_of_ble_eq_true rfl) dX3_layStrength_195 ⟨Nat.le_of_ble_eq_true rfl, Nat.le_of_ble_eq_true rfl⟩ hA hS hP hK hD [0, 1, 2, 3, 4] [] rfl rfl (by decide) (by decide) (by decide) 0 3 rfl rfl [0, 1, 2, 3, 4] (by decide) (fun _ => rfl) rfl (fun _ H locs hp_16 hP hD hS => ?_)
                          refine my_if_neB (x := (grU g de (nxU g de f1 t (g (170 + t)) (g (210 + t))) t (g (210 + t)) (g (170 + t)))) (tgt := 205) hx hb dX3_layStrength_198 (by decide) (fun c_17 => ?_) (fun c_17 => ?_)
                          · refine lv_iconst (v := nI 1) hx hb dX3_layStrength_205 (by decide) ?_
                            refine lv_goto (tgt := 210) hx hb dX3_layStrength_206 (by decide) ?_
                            refine lv_istore_n (lv' := [(3, .int (nI 1)), (4, .int (nI t)), (0, .ref (ad 0)), (1, .ref r), (2, .int (nI v))]) hx hb dX3_layStrength_210 rfl hl (by decide) rfl (fun ls hl => ?_)
                            refine my_iinc (k := 1) (x := t) (d := 1) (lv' := [(4, .int (nI (t + 1))), (3, .int (nI 1)), (0, .ref (ad 0)), (1, .ref r), (2, .int (nI v))]) hx hb dX3_layStrength_211 hl rfl (by decide) (by decide) rfl (fun ls hl => ?_)
                            refine lv_goto (tgt := 108) hx hb dX3_layStrength_214 (by decide) ?_
                            exact ih_108 (t + 1) (nxU g de (nxU g de f1 t (g (170 + t)) (g (210 + t))) t (g (210 + t)) (g (170 + t))) true (by omega) (by omega) (by have h9 := RdU_s ok hq (show t < g 1 by omega) (by rw [← hst]; exact c_9) hR rfl rfl; simpa only [c_11, c_15, c_17, Bool.true_or, Bool.or_true, Bool.false_or, Bool.or_false] using h9) _ _ _ hP hD hS (lv_sub hl [0, 1, 2, 3, 4] rfl)
                          · refine lv_iload_n hx hb dX3_layStrength_201 rfl (lv_at hl 0 rfl) ?_
                            refine my_if_eqN (x := 0) (tgt := 209) hx hb (by omega) dX3_layStrength_202 (by decide) (fun _ => ?_) (fun c_18 => absurd c_18 (by decide))
                            refine lv_iconst (v := nI 0) hx hb dX3_layStrength_209 (by decide) ?_
                            refine lv_istore_n (lv' := [(3, .int (nI 0)), (4, .int (nI t)), (0, .ref (ad 0)), (1, .ref r), (2, .int (nI v))]) hx hb dX3_layStrength_210 rfl hl (by decide) rfl (fun ls hl => ?_)
                            refine my_iinc (k := 1) (x := t) (d := 1) (lv' := [(4, .int (nI (t + 1))), (3, .int (nI 0)), (0, .ref (ad 0)), (1, .ref r), (2, .int (nI v))]) hx hb dX3_layStrength_211 hl rfl (by decide) (by decide) rfl (fun ls hl => ?_)
                            refine lv_goto (tgt := 108) hx hb dX3_layStrength_214 (by decide) ?_
                            exact ih_108 (t + 1) (nxU g de (nxU g de f1 t (g (170 + t)) (g (210 + t))) t (g (210 + t)) (g (170 + t))) false (by omega) (by omega) (by have h9 := RdU_s ok hq (show t < g 1 by omega) (by rw [← hst]; exact c_9) hR rfl rfl; simpa only [c_11, c_15, c_17, Bool.true_or, Bool.or_true, Bool.false_or, Bool.or_false] using h9) _ _ _ hP hD hS (lv_sub hl [0, 1, 2, 3, 4] rfl)
                        · refine lv_iconst (v := nI 1) hx hb dX3_layStrength_163 (by decide) ?_
                          refine lv_goto (tgt := 168) hx hb dX3_layStrength_164 (by decide) ?_
                          refine lv_istore_n (lv' := [(3, .int (nI 1)), (4, .int (nI t)), (0, .ref (ad 0)), (1, .ref r), (2, .int (nI v))]) hx hb dX3_layStrength_168 rfl hl (by decide) rfl (fun ls hl => ?_)
                          refine lv_aload_n hx hb dX3_layStrength_169 rfl (lv_at hl 2 rfl) ?_
                          refine lv_aload_n hx hb dX3_layStrength_170 rfl (lv_at hl 3 rfl) ?_
                          refine lv_iload hx hb dX3_layStrength_171 (lv_at hl 1 rfl) ?_
                          refine lv_aload_n hx hb dX3_layStrength_173 rfl (lv_at hl 2 rfl) ?_
                          refine va_get (D := (dC, dI)) (ci := 3) (v := .ref (ad 1)) (C := RX3) (T := TX3) (N := 8) hx hb hts (fun _ h9 => List.mem_cons_of_mem _ (List.mem_append_right _ h9)) hown hK hP 0 rfl rfl 0 (by decide) (hts (.fieldLink RX3 7 "SwitchLevelSimulatorModel" "state" "[I") (List.mem_of_getElem? (i := 1) rfl)) (fun _ h9 => h9) rfl dX3_layStrength_174 ?_
                          refine lv_sipush (v := nI 210) hx hb dX3_layStrength_177 (by decide) ?_
                          refine lv_iload hx hb dX3_layStrength_180 (lv_at hl 1 rfl) ?_
                          refine my_iadd (x := 210) (y := t) hx hb dX3_layStrength_182 ?_
                          refine my_iald (i := (210 + t)) hx hb hK hP 1 0 rfl rfl (by omega) (by decide) dX3_layStrength_183 ?_
                          refine lv_aload_n hx hb dX3_layStrength_184 rfl (lv_at hl 2 rfl) ?_
                          refine va_get (D := (dC, dI)) (ci := 3) (v := .ref (ad 1)) (C := RX3) (T := TX3) (N := 8) hx hb hts (fun _ h9 => List.mem_cons_of_mem _ (List.mem_append_right _ h9)) hown hK hP 0 rfl rfl 0 (by decide) (hts (.fieldLink RX3 7 "SwitchLevelSimulatorModel" "state" "[I") (List.mem_of_getElem? (i := 1) rfl)) (fun _ h9 => h9) rfl dX3_layStrength_185 ?_
                          refine lv_sipush (v := nI 170) hx hb dX3_layStrength_188 (by decide) ?_
                          refine lv_iload hx hb dX3_layStrength_191 (lv_at hl 1 rfl) ?_
                          refine my_iadd (x := 170) (y := t) hx hb dX3_layStrength_193 ?_
                          refine my_iald (i := (170 + t)) hx hb hK hP 1 0 rfl rfl (by omega) (by decide) dX3_layStrength_194 ?_
                          refine CI.callV (As := [.ref r, .int (nI t), .int (nI (g (210 + t))), .int (nI (g (170 + t)))]) (rest := []) (w3 := (fun _ => gW cI ad r g de ss (nxU g de (nxU g de f1 t (g (170 + t)) (g (210 + t))) t (g (210 + t)) (g (170 + t))))) (c_X3_grow l dC dI cI cZ cR cG ad r g de ss (nxU g de f1 t (g (170 + t)) (g (210 + t))) t (g (210 + t)) (g (170 + t)) (by omega) (by have h9 := ok.2.2.2 t (by omega); omega) (by have h9 := ok.2.2.2 t (by omega); omega) (⟨(ok.2.2.1 _ (by have h9 := ok.2.2.2 t (by omega); omega)).1, by have h9 := ok.2.2.2 t (by omega); omega⟩) (⟨by have h9 := ((UI_nx ok hq hR.1 (show t < g 1 by omega) (by rw [← hst]; exact c124) (edg_1 g t)) _ (show g (210 + t) < g 0 by omega)).2; have h8 := u_le7 ok v (g (210 + t)); omega, by have h9 := ((UI_nx ok hq hR.1 (show t < g 1 by omega) (by rw [← hst]; exact c124) (edg_1 g t)) _ (show g (170 + t) < g 0 by omega)).2; have h8 := u_le7 ok v (g (170 + t)); omega, by have h9 := hq _ (show g (170 + t) < g 0 by omega); have h8 := q_le7 ok (g (170 + t)); omega⟩)) ⟨hx, hb, hml, hown, hts⟩ (cwV 4 hts gX3_layStrength_X3_grow rfl rfl rfl (by decide +kernel) ⟨Nat.le_of_ble_eq_true rfl, Nat.le_of_ble_eq_true rfl⟩) rfl hl.1 (Nat.le_of_ble_eq_true rfl) dX3_layStrength_195 ⟨Nat.le_of_ble_eq_true rfl, Nat.le_of_ble_eq_true rfl⟩ hA hS hP hK hD [0, 1, 2, 3, 4] [] rfl rfl (by decide) (by decide) (by decide) 0 3 rfl rfl [0, 1, 2, 3, 4] (by decide) (fun _ => rfl) rfl (fun _ H locs hp_19 hP hD hS => ?_)
                          refine my_if_neB (x := (grU g de (nxU g de f1 t (g (170 + t)) (g (210 + t))) t (g (210 + t)) (g (170 + t)))) (tgt := 205) hx hb dX3_layStrength_198 (by decide) (fun c_20 => ?_) (fun c_20 => ?_)
                          · refine lv_iconst (v := nI 1) hx hb dX3_layStrength_205 (by decide) ?_
                            refine lv_goto (tgt := 210) hx hb dX3_layStrength_206 (by decide) ?_
                            refine lv_istore_n (lv' := [(3, .int (nI 1)), (4, .int (nI t)), (0, .ref (ad 0)), (1, .ref r), (2, .int (nI v))]) hx hb dX3_layStrength_210 rfl hl (by decide) rfl (fun ls hl => ?_)
                            refine my_iinc (k := 1) (x := t) (d := 1) (lv' := [(4, .int (nI (t + 1))), (3, .int (nI 1)), (0, .ref (ad 0)), (1, .ref r), (2, .int (nI v))]) hx hb dX3_layStrength_211 hl rfl (by decide) (by decide) rfl (fun ls hl => ?_)
                            refine lv_goto (tgt := 108) hx hb dX3_layStrength_214 (by decide) ?_
                            exact ih_108 (t + 1) (nxU g de (nxU g de f1 t (g (170 + t)) (g (210 + t))) t (g (210 + t)) (g (170 + t))) true (by omega) (by omega) (by have h9 := RdU_s ok hq (show t < g 1 by omega) (by rw [← hst]; exact c_9) hR rfl rfl; simpa only [c_11, c_15, c_20, Bool.true_or, Bool.or_true, Bool.false_or, Bool.or_false] using h9) _ _ _ hP hD hS (lv_sub hl [0, 1, 2, 3, 4] rfl)
                          · refine lv_iload_n hx hb dX3_layStrength_201 rfl (lv_at hl 0 rfl) ?_
                            refine my_if_eqN (x := 1) (tgt := 209) hx hb (by omega) dX3_layStrength_202 (by decide) (fun c_21 => absurd c_21 (by decide)) (fun _ => ?_)
                            refine lv_iconst (v := nI 1) hx hb dX3_layStrength_205 (by decide) ?_
                            refine lv_goto (tgt := 210) hx hb dX3_layStrength_206 (by decide) ?_
                            refine lv_istore_n (lv' := [(3, .int (nI 1)), (4, .int (nI t)), (0, .ref (ad 0)), (1, .ref r), (2, .int (nI v))]) hx hb dX3_layStrength_210 rfl hl (by decide) rfl (fun ls hl => ?_)
                            refine my_iinc (k := 1) (x := t) (d := 1) (lv' := [(4, .int (nI (t + 1))), (3, .int (nI 1)), (0, .ref (ad 0)), (1, .ref r), (2, .int (nI v))]) hx hb dX3_layStrength_211 hl rfl (by decide) (by decide) rfl (fun ls hl => ?_)
                            refine lv_goto (tgt := 108) hx hb dX3_layStrength_214 (by decide) ?_
                            exact ih_108 (t + 1) (nxU g de (nxU g de f1 t (g (170 + t)) (g (210 + t))) t (g (210 + t)) (g (170 + t))) true (by omega) (by omega) (by have h9 := RdU_s ok hq (show t < g 1 by omega) (by rw [← hst]; exact c_9) hR rfl rfl; simpa only [c_11, c_15, c_20, Bool.true_or, Bool.or_true, Bool.false_or, Bool.or_false] using h9) _ _ _ hP hD hS (lv_sub hl [0, 1, 2, 3, 4] rfl)
              exact key_108 _ 0 f false (Nat.lt_succ_self _) (Nat.zero_le _) (RdU_0 hDI) _ _ _ hP hD hS (lv_sub hl [0, 1, 2, 3, 4] rfl)
        exact key_99 _ f true (Nat.lt_succ_self _) (UI_0 ok (by omega) hf) (fun z => (by cases z)) _ _ _ hP hD hS (lv_sub hl [0, 1, 2, 3] rfl)
      · have hv2 := (ok.2.2.1 n (by omega)).2
        have hb3 := (ok.2.2.1 n (by omega)).1
        have hqn := hq n (by omega)
        have hq7 := q_le7 ok n
        refine lv_aload_n hx hb dX3_layStrength_10 rfl (lv_at hl 1 rfl) ?_
        refine va_get (D := (dC, dI)) (ci := 3) (v := .ref (ad 1)) (C := RX3) (T := TX3) (N := 8) hx hb hts (fun _ h9 => List.mem_cons_of_mem _ (List.mem_append_right _ h9)) hown hK hP 0 rfl rfl 0 (by decide) (hts (.fieldLink RX3 7 "SwitchLevelSimulatorModel" "state" "[I") (List.mem_of_getElem? (i := 1) rfl)) (fun _ h9 => h9) rfl dX3_layStrength_11 ?_
        refine lv_bipush (v := nI 26) hx hb dX3_layStrength_14 (by decide) ?_
        refine lv_iload_n hx hb dX3_layStrength_16 rfl (lv_at hl 0 rfl) ?_
        refine my_iadd (x := 26) (y := n) hx hb dX3_layStrength_17 ?_
        refine my_iald (i := (26 + n)) hx hb hK hP 1 0 rfl rfl (by omega) (by decide) dX3_layStrength_18 ?_
        refine lv_iload_n hx hb dX3_layStrength_19 rfl (lv_at hl 3 rfl) ?_
        refine my_icmp_eq (x := (g (26 + n))) (y := v) (tgt := 36) hx hb (by omega) (by omega) dX3_layStrength_20 (by decide) (fun c_22 => ?_) (fun c_22 => ?_)
        · refine lv_iconst (v := nI 1) hx hb dX3_layStrength_36 (by decide) ?_
          refine lv_goto (tgt := 41) hx hb dX3_layStrength_37 (by decide) ?_
          refine lv_istore (lv' := [(4, .int (nI 1)), (3, .int (nI n)), (0, .ref (ad 0)), (1, .ref r), (2, .int (nI v))]) hx hb dX3_layStrength_41 hl (by decide) rfl (fun ls hl => ?_)
          refine lv_aload_n hx hb dX3_layStrength_43 rfl (lv_at hl 2 rfl) ?_
          refine lv_iload_n hx hb dX3_layStrength_44 rfl (lv_at hl 1 rfl) ?_
          refine CI.callV (As := [.int (nI n)]) (rest := []) (w3 := (fun _ => gW cI ad r g de ss f)) (c_X3_isInput l dC dI cI cZ cR cG ad g n (by omega) ((ok.2.2.1 _ (by omega)).1)) ⟨hx, hb, hml, hown, hts⟩ (cwV 1 hts gX3_layStrength_X3_isInput rfl rfl rfl (by decide +kernel) ⟨Nat.le_of_ble_eq_true rfl, Nat.le_of_ble_eq_true rfl⟩) rfl hl.1 (Nat.le_of_ble_eq_true rfl) dX3_layStrength_45 ⟨Nat.le_of_ble_eq_true rfl, Nat.le_of_ble_eq_true rfl⟩ hA hS hP hK hD [0, 1] [2, 3, 4] rfl rfl (by decide) (by decide) (by decide) 0 3 rfl rfl [3, 4, 0, 1, 2] (by decide) (fun _ => rfl) rfl (fun _ H locs hp_23 hP hD hS => ?_)
          refine my_if_eqB (x := (decide (g (2 + n) = 0))) (tgt := 56) hx hb dX3_layStrength_48 (by decide) (fun c_24 => ?_) (fun c_24 => ?_)
          · refine lv_aload_n hx hb dX3_layStrength_56 rfl (lv_at hl 2 rfl) ?_
            refine va_get (D := (dC, dI)) (ci := 3) (v := .ref (ad 1)) (C := RX3) (T := TX3) (N := 8) hx hb hts (fun _ h9 => List.mem_cons_of_mem _ (List.mem_append_right _ h9)) hown hK hP 0 rfl rfl 0 (by decide) (hts (.fieldLink RX3 7 "SwitchLevelSimulatorModel" "state" "[I") (List.mem_of_getElem? (i := 1) rfl)) (fun _ h9 => h9) rfl dX3_layStrength_57 ?_
            refine lv_iconst (v := nI 2) hx hb dX3_layStrength_60 (by decide) ?_
            refine lv_iload_n hx hb dX3_layStrength_61 rfl (lv_at hl 1 rfl) ?_
            refine my_iadd (x := 2) (y := n) hx hb dX3_layStrength_62 ?_
            refine my_iald (i := (2 + n)) hx hb hK hP 1 0 rfl rfl (by omega) (by decide) dX3_layStrength_63 ?_
            refine lv_istore (lv' := [(5, .int (nI (g (2 + n)))), (4, .int (nI 1)), (3, .int (nI n)), (0, .ref (ad 0)), (1, .ref r), (2, .int (nI v))]) hx hb dX3_layStrength_64 hl (by decide) rfl (fun ls hl => ?_)
            refine lv_aload_n hx hb dX3_layStrength_66 rfl (lv_at hl 4 rfl) ?_
            refine lv_iload_n hx hb dX3_layStrength_67 rfl (lv_at hl 2 rfl) ?_
            refine lv_iload hx hb dX3_layStrength_68 (lv_at hl 1 rfl) ?_
            refine my_if_eqN (x := 1) (tgt := 89) hx hb (by omega) dX3_layStrength_70 (by decide) (fun c_25 => absurd c_25 (by decide)) (fun _ => ?_)
            refine lv_iload hx hb dX3_layStrength_73 (lv_at hl 0 rfl) ?_
            refine lv_aload_n hx hb dX3_layStrength_75 rfl (lv_at hl 3 rfl) ?_
            refine va_get (D := (dC, dI)) (ci := 3) (v := .ref (ad 4)) (C := RX3) (T := TX3) (N := 8) hx hb hts (fun _ h9 => List.mem_cons_of_mem _ (List.mem_append_right _ h9)) hown hK hP 0 rfl rfl 3 (by decide) (hts (.fieldLink RX3 20 "SwitchLevelSimulatorModel" "definite" "[I") (List.mem_of_getElem? (i := 2) rfl)) (fun _ h9 => h9) rfl dX3_layStrength_76 ?_
            refine lv_iload_n hx hb dX3_layStrength_79 rfl (lv_at hl 2 rfl) ?_
            refine my_iald (i := n) hx hb hK hP 2 0 rfl rfl (by omega) (by decide) dX3_layStrength_80 ?_
            refine my_icmp_lt (x := (g (2 + n))) (y := (de n)) (tgt := 89) hx hb (by omega) (by omega) dX3_layStrength_81 (by decide) (fun c_26 => ?_) (fun c_26 => ?_)
            · refine lv_iconst (v := nI 0) hx hb dX3_layStrength_89 (by decide) ?_
              refine my_iastN (i := n) (x := 0) (g := f) (ws' := gW cI ad r g de ss (up1 f n 0)) hx hb hK hP hD hS 4 0 rfl rfl (by omega) (by decide) dX3_layStrength_90 rfl (fun H locs hP hD hS => ?_)
              refine my_iinc (k := 2) (x := n) (d := 1) (lv' := [(3, .int (nI (n + 1))), (5, .int (nI (g (2 + n)))), (4, .int (nI 1)), (0, .ref (ad 0)), (1, .ref r), (2, .int (nI v))]) hx hb dX3_layStrength_91 hl rfl (by decide) (by decide) rfl (fun ls hl => ?_)
              refine lv_goto (tgt := 2) hx hb dX3_layStrength_94 (by decide) ?_
              exact ih_2 (n + 1) (up1 f n 0) (by omega) (by omega) (fill_s hf (by have hbs : bas g n = g (2 + n) := (by unfold bas; rw [if_neg (of_decide_eq_false c_24)]); unfold ub; rw [hbs]; split <;> omega)) _ _ _ hP hD hS (lv_sub hl [0, 3, 4, 5] rfl)
            · refine lv_iload hx hb dX3_layStrength_84 (lv_at hl 0 rfl) ?_
              refine lv_goto (tgt := 90) hx hb dX3_layStrength_86 (by decide) ?_
              refine my_iastN (i := n) (x := (g (2 + n))) (g := f) (ws' := gW cI ad r g de ss (up1 f n (g (2 + n)))) hx hb hK hP hD hS 4 0 rfl rfl (by omega) (by decide) dX3_layStrength_90 rfl (fun H locs hP hD hS => ?_)
              refine my_iinc (k := 2) (x := n) (d := 1) (lv' := [(3, .int (nI (n + 1))), (5, .int (nI (g (2 + n)))), (4, .int (nI 1)), (0, .ref (ad 0)), (1, .ref r), (2, .int (nI v))]) hx hb dX3_layStrength_91 hl rfl (by decide) (by decide) rfl (fun ls hl => ?_)
              refine lv_goto (tgt := 2) hx hb dX3_layStrength_94 (by decide) ?_
              exact ih_2 (n + 1) (up1 f n (g (2 + n))) (by omega) (by omega) (fill_s hf (by have hbs : bas g n = g (2 + n) := (by unfold bas; rw [if_neg (of_decide_eq_false c_24)]); unfold ub; rw [hbs]; split <;> omega)) _ _ _ hP hD hS (lv_sub hl [0, 3, 4, 5] rfl)
          · refine lv_bipush (v := nI 7) hx hb dX3_layStrength_51 (by decide) ?_
            refine lv_goto (tgt := 64) hx hb dX3_layStrength_53 (by decide) ?_
            refine lv_istore (lv' := [(5, .int (nI 7)), (4, .int (nI 1)), (3, .int (nI n)), (0, .ref (ad 0)), (1, .ref r), (2, .int (nI v))]) hx hb dX3_layStrength_64 hl (by decide) rfl (fun ls hl => ?_)
            refine lv_aload_n hx hb dX3_layStrength_66 rfl (lv_at hl 4 rfl) ?_
            refine lv_iload_n hx hb dX3_layStrength_67 rfl (lv_at hl 2 rfl) ?_
            refine lv_iload hx hb dX3_layStrength_68 (lv_at hl 1 rfl) ?_
            refine my_if_eqN (x := 1) (tgt := 89) hx hb (by omega) dX3_layStrength_70 (by decide) (fun c_27 => absurd c_27 (by decide)) (fun _ => ?_)
            refine lv_iload hx hb dX3_layStrength_73 (lv_at hl 0 rfl) ?_
            refine lv_aload_n hx hb dX3_layStrength_75 rfl (lv_at hl 3 rfl) ?_
            refine va_get (D := (dC, dI)) (ci := 3) (v := .ref (ad 4)) (C := RX3) (T := TX3) (N := 8) hx hb hts (fun _ h9 => List.mem_cons_of_mem _ (List.mem_append_right _ h9)) hown hK hP 0 rfl rfl 3 (by decide) (hts (.fieldLink RX3 20 "SwitchLevelSimulatorModel" "definite" "[I") (List.mem_of_getElem? (i := 2) rfl)) (fun _ h9 => h9) rfl dX3_layStrength_76 ?_
            refine lv_iload_n hx hb dX3_layStrength_79 rfl (lv_at hl 2 rfl) ?_
            refine my_iald (i := n) hx hb hK hP 2 0 rfl rfl (by omega) (by decide) dX3_layStrength_80 ?_
            refine my_icmp_lt (x := 7) (y := (de n)) (tgt := 89) hx hb (by omega) (by omega) dX3_layStrength_81 (by decide) (fun c_28 => ?_) (fun c_28 => ?_)
            · refine lv_iconst (v := nI 0) hx hb dX3_layStrength_89 (by decide) ?_
              refine my_iastN (i := n) (x := 0) (g := f) (ws' := gW cI ad r g de ss (up1 f n 0)) hx hb hK hP hD hS 4 0 rfl rfl (by omega) (by decide) dX3_layStrength_90 rfl (fun H locs hP hD hS => ?_)
              refine my_iinc (k := 2) (x := n) (d := 1) (lv' := [(3, .int (nI (n + 1))), (5, .int (nI 7)), (4, .int (nI 1)), (0, .ref (ad 0)), (1, .ref r), (2, .int (nI v))]) hx hb dX3_layStrength_91 hl rfl (by decide) (by decide) rfl (fun ls hl => ?_)
              refine lv_goto (tgt := 2) hx hb dX3_layStrength_94 (by decide) ?_
              exact ih_2 (n + 1) (up1 f n 0) (by omega) (by omega) (fill_s hf (by have hbs : bas g n = 7 := (by unfold bas; rw [if_pos (of_decide_eq_true c_24)]); unfold ub; rw [hbs]; split <;> omega)) _ _ _ hP hD hS (lv_sub hl [0, 3, 4, 5] rfl)
            · refine lv_iload hx hb dX3_layStrength_84 (lv_at hl 0 rfl) ?_
              refine lv_goto (tgt := 90) hx hb dX3_layStrength_86 (by decide) ?_
              refine my_iastN (i := n) (x := 7) (g := f) (ws' := gW cI ad r g de ss (up1 f n 7)) hx hb hK hP hD hS 4 0 rfl rfl (by omega) (by decide) dX3_layStrength_90 rfl (fun H locs hP hD hS => ?_)
              refine my_iinc (k := 2) (x := n) (d := 1) (lv' := [(3, .int (nI (n + 1))), (5, .int (nI 7)), (4, .int (nI 1)), (0, .ref (ad 0)), (1, .ref r), (2, .int (nI v))]) hx hb dX3_layStrength_91 hl rfl (by decide) (by decide) rfl (fun ls hl => ?_)
              refine lv_goto (tgt := 2) hx hb dX3_layStrength_94 (by decide) ?_
              exact ih_2 (n + 1) (up1 f n 7) (by omega) (by omega) (fill_s hf (by have hbs : bas g n = 7 := (by unfold bas; rw [if_pos (of_decide_eq_true c_24)]); unfold ub; rw [hbs]; split <;> omega)) _ _ _ hP hD hS (lv_sub hl [0, 3, 4, 5] rfl)
        · refine lv_aload_n hx hb dX3_layStrength_23 rfl (lv_at hl 1 rfl) ?_
          refine va_get (D := (dC, dI)) (ci := 3) (v := .ref (ad 1)) (C := RX3) (T := TX3) (N := 8) hx hb hts (fun _ h9 => List.mem_cons_of_mem _ (List.mem_append_right _ h9)) hown hK hP 0 rfl rfl 0 (by decide) (hts (.fieldLink RX3 7 "SwitchLevelSimulatorModel" "state" "[I") (List.mem_of_getElem? (i := 1) rfl)) (fun _ h9 => h9) rfl dX3_layStrength_24 ?_
          refine lv_bipush (v := nI 26) hx hb dX3_layStrength_27 (by decide) ?_
          refine lv_iload_n hx hb dX3_layStrength_29 rfl (lv_at hl 0 rfl) ?_
          refine my_iadd (x := 26) (y := n) hx hb dX3_layStrength_30 ?_
          refine my_iald (i := (26 + n)) hx hb hK hP 1 0 rfl rfl (by omega) (by decide) dX3_layStrength_31 ?_
          refine lv_iconst (v := nI 2) hx hb dX3_layStrength_32 (by decide) ?_
          refine my_icmp_ne (x := (g (26 + n))) (y := 2) (tgt := 40) hx hb (by omega) (by omega) dX3_layStrength_33 (by decide) (fun c_29 => ?_) (fun c_29 => ?_)
          · refine lv_iconst (v := nI 0) hx hb dX3_layStrength_40 (by decide) ?_
            refine lv_istore (lv' := [(4, .int (nI 0)), (3, .int (nI n)), (0, .ref (ad 0)), (1, .ref r), (2, .int (nI v))]) hx hb dX3_layStrength_41 hl (by decide) rfl (fun ls hl => ?_)
            refine lv_aload_n hx hb dX3_layStrength_43 rfl (lv_at hl 2 rfl) ?_
            refine lv_iload_n hx hb dX3_layStrength_44 rfl (lv_at hl 1 rfl) ?_
            refine CI.callV (As := [.int (nI n)]) (rest := []) (w3 := (fun _ => gW cI ad r g de ss f)) (c_X3_isInput l dC dI cI cZ cR cG ad g n (by omega) ((ok.2.2.1 _ (by omega)).1)) ⟨hx, hb, hml, hown, hts⟩ (cwV 1 hts gX3_layStrength_X3_isInput rfl rfl rfl (by decide +kernel) ⟨Nat.le_of_ble_eq_true rfl, Nat.le_of_ble_eq_true rfl⟩) rfl hl.1 (Nat.le_of_ble_eq_true rfl) dX3_layStrength_45 ⟨Nat.le_of_ble_eq_true rfl, Nat.le_of_ble_eq_true rfl⟩ hA hS hP hK hD [0, 1] [2, 3, 4] rfl rfl (by decide) (by decide) (by decide) 0 3 rfl rfl [3, 4, 0, 1, 2] (by decide) (fun _ => rfl) rfl (fun _ H locs hp_30 hP hD hS => ?_)
            refine my_if_eqB (x := (decide (g (2 + n) = 0))) (tgt := 56) hx hb dX3_layStrength_48 (by decide) (fun c_31 => ?_) (fun c_31 => ?_)
            · refine lv_aload_n hx hb dX3_layStrength_56 rfl (lv_at hl 2 rfl) ?_
              refine va_get (D := (dC, dI)) (ci := 3) (v := .ref (ad 1)) (C := RX3) (T := TX3) (N := 8) hx hb hts (fun _ h9 => List.mem_cons_of_mem _ (List.mem_append_right _ h9)) hown hK hP 0 rfl rfl 0 (by decide) (hts (.fieldLink RX3 7 "SwitchLevelSimulatorModel" "state" "[I") (List.mem_of_getElem? (i := 1) rfl)) (fun _ h9 => h9) rfl dX3_layStrength_57 ?_
              refine lv_iconst (v := nI 2) hx hb dX3_layStrength_60 (by decide) ?_
              refine lv_iload_n hx hb dX3_layStrength_61 rfl (lv_at hl 1 rfl) ?_
              refine my_iadd (x := 2) (y := n) hx hb dX3_layStrength_62 ?_
              refine my_iald (i := (2 + n)) hx hb hK hP 1 0 rfl rfl (by omega) (by decide) dX3_layStrength_63 ?_
              refine lv_istore (lv' := [(5, .int (nI (g (2 + n)))), (4, .int (nI 0)), (3, .int (nI n)), (0, .ref (ad 0)), (1, .ref r), (2, .int (nI v))]) hx hb dX3_layStrength_64 hl (by decide) rfl (fun ls hl => ?_)
              refine lv_aload_n hx hb dX3_layStrength_66 rfl (lv_at hl 4 rfl) ?_
              refine lv_iload_n hx hb dX3_layStrength_67 rfl (lv_at hl 2 rfl) ?_
              refine lv_iload hx hb dX3_layStrength_68 (lv_at hl 1 rfl) ?_
              refine my_if_eqN (x := 0) (tgt := 89) hx hb (by omega) dX3_layStrength_70 (by decide) (fun _ => ?_) (fun c_32 => absurd c_32 (by decide))
              refine lv_iconst (v := nI 0) hx hb dX3_layStrength_89 (by decide) ?_
              refine my_iastN (i := n) (x := 0) (g := f) (ws' := gW cI ad r g de ss (up1 f n 0)) hx hb hK hP hD hS 4 0 rfl rfl (by omega) (by decide) dX3_layStrength_90 rfl (fun H locs hP hD hS => ?_)
              refine my_iinc (k := 2) (x := n) (d := 1) (lv' := [(3, .int (nI (n + 1))), (5, .int (nI (g (2 + n)))), (4, .int (nI 0)), (0, .ref (ad 0)), (1, .ref r), (2, .int (nI v))]) hx hb dX3_layStrength_91 hl rfl (by decide) (by decide) rfl (fun ls hl => ?_)
              refine lv_goto (tgt := 2) hx hb dX3_layStrength_94 (by decide) ?_
              exact ih_2 (n + 1) (up1 f n 0) (by omega) (by omega) (fill_s hf (by have hbs : bas g n = g (2 + n) := (by unfold bas; rw [if_neg (of_decide_eq_false c_31)]); unfold ub; rw [hbs]; split <;> omega)) _ _ _ hP hD hS (lv_sub hl [0, 3, 4, 5] rfl)
            · refine lv_bipush (v := nI 7) hx hb dX3_layStrength_51 (by decide) ?_
              refine lv_goto (tgt := 64) hx hb dX3_layStrength_53 (by decide) ?_
              refine lv_istore (lv' := [(5, .int (nI 7)), (4, .int (nI 0)), (3, .int (nI n)), (0, .ref (ad 0)), (1, .ref r), (2, .int (nI v))]) hx hb dX3_layStrength_64 hl (by decide) rfl (fun ls hl => ?_)
              refine lv_aload_n hx hb dX3_layStrength_66 rfl (lv_at hl 4 rfl) ?_
              refine lv_iload_n hx hb dX3_layStrength_67 rfl (lv_at hl 2 rfl) ?_
              refine lv_iload hx hb dX3_layStrength_68 (lv_at hl 1 rfl) ?_
              refine my_if_eqN (x := 0) (tgt := 89) hx hb (by omega) dX3_layStrength_70 (by decide) (fun _ => ?_) (fun c_33 => absurd c_33 (by decide))
              refine lv_iconst (v := nI 0) hx hb dX3_layStrength_89 (by decide) ?_
              refine my_iastN (i := n) (x := 0) (g := f) (ws' := gW cI ad r g de ss (up1 f n 0)) hx hb hK hP hD hS 4 0 rfl rfl (by omega) (by decide) dX3_layStrength_90 rfl (fun H locs hP hD hS => ?_)
              refine my_iinc (k := 2) (x := n) (d := 1) (lv' := [(3, .int (nI (n + 1))), (5, .int (nI 7)), (4, .int (nI 0)), (0, .ref (ad 0)), (1, .ref r), (2, .int (nI v))]) hx hb dX3_layStrength_91 hl rfl (by decide) (by decide) rfl (fun ls hl => ?_)
              refine lv_goto (tgt := 2) hx hb dX3_layStrength_94 (by decide) ?_
              exact ih_2 (n + 1) (up1 f n 0) (by omega) (by omega) (fill_s hf (by have hbs : bas g n = 7 := (by unfold bas; rw [if_pos (of_decide_eq_true c_31)]); unfold ub; rw [hbs]; split <;> omega)) _ _ _ hP hD hS (lv_sub hl [0, 3, 4, 5] rfl)
          · refine lv_iconst (v := nI 1) hx hb dX3_layStrength_36 (by decide) ?_
            refine lv_goto (tgt := 41) hx hb dX3_layStrength_37 (by decide) ?_
            refine lv_istore (lv' := [(4, .int (nI 1)), (3, .int (nI n)), (0, .ref (ad 0)), (1, .ref r), (2, .int (nI v))]) hx hb dX3_layStrength_41 hl (by decide) rfl (fun ls hl => ?_)
            refine lv_aload_n hx hb dX3_layStrength_43 rfl (lv_at hl 2 rfl) ?_
            refine lv_iload_n hx hb dX3_layStrength_44 rfl (lv_at hl 1 rfl) ?_
            refine CI.callV (As := [.int (nI n)]) (rest := []) (w3 := (fun _ => gW cI ad r g de ss f)) (c_X3_isInput l dC dI cI cZ cR cG ad g n (by omega) ((ok.2.2.1 _ (by omega)).1)) ⟨hx, hb, hml, hown, hts⟩ (cwV 1 hts gX3_layStrength_X3_isInput rfl rfl rfl (by decide +kernel) ⟨Nat.le_of_ble_eq_true rfl, Nat.le_of_ble_eq_true rfl⟩) rfl hl.1 (Nat.le_of_ble_eq_true rfl) dX3_layStrength_45 ⟨Nat.le_of_ble_eq_true rfl, Nat.le_of_ble_eq_true rfl⟩ hA hS hP hK hD [0, 1] [2, 3, 4] rfl rfl (by decide) (by decide) (by decide) 0 3 rfl rfl [3, 4, 0, 1, 2] (by decide) (fun _ => rfl) rfl (fun _ H locs hp_34 hP hD hS => ?_)
            refine my_if_eqB (x := (decide (g (2 + n) = 0))) (tgt := 56) hx hb dX3_layStrength_48 (by decide) (fun c_35 => ?_) (fun c_35 => ?_)
            · refine lv_aload_n hx hb dX3_layStrength_56 rfl (lv_at hl 2 rfl) ?_
              refine va_get (D := (dC, dI)) (ci := 3) (v := .ref (ad 1)) (C := RX3) (T := TX3) (N := 8) hx hb hts (fun _ h9 => List.mem_cons_of_mem _ (List.mem_append_right _ h9)) hown hK hP 0 rfl rfl 0 (by decide) (hts (.fieldLink RX3 7 "SwitchLevelSimulatorModel" "state" "[I") (List.mem_of_getElem? (i := 1) rfl)) (fun _ h9 => h9) rfl dX3_layStrength_57 ?_
              refine lv_iconst (v := nI 2) hx hb dX3_layStrength_60 (by decide) ?_
              refine lv_iload_n hx hb dX3_layStrength_61 rfl (lv_at hl 1 rfl) ?_
              refine my_iadd (x := 2) (y := n) hx hb dX3_layStrength_62 ?_
              refine my_iald (i := (2 + n)) hx hb hK hP 1 0 rfl rfl (by omega) (by decide) dX3_layStrength_63 ?_
              refine lv_istore (lv' := [(5, .int (nI (g (2 + n)))), (4, .int (nI 1)), (3, .int (nI n)), (0, .ref (ad 0)), (1, .ref r), (2, .int (nI v))]) hx hb dX3_layStrength_64 hl (by decide) rfl (fun ls hl => ?_)
              refine lv_aload_n hx hb dX3_layStrength_66 rfl (lv_at hl 4 rfl) ?_
              refine lv_iload_n hx hb dX3_layStrength_67 rfl (lv_at hl 2 rfl) ?_
              refine lv_iload hx hb dX3_layStrength_68 (lv_at hl 1 rfl) ?_
              refine my_if_eqN (x := 1) (tgt := 89) hx hb (by omega) dX3_layStrength_70 (by decide) (fun c_36 => absurd c_36 (by decide)) (fun _ => ?_)
              refine lv_iload hx hb dX3_layStrength_73 (lv_at hl 0 rfl) ?_
              refine lv_aload_n hx hb dX3_layStrength_75 rfl (lv_at hl 3 rfl) ?_
              refine va_get (D := (dC, dI)) (ci := 3) (v := .ref (ad 4)) (C := RX3) (T := TX3) (N := 8) hx hb hts (fun _ h9 => List.mem_cons_of_mem _ (List.mem_append_right _ h9)) hown hK hP 0 rfl rfl 3 (by decide) (hts (.fieldLink RX3 20 "SwitchLevelSimulatorModel" "definite" "[I") (List.mem_of_getElem? (i := 2) rfl)) (fun _ h9 => h9) rfl dX3_layStrength_76 ?_
              refine lv_iload_n hx hb dX3_layStrength_79 rfl (lv_at hl 2 rfl) ?_
              refine my_iald (i := n) hx hb hK hP 2 0 rfl rfl (by omega) (by decide) dX3_layStrength_80 ?_
              refine my_icmp_lt (x := (g (2 + n))) (y := (de n)) (tgt := 89) hx hb (by omega) (by omega) dX3_layStrength_81 (by decide) (fun c_37 => ?_) (fun c_37 => ?_)
              · refine lv_iconst (v := nI 0) hx hb dX3_layStrength_89 (by decide) ?_
                refine my_iastN (i := n) (x := 0) (g := f) (ws' := gW cI ad r g de ss (up1 f n 0)) hx hb hK hP hD hS 4 0 rfl rfl (by omega) (by decide) dX3_layStrength_90 rfl (fun H locs hP hD hS => ?_)
                refine my_iinc (k := 2) (x := n) (d := 1) (lv' := [(3, .int (nI (n + 1))), (5, .int (nI (g (2 + n)))), (4, .int (nI 1)), (0, .ref (ad 0)), (1, .ref r), (2, .int (nI v))]) hx hb dX3_layStrength_91 hl rfl (by decide) (by decide) rfl (fun ls hl => ?_)
                refine lv_goto (tgt := 2) hx hb dX3_layStrength_94 (by decide) ?_
                exact ih_2 (n + 1) (up1 f n 0) (by omega) (by omega) (fill_s hf (by have hbs : bas g n = g (2 + n) := (by unfold bas; rw [if_neg (of_decide_eq_false c_35)]); unfold ub; rw [hbs]; split <;> omega)) _ _ _ hP hD hS (lv_sub hl [0, 3, 4, 5] rfl)
              · refine lv_iload hx hb dX3_layStrength_84 (lv_at hl 0 rfl) ?_
                refine lv_goto (tgt := 90) hx hb dX3_layStrength_86 (by decide) ?_
                refine my_iastN (i := n) (x := (g (2 + n))) (g := f) (ws' := gW cI ad r g de ss (up1 f n (g (2 + n)))) hx hb hK hP hD hS 4 0 rfl rfl (by omega) (by decide) dX3_layStrength_90 rfl (fun H locs hP hD hS => ?_)
                refine my_iinc (k := 2) (x := n) (d := 1) (lv' := [(3, .int (nI (n + 1))), (5, .int (nI (g (2 + n)))), (4, .int (nI 1)), (0, .ref (ad 0)), (1, .ref r), (2, .int (nI v))]) hx hb dX3_layStrength_91 hl rfl (by decide) (by decide) rfl (fun ls hl => ?_)
                refine lv_goto (tgt := 2) hx hb dX3_layStrength_94 (by decide) ?_
                exact ih_2 (n + 1) (up1 f n (g (2 + n))) (by omega) (by omega) (fill_s hf (by have hbs : bas g n = g (2 + n) := (by unfold bas; rw [if_neg (of_decide_eq_false c_35)]); unfold ub; rw [hbs]; split <;> omega)) _ _ _ hP hD hS (lv_sub hl [0, 3, 4, 5] rfl)
            · refine lv_bipush (v := nI 7) hx hb dX3_layStrength_51 (by decide) ?_
              refine lv_goto (tgt := 64) hx hb dX3_layStrength_53 (by decide) ?_
              refine lv_istore (lv' := [(5, .int (nI 7)), (4, .int (nI 1)), (3, .int (nI n)), (0, .ref (ad 0)), (1, .ref r), (2, .int (nI v))]) hx hb dX3_layStrength_64 hl (by decide) rfl (fun ls hl => ?_)
              refine lv_aload_n hx hb dX3_layStrength_66 rfl (lv_at hl 4 rfl) ?_
              refine lv_iload_n hx hb dX3_layStrength_67 rfl (lv_at hl 2 rfl) ?_
              refine lv_iload hx hb dX3_layStrength_68 (lv_at hl 1 rfl) ?_
              refine my_if_eqN (x := 1) (tgt := 89) hx hb (by omega) dX3_layStrength_70 (by decide) (fun c_38 => absurd c_38 (by decide)) (fun _ => ?_)
              refine lv_iload hx hb dX3_layStrength_73 (lv_at hl 0 rfl) ?_
              refine lv_aload_n hx hb dX3_layStrength_75 rfl (lv_at hl 3 rfl) ?_
              refine va_get (D := (dC, dI)) (ci := 3) (v := .ref (ad 4)) (C := RX3) (T := TX3) (N := 8) hx hb hts (fun _ h9 => List.mem_cons_of_mem _ (List.mem_append_right _ h9)) hown hK hP 0 rfl rfl 3 (by decide) (hts (.fieldLink RX3 20 "SwitchLevelSimulatorModel" "definite" "[I") (List.mem_of_getElem? (i := 2) rfl)) (fun _ h9 => h9) rfl dX3_layStrength_76 ?_
              refine lv_iload_n hx hb dX3_layStrength_79 rfl (lv_at hl 2 rfl) ?_
              refine my_iald (i := n) hx hb hK hP 2 0 rfl rfl (by omega) (by decide) dX3_layStrength_80 ?_
              refine my_icmp_lt (x := 7) (y := (de n)) (tgt := 89) hx hb (by omega) (by omega) dX3_layStrength_81 (by decide) (fun c_39 => ?_) (fun c_39 => ?_)
              · refine lv_iconst (v := nI 0) hx hb dX3_layStrength_89 (by decide) ?_
                refine my_iastN (i := n) (x := 0) (g := f) (ws' := gW cI ad r g de ss (up1 f n 0)) hx hb hK hP hD hS 4 0 rfl rfl (by omega) (by decide) dX3_layStrength_90 rfl (fun H locs hP hD hS => ?_)
                refine my_iinc (k := 2) (x := n) (d := 1) (lv' := [(3, .int (nI (n + 1))), (5, .int (nI 7)), (4, .int (nI 1)), (0, .ref (ad 0)), (1, .ref r), (2, .int (nI v))]) hx hb dX3_layStrength_91 hl rfl (by decide) (by decide) rfl (fun ls hl => ?_)
                refine lv_goto (tgt := 2) hx hb dX3_layStrength_94 (by decide) ?_
                exact ih_2 (n + 1) (up1 f n 0) (by omega) (by omega) (fill_s hf (by have hbs : bas g n = 7 := (by unfold bas; rw [if_pos (of_decide_eq_true c_35)]); unfold ub; rw [hbs]; split <;> omega)) _ _ _ hP hD hS (lv_sub hl [0, 3, 4, 5] rfl)
              · refine lv_iload hx hb dX3_layStrength_84 (lv_at hl 0 rfl) ?_
                refine lv_goto (tgt := 90) hx hb dX3_layStrength_86 (by decide) ?_
                refine my_iastN (i := n) (x := 7) (g := f) (ws' := gW cI ad r g de ss (up1 f n 7)) hx hb hK hP hD hS 4 0 rfl rfl (by omega) (by decide) dX3_layStrength_90 rfl (fun H locs hP hD hS => ?_)
                refine my_iinc (k := 2) (x := n) (d := 1) (lv' := [(3, .int (nI (n + 1))), (5, .int (nI 7)), (4, .int (nI 1)), (0, .ref (ad 0)), (1, .ref r), (2, .int (nI v))]) hx hb dX3_layStrength_91 hl rfl (by decide) (by decide) rfl (fun ls hl => ?_)
                refine lv_goto (tgt := 2) hx hb dX3_layStrength_94 (by decide) ?_
                exact ih_2 (n + 1) (up1 f n 7) (by omega) (by omega) (fill_s hf (by have hbs : bas g n = 7 := (by unfold bas; rw [if_pos (of_decide_eq_true c_35)]); unfold ub; rw [hbs]; split <;> omega)) _ _ _ hP hD hS (lv_sub hl [0, 3, 4, 5] rfl)
  exact key_2 _ 0 row (Nat.lt_succ_self _) (Nat.zero_le _) fill_0 _ _ _ hP hD hS (lv_sub hl [0, 1, 2, 3] rfl)
abbrev rm_X3_layAll : Room := { frames := 3, cells := 0, slots := 0, locals := 72 }
set_option maxHeartbeats 4000000 in
set_option maxRecDepth 100000 in
theorem c_X3_layAll (l : Launch) (dC : Nat → ClassId) (dI : Nat → Nat → Nat) (cI cZ cR cG : ClassId) (ad : Nat → Nat) (g de ss up dn : Nat → Nat) (ok : okG g) : CV l (dC, dI) (tyL cI cZ cR cG) yX3_layAll wsX3_layAll rm_X3_layAll [.ref (ad 0)] (lW cI ad g de ss up dn) (S := (Nat → Nat) × (Nat → Nat) × (Nat → Nat) × (Nat → Nat)) (fun u => ∀ n, n < g 0 → u.1 n = qF g n ∧ u.2.2.1 n = uF g 1 n ∧ u.2.2.2 n = uF g 0 n) (fun u => lW cI ad g u.1 u.2.1 u.2.2.1 u.2.2.2) := by
  refine CV.of (cc := cX3_layAll) (maxL := 2) (lv := [(0, .ref (ad 0))]) (by decide) rfl (Nat.le_of_ble_eq_true rfl) rfl ?_
  intro p e s m ar below meth c A Qz ls hx hb hml hown hts hnm hA hS hP hK hD hl ret
  have h0 := ok.1
  have h1 := ok.2.1
  refine lv_iconst (v := nI 0) hx hb dX3_layAll_0 (by decide) ?_
  refine lv_istore_n (lv' := [(1, .int (nI 0)), (0, .ref (ad 0))]) hx hb dX3_layAll_1 rfl hl (by decide) rfl (fun ls hl => ?_)
  have key_2 : ∀ (fu : Nat) (t : Nat) (f : Nat → Nat), (g 1 - t) < fu → (t ≤ g 1) → (∀ j, j < t → f j = swS g j) → ∀ (H : Heap) (locs : List Loc) (ls : Array Slot), va_P (dC, dI) vwCl (lW cI ad g de f up dn) H → va_D A (lW cI ad g de f up dn) → va_S A s.heap H locs → lv_has ls 2 [(1, .int (nI t)), (0, .ref (ad 0))] → W p l e rm_X3_layAll s m ar below meth c H locs 0 0 Qz (F0 m 2 ls []) := by
    intro fu
    induction fu with
    | zero => intro t f hmu; exact absurd hmu (Nat.not_lt_zero _)
    | succ fu ih_2 =>
      intro t f hmu_2 ht hf H locs ls hP hD hS hl
      refine lv_iload_n hx hb dX3_layAll_2 rfl (lv_at hl 0 rfl) ?_
      refine lv_aload_n hx hb dX3_layAll_3 rfl (lv_at hl 1 rfl) ?_
      refine CI.callV (As := []) (rest := [.int (nI t)]) (w3 := (fun _ => lW cI ad g de f up dn)) (c_X3_many l dC dI cI cZ cR cG ad g) ⟨hx, hb, hml, hown, hts⟩ (cwV 0 hts gX3_layAll_X3_many rfl rfl rfl (by decide +kernel) ⟨Nat.le_of_ble_eq_true rfl, Nat.le_of_ble_eq_true rfl⟩) rfl hl.1 (Nat.le_of_ble_eq_true rfl) dX3_layAll_4 ⟨Nat.le_of_ble_eq_true rfl, Nat.le_of_ble_eq_true rfl⟩ hA hS hP hK hD [0, 1] [2, 3, 4, 5] rfl rfl (by decide) (by decide) (by decide) 0 3 rfl rfl [4, 5, 0, 1, 2, 3] (by decide) (fun _ => rfl) rfl (fun _ H locs hp_2 hP hD hS => ?_)
      refine my_icmp_ge (x := t) (y := (g 1)) (tgt := 27) hx hb (by omega) (by omega) dX3_layAll_7 (by decide) (fun c_3 => ?_) (fun c_3 => ?_)
      · refine lv_aload_n hx hb dX3_layAll_27 rfl (lv_at hl 1 rfl) ?_
        refine CV.callV (As := []) (rest := []) (w3 := (fun de2 => lW cI ad g de2 f up dn)) (c_X3_layDefinite l dC dI cI cZ cR cG ad g de f (ok) (fun k hk => hf k (by omega))) ⟨hx, hb, hml, hown, hts⟩ (cwV 0 hts gX3_layAll_X3_layDefinite rfl rfl rfl (by decide +kernel) ⟨Nat.le_of_ble_eq_true rfl, Nat.le_of_ble_eq_true rfl⟩) rfl hl.1 (Nat.le_of_ble_eq_true rfl) dX3_layAll_28 ⟨Nat.le_of_ble_eq_true rfl, Nat.le_of_ble_eq_true rfl⟩ hA hS hP hK hD [0, 1, 2, 3] [4, 5] rfl rfl (by decide) (by decide) (by decide) 0 3 rfl rfl [2, 3, 4, 5, 0, 1] (by decide) (fun _ => rfl) rfl (fun de2 H locs hp_4 hP hD hS => ?_)
        have hqd := hp_4
        refine lv_aload_n hx hb dX3_layAll_31 rfl (lv_at hl 1 rfl) ?_
        refine lv_aload_n hx hb dX3_layAll_32 rfl (lv_at hl 1 rfl) ?_
        refine va_get (D := (dC, dI)) (ci := 3) (v := .ref (ad 5)) (C := RX3) (T := TX3) (N := 8) hx hb hts (fun _ h9 => List.mem_cons_of_mem _ (List.mem_append_right _ h9)) hown hK hP 0 rfl rfl 4 (by decide) (hts (.fieldLink RX3 23 "SwitchLevelSimulatorModel" "up" "[I") (List.mem_of_getElem? (i := 2) rfl)) (fun _ h9 => h9) rfl dX3_layAll_33 ?_
        refine lv_iconst (v := nI 1) hx hb dX3_layAll_36 (by decide) ?_
        refine CV.callV (As := [.ref (ad 5), .int (nI 1)]) (rest := []) (w3 := (fun up2 => lW cI ad g de2 f up2 dn)) (c_X3_layStrength l dC dI cI cZ cR cG ad (ad 5) g de2 f up 1 (ok) (fun k hk => hf k (by omega)) (hqd) (by decide)) ⟨hx, hb, hml, hown, hts⟩ (cwV 2 hts gX3_layAll_X3_layStrength rfl rfl rfl (by decide +kernel) ⟨Nat.le_of_ble_eq_true rfl, Nat.le_of_ble_eq_true rfl⟩) rfl hl.1 (Nat.le_of_ble_eq_true rfl) dX3_layAll_37 ⟨Nat.le_of_ble_eq_true rfl, Nat.le_of_ble_eq_true rfl⟩ hA hS hP hK hD [0, 1, 2, 3, 4] [5] rfl rfl (by decide) (by decide) (by decide) 0 3 rfl rfl [1, 2, 3, 4, 5, 0] (by decide) (fun _ => rfl) rfl (fun up2 H locs hp_5 hP hD hS => ?_)
        have hqu := hp_5
        refine lv_aload_n hx hb dX3_layAll_40 rfl (lv_at hl 1 rfl) ?_
        refine lv_aload_n hx hb dX3_layAll_41 rfl (lv_at hl 1 rfl) ?_
        refine va_get (D := (dC, dI)) (ci := 3) (v := .ref (ad 6)) (C := RX3) (T := TX3) (N := 8) hx hb hts (fun _ h9 => List.mem_cons_of_mem _ (List.mem_append_right _ h9)) hown hK hP 0 rfl rfl 5 (by decide) (hts (.fieldLink RX3 26 "SwitchLevelSimulatorModel" "down" "[I") (List.mem_of_getElem? (i := 3) rfl)) (fun _ h9 => h9) rfl dX3_layAll_42 ?_
        refine lv_iconst (v := nI 0) hx hb dX3_layAll_45 (by decide) ?_
        refine CV.callV (As := [.ref (ad 6), .int (nI 0)]) (rest := []) (w3 := (fun dn2 => lW cI ad g de2 f up2 dn2)) (c_X3_layStrength l dC dI cI cZ cR cG ad (ad 6) g de2 f dn 0 (ok) (fun k hk => hf k (by omega)) (hqd) (by decide)) ⟨hx, hb, hml, hown, hts⟩ (cwV 2 hts gX3_layAll_X3_layStrength rfl rfl rfl (by decide +kernel) ⟨Nat.le_of_ble_eq_true rfl, Nat.le_of_ble_eq_true rfl⟩) rfl hl.1 (Nat.le_of_ble_eq_true rfl) dX3_layAll_46 ⟨Nat.le_of_ble_eq_true rfl, Nat.le_of_ble_eq_true rfl⟩ hA hS hP hK hD [0, 1, 2, 3, 5] [4] rfl rfl (by decide) (by decide) (by decide) 0 3 rfl rfl [1, 2, 3, 4, 0, 5] (by decide) (fun _ => rfl) rfl (fun dn2 H locs hp_6 hP hD hS => ?_)
        have hqn := hp_6
        exact ret (de2, f, up2, dn2) _ _ _ _ _ _ _ (fun n hn => ⟨hqd n hn, hqu n hn, hqn n hn⟩) (rfl) hP hD hS (Nat.le_of_ble_eq_true rfl) (Nat.le_of_ble_eq_true rfl) dX3_layAll_49
      · refine lv_aload_n hx hb dX3_layAll_10 rfl (lv_at hl 1 rfl) ?_
        refine va_get (D := (dC, dI)) (ci := 3) (v := .ref (ad 7)) (C := RX3) (T := TX3) (N := 8) hx hb hts (fun _ h9 => List.mem_cons_of_mem _ (List.mem_append_right _ h9)) hown hK hP 0 rfl rfl 6 (by decide) (hts (.fieldLink RX3 29 "SwitchLevelSimulatorModel" "states" "[I") (List.mem_of_getElem? (i := 1) rfl)) (fun _ h9 => h9) rfl dX3_layAll_11 ?_
        refine lv_iload_n hx hb dX3_layAll_14 rfl (lv_at hl 0 rfl) ?_
        refine lv_aload_n hx hb dX3_layAll_15 rfl (lv_at hl 1 rfl) ?_
        refine lv_iload_n hx hb dX3_layAll_16 rfl (lv_at hl 0 rfl) ?_
        refine CI.callV (As := [.int (nI t)]) (rest := [.int (nI t), .ref (ad 7)]) (w3 := (fun _ => lW cI ad g de f up dn)) (c_X3_stateOf l dC dI cI cZ cR cG ad g t (ok) (by omega)) ⟨hx, hb, hml, hown, hts⟩ (cwV 1 hts gX3_layAll_X3_stateOf rfl rfl rfl (by decide +kernel) ⟨Nat.le_of_ble_eq_true rfl, Nat.le_of_ble_eq_true rfl⟩) rfl hl.1 (Nat.le_of_ble_eq_true rfl) dX3_layAll_17 ⟨Nat.le_of_ble_eq_true rfl, Nat.le_of_ble_eq_true rfl⟩ hA hS hP hK hD [0, 1] [2, 3, 4, 5] rfl rfl (by decide) (by decide) (by decide) 0 3 rfl rfl [4, 5, 0, 1, 2, 3] (by decide) (fun _ => rfl) rfl (fun _ H locs hp_7 hP hD hS => ?_)
        refine my_iastN (i := t) (x := (swS g t)) (g := f) (ws' := lW cI ad g de (up1 f t (swS g t)) up dn) hx hb hK hP hD hS 3 0 rfl rfl (by omega) (by decide) dX3_layAll_20 rfl (fun H locs hP hD hS => ?_)
        refine my_iinc (k := 0) (x := t) (d := 1) (lv' := [(1, .int (nI (t + 1))), (0, .ref (ad 0))]) hx hb dX3_layAll_21 hl rfl (by decide) (by decide) rfl (fun ls hl => ?_)
        refine lv_goto (tgt := 2) hx hb dX3_layAll_24 (by decide) ?_
        exact ih_2 (t + 1) (up1 f t (swS g t)) (by omega) (by omega) (fill_s hf rfl) _ _ _ hP hD hS (lv_sub hl [0, 1] rfl)
  exact key_2 _ 0 ss (Nat.lt_succ_self _) (Nat.zero_le _) fill_0 _ _ _ hP hD hS (lv_sub hl [0, 1] rfl)
