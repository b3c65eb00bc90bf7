abbrev rm_J6_bitCount_0f7a4 : Room := { frames := 0, cells := 0, slots := 0, locals := 0 }
set_option maxHeartbeats 4000000 in
set_option maxRecDepth 100000 in
theorem c_J6_bitCount_0f7a4 (l : Launch) (dC : Nat → ClassId) (dI : Nat → Nat → Nat) (cI cZ cR cG : ClassId) (x : Int32) : CI l (dC, dI) (tyL cI cZ cR cG) yJ6_bitCount_0f7a4 wsJ6_bitCount_0f7a4 rm_J6_bitCount_0f7a4 [.int x] ([]) (S := Unit) (fun _ => bcF x) (fun _ => True) (fun _ => []) := by
  refine CI.of (cc := cJ6_bitCount_0f7a4) (maxL := 1) (rt := .int) (lv := [(0, .int x)]) (by decide) rfl (Nat.le_of_ble_eq_true rfl) rfl (Or.inl rfl) ?_
  intro p e s m ar below meth kc A Qz ls hx hb hml hown hts hnm hA hS hP hK hD hl ret
  refine lv_iload_n hx hb dJ6_bitCount_0f7a4_0 rfl (lv_at hl 0 rfl) ?_
  refine lv_iload_n hx hb dJ6_bitCount_0f7a4_1 rfl (lv_at hl 0 rfl) ?_
  refine lv_iconst (v := nI 1) hx hb dJ6_bitCount_0f7a4_2 (by decide) ?_
  refine lv_iushr hx hb dJ6_bitCount_0f7a4_3 (v := (x.toUInt32 >>> ((nI 1).toUInt32 &&& Int32.toUInt32 31)).toInt32) rfl ?_
  refine lv_ldcw (v := 1431655765) hx hb hown (hts (.constant RJ6 265 (1431655765)) (List.mem_of_getElem? (i := 1) rfl)) dJ6_bitCount_0f7a4_4 ?_
  refine lv_iand hx hb dJ6_bitCount_0f7a4_7 ?_
  refine lv_isub hx hb dJ6_bitCount_0f7a4_8 ?_
  refine lv_topi (fun b_9 eb_9 => ?_)
  refine lv_istore_n (lv' := [(0, .int b_9)]) hx hb dJ6_bitCount_0f7a4_9 rfl hl (by decide) rfl (fun ls hl => ?_)
  refine lv_iload_n hx hb dJ6_bitCount_0f7a4_10 rfl (lv_at hl 0 rfl) ?_
  refine lv_ldcw (v := 858993459) hx hb hown (hts (.constant RJ6 266 (858993459)) (List.mem_of_getElem? (i := 2) rfl)) dJ6_bitCount_0f7a4_11 ?_
  refine lv_iand hx hb dJ6_bitCount_0f7a4_14 ?_
  refine lv_iload_n hx hb dJ6_bitCount_0f7a4_15 rfl (lv_at hl 0 rfl) ?_
  refine lv_iconst (v := nI 2) hx hb dJ6_bitCount_0f7a4_16 (by decide) ?_
  refine lv_iushr hx hb dJ6_bitCount_0f7a4_17 (v := (b_9.toUInt32 >>> ((nI 2).toUInt32 &&& Int32.toUInt32 31)).toInt32) rfl ?_
  refine lv_ldcw (v := 858993459) hx hb hown (hts (.constant RJ6 266 (858993459)) (List.mem_of_getElem? (i := 2) rfl)) dJ6_bitCount_0f7a4_18 ?_
  refine lv_iand hx hb dJ6_bitCount_0f7a4_21 ?_
  refine lv_iadd hx hb dJ6_bitCount_0f7a4_22 ?_
  refine lv_topi (fun b_23 eb_23 => ?_)
  refine lv_istore_n (lv' := [(0, .int b_23)]) hx hb dJ6_bitCount_0f7a4_23 rfl hl (by decide) rfl (fun ls hl => ?_)
  refine lv_iload_n hx hb dJ6_bitCount_0f7a4_24 rfl (lv_at hl 0 rfl) ?_
  refine lv_iload_n hx hb dJ6_bitCount_0f7a4_25 rfl (lv_at hl 0 rfl) ?_
  refine lv_iconst (v := nI 4) hx hb dJ6_bitCount_0f7a4_26 (by decide) ?_
  refine lv_iushr hx hb dJ6_bitCount_0f7a4_27 (v := (b_23.toUInt32 >>> ((nI 4).toUInt32 &&& Int32.toUInt32 31)).toInt32) rfl ?_
  refine lv_iadd hx hb dJ6_bitCount_0f7a4_28 ?_
  refine lv_ldcw (v := 252645135) hx hb hown (hts (.constant RJ6 267 (252645135)) (List.mem_of_getElem? (i := 3) rfl)) dJ6_bitCount_0f7a4_29 ?_
  refine lv_iand hx hb dJ6_bitCount_0f7a4_32 ?_
  refine lv_topi (fun b_33 eb_33 => ?_)
  refine lv_istore_n (lv' := [(0, .int b_33)]) hx hb dJ6_bitCount_0f7a4_33 rfl hl (by decide) rfl (fun ls hl => ?_)
  refine lv_iload_n hx hb dJ6_bitCount_0f7a4_34 rfl (lv_at hl 0 rfl) ?_
  refine lv_iload_n hx hb dJ6_bitCount_0f7a4_35 rfl (lv_at hl 0 rfl) ?_
  refine lv_bipush (v := nI 8) hx hb dJ6_bitCount_0f7a4_36 (by decide) ?_
  refine lv_iushr hx hb dJ6_bitCount_0f7a4_38 (v := (b_33.toUInt32 >>> ((nI 8).toUInt32 &&& Int32.toUInt32 31)).toInt32) rfl ?_
  refine lv_iadd hx hb dJ6_bitCount_0f7a4_39 ?_
  refine lv_topi (fun b_40 eb_40 => ?_)
  refine lv_istore_n (lv' := [(0, .int b_40)]) hx hb dJ6_bitCount_0f7a4_40 rfl hl (by decide) rfl (fun ls hl => ?_)
  refine lv_iload_n hx hb dJ6_bitCount_0f7a4_41 rfl (lv_at hl 0 rfl) ?_
  refine lv_iload_n hx hb dJ6_bitCount_0f7a4_42 rfl (lv_at hl 0 rfl) ?_
  refine lv_bipush (v := nI 16) hx hb dJ6_bitCount_0f7a4_43 (by decide) ?_
  refine lv_iushr hx hb dJ6_bitCount_0f7a4_45 (v := (b_40.toUInt32 >>> ((nI 16).toUInt32 &&& Int32.toUInt32 31)).toInt32) rfl ?_
  refine lv_iadd hx hb dJ6_bitCount_0f7a4_46 ?_
  refine lv_topi (fun b_47 eb_47 => ?_)
  refine lv_istore_n (lv' := [(0, .int b_47)]) hx hb dJ6_bitCount_0f7a4_47 rfl hl (by decide) rfl (fun ls hl => ?_)
  refine lv_iload_n hx hb dJ6_bitCount_0f7a4_48 rfl (lv_at hl 0 rfl) ?_
  refine lv_bipush (v := nI 63) hx hb dJ6_bitCount_0f7a4_49 (by decide) ?_
  refine lv_iand hx hb dJ6_bitCount_0f7a4_51 ?_
  exact ret () _ _ _ _ _ _ _ _ (by subst eb_47 eb_40 eb_33 eb_23 eb_9; rfl) (trivial) (rfl) hP hD hS (Nat.le_of_ble_eq_true rfl) (Nat.le_of_ble_eq_true rfl) dJ6_bitCount_0f7a4_52
theorem c_bitCount_msk (l : Launch) (dC : Nat → ClassId) (dI : Nat → Nat → Nat) (cI cZ cR cG : ClassId) (q : Nat → Bool) : CI l (dC, dI) (tyL cI cZ cR cG) yJ6_bitCount_0f7a4 wsJ6_bitCount_0f7a4 rm_J6_bitCount_0f7a4 [.int (msk q)] ([]) (S := Unit) (fun _ => nI (ct q 24)) (fun _ => True) (fun _ => []) := by
  have h := c_J6_bitCount_0f7a4 l dC dI cI cZ cR cG (msk q)
  rw [bc_msk] at h
  exact h
abbrev rm_J6_numberOfTrailingZeros_0f7a4 : Room := { frames := 0, cells := 0, slots := 0, locals := 0 }
set_option maxHeartbeats 4000000 in
set_option maxRecDepth 100000 in
theorem c_J6_numberOfTrailingZeros_0f7a4 (l : Launch) (dC : Nat → ClassId) (dI : Nat → Nat → Nat) (cI cZ cR cG : ClassId) (x : Int32) : CI l (dC, dI) (tyL cI cZ cR cG) yJ6_numberOfTrailingZeros_0f7a4 wsJ6_numberOfTrailingZeros_0f7a4 rm_J6_numberOfTrailingZeros_0f7a4 [.int x] ([]) (S := Unit) (fun _ => ntzF x) (fun _ => True) (fun _ => []) := by
  refine CI.of (cc := cJ6_numberOfTrailingZeros_0f7a4) (maxL := 2) (rt := .int) (lv := [(0, .int x)]) (by decide) rfl (Nat.le_of_ble_eq_true rfl) rfl (Or.inl rfl) ?_
  intro p e s m ar below meth kc A Qz ls hx hb hml hown hts hnm hA hS hP hK hD hl ret
  refine lv_iload_n hx hb dJ6_numberOfTrailingZeros_0f7a4_0 rfl (lv_at hl 0 rfl) ?_
  refine lv_iconst (v := -1) hx hb dJ6_numberOfTrailingZeros_0f7a4_1 (by decide) ?_
  refine lv_ixor hx hb dJ6_numberOfTrailingZeros_0f7a4_2 ?_
  refine lv_iload_n hx hb dJ6_numberOfTrailingZeros_0f7a4_3 rfl (lv_at hl 0 rfl) ?_
  refine lv_iconst (v := nI 1) hx hb dJ6_numberOfTrailingZeros_0f7a4_4 (by decide) ?_
  refine lv_isub hx hb dJ6_numberOfTrailingZeros_0f7a4_5 ?_
  refine lv_iand hx hb dJ6_numberOfTrailingZeros_0f7a4_6 ?_
  refine lv_topi (fun y ey => ?_)
  refine lv_istore_n (lv' := [(0, .int y)]) hx hb dJ6_numberOfTrailingZeros_0f7a4_7 rfl hl (by decide) rfl (fun ls hl => ?_)
  refine lv_iload_n hx hb dJ6_numberOfTrailingZeros_0f7a4_8 rfl (lv_at hl 0 rfl) ?_
  refine lv_if_gt (x := y) (tgt := 17) hx hb dJ6_numberOfTrailingZeros_0f7a4_9 (by decide) (fun c_1 => ?_) (fun c_1 => ?_)
  · refine lv_iconst (v := nI 1) hx hb dJ6_numberOfTrailingZeros_0f7a4_17 (by decide) ?_
    refine lv_istore_n (lv' := [(1, .int (nI 1)), (0, .int y)]) hx hb dJ6_numberOfTrailingZeros_0f7a4_18 rfl hl (by decide) rfl (fun ls hl => ?_)
    refine lv_iload_n hx hb dJ6_numberOfTrailingZeros_0f7a4_19 rfl (lv_at hl 1 rfl) ?_
    refine lv_ldcw (v := 65536) hx hb hown (hts (.constant RJ6 264 (65536)) (List.mem_of_getElem? (i := 1) rfl)) dJ6_numberOfTrailingZeros_0f7a4_20 ?_
    refine lv_icmp_le (x := y) (y := 65536) (tgt := 34) hx hb dJ6_numberOfTrailingZeros_0f7a4_23 (by decide) (fun c_2 => ?_) (fun c_2 => ?_)
    · refine lv_iload_n hx hb dJ6_numberOfTrailingZeros_0f7a4_34 rfl (lv_at hl 1 rfl) ?_
      refine lv_sipush (v := nI 256) hx hb dJ6_numberOfTrailingZeros_0f7a4_35 (by decide) ?_
      refine lv_icmp_le (x := y) (y := (nI 256)) (tgt := 49) hx hb dJ6_numberOfTrailingZeros_0f7a4_38 (by decide) (fun c_3 => ?_) (fun c_3 => ?_)
      · refine lv_iload_n hx hb dJ6_numberOfTrailingZeros_0f7a4_49 rfl (lv_at hl 1 rfl) ?_
        refine lv_bipush (v := nI 16) hx hb dJ6_numberOfTrailingZeros_0f7a4_50 (by decide) ?_
        refine lv_icmp_le (x := y) (y := (nI 16)) (tgt := 62) hx hb dJ6_numberOfTrailingZeros_0f7a4_52 (by decide) (fun c_4 => ?_) (fun c_4 => ?_)
        · refine lv_iload_n hx hb dJ6_numberOfTrailingZeros_0f7a4_62 rfl (lv_at hl 1 rfl) ?_
          refine lv_iconst (v := nI 4) hx hb dJ6_numberOfTrailingZeros_0f7a4_63 (by decide) ?_
          refine lv_icmp_le (x := y) (y := (nI 4)) (tgt := 74) hx hb dJ6_numberOfTrailingZeros_0f7a4_64 (by decide) (fun c_5 => ?_) (fun c_5 => ?_)
          · refine lv_iload_n hx hb dJ6_numberOfTrailingZeros_0f7a4_74 rfl (lv_at hl 0 rfl) ?_
            refine lv_iload_n hx hb dJ6_numberOfTrailingZeros_0f7a4_75 rfl (lv_at hl 1 rfl) ?_
            refine lv_iconst (v := nI 1) hx hb dJ6_numberOfTrailingZeros_0f7a4_76 (by decide) ?_
            refine lv_iushr hx hb dJ6_numberOfTrailingZeros_0f7a4_77 (v := (y.toUInt32 >>> ((nI 1).toUInt32 &&& Int32.toUInt32 31)).toInt32) rfl ?_
            refine lv_iadd hx hb dJ6_numberOfTrailingZeros_0f7a4_78 ?_
            have ey2 : y = (x ^^^ (-1)) &&& (x - 1) := ey
            have d0 : ¬ y ≤ 0 := Int32.not_le.mpr c_1
            have d23 :  y ≤ 65536 := c_2
            have d38 :  y ≤ 256 := c_3
            have d52 :  y ≤ 16 := c_4
            have d64 :  y ≤ 4 := c_5
            exact ret () _ _ _ _ _ _ _ _ (by show _ = ntzF x; unfold ntzF; rw [← ey2]; unfold ntzG; rw [if_neg d0]; unfold ntz0; rw [if_pos d23]; unfold ntz1; rw [if_pos d38]; unfold ntz2; rw [if_pos d52]; unfold ntz3; rw [if_pos d64]; rfl) (trivial) (rfl) hP hD hS (Nat.le_of_ble_eq_true rfl) (Nat.le_of_ble_eq_true rfl) dJ6_numberOfTrailingZeros_0f7a4_79
          · refine my_iinc (k := 0) (x := 1) (d := 2) (lv' := [(1, .int (nI 3)), (0, .int y)]) hx hb dJ6_numberOfTrailingZeros_0f7a4_67 hl rfl (by decide) (by decide) rfl (fun ls hl => ?_)
            refine lv_iload_n hx hb dJ6_numberOfTrailingZeros_0f7a4_70 rfl (lv_at hl 1 rfl) ?_
            refine lv_iconst (v := nI 2) hx hb dJ6_numberOfTrailingZeros_0f7a4_71 (by decide) ?_
            refine lv_iushr hx hb dJ6_numberOfTrailingZeros_0f7a4_72 (v := (y.toUInt32 >>> ((nI 2).toUInt32 &&& Int32.toUInt32 31)).toInt32) rfl ?_
            refine lv_istore_n (lv' := [(0, .int ((y.toUInt32 >>> ((nI 2).toUInt32 &&& Int32.toUInt32 31)).toInt32)), (1, .int (nI 3))]) hx hb dJ6_numberOfTrailingZeros_0f7a4_73 rfl hl (by decide) rfl (fun ls hl => ?_)
            refine lv_iload_n hx hb dJ6_numberOfTrailingZeros_0f7a4_74 rfl (lv_at hl 1 rfl) ?_
            refine lv_iload_n hx hb dJ6_numberOfTrailingZeros_0f7a4_75 rfl (lv_at hl 0 rfl) ?_
            refine lv_iconst (v := nI 1) hx hb dJ6_numberOfTrailingZeros_0f7a4_76 (by decide) ?_
            refine lv_iushr hx hb dJ6_numberOfTrailingZeros_0f7a4_77 (v := (((y.toUInt32 >>> ((nI 2).toUInt32 &&& Int32.toUInt32 31)).toInt32).toUInt32 >>> ((nI 1).toUInt32 &&& Int32.toUInt32 31)).toInt32) rfl ?_
            refine lv_iadd hx hb dJ6_numberOfTrailingZeros_0f7a4_78 ?_
            have ey2 : y = (x ^^^ (-1)) &&& (x - 1) := ey
            have d0 : ¬ y ≤ 0 := Int32.not_le.mpr c_1
            have d23 :  y ≤ 65536 := c_2
            have d38 :  y ≤ 256 := c_3
            have d52 :  y ≤ 16 := c_4
            have d64 : ¬ y ≤ 4 := c_5
            exact ret () _ _ _ _ _ _ _ _ (by show _ = ntzF x; unfold ntzF; rw [← ey2]; unfold ntzG; rw [if_neg d0]; unfold ntz0; rw [if_pos d23]; unfold ntz1; rw [if_pos d38]; unfold ntz2; rw [if_pos d52]; unfold ntz3; rw [if_neg d64]; rfl) (trivial) (rfl) hP hD hS (Nat.le_of_ble_eq_true rfl) (Nat.le_of_ble_eq_true rfl) dJ6_numberOfTrailingZeros_0f7a4_79
        · refine my_iinc (k := 0) (x := 1) (d := 4) (lv' := [(1, .int (nI 5)), (0, .int y)]) hx hb dJ6_numberOfTrailingZeros_0f7a4_55 hl rfl (by decide) (by decide) rfl (fun ls hl => ?_)
          refine lv_iload_n hx hb dJ6_numberOfTrailingZeros_0f7a4_58 rfl (lv_at hl 1 rfl) ?_
          refine lv_iconst (v := nI 4) hx hb dJ6_numberOfTrailingZeros_0f7a4_59 (by decide) ?_
          refine lv_iushr hx hb dJ6_numberOfTrailingZeros_0f7a4_60 (v := (y.toUInt32 >>> ((nI 4).toUInt32 &&& Int32.toUInt32 31)).toInt32) rfl ?_
          refine lv_istore_n (lv' := [(0, .int ((y.toUInt32 >>> ((nI 4).toUInt32 &&& Int32.toUInt32 31)).toInt32)), (1, .int (nI 5))]) hx hb dJ6_numberOfTrailingZeros_0f7a4_61 rfl hl (by decide) rfl (fun ls hl => ?_)
          refine lv_iload_n hx hb dJ6_numberOfTrailingZeros_0f7a4_62 rfl (lv_at hl 0 rfl) ?_
          refine lv_iconst (v := nI 4) hx hb dJ6_numberOfTrailingZeros_0f7a4_63 (by decide) ?_
          refine lv_icmp_le (x := ((y.toUInt32 >>> ((nI 4).toUInt32 &&& Int32.toUInt32 31)).toInt32)) (y := (nI 4)) (tgt := 74) hx hb dJ6_numberOfTrailingZeros_0f7a4_64 (by decide) (fun c_6 => ?_) (fun c_6 => ?_)
          · refine lv_iload_n hx hb dJ6_numberOfTrailingZeros_0f7a4_74 rfl (lv_at hl 1 rfl) ?_
            refine lv_iload_n hx hb dJ6_numberOfTrailingZeros_0f7a4_75 rfl (lv_at hl 0 rfl) ?_
            refine lv_iconst (v := nI 1) hx hb dJ6_numberOfTrailingZeros_0f7a4_76 (by decide) ?_
            refine lv_iushr hx hb dJ6_numberOfTrailingZeros_0f7a4_77 (v := (((y.toUInt32 >>> ((nI 4).toUInt32 &&& Int32.toUInt32 31)).toInt32).toUInt32 >>> ((nI 1).toUInt32 &&& Int32.toUInt32 31)).toInt32) rfl ?_
            refine lv_iadd hx hb dJ6_numberOfTrailingZeros_0f7a4_78 ?_
            have ey2 : y = (x ^^^ (-1)) &&& (x - 1) := ey
            have d0 : ¬ y ≤ 0 := Int32.not_le.mpr c_1
            have d23 :  y ≤ 65536 := c_2
            have d38 :  y ≤ 256 := c_3
            have d52 : ¬ y ≤ 16 := c_4
            have d64 :  ((y.toUInt32 >>> ((4 : Int32).toUInt32 &&& Int32.toUInt32 31)).toInt32) ≤ 4 := c_6
            exact ret () _ _ _ _ _ _ _ _ (by show _ = ntzF x; unfold ntzF; rw [← ey2]; unfold ntzG; rw [if_neg d0]; unfold ntz0; rw [if_pos d23]; unfold ntz1; rw [if_pos d38]; unfold ntz2; rw [if_neg d52]; unfold ntz3; rw [if_pos d64]; rfl) (trivial) (rfl) hP hD hS (Nat.le_of_ble_eq_true rfl) (Nat.le_of_ble_eq_true rfl) dJ6_numberOfTrailingZeros_0f7a4_79
          · refine my_iinc (k := 1) (x := 5) (d := 2) (lv' := [(1, .int (nI 7)), (0, .int ((y.toUInt32 >>> ((nI 4).toUInt32 &&& Int32.toUInt32 31)).toInt32))]) hx hb dJ6_numberOfTrailingZeros_0f7a4_67 hl rfl (by decide) (by decide) rfl (fun ls hl => ?_)
            refine lv_iload_n hx hb dJ6_numberOfTrailingZeros_0f7a4_70 rfl (lv_at hl 1 rfl) ?_
            refine lv_iconst (v := nI 2) hx hb dJ6_numberOfTrailingZeros_0f7a4_71 (by decide) ?_
            refine lv_iushr hx hb dJ6_numberOfTrailingZeros_0f7a4_72 (v := (((y.toUInt32 >>> ((nI 4).toUInt32 &&& Int32.toUInt32 31)).toInt32).toUInt32 >>> ((nI 2).toUInt32 &&& Int32.toUInt32 31)).toInt32) rfl ?_
            refine lv_istore_n (lv' := [(0, .int ((((y.toUInt32 >>> ((nI 4).toUInt32 &&& Int32.toUInt32 31)).toInt32).toUInt32 >>> ((nI 2).toUInt32 &&& Int32.toUInt32 31)).toInt32)), (1, .int (nI 7))]) hx hb dJ6_numberOfTrailingZeros_0f7a4_73 rfl hl (by decide) rfl (fun ls hl => ?_)
            refine lv_iload_n hx hb dJ6_numberOfTrailingZeros_0f7a4_74 rfl (lv_at hl 1 rfl) ?_
            refine lv_iload_n hx hb dJ6_numberOfTrailingZeros_0f7a4_75 rfl (lv_at hl 0 rfl) ?_
            refine lv_iconst (v := nI 1) hx hb dJ6_numberOfTrailingZeros_0f7a4_76 (by decide) ?_
            refine lv_iushr hx hb dJ6_numberOfTrailingZeros_0f7a4_77 (v := (((((y.toUInt32 >>> ((nI 4).toUInt32 &&& Int32.toUInt32 31)).toInt32).toUInt32 >>> ((nI 2).toUInt32 &&& Int32.toUInt32 31)).toInt32).toUInt32 >>> ((nI 1).toUInt32 &&& Int32.toUInt32 31)).toInt32) rfl ?_
            refine lv_iadd hx hb dJ6_numberOfTrailingZeros_0f7a4_78 ?_
            have ey2 : y = (x ^^^ (-1)) &&& (x - 1) := ey
            have d0 : ¬ y ≤ 0 := Int32.not_le.mpr c_1
            have d23 :  y ≤ 65536 := c_2
            have d38 :  y ≤ 256 := c_3
            have d52 : ¬ y ≤ 16 := c_4
            have d64 : ¬ ((y.toUInt32 >>> ((4 : Int32).toUInt32 &&& Int32.toUInt32 31)).toInt32) ≤ 4 := c_6
            exact ret () _ _ _ _ _ _ _ _ (by show _ = ntzF x; unfold ntzF; rw [← ey2]; unfold ntzG; rw [if_neg d0]; unfold ntz0; rw [if_pos d23]; unfold ntz1; rw [if_pos d38]; unfold ntz2; rw [if_neg d52]; unfold ntz3; rw [if_neg d64]; rfl) (trivial) (rfl) hP hD hS (Nat.le_of_ble_eq_true rfl) (Nat.le_of_ble_eq_true rfl) dJ6_numberOfTrailingZeros_0f7a4_79
      · refine my_iinc (k := 0) (x := 1) (d := 8) (lv' := [(1, .int (nI 9)), (0, .int y)]) hx hb dJ6_numberOfTrailingZeros_0f7a4_41 hl rfl (by decide) (by decide) rfl (fun ls hl => ?_)
        refine lv_iload_n hx hb dJ6_numberOfTrailingZeros_0f7a4_44 rfl (lv_at hl 1 rfl) ?_
        refine lv_bipush (v := nI 8) hx hb dJ6_numberOfTrailingZeros_0f7a4_45 (by decide) ?_
        refine lv_iushr hx hb dJ6_numberOfTrailingZeros_0f7a4_47 (v := (y.toUInt32 >>> ((nI 8).toUInt32 &&& Int32.toUInt32 31)).toInt32) rfl ?_
        refine lv_istore_n (lv' := [(0, .int ((y.toUInt32 >>> ((nI 8).toUInt32 &&& Int32.toUInt32 31)).toInt32)), (1, .int (nI 9))]) hx hb dJ6_numberOfTrailingZeros_0f7a4_48 rfl hl (by decide) rfl (fun ls hl => ?_)
        refine lv_iload_n hx hb dJ6_numberOfTrailingZeros_0f7a4_49 rfl (lv_at hl 0 rfl) ?_
        refine lv_bipush (v := nI 16) hx hb dJ6_numberOfTrailingZeros_0f7a4_50 (by decide) ?_
        refine lv_icmp_le (x := ((y.toUInt32 >>> ((nI 8).toUInt32 &&& Int32.toUInt32 31)).toInt32)) (y := (nI 16)) (tgt := 62) hx hb dJ6_numberOfTrailingZeros_0f7a4_52 (by decide) (fun c_7 => ?_) (fun c_7 => ?_)
        · refine lv_iload_n hx hb dJ6_numberOfTrailingZeros_0f7a4_62 rfl (lv_at hl 0 rfl) ?_
          refine lv_iconst (v := nI 4) hx hb dJ6_numberOfTrailingZeros_0f7a4_63 (by decide) ?_
          refine lv_icmp_le (x := ((y.toUInt32 >>> ((nI 8).toUInt32 &&& Int32.toUInt32 31)).toInt32)) (y := (nI 4)) (tgt := 74) hx hb dJ6_numberOfTrailingZeros_0f7a4_64 (by decide) (fun c_8 => ?_) (fun c_8 => ?_)
          · refine lv_iload_n hx hb dJ6_numberOfTrailingZeros_0f7a4_74 rfl (lv_at hl 1 rfl) ?_
            refine lv_iload_n hx hb dJ6_numberOfTrailingZeros_0f7a4_75 rfl (lv_at hl 0 rfl) ?_
            refine lv_iconst (v := nI 1) hx hb dJ6_numberOfTrailingZeros_0f7a4_76 (by decide) ?_
            refine lv_iushr hx hb dJ6_numberOfTrailingZeros_0f7a4_77 (v := (((y.toUInt32 >>> ((nI 8).toUInt32 &&& Int32.toUInt32 31)).toInt32).toUInt32 >>> ((nI 1).toUInt32 &&& Int32.toUInt32 31)).toInt32) rfl ?_
            refine lv_iadd hx hb dJ6_numberOfTrailingZeros_0f7a4_78 ?_
            have ey2 : y = (x ^^^ (-1)) &&& (x - 1) := ey
            have d0 : ¬ y ≤ 0 := Int32.not_le.mpr c_1
            have d23 :  y ≤ 65536 := c_2
            have d38 : ¬ y ≤ 256 := c_3
            have d52 :  ((y.toUInt32 >>> ((8 : Int32).toUInt32 &&& Int32.toUInt32 31)).toInt32) ≤ 16 := c_7
            have d64 :  ((y.toUInt32 >>> ((8 : Int32).toUInt32 &&& Int32.toUInt32 31)).toInt32) ≤ 4 := c_8
            exact ret () _ _ _ _ _ _ _ _ (by show _ = ntzF x; unfold ntzF; rw [← ey2]; unfold ntzG; rw [if_neg d0]; unfold ntz0; rw [if_pos d23]; unfold ntz1; rw [if_neg d38]; unfold ntz2; rw [if_pos d52]; unfold ntz3; rw [if_pos d64]; rfl) (trivial) (rfl) hP hD hS (Nat.le_of_ble_eq_true rfl) (Nat.le_of_ble_eq_true rfl) dJ6_numberOfTrailingZeros_0f7a4_79
          · refine my_iinc (k := 1) (x := 9) (d := 2) (lv' := [(1, .int (nI 11)), (0, .int ((y.toUInt32 >>> ((nI 8).toUInt32 &&& Int32.toUInt32 31)).toInt32))]) hx hb dJ6_numberOfTrailingZeros_0f7a4_67 hl rfl (by decide) (by decide) rfl (fun ls hl => ?_)
            refine lv_iload_n hx hb dJ6_numberOfTrailingZeros_0f7a4_70 rfl (lv_at hl 1 rfl) ?_
            refine lv_iconst (v := nI 2) hx hb dJ6_numberOfTrailingZeros_0f7a4_71 (by decide) ?_
            refine lv_iushr hx hb dJ6_numberOfTrailingZeros_0f7a4_72 (v := (((y.toUInt32 >>> ((nI 8).toUInt32 &&& Int32.toUInt32 31)).toInt32).toUInt32 >>> ((nI 2).toUInt32 &&& Int32.toUInt32 31)).toInt32) rfl ?_
            refine lv_istore_n (lv' := [(0, .int ((((y.toUInt32 >>> ((nI 8).toUInt32 &&& Int32.toUInt32 31)).toInt32).toUInt32 >>> ((nI 2).toUInt32 &&& Int32.toUInt32 31)).toInt32)), (1, .int (nI 11))]) hx hb dJ6_numberOfTrailingZeros_0f7a4_73 rfl hl (by decide) rfl (fun ls hl => ?_)
            refine lv_iload_n hx hb dJ6_numberOfTrailingZeros_0f7a4_74 rfl (lv_at hl 1 rfl) ?_
            refine lv_iload_n hx hb dJ6_numberOfTrailingZeros_0f7a4_75 rfl (lv_at hl 0 rfl) ?_
            refine lv_iconst (v := nI 1) hx hb dJ6_numberOfTrailingZeros_0f7a4_76 (by decide) ?_
            refine lv_iushr hx hb dJ6_numberOfTrailingZeros_0f7a4_77 (v := (((((y.toUInt32 >>> ((nI 8).toUInt32 &&& Int32.toUInt32 31)).toInt32).toUInt32 >>> ((nI 2).toUInt32 &&& Int32.toUInt32 31)).toInt32).toUInt32 >>> ((nI 1).toUInt32 &&& Int32.toUInt32 31)).toInt32) rfl ?_
            refine lv_iadd hx hb dJ6_numberOfTrailingZeros_0f7a4_78 ?_
            have ey2 : y = (x ^^^ (-1)) &&& (x - 1) := ey
            have d0 : ¬ y ≤ 0 := Int32.not_le.mpr c_1
            have d23 :  y ≤ 65536 := c_2
            have d38 : ¬ y ≤ 256 := c_3
            have d52 :  ((y.toUInt32 >>> ((8 : Int32).toUInt32 &&& Int32.toUInt32 31)).toInt32) ≤ 16 := c_7
            have d64 : ¬ ((y.toUInt32 >>> ((8 : Int32).toUInt32 &&& Int32.toUInt32 31)).toInt32) ≤ 4 := c_8
            exact ret () _ _ _ _ _ _ _ _ (by show _ = ntzF x; unfold ntzF; rw [← ey2]; unfold ntzG; rw [if_neg d0]; unfold ntz0; rw [if_pos d23]; unfold ntz1; rw [if_neg d38]; unfold ntz2; rw [if_pos d52]; unfold ntz3; rw [if_neg d64]; rfl) (trivial) (rfl) hP hD hS (Nat.le_of_ble_eq_true rfl) (Nat.le_of_ble_eq_true rfl) dJ6_numberOfTrailingZeros_0f7a4_79
        · refine my_iinc (k := 1) (x := 9) (d := 4) (lv' := [(1, .int (nI 13)), (0, .int ((y.toUInt32 >>> ((nI 8).toUInt32 &&& Int32.toUInt32 31)).toInt32))]) hx hb dJ6_numberOfTrailingZeros_0f7a4_55 hl rfl (by decide) (by decide) rfl (fun ls hl => ?_)
          refine lv_iload_n hx hb dJ6_numberOfTrailingZeros_0f7a4_58 rfl (lv_at hl 1 rfl) ?_
          refine lv_iconst (v := nI 4) hx hb dJ6_numberOfTrailingZeros_0f7a4_59 (by decide) ?_
          refine lv_iushr hx hb dJ6_numberOfTrailingZeros_0f7a4_60 (v := (((y.toUInt32 >>> ((nI 8).toUInt32 &&& Int32.toUInt32 31)).toInt32).toUInt32 >>> ((nI 4).toUInt32 &&& Int32.toUInt32 31)).toInt32) rfl ?_
          refine lv_istore_n (lv' := [(0, .int ((((y.toUInt32 >>> ((nI 8).toUInt32 &&& Int32.toUInt32 31)).toInt32).toUInt32 >>> ((nI 4).toUInt32 &&& Int32.toUInt32 31)).toInt32)), (1, .int (nI 13))]) hx hb dJ6_numberOfTrailingZeros_0f7a4_61 rfl hl (by decide) rfl (fun ls hl => ?_)
          refine lv_iload_n hx hb dJ6_numberOfTrailingZeros_0f7a4_62 rfl (lv_at hl 0 rfl) ?_
          refine lv_iconst (v := nI 4) hx hb dJ6_numberOfTrailingZeros_0f7a4_63 (by decide) ?_
          refine lv_icmp_le (x := ((((y.toUInt32 >>> ((nI 8).toUInt32 &&& Int32.toUInt32 31)).toInt32).toUInt32 >>> ((nI 4).toUInt32 &&& Int32.toUInt32 31)).toInt32)) (y := (nI 4)) (tgt := 74) hx hb dJ6_numberOfTrailingZeros_0f7a4_64 (by decide) (fun c_9 => ?_) (fun c_9 => ?_)
          · refine lv_iload_n hx hb dJ6_numberOfTrailingZeros_0f7a4_74 rfl (lv_at hl 1 rfl) ?_
            refine lv_iload_n hx hb dJ6_numberOfTrailingZeros_0f7a4_75 rfl (lv_at hl 0 rfl) ?_
            refine lv_iconst (v := nI 1) hx hb dJ6_numberOfTrailingZeros_0f7a4_76 (by decide) ?_
            refine lv_iushr hx hb dJ6_numberOfTrailingZeros_0f7a4_77 (v := (((((y.toUInt32 >>> ((nI 8).toUInt32 &&& Int32.toUInt32 31)).toInt32).toUInt32 >>> ((nI 4).toUInt32 &&& Int32.toUInt32 31)).toInt32).toUInt32 >>> ((nI 1).toUInt32 &&& Int32.toUInt32 31)).toInt32) rfl ?_
            refine lv_iadd hx hb dJ6_numberOfTrailingZeros_0f7a4_78 ?_
            have ey2 : y = (x ^^^ (-1)) &&& (x - 1) := ey
            have d0 : ¬ y ≤ 0 := Int32.not_le.mpr c_1
            have d23 :  y ≤ 65536 := c_2
            have d38 : ¬ y ≤ 256 := c_3
            have d52 : ¬ ((y.toUInt32 >>> ((8 : Int32).toUInt32 &&& Int32.toUInt32 31)).toInt32) ≤ 16 := c_7
            have d64 :  ((((y.toUInt32 >>> ((8 : Int32).toUInt32 &&& Int32.toUInt32 31)).toInt32).toUInt32 >>> ((4 : Int32).toUInt32 &&& Int32.toUInt32 31)).toInt32) ≤ 4 := c_9
            exact ret () _ _ _ _ _ _ _ _ (by show _ = ntzF x; unfold ntzF; rw [← ey2]; unfold ntzG; rw [if_neg d0]; unfold ntz0; rw [if_pos d23]; unfold ntz1; rw [if_neg d38]; unfold ntz2; rw [if_neg d52]; unfold ntz3; rw [if_pos d64]; rfl) (trivial) (rfl) hP hD hS (Nat.le_of_ble_eq_true rfl) (Nat.le_of_ble_eq_true rfl) dJ6_numberOfTrailingZeros_0f7a4_79
          · refine my_iinc (k := 1) (x := 13) (d := 2) (lv' := [(1, .int (nI 15)), (0, .int ((((y.toUInt32 >>> ((nI 8).toUInt32 &&& Int32.toUInt32 31)).toInt32).toUInt32 >>> ((nI 4).toUInt32 &&& Int32.toUInt32 31)).toInt32))]) hx hb dJ6_numberOfTrailingZeros_0f7a4_67 hl rfl (by decide) (by decide) rfl (fun ls hl => ?_)
            refine lv_iload_n hx hb dJ6_numberOfTrailingZeros_0f7a4_70 rfl (lv_at hl 1 rfl) ?_
            refine lv_iconst (v := nI 2) hx hb dJ6_numberOfTrailingZeros_0f7a4_71 (by decide) ?_
            refine lv_iushr hx hb dJ6_numberOfTrailingZeros_0f7a4_72 (v := (((((y.toUInt32 >>> ((nI 8).toUInt32 &&& Int32.toUInt32 31)).toInt32).toUInt32 >>> ((nI 4).toUInt32 &&& Int32.toUInt32 31)).toInt32).toUInt32 >>> ((nI 2).toUInt32 &&& Int32.toUInt32 31)).toInt32) rfl ?_
            refine lv_istore_n (lv' := [(0, .int ((((((y.toUInt32 >>> ((nI 8).toUInt32 &&& Int32.toUInt32 31)).toInt32).toUInt32 >>> ((nI 4).toUInt32 &&& Int32.toUInt32 31)).toInt32).toUInt32 >>> ((nI 2).toUInt32 &&& Int32.toUInt32 31)).toInt32)), (1, .int (nI 15))]) hx hb dJ6_numberOfTrailingZeros_0f7a4_73 rfl hl (by decide) rfl (fun ls hl => ?_)
            refine lv_iload_n hx hb dJ6_numberOfTrailingZeros_0f7a4_74 rfl (lv_at hl 1 rfl) ?_
            refine lv_iload_n hx hb dJ6_numberOfTrailingZeros_0f7a4_75 rfl (lv_at hl 0 rfl) ?_
            refine lv_iconst (v := nI 1) hx hb dJ6_numberOfTrailingZeros_0f7a4_76 (by decide) ?_
            refine lv_iushr hx hb dJ6_numberOfTrailingZeros_0f7a4_77 (v := (((((((y.toUInt32 >>> ((nI 8).toUInt32 &&& Int32.toUInt32 31)).toInt32).toUInt32 >>> ((nI 4).toUInt32 &&& Int32.toUInt32 31)).toInt32).toUInt32 >>> ((nI 2).toUInt32 &&& Int32.toUInt32 31)).toInt32).toUInt32 >>> ((nI 1).toUInt32 &&& Int32.toUInt32 31)).toInt32) rfl ?_
            refine lv_iadd hx hb dJ6_numberOfTrailingZeros_0f7a4_78 ?_
            have ey2 : y = (x ^^^ (-1)) &&& (x - 1) := ey
            have d0 : ¬ y ≤ 0 := Int32.not_le.mpr c_1
            have d23 :  y ≤ 65536 := c_2
            have d38 : ¬ y ≤ 256 := c_3
            have d52 : ¬ ((y.toUInt32 >>> ((8 : Int32).toUInt32 &&& Int32.toUInt32 31)).toInt32) ≤ 16 := c_7
            have d64 : ¬ ((((y.toUInt32 >>> ((8 : Int32).toUInt32 &&& Int32.toUInt32 31)).toInt32).toUInt32 >>> ((4 : Int32).toUInt32 &&& Int32.toUInt32 31)).toInt32) ≤ 4 := c_9
            exact ret () _ _ _ _ _ _ _ _ (by show _ = ntzF x; unfold ntzF; rw [← ey2]; unfold ntzG; rw [if_neg d0]; unfold ntz0; rw [if_pos d23]; unfold ntz1; rw [if_neg d38]; unfold ntz2; rw [if_neg d52]; unfold ntz3; rw [if_neg d64]; rfl) (trivial) (rfl) hP hD hS (Nat.le_of_ble_eq_true rfl) (Nat.le_of_ble_eq_true rfl) dJ6_numberOfTrailingZeros_0f7a4_79
    · refine my_iinc (k := 0) (x := 1) (d := 16) (lv' := [(1, .int (nI 17)), (0, .int y)]) hx hb dJ6_numberOfTrailingZeros_0f7a4_26 hl rfl (by decide) (by decide) rfl (fun ls hl => ?_)
      refine lv_iload_n hx hb dJ6_numberOfTrailingZeros_0f7a4_29 rfl (lv_at hl 1 rfl) ?_
      refine lv_bipush (v := nI 16) hx hb dJ6_numberOfTrailingZeros_0f7a4_30 (by decide) ?_
      refine lv_iushr hx hb dJ6_numberOfTrailingZeros_0f7a4_32 (v := (y.toUInt32 >>> ((nI 16).toUInt32 &&& Int32.toUInt32 31)).toInt32) rfl ?_
      refine lv_istore_n (lv' := [(0, .int ((y.toUInt32 >>> ((nI 16).toUInt32 &&& Int32.toUInt32 31)).toInt32)), (1, .int (nI 17))]) hx hb dJ6_numberOfTrailingZeros_0f7a4_33 rfl hl (by decide) rfl (fun ls hl => ?_)
      refine lv_iload_n hx hb dJ6_numberOfTrailingZeros_0f7a4_34 rfl (lv_at hl 0 rfl) ?_
      refine lv_sipush (v := nI 256) hx hb dJ6_numberOfTrailingZeros_0f7a4_35 (by decide) ?_
      refine lv_icmp_le (x := ((y.toUInt32 >>> ((nI 16).toUInt32 &&& Int32.toUInt32 31)).toInt32)) (y := (nI 256)) (tgt := 49) hx hb dJ6_numberOfTrailingZeros_0f7a4_38 (by decide) (fun c_10 => ?_) (fun c_10 => ?_)
      · refine lv_iload_n hx hb dJ6_numberOfTrailingZeros_0f7a4_49 rfl (lv_at hl 0 rfl) ?_
        refine lv_bipush (v := nI 16) hx hb dJ6_numberOfTrailingZeros_0f7a4_50 (by decide) ?_
        refine lv_icmp_le (x := ((y.toUInt32 >>> ((nI 16).toUInt32 &&& Int32.toUInt32 31)).toInt32)) (y := (nI 16)) (tgt := 62) hx hb dJ6_numberOfTrailingZeros_0f7a4_52 (by decide) (fun c_11 => ?_) (fun c_11 => ?_)
        · refine lv_iload_n hx hb dJ6_numberOfTrailingZeros_0f7a4_62 rfl (lv_at hl 0 rfl) ?_
          refine lv_iconst (v := nI 4) hx hb dJ6_numberOfTrailingZeros_0f7a4_63 (by decide) ?_
          refine lv_icmp_le (x := ((y.toUInt32 >>> ((nI 16).toUInt32 &&& Int32.toUInt32 31)).toInt32)) (y := (nI 4)) (tgt := 74) hx hb dJ6_numberOfTrailingZeros_0f7a4_64 (by decide) (fun c_12 => ?_) (fun c_12 => ?_)
          · refine lv_iload_n hx hb dJ6_numberOfTrailingZeros_0f7a4_74 rfl (lv_at hl 1 rfl) ?_
            refine lv_iload_n hx hb dJ6_numberOfTrailingZeros_0f7a4_75 rfl (lv_at hl 0 rfl) ?_
            refine lv_iconst (v := nI 1) hx hb dJ6_numberOfTrailingZeros_0f7a4_76 (by decide) ?_
            refine lv_iushr hx hb dJ6_numberOfTrailingZeros_0f7a4_77 (v := (((y.toUInt32 >>> ((nI 16).toUInt32 &&& Int32.toUInt32 31)).toInt32).toUInt32 >>> ((nI 1).toUInt32 &&& Int32.toUInt32 31)).toInt32) rfl ?_
            refine lv_iadd hx hb dJ6_numberOfTrailingZeros_0f7a4_78 ?_
            have ey2 : y = (x ^^^ (-1)) &&& (x - 1) := ey
            have d0 : ¬ y ≤ 0 := Int32.not_le.mpr c_1
            have d23 : ¬ y ≤ 65536 := c_2
            have d38 :  ((y.toUInt32 >>> ((16 : Int32).toUInt32 &&& Int32.toUInt32 31)).toInt32) ≤ 256 := c_10
            have d52 :  ((y.toUInt32 >>> ((16 : Int32).toUInt32 &&& Int32.toUInt32 31)).toInt32) ≤ 16 := c_11
            have d64 :  ((y.toUInt32 >>> ((16 : Int32).toUInt32 &&& Int32.toUInt32 31)).toInt32) ≤ 4 := c_12
            exact ret () _ _ _ _ _ _ _ _ (by show _ = ntzF x; unfold ntzF; rw [← ey2]; unfold ntzG; rw [if_neg d0]; unfold ntz0; rw [if_neg d23]; unfold ntz1; rw [if_pos d38]; unfold ntz2; rw [if_pos d52]; unfold ntz3; rw [if_pos d64]; rfl) (trivial) (rfl) hP hD hS (Nat.le_of_ble_eq_true rfl) (Nat.le_of_ble_eq_true rfl) dJ6_numberOfTrailingZeros_0f7a4_79
          · refine my_iinc (k := 1) (x := 17) (d := 2) (lv' := [(1, .int (nI 19)), (0, .int ((y.toUInt32 >>> ((nI 16).toUInt32 &&& Int32.toUInt32 31)).toInt32))]) hx hb dJ6_numberOfTrailingZeros_0f7a4_67 hl rfl (by decide) (by decide) rfl (fun ls hl => ?_)
            refine lv_iload_n hx hb dJ6_numberOfTrailingZeros_0f7a4_70 rfl (lv_at hl 1 rfl) ?_
            refine lv_iconst (v := nI 2) hx hb dJ6_numberOfTrailingZeros_0f7a4_71 (by decide) ?_
            refine lv_iushr hx hb dJ6_numberOfTrailingZeros_0f7a4_72 (v := (((y.toUInt32 >>> ((nI 16).toUInt32 &&& Int32.toUInt32 31)).toInt32).toUInt32 >>> ((nI 2).toUInt32 &&& Int32.toUInt32 31)).toInt32) rfl ?_
            refine lv_istore_n (lv' := [(0, .int ((((y.toUInt32 >>> ((nI 16).toUInt32 &&& Int32.toUInt32 31)).toInt32).toUInt32 >>> ((nI 2).toUInt32 &&& Int32.toUInt32 31)).toInt32)), (1, .int (nI 19))]) hx hb dJ6_numberOfTrailingZeros_0f7a4_73 rfl hl (by decide) rfl (fun ls hl => ?_)
            refine lv_iload_n hx hb dJ6_numberOfTrailingZeros_0f7a4_74 rfl (lv_at hl 1 rfl) ?_
            refine lv_iload_n hx hb dJ6_numberOfTrailingZeros_0f7a4_75 rfl (lv_at hl 0 rfl) ?_
            refine lv_iconst (v := nI 1) hx hb dJ6_numberOfTrailingZeros_0f7a4_76 (by decide) ?_
            refine lv_iushr hx hb dJ6_numberOfTrailingZeros_0f7a4_77 (v := (((((y.toUInt32 >>> ((nI 16).toUInt32 &&& Int32.toUInt32 31)).toInt32).toUInt32 >>> ((nI 2).toUInt32 &&& Int32.toUInt32 31)).toInt32).toUInt32 >>> ((nI 1).toUInt32 &&& Int32.toUInt32 31)).toInt32) rfl ?_
            refine lv_iadd hx hb dJ6_numberOfTrailingZeros_0f7a4_78 ?_
            have ey2 : y = (x ^^^ (-1)) &&& (x - 1) := ey
            have d0 : ¬ y ≤ 0 := Int32.not_le.mpr c_1
            have d23 : ¬ y ≤ 65536 := c_2
            have d38 :  ((y.toUInt32 >>> ((16 : Int32).toUInt32 &&& Int32.toUInt32 31)).toInt32) ≤ 256 := c_10
            have d52 :  ((y.toUInt32 >>> ((16 : Int32).toUInt32 &&& Int32.toUInt32 31)).toInt32) ≤ 16 := c_11
            have d64 : ¬ ((y.toUInt32 >>> ((16 : Int32).toUInt32 &&& Int32.toUInt32 31)).toInt32) ≤ 4 := c_12
            exact ret () _ _ _ _ _ _ _ _ (by show _ = ntzF x; unfold ntzF; rw [← ey2]; unfold ntzG; rw [if_neg d0]; unfold ntz0; rw [if_neg d23]; unfold ntz1; rw [if_pos d38]; unfold ntz2; rw [if_pos d52]; unfold ntz3; rw [if_neg d64]; rfl) (trivial) (rfl) hP hD hS (Nat.le_of_ble_eq_true rfl) (Nat.le_of_ble_eq_true rfl) dJ6_numberOfTrailingZeros_0f7a4_79
        · refine my_iinc (k := 1) (x := 17) (d := 4) (lv' := [(1, .int (nI 21)), (0, .int ((y.toUInt32 >>> ((nI 16).toUInt32 &&& Int32.toUInt32 31)).toInt32))]) hx hb dJ6_numberOfTrailingZeros_0f7a4_55 hl rfl (by decide) (by decide) rfl (fun ls hl => ?_)
          refine lv_iload_n hx hb dJ6_numberOfTrailingZeros_0f7a4_58 rfl (lv_at hl 1 rfl) ?_
          refine lv_iconst (v := nI 4) hx hb dJ6_numberOfTrailingZeros_0f7a4_59 (by decide) ?_
          refine lv_iushr hx hb dJ6_numberOfTrailingZeros_0f7a4_60 (v := (((y.toUInt32 >>> ((nI 16).toUInt32 &&& Int32.toUInt32 31)).toInt32).toUInt32 >>> ((nI 4).toUInt32 &&& Int32.toUInt32 31)).toInt32) rfl ?_
          refine lv_istore_n (lv' := [(0, .int ((((y.toUInt32 >>> ((nI 16).toUInt32 &&& Int32.toUInt32 31)).toInt32).toUInt32 >>> ((nI 4).toUInt32 &&& Int32.toUInt32 31)).toInt32)), (1, .int (nI 21))]) hx hb dJ6_numberOfTrailingZeros_0f7a4_61 rfl hl (by decide) rfl (fun ls hl => ?_)
          refine lv_iload_n hx hb dJ6_numberOfTrailingZeros_0f7a4_62 rfl (lv_at hl 0 rfl) ?_
          refine lv_iconst (v := nI 4) hx hb dJ6_numberOfTrailingZeros_0f7a4_63 (by decide) ?_
          refine lv_icmp_le (x := ((((y.toUInt32 >>> ((nI 16).toUInt32 &&& Int32.toUInt32 31)).toInt32).toUInt32 >>> ((nI 4).toUInt32 &&& Int32.toUInt32 31)).toInt32)) (y := (nI 4)) (tgt := 74) hx hb dJ6_numberOfTrailingZeros_0f7a4_64 (by decide) (fun c_13 => ?_) (fun c_13 => ?_)
          · refine lv_iload_n hx hb dJ6_numberOfTrailingZeros_0f7a4_74 rfl (lv_at hl 1 rfl) ?_
            refine lv_iload_n hx hb dJ6_numberOfTrailingZeros_0f7a4_75 rfl (lv_at hl 0 rfl) ?_
            refine lv_iconst (v := nI 1) hx hb dJ6_numberOfTrailingZeros_0f7a4_76 (by decide) ?_
            refine lv_iushr hx hb dJ6_numberOfTrailingZeros_0f7a4_77 (v := (((((y.toUInt32 >>> ((nI 16).toUInt32 &&& Int32.toUInt32 31)).toInt32).toUInt32 >>> ((nI 4).toUInt32 &&& Int32.toUInt32 31)).toInt32).toUInt32 >>> ((nI 1).toUInt32 &&& Int32.toUInt32 31)).toInt32) rfl ?_
            refine lv_iadd hx hb dJ6_numberOfTrailingZeros_0f7a4_78 ?_
            have ey2 : y = (x ^^^ (-1)) &&& (x - 1) := ey
            have d0 : ¬ y ≤ 0 := Int32.not_le.mpr c_1
            have d23 : ¬ y ≤ 65536 := c_2
            have d38 :  ((y.toUInt32 >>> ((16 : Int32).toUInt32 &&& Int32.toUInt32 31)).toInt32) ≤ 256 := c_10
            have d52 : ¬ ((y.toUInt32 >>> ((16 : Int32).toUInt32 &&& Int32.toUInt32 31)).toInt32) ≤ 16 := c_11
            have d64 :  ((((y.toUInt32 >>> ((16 : Int32).toUInt32 &&& Int32.toUInt32 31)).toInt32).toUInt32 >>> ((4 : Int32).toUInt32 &&& Int32.toUInt32 31)).toInt32) ≤ 4 := c_13
            exact ret () _ _ _ _ _ _ _ _ (by show _ = ntzF x; unfold ntzF; rw [← ey2]; unfold ntzG; rw [if_neg d0]; unfold ntz0; rw [if_neg d23]; unfold ntz1; rw [if_pos d38]; unfold ntz2; rw [if_neg d52]; unfold ntz3; rw [if_pos d64]; rfl) (trivial) (rfl) hP hD hS (Nat.le_of_ble_eq_true rfl) (Nat.le_of_ble_eq_true rfl) dJ6_numberOfTrailingZeros_0f7a4_79
          · refine my_iinc (k := 1) (x := 21) (d := 2) (lv' := [(1, .int (nI 23)), (0, .int ((((y.toUInt32 >>> ((nI 16).toUInt32 &&& Int32.toUInt32 31)).toInt32).toUInt32 >>> ((nI 4).toUInt32 &&& Int32.toUInt32 31)).toInt32))]) hx hb dJ6_numberOfTrailingZeros_0f7a4_67 hl rfl (by decide) (by decide) rfl (fun ls hl => ?_)
            refine lv_iload_n hx hb dJ6_numberOfTrailingZeros_0f7a4_70 rfl (lv_at hl 1 rfl) ?_
            refine lv_iconst (v := nI 2) hx hb dJ6_numberOfTrailingZeros_0f7a4_71 (by decide) ?_
            refine lv_iushr hx hb dJ6_numberOfTrailingZeros_0f7a4_72 (v := (((((y.toUInt32 >>> ((nI 16).toUInt32 &&& Int32.toUInt32 31)).toInt32).toUInt32 >>> ((nI 4).toUInt32 &&& Int32.toUInt32 31)).toInt32).toUInt32 >>> ((nI 2).toUInt32 &&& Int32.toUInt32 31)).toInt32) rfl ?_
            refine lv_istore_n (lv' := [(0, .int ((((((y.toUInt32 >>> ((nI 16).toUInt32 &&& Int32.toUInt32 31)).toInt32).toUInt32 >>> ((nI 4).toUInt32 &&& Int32.toUInt32 31)).toInt32).toUInt32 >>> ((nI 2).toUInt32 &&& Int32.toUInt32 31)).toInt32)), (1, .int (nI 23))]) hx hb dJ6_numberOfTrailingZeros_0f7a4_73 rfl hl (by decide) rfl (fun ls hl => ?_)
            refine lv_iload_n hx hb dJ6_numberOfTrailingZeros_0f7a4_74 rfl (lv_at hl 1 rfl) ?_
            refine lv_iload_n hx hb dJ6_numberOfTrailingZeros_0f7a4_75 rfl (lv_at hl 0 rfl) ?_
            refine lv_iconst (v := nI 1) hx hb dJ6_numberOfTrailingZeros_0f7a4_76 (by decide) ?_
            refine lv_iushr hx hb dJ6_numberOfTrailingZeros_0f7a4_77 (v := (((((((y.toUInt32 >>> ((nI 16).toUInt32 &&& Int32.toUInt32 31)).toInt32).toUInt32 >>> ((nI 4).toUInt32 &&& Int32.toUInt32 31)).toInt32).toUInt32 >>> ((nI 2).toUInt32 &&& Int32.toUInt32 31)).toInt32).toUInt32 >>> ((nI 1).toUInt32 &&& Int32.toUInt32 31)).toInt32) rfl ?_
            refine lv_iadd hx hb dJ6_numberOfTrailingZeros_0f7a4_78 ?_
            have ey2 : y = (x ^^^ (-1)) &&& (x - 1) := ey
            have d0 : ¬ y ≤ 0 := Int32.not_le.mpr c_1
            have d23 : ¬ y ≤ 65536 := c_2
            have d38 :  ((y.toUInt32 >>> ((16 : Int32).toUInt32 &&& Int32.toUInt32 31)).toInt32) ≤ 256 := c_10
            have d52 : ¬ ((y.toUInt32 >>> ((16 : Int32).toUInt32 &&& Int32.toUInt32 31)).toInt32) ≤ 16 := c_11
            have d64 : ¬ ((((y.toUInt32 >>> ((16 : Int32).toUInt32 &&& Int32.toUInt32 31)).toInt32).toUInt32 >>> ((4 : Int32).toUInt32 &&& Int32.toUInt32 31)).toInt32) ≤ 4 := c_13
            exact ret () _ _ _ _ _ _ _ _ (by show _ = ntzF x; unfold ntzF; rw [← ey2]; unfold ntzG; rw [if_neg d0]; unfold ntz0; rw [if_neg d23]; unfold ntz1; rw [if_pos d38]; unfold ntz2; rw [if_neg d52]; unfold ntz3; rw [if_neg d64]; rfl) (trivial) (rfl) hP hD hS (Nat.le_of_ble_eq_true rfl) (Nat.le_of_ble_eq_true rfl) dJ6_numberOfTrailingZeros_0f7a4_79
      · refine my_iinc (k := 1) (x := 17) (d := 8) (lv' := [(1, .int (nI 25)), (0, .int ((y.toUInt32 >>> ((nI 16).toUInt32 &&& Int32.toUInt32 31)).toInt32))]) hx hb dJ6_numberOfTrailingZeros_0f7a4_41 hl rfl (by decide) (by decide) rfl (fun ls hl => ?_)
        refine lv_iload_n hx hb dJ6_numberOfTrailingZeros_0f7a4_44 rfl (lv_at hl 1 rfl) ?_
        refine lv_bipush (v := nI 8) hx hb dJ6_numberOfTrailingZeros_0f7a4_45 (by decide) ?_
        refine lv_iushr hx hb dJ6_numberOfTrailingZeros_0f7a4_47 (v := (((y.toUInt32 >>> ((nI 16).toUInt32 &&& Int32.toUInt32 31)).toInt32).toUInt32 >>> ((nI 8).toUInt32 &&& Int32.toUInt32 31)).toInt32) rfl ?_
        refine lv_istore_n (lv' := [(0, .int ((((y.toUInt32 >>> ((nI 16).toUInt32 &&& Int32.toUInt32 31)).toInt32).toUInt32 >>> ((nI 8).toUInt32 &&& Int32.toUInt32 31)).toInt32)), (1, .int (nI 25))]) hx hb dJ6_numberOfTrailingZeros_0f7a4_48 rfl hl (by decide) rfl (fun ls hl => ?_)
        refine lv_iload_n hx hb dJ6_numberOfTrailingZeros_0f7a4_49 rfl (lv_at hl 0 rfl) ?_
        refine lv_bipush (v := nI 16) hx hb dJ6_numberOfTrailingZeros_0f7a4_50 (by decide) ?_
        refine lv_icmp_le (x := ((((y.toUInt32 >>> ((nI 16).toUInt32 &&& Int32.toUInt32 31)).toInt32).toUInt32 >>> ((nI 8).toUInt32 &&& Int32.toUInt32 31)).toInt32)) (y := (nI 16)) (tgt := 62) hx hb dJ6_numberOfTrailingZeros_0f7a4_52 (by decide) (fun c_14 => ?_) (fun c_14 => ?_)
        · refine lv_iload_n hx hb dJ6_numberOfTrailingZeros_0f7a4_62 rfl (lv_at hl 0 rfl) ?_
          refine lv_iconst (v := nI 4) hx hb dJ6_numberOfTrailingZeros_0f7a4_63 (by decide) ?_
          refine lv_icmp_le (x := ((((y.toUInt32 >>> ((nI 16).toUInt32 &&& Int32.toUInt32 31)).toInt32).toUInt32 >>> ((nI 8).toUInt32 &&& Int32.toUInt32 31)).toInt32)) (y := (nI 4)) (tgt := 74) hx hb dJ6_numberOfTrailingZeros_0f7a4_64 (by decide) (fun c_15 => ?_) (fun c_15 => ?_)
          · refine lv_iload_n hx hb dJ6_numberOfTrailingZeros_0f7a4_74 rfl (lv_at hl 1 rfl) ?_
            refine lv_iload_n hx hb dJ6_numberOfTrailingZeros_0f7a4_75 rfl (lv_at hl 0 rfl) ?_
            refine lv_iconst (v := nI 1) hx hb dJ6_numberOfTrailingZeros_0f7a4_76 (by decide) ?_
            refine lv_iushr hx hb dJ6_numberOfTrailingZeros_0f7a4_77 (v := (((((y.toUInt32 >>> ((nI 16).toUInt32 &&& Int32.toUInt32 31)).toInt32).toUInt32 >>> ((nI 8).toUInt32 &&& Int32.toUInt32 31)).toInt32).toUInt32 >>> ((nI 1).toUInt32 &&& Int32.toUInt32 31)).toInt32) rfl ?_
            refine lv_iadd hx hb dJ6_numberOfTrailingZeros_0f7a4_78 ?_
            have ey2 : y = (x ^^^ (-1)) &&& (x - 1) := ey
            have d0 : ¬ y ≤ 0 := Int32.not_le.mpr c_1
            have d23 : ¬ y ≤ 65536 := c_2
            have d38 : ¬ ((y.toUInt32 >>> ((16 : Int32).toUInt32 &&& Int32.toUInt32 31)).toInt32) ≤ 256 := c_10
            have d52 :  ((((y.toUInt32 >>> ((16 : Int32).toUInt32 &&& Int32.toUInt32 31)).toInt32).toUInt32 >>> ((8 : Int32).toUInt32 &&& Int32.toUInt32 31)).toInt32) ≤ 16 := c_14
            have d64 :  ((((y.toUInt32 >>> ((16 : Int32).toUInt32 &&& Int32.toUInt32 31)).toInt32).toUInt32 >>> ((8 : Int32).toUInt32 &&& Int32.toUInt32 31)).toInt32) ≤ 4 := c_15
            exact ret () _ _ _ _ _ _ _ _ (by show _ = ntzF x; unfold ntzF; rw [← ey2]; unfold ntzG; rw [if_neg d0]; unfold ntz0; rw [if_neg d23]; unfold ntz1; rw [if_neg d38]; unfold ntz2; rw [if_pos d52]; unfold ntz3; rw [if_pos d64]; rfl) (trivial) (rfl) hP hD hS (Nat.le_of_ble_eq_true rfl) (Nat.le_of_ble_eq_true rfl) dJ6_numberOfTrailingZeros_0f7a4_79
          · refine my_iinc (k := 1) (x := 25) (d := 2) (lv' := [(1, .int (nI 27)), (0, .int ((((y.toUInt32 >>> ((nI 16).toUInt32 &&& Int32.toUInt32 31)).toInt32).toUInt32 >>> ((nI 8).toUInt32 &&& Int32.toUInt32 31)).toInt32))]) hx hb dJ6_numberOfTrailingZeros_0f7a4_67 hl rfl (by decide) (by decide) rfl (fun ls hl => ?_)
            refine lv_iload_n hx hb dJ6_numberOfTrailingZeros_0f7a4_70 rfl (lv_at hl 1 rfl) ?_
            refine lv_iconst (v := nI 2) hx hb dJ6_numberOfTrailingZeros_0f7a4_71 (by decide) ?_
            refine lv_iushr hx hb dJ6_numberOfTrailingZeros_0f7a4_72 (v := (((((y.toUInt32 >>> ((nI 16).toUInt32 &&& Int32.toUInt32 31)).toInt32).toUInt32 >>> ((nI 8).toUInt32 &&& Int32.toUInt32 31)).toInt32).toUInt32 >>> ((nI 2).toUInt32 &&& Int32.toUInt32 31)).toInt32) rfl ?_
            refine lv_istore_n (lv' := [(0, .int ((((((y.toUInt32 >>> ((nI 16).toUInt32 &&& Int32.toUInt32 31)).toInt32).toUInt32 >>> ((nI 8).toUInt32 &&& Int32.toUInt32 31)).toInt32).toUInt32 >>> ((nI 2).toUInt32 &&& Int32.toUInt32 31)).toInt32)), (1, .int (nI 27))]) hx hb dJ6_numberOfTrailingZeros_0f7a4_73 rfl hl (by decide) rfl (fun ls hl => ?_)
            refine lv_iload_n hx hb dJ6_numberOfTrailingZeros_0f7a4_74 rfl (lv_at hl 1 rfl) ?_
            refine lv_iload_n hx hb dJ6_numberOfTrailingZeros_0f7a4_75 rfl (lv_at hl 0 rfl) ?_
            refine lv_iconst (v := nI 1) hx hb dJ6_numberOfTrailingZeros_0f7a4_76 (by decide) ?_
            refine lv_iushr hx hb dJ6_numberOfTrailingZeros_0f7a4_77 (v := (((((((y.toUInt32 >>> ((nI 16).toUInt32 &&& Int32.toUInt32 31)).toInt32).toUInt32 >>> ((nI 8).toUInt32 &&& Int32.toUInt32 31)).toInt32).toUInt32 >>> ((nI 2).toUInt32 &&& Int32.toUInt32 31)).toInt32).toUInt32 >>> ((nI 1).toUInt32 &&& Int32.toUInt32 31)).toInt32) rfl ?_
            refine lv_iadd hx hb dJ6_numberOfTrailingZeros_0f7a4_78 ?_
            have ey2 : y = (x ^^^ (-1)) &&& (x - 1) := ey
            have d0 : ¬ y ≤ 0 := Int32.not_le.mpr c_1
            have d23 : ¬ y ≤ 65536 := c_2
            have d38 : ¬ ((y.toUInt32 >>> ((16 : Int32).toUInt32 &&& Int32.toUInt32 31)).toInt32) ≤ 256 := c_10
            have d52 :  ((((y.toUInt32 >>> ((16 : Int32).toUInt32 &&& Int32.toUInt32 31)).toInt32).toUInt32 >>> ((8 : Int32).toUInt32 &&& Int32.toUInt32 31)).toInt32) ≤ 16 := c_14
            have d64 : ¬ ((((y.toUInt32 >>> ((16 : Int32).toUInt32 &&& Int32.toUInt32 31)).toInt32).toUInt32 >>> ((8 : Int32).toUInt32 &&& Int32.toUInt32 31)).toInt32) ≤ 4 := c_15
            exact ret () _ _ _ _ _ _ _ _ (by show _ = ntzF x; unfold ntzF; rw [← ey2]; unfold ntzG; rw [if_neg d0]; unfold ntz0; rw [if_neg d23]; unfold ntz1; rw [if_neg d38]; unfold ntz2; rw [if_pos d52]; unfold ntz3; rw [if_neg d64]; rfl) (trivial) (rfl) hP hD hS (Nat.le_of_ble_eq_true rfl) (Nat.le_of_ble_eq_true rfl) dJ6_numberOfTrailingZeros_0f7a4_79
        · refine my_iinc (k := 1) (x := 25) (d := 4) (lv' := [(1, .int (nI 29)), (0, .int ((((y.toUInt32 >>> ((nI 16).toUInt32 &&& Int32.toUInt32 31)).toInt32).toUInt32 >>> ((nI 8).toUInt32 &&& Int32.toUInt32 31)).toInt32))]) hx hb dJ6_numberOfTrailingZeros_0f7a4_55 hl rfl (by decide) (by decide) rfl (fun ls hl => ?_)
          refine lv_iload_n hx hb dJ6_numberOfTrailingZeros_0f7a4_58 rfl (lv_at hl 1 rfl) ?_
          refine lv_iconst (v := nI 4) hx hb dJ6_numberOfTrailingZeros_0f7a4_59 (by decide) ?_
          refine lv_iushr hx hb dJ6_numberOfTrailingZeros_0f7a4_60 (v := (((((y.toUInt32 >>> ((nI 16).toUInt32 &&& Int32.toUInt32 31)).toInt32).toUInt32 >>> ((nI 8).toUInt32 &&& Int32.toUInt32 31)).toInt32).toUInt32 >>> ((nI 4).toUInt32 &&& Int32.toUInt32 31)).toInt32) rfl ?_
          refine lv_istore_n (lv' := [(0, .int ((((((y.toUInt32 >>> ((nI 16).toUInt32 &&& Int32.toUInt32 31)).toInt32).toUInt32 >>> ((nI 8).toUInt32 &&& Int32.toUInt32 31)).toInt32).toUInt32 >>> ((nI 4).toUInt32 &&& Int32.toUInt32 31)).toInt32)), (1, .int (nI 29))]) hx hb dJ6_numberOfTrailingZeros_0f7a4_61 rfl hl (by decide) rfl (fun ls hl => ?_)
          refine lv_iload_n hx hb dJ6_numberOfTrailingZeros_0f7a4_62 rfl (lv_at hl 0 rfl) ?_
          refine lv_iconst (v := nI 4) hx hb dJ6_numberOfTrailingZeros_0f7a4_63 (by decide) ?_
          refine lv_icmp_le (x := ((((((y.toUInt32 >>> ((nI 16).toUInt32 &&& Int32.toUInt32 31)).toInt32).toUInt32 >>> ((nI 8).toUInt32 &&& Int32.toUInt32 31)).toInt32).toUInt32 >>> ((nI 4).toUInt32 &&& Int32.toUInt32 31)).toInt32)) (y := (nI 4)) (tgt := 74) hx hb dJ6_numberOfTrailingZeros_0f7a4_64 (by decide) (fun c_16 => ?_) (fun c_16 => ?_)
          · refine lv_iload_n hx hb dJ6_numberOfTrailingZeros_0f7a4_74 rfl (lv_at hl 1 rfl) ?_
            refine lv_iload_n hx hb dJ6_numberOfTrailingZeros_0f7a4_75 rfl (lv_at hl 0 rfl) ?_
            refine lv_iconst (v := nI 1) hx hb dJ6_numberOfTrailingZeros_0f7a4_76 (by decide) ?_
            refine lv_iushr hx hb dJ6_numberOfTrailingZeros_0f7a4_77 (v := (((((((y.toUInt32 >>> ((nI 16).toUInt32 &&& Int32.toUInt32 31)).toInt32).toUInt32 >>> ((nI 8).toUInt32 &&& Int32.toUInt32 31)).toInt32).toUInt32 >>> ((nI 4).toUInt32 &&& Int32.toUInt32 31)).toInt32).toUInt32 >>> ((nI 1).toUInt32 &&& Int32.toUInt32 31)).toInt32) rfl ?_
            refine lv_iadd hx hb dJ6_numberOfTrailingZeros_0f7a4_78 ?_
            have ey2 : y = (x ^^^ (-1)) &&& (x - 1) := ey
            have d0 : ¬ y ≤ 0 := Int32.not_le.mpr c_1
            have d23 : ¬ y ≤ 65536 := c_2
            have d38 : ¬ ((y.toUInt32 >>> ((16 : Int32).toUInt32 &&& Int32.toUInt32 31)).toInt32) ≤ 256 := c_10
            have d52 : ¬ ((((y.toUInt32 >>> ((16 : Int32).toUInt32 &&& Int32.toUInt32 31)).toInt32).toUInt32 >>> ((8 : Int32).toUInt32 &&& Int32.toUInt32 31)).toInt32) ≤ 16 := c_14
            have d64 :  ((((((y.toUInt32 >>> ((16 : Int32).toUInt32 &&& Int32.toUInt32 31)).toInt32).toUInt32 >>> ((8 : Int32).toUInt32 &&& Int32.toUInt32 31)).toInt32).toUInt32 >>> ((4 : Int32).toUInt32 &&& Int32.toUInt32 31)).toInt32) ≤ 4 := c_16
            exact ret () _ _ _ _ _ _ _ _ (by show _ = ntzF x; unfold ntzF; rw [← ey2]; unfold ntzG; rw [if_neg d0]; unfold ntz0; rw [if_neg d23]; unfold ntz1; rw [if_neg d38]; unfold ntz2; rw [if_neg d52]; unfold ntz3; rw [if_pos d64]; rfl) (trivial) (rfl) hP hD hS (Nat.le_of_ble_eq_true rfl) (Nat.le_of_ble_eq_true rfl) dJ6_numberOfTrailingZeros_0f7a4_79
          · refine my_iinc (k := 1) (x := 29) (d := 2) (lv' := [(1, .int (nI 31)), (0, .int ((((((y.toUInt32 >>> ((nI 16).toUInt32 &&& Int32.toUInt32 31)).toInt32).toUInt32 >>> ((nI 8).toUInt32 &&& Int32.toUInt32 31)).toInt32).toUInt32 >>> ((nI 4).toUInt32 &&& Int32.toUInt32 31)).toInt32))]) hx hb dJ6_numberOfTrailingZeros_0f7a4_67 hl rfl (by decide) (by decide) rfl (fun ls hl => ?_)
            refine lv_iload_n hx hb dJ6_numberOfTrailingZeros_0f7a4_70 rfl (lv_at hl 1 rfl) ?_
            refine lv_iconst (v := nI 2) hx hb dJ6_numberOfTrailingZeros_0f7a4_71 (by decide) ?_
            refine lv_iushr hx hb dJ6_numberOfTrailingZeros_0f7a4_72 (v := (((((((y.toUInt32 >>> ((nI 16).toUInt32 &&& Int32.toUInt32 31)).toInt32).toUInt32 >>> ((nI 8).toUInt32 &&& Int32.toUInt32 31)).toInt32).toUInt32 >>> ((nI 4).toUInt32 &&& Int32.toUInt32 31)).toInt32).toUInt32 >>> ((nI 2).toUInt32 &&& Int32.toUInt32 31)).toInt32) rfl ?_
            refine lv_istore_n (lv' := [(0, .int ((((((((y.toUInt32 >>> ((nI 16).toUInt32 &&& Int32.toUInt32 31)).toInt32).toUInt32 >>> ((nI 8).toUInt32 &&& Int32.toUInt32 31)).toInt32).toUInt32 >>> ((nI 4).toUInt32 &&& Int32.toUInt32 31)).toInt32).toUInt32 >>> ((nI 2).toUInt32 &&& Int32.toUInt32 31)).toInt32)), (1, .int (nI 31))]) hx hb dJ6_numberOfTrailingZeros_0f7a4_73 rfl hl (by decide) rfl (fun ls hl => ?_)
            refine lv_iload_n hx hb dJ6_numberOfTrailingZeros_0f7a4_74 rfl (lv_at hl 1 rfl) ?_
            refine lv_iload_n hx hb dJ6_numberOfTrailingZeros_0f7a4_75 rfl (lv_at hl 0 rfl) ?_
            refine lv_iconst (v := nI 1) hx hb dJ6_numberOfTrailingZeros_0f7a4_76 (by decide) ?_
            refine lv_iushr hx hb dJ6_numberOfTrailingZeros_0f7a4_77 (v := (((((((((y.toUInt32 >>> ((nI 16).toUInt32 &&& Int32.toUInt32 31)).toInt32).toUInt32 >>> ((nI 8).toUInt32 &&& Int32.toUInt32 31)).toInt32).toUInt32 >>> ((nI 4).toUInt32 &&& Int32.toUInt32 31)).toInt32).toUInt32 >>> ((nI 2).toUInt32 &&& Int32.toUInt32 31)).toInt32).toUInt32 >>> ((nI 1).toUInt32 &&& Int32.toUInt32 31)).toInt32) rfl ?_
            refine lv_iadd hx hb dJ6_numberOfTrailingZeros_0f7a4_78 ?_
            have ey2 : y = (x ^^^ (-1)) &&& (x - 1) := ey
            have d0 : ¬ y ≤ 0 := Int32.not_le.mpr c_1
            have d23 : ¬ y ≤ 65536 := c_2
            have d38 : ¬ ((y.toUInt32 >>> ((16 : Int32).toUInt32 &&& Int32.toUInt32 31)).toInt32) ≤ 256 := c_10
            have d52 : ¬ ((((y.toUInt32 >>> ((16 : Int32).toUInt32 &&& Int32.toUInt32 31)).toInt32).toUInt32 >>> ((8 : Int32).toUInt32 &&& Int32.toUInt32 31)).toInt32) ≤ 16 := c_14
            have d64 : ¬ ((((((y.toUInt32 >>> ((16 : Int32).toUInt32 &&& Int32.toUInt32 31)).toInt32).toUInt32 >>> ((8 : Int32).toUInt32 &&& Int32.toUInt32 31)).toInt32).toUInt32 >>> ((4 : Int32).toUInt32 &&& Int32.toUInt32 31)).toInt32) ≤ 4 := c_16
            exact ret () _ _ _ _ _ _ _ _ (by show _ = ntzF x; unfold ntzF; rw [← ey2]; unfold ntzG; rw [if_neg d0]; unfold ntz0; rw [if_neg d23]; unfold ntz1; rw [if_neg d38]; unfold ntz2; rw [if_neg d52]; unfold ntz3; rw [if_neg d64]; rfl) (trivial) (rfl) hP hD hS (Nat.le_of_ble_eq_true rfl) (Nat.le_of_ble_eq_true rfl) dJ6_numberOfTrailingZeros_0f7a4_79
  · refine lv_iload_n hx hb dJ6_numberOfTrailingZeros_0f7a4_12 rfl (lv_at hl 0 rfl) ?_
    refine lv_bipush (v := nI 32) hx hb dJ6_numberOfTrailingZeros_0f7a4_13 (by decide) ?_
    refine lv_iand hx hb dJ6_numberOfTrailingZeros_0f7a4_15 ?_
    have ey2 : y = (x ^^^ (-1)) &&& (x - 1) := ey
    exact ret () _ _ _ _ _ _ _ _ (by show _ = ntzF x; unfold ntzF; rw [← ey2]; unfold ntzG; rw [if_pos (Int32.not_lt.mp c_1)]; rfl) (trivial) (rfl) hP hD hS (Nat.le_of_ble_eq_true rfl) (Nat.le_of_ble_eq_true rfl) dJ6_numberOfTrailingZeros_0f7a4_16
abbrev rm_X0_forgetCharges : Room := { frames := 1, cells := 0, slots := 0, locals := 21 }
set_option maxHeartbeats 4000000 in
set_option maxRecDepth 100000 in
theorem c_X0_forgetCharges (l : Launch) (dC : Nat → ClassId) (dI : Nat → Nat → Nat) (cI cZ cR cG : ClassId) (cd : Nat → Nat) (c : Nat → Nat) (ok : okG c) : CI l (dC, dI) (tyL cI cZ cR cG) yX0_forgetCharges wsX0_forgetCharges rm_X0_forgetCharges [.ref (cd 0)] (cF cI cd (nI (c 0)) (msk (inp c)) (msk (sto c)) (msk (m0 c)) (msk (m1 c)) (nI (c 1)) (szA c) (pA c 50) (pA c 90) (pA c 130) (pA c 170) (pA c 210) (pA c 250)) (S := Unit) (fun _ => aFor c) (fun _ => True) (fun _ => cW cI cd (forK c (c 0))) := by
  refine CI.of (cc := cX0_forgetCharges) (maxL := 2) (rt := .int) (lv := [(0, .ref (cd 0))]) (by decide) rfl (Nat.le_of_ble_eq_true rfl) rfl (Or.inl rfl) ?_
  intro p e s m ar below meth kc A Qz ls hx hb hml hown hts hnm hA hS hP hK hD hl ret
  have h0 := ok.1
  have h1 := ok.2.1
  refine lv_aload_n hx hb dX0_forgetCharges_0 rfl (lv_at hl 0 rfl) ?_
  refine va_get (D := (dC, dI)) (ci := 0) (v := .int (msk (sto c))) (C := RX0) (T := TX0) (N := 13) hx hb hts (fun _ h9 => List.mem_cons_of_mem _ (List.mem_append_right _ h9)) hown hK hP 0 rfl rfl 2 (by decide) (hts (.fieldLink RX0 47 "SwitchLevelSimulator$Circuit" "storageNodes" "I") (List.mem_of_getElem? (i := 1) rfl)) (fun _ h9 => h9) rfl dX0_forgetCharges_1 ?_
  refine lv_aload_n hx hb dX0_forgetCharges_4 rfl (lv_at hl 0 rfl) ?_
  refine lv_iconst (v := nI 2) hx hb dX0_forgetCharges_5 (by decide) ?_
  refine CI.callV (As := [.int (nI 2)]) (rest := [.int (msk (sto c))]) (w3 := (fun _ => cF cI cd (nI (c 0)) (msk (inp c)) (msk (sto c)) (msk (m0 c)) (msk (m1 c)) (nI (c 1)) (szA c) (pA c 50) (pA c 90) (pA c 130) (pA c 170) (pA c 210) (pA c 250))) (c_X0_nodesOfValue l dC dI cI cZ cR cG cd c 2 (ok) (by omega)) ⟨hx, hb, hml, hown, hts⟩ (cwV 1 hts gX0_forgetCharges_X0_nodesOfValue rfl rfl rfl (by decide +kernel) ⟨Nat.le_of_ble_eq_true rfl, Nat.le_of_ble_eq_true rfl⟩) rfl hl.1 (Nat.le_of_ble_eq_true rfl) dX0_forgetCharges_6 ⟨Nat.le_of_ble_eq_true rfl, Nat.le_of_ble_eq_true rfl⟩ hA hS hP hK hD [0, 1, 2, 3, 4, 5, 6, 7] [] rfl rfl (by decide) (by decide) (by decide) 0 0 rfl rfl [0, 1, 2, 3, 4, 5, 6, 7] (by decide) (fun _ => rfl) rfl (fun _ H locs hp_1 hP hD hS => ?_)
  refine lv_iconst (v := -1) hx hb dX0_forgetCharges_9 (by decide) ?_
  refine lv_ixor hx hb dX0_forgetCharges_10 ?_
  refine lv_iand hx hb dX0_forgetCharges_11 ?_
  refine my_cast (show (msk (sto c)) &&& ((msk (vlM c 2)) ^^^ (-1)) = msk (fun i => sto c i && !vlM c 2 i) from msk_andnot _ _) ?_
  refine CI.callS (As := [.int (msk (fun i => sto c i && !vlM c 2 i))]) (rest := []) (w3 := (fun _ => cF cI cd (nI (c 0)) (msk (inp c)) (msk (sto c)) (msk (m0 c)) (msk (m1 c)) (nI (c 1)) (szA c) (pA c 50) (pA c 90) (pA c 130) (pA c 170) (pA c 210) (pA c 250))) (c_bitCount_msk l dC dI cI cZ cR cG (fun i => sto c i && !vlM c 2 i)) ⟨hx, hb, hml, hown, hts⟩ (va_cwS 1 hts gX0_forgetCharges_J6_bitCount_0f7a4 rfl rfl rfl (by decide +kernel) ⟨Nat.le_of_ble_eq_true rfl, Nat.le_of_ble_eq_true rfl⟩) rfl hl.1 (Nat.le_of_ble_eq_true rfl) dX0_forgetCharges_12 ⟨Nat.le_of_ble_eq_true rfl, Nat.le_of_ble_eq_true rfl⟩ hA hS hP hK hD [] [0, 1, 2, 3, 4, 5, 6, 7] rfl rfl (by decide) (by decide) (by decide) [0, 1, 2, 3, 4, 5, 6, 7] (by decide) (fun _ => rfl) rfl (fun _ H locs hp_2 hP hD hS => ?_)
  refine lv_istore_n (lv' := [(1, .int (nI (ct (fun i => sto c i && !vlM c 2 i) 24))), (0, .ref (cd 0))]) hx hb dX0_forgetCharges_15 rfl hl (by decide) rfl (fun ls hl => ?_)
  refine lv_aload_n hx hb dX0_forgetCharges_16 rfl (lv_at hl 1 rfl) ?_
  refine lv_dup hx hb dX0_forgetCharges_17 rfl ?_
  refine va_get (D := (dC, dI)) (ci := 0) (v := .int (msk (m0 c))) (C := RX0) (T := TX0) (N := 13) hx hb hts (fun _ h9 => List.mem_cons_of_mem _ (List.mem_append_right _ h9)) hown hK hP 0 rfl rfl 4 (by decide) (hts (.fieldLink RX0 54 "SwitchLevelSimulator$Circuit" "mayBeZero" "I") (List.mem_of_getElem? (i := 2) rfl)) (fun _ h9 => h9) rfl dX0_forgetCharges_18 ?_
  refine lv_aload_n hx hb dX0_forgetCharges_21 rfl (lv_at hl 1 rfl) ?_
  refine va_get (D := (dC, dI)) (ci := 0) (v := .int (msk (sto c))) (C := RX0) (T := TX0) (N := 13) hx hb hts (fun _ h9 => List.mem_cons_of_mem _ (List.mem_append_right _ h9)) hown hK hP 0 rfl rfl 2 (by decide) (hts (.fieldLink RX0 47 "SwitchLevelSimulator$Circuit" "storageNodes" "I") (List.mem_of_getElem? (i := 1) rfl)) (fun _ h9 => h9) rfl dX0_forgetCharges_22 ?_
  refine lv_ior hx hb dX0_forgetCharges_25 ?_
  refine va_put (D := (dC, dI)) (ci := 0) (v := .int ((msk (m0 c)) ||| (msk (sto c)))) (ty := .int) (C := RX0) (T := TX0) (N := 13) hx hb hts (fun _ h9 => List.mem_cons_of_mem _ (List.mem_append_right _ h9)) tyX0 tyX0_ok nmX0 hown hK hP hD hS 0 rfl rfl 4 (by decide) (hts (.fieldLink RX0 54 "SwitchLevelSimulator$Circuit" "mayBeZero" "I") (List.mem_of_getElem? (i := 2) rfl)) (fun _ h9 => h9) rfl (by decide +kernel) rfl rfl (Nat.le_of_ble_eq_true rfl) dX0_forgetCharges_26 (fun H locs hP hD hS => ?_)
  have hP : va_P (dC, dI) vwCl (cF cI cd (nI (c 0)) (msk (inp c)) (msk (sto c)) ((msk (m0 c)) ||| (msk (sto c))) (msk (m1 c)) (nI (c 1)) (szA c) (pA c 50) (pA c 90) (pA c 130) (pA c 170) (pA c 210) (pA c 250)) H := hP
  have hD : va_D A (cF cI cd (nI (c 0)) (msk (inp c)) (msk (sto c)) ((msk (m0 c)) ||| (msk (sto c))) (msk (m1 c)) (nI (c 1)) (szA c) (pA c 50) (pA c 90) (pA c 130) (pA c 170) (pA c 210) (pA c 250)) := hD
  refine lv_aload_n hx hb dX0_forgetCharges_29 rfl (lv_at hl 1 rfl) ?_
  refine lv_dup hx hb dX0_forgetCharges_30 rfl ?_
  refine va_get (D := (dC, dI)) (ci := 0) (v := .int (msk (m1 c))) (C := RX0) (T := TX0) (N := 13) hx hb hts (fun _ h9 => List.mem_cons_of_mem _ (List.mem_append_right _ h9)) hown hK hP 0 rfl rfl 5 (by decide) (hts (.fieldLink RX0 57 "SwitchLevelSimulator$Circuit" "mayBeOne" "I") (List.mem_of_getElem? (i := 3) rfl)) (fun _ h9 => h9) rfl dX0_forgetCharges_31 ?_
  refine lv_aload_n hx hb dX0_forgetCharges_34 rfl (lv_at hl 1 rfl) ?_
  refine va_get (D := (dC, dI)) (ci := 0) (v := .int (msk (sto c))) (C := RX0) (T := TX0) (N := 13) hx hb hts (fun _ h9 => List.mem_cons_of_mem _ (List.mem_append_right _ h9)) hown hK hP 0 rfl rfl 2 (by decide) (hts (.fieldLink RX0 47 "SwitchLevelSimulator$Circuit" "storageNodes" "I") (List.mem_of_getElem? (i := 1) rfl)) (fun _ h9 => h9) rfl dX0_forgetCharges_35 ?_
  refine lv_ior hx hb dX0_forgetCharges_38 ?_
  refine va_put (D := (dC, dI)) (ci := 0) (v := .int ((msk (m1 c)) ||| (msk (sto c)))) (ty := .int) (C := RX0) (T := TX0) (N := 13) hx hb hts (fun _ h9 => List.mem_cons_of_mem _ (List.mem_append_right _ h9)) tyX0 tyX0_ok nmX0 hown hK hP hD hS 0 rfl rfl 5 (by decide) (hts (.fieldLink RX0 57 "SwitchLevelSimulator$Circuit" "mayBeOne" "I") (List.mem_of_getElem? (i := 3) rfl)) (fun _ h9 => h9) rfl (by decide +kernel) rfl rfl (Nat.le_of_ble_eq_true rfl) dX0_forgetCharges_39 (fun H locs hP hD hS => ?_)
  have hP : va_P (dC, dI) vwCl (cF cI cd (nI (c 0)) (msk (inp c)) (msk (sto c)) ((msk (m0 c)) ||| (msk (sto c))) ((msk (m1 c)) ||| (msk (sto c))) (nI (c 1)) (szA c) (pA c 50) (pA c 90) (pA c 130) (pA c 170) (pA c 210) (pA c 250)) H := hP
  have hD : va_D A (cF cI cd (nI (c 0)) (msk (inp c)) (msk (sto c)) ((msk (m0 c)) ||| (msk (sto c))) ((msk (m1 c)) ||| (msk (sto c))) (nI (c 1)) (szA c) (pA c 50) (pA c 90) (pA c 130) (pA c 170) (pA c 210) (pA c 250)) := hD
  refine lv_iload_n hx hb dX0_forgetCharges_42 rfl (lv_at hl 0 rfl) ?_
  exact ret () _ _ _ _ _ _ _ _ (by show _ = aFor c; unfold aFor; rw [for_ct ok.1]) (trivial) (by show cW cI cd (forK c (c 0)) = _; rw [cW_for ok]) hP hD hS (Nat.le_of_ble_eq_true rfl) (Nat.le_of_ble_eq_true rfl) dX0_forgetCharges_43
abbrev rm_X1_connect : Room := { frames := 0, cells := 0, slots := 0, locals := 0 }
set_option maxHeartbeats 4000000 in
set_option maxRecDepth 100000 in
theorem c_X1_connect (l : Launch) (dC : Nat → ClassId) (dI : Nat → Nat → Nat) (cI cZ cR cG : ClassId) (go : Nat) (ro : Nat → Nat) (cd : Nat → Nat) (r0 r1 r2 r3 : Nat → Int32) (c : Nat → Nat) (t : Nat) (ok : okG c) (ht : t < c 1) : CV l (dC, dI) (tyL cI cZ cR cG) yX1_connect wsX1_connect rm_X1_connect [.ref go, .ref (cd 0), .int (nI t)] ((oW cI cG go ro r0 r1 r2 r3) ++ (cF cI cd (nI (c 0)) (msk (inp c)) (msk (sto c)) (msk (m0 c)) (msk (m1 c)) (nI (c 1)) (szA c) (pA c 50) (pA c 90) (pA c 130) (pA c 170) (pA c 210) (pA c 250))) (S := Unit) (fun _ => True) (fun _ => oW cI cG go ro r0 (cnI (c (90 + t)) 1 r1 (c (170 + t)) (c (210 + t))) (cnI (c (90 + t)) 2 r2 (c (170 + t)) (c (210 + t))) (cnI (c (90 + t)) 3 r3 (c (170 + t)) (c (210 + t))) ++ cW cI cd c) := by
  refine CV.of (cc := cX1_connect) (maxL := 6) (lv := [(0, .ref go), (1, .ref (cd 0)), (2, .int (nI t))]) (by decide) rfl (Nat.le_of_ble_eq_true rfl) rfl ?_
  intro p e s m ar below meth kc A Qz ls hx hb hml hown hts hnm hA hS hP hK hD hl ret
  have h0 := ok.1
  have h1 := ok.2.1
  have hT := ok.2.2.2 t ht
  have hab := hT.2.2.2.2.2.2.1
  refine lv_aload_n hx hb dX1_connect_0 rfl (lv_at hl 1 rfl) ?_
  refine va_get (D := (dC, dI)) (ci := 0) (v := .ref (cd 5)) (C := RX0) (T := TX0) (N := 13) hx hb hts (fun _ h9 => List.mem_cons_of_mem _ (List.mem_append_right _ h9)) hown hK hP 5 rfl rfl 10 (by decide) (hts (.fieldLink RX1 89 "SwitchLevelSimulator$Circuit" "ones" "[I") (List.mem_of_getElem? (i := 1) rfl)) (fun _ h9 => h9) rfl dX1_connect_1 ?_
  refine lv_iload_n hx hb dX1_connect_4 rfl (lv_at hl 2 rfl) ?_
  refine my_ialdP (i := t) (g := c) (b := 170) hx hb hK hP 10 0 rfl rfl (by omega) dX1_connect_5 ?_
  refine lv_istore_n (lv' := [(3, .int (nI (c (170 + t)))), (0, .ref go), (1, .ref (cd 0)), (2, .int (nI t))]) hx hb dX1_connect_6 rfl hl (by decide) rfl (fun ls hl => ?_)
  refine lv_aload_n hx hb dX1_connect_7 rfl (lv_at hl 2 rfl) ?_
  refine va_get (D := (dC, dI)) (ci := 0) (v := .ref (cd 6)) (C := RX0) (T := TX0) (N := 13) hx hb hts (fun _ h9 => List.mem_cons_of_mem _ (List.mem_append_right _ h9)) hown hK hP 5 rfl rfl 11 (by decide) (hts (.fieldLink RX1 92 "SwitchLevelSimulator$Circuit" "others" "[I") (List.mem_of_getElem? (i := 2) rfl)) (fun _ h9 => h9) rfl dX1_connect_8 ?_
  refine lv_iload_n hx hb dX1_connect_11 rfl (lv_at hl 3 rfl) ?_
  refine my_ialdP (i := t) (g := c) (b := 210) hx hb hK hP 11 0 rfl rfl (by omega) dX1_connect_12 ?_
  refine lv_istore (lv' := [(4, .int (nI (c (210 + t)))), (3, .int (nI (c (170 + t)))), (0, .ref go), (1, .ref (cd 0)), (2, .int (nI t))]) hx hb dX1_connect_13 hl (by decide) rfl (fun ls hl => ?_)
  rcases (show c (90 + t) = 1 ∨ c (90 + t) = 2 ∨ c (90 + t) = 3 by omega) with hs | hs | hs
  · refine lv_iconst (v := nI 1) hx hb dX1_connect_15 (by decide) ?_
    refine lv_istore (lv' := [(5, .int (nI 1)), (4, .int (nI (c (210 + t)))), (3, .int (nI (c (170 + t)))), (0, .ref go), (1, .ref (cd 0)), (2, .int (nI t))]) hx hb dX1_connect_16 hl (by decide) rfl (fun ls hl => ?_)
    refine lv_iload hx hb dX1_connect_18 (lv_at hl 0 rfl) ?_
    refine lv_aload_n hx hb dX1_connect_20 rfl (lv_at hl 4 rfl) ?_
    refine va_get (D := (dC, dI)) (ci := 0) (v := .ref (cd 3)) (C := RX0) (T := TX0) (N := 13) hx hb hts (fun _ h9 => List.mem_cons_of_mem _ (List.mem_append_right _ h9)) hown hK hP 5 rfl rfl 8 (by decide) (hts (.fieldLink RX1 95 "SwitchLevelSimulator$Circuit" "strengths" "[I") (List.mem_of_getElem? (i := 3) rfl)) (fun _ h9 => h9) rfl dX1_connect_21 ?_
    refine lv_iload_n hx hb dX1_connect_24 rfl (lv_at hl 5 rfl) ?_
    refine my_ialdP (i := t) (g := c) (b := 90) hx hb hK hP 8 0 rfl rfl (by omega) dX1_connect_25 ?_
    refine my_cast (show nI (c (90 + t)) = nI 1 from by rw [hs]) ?_
    refine my_icmp_gt (x := 1) (y := 1) (tgt := 61) hx hb (by omega) (by omega) dX1_connect_26 (by decide) (fun c_1 => absurd c_1 (by decide)) (fun _ => ?_)
    refine lv_aload_n hx hb dX1_connect_29 rfl (lv_at hl 3 rfl) ?_
    refine lv_iload hx hb dX1_connect_30 (lv_at hl 0 rfl) ?_
    refine my_aldr (i := 1) (ty := .array .int) (v := .ref (ro 1)) hx hb hK hP 0 3 rfl rfl rfl (by omega) (by decide) dX1_connect_32 rfl ?_
    refine lv_iload_n hx hb dX1_connect_33 rfl (lv_at hl 2 rfl) ?_
    refine lv_dup2_11 hx hb dX1_connect_34 rfl rfl ?_
    refine my_iald (i := (c (170 + t))) hx hb hK hP 2 0 rfl rfl (by omega) (by decide) dX1_connect_35 ?_
    refine lv_iconst (v := nI 1) hx hb dX1_connect_36 (by decide) ?_
    refine lv_iload hx hb dX1_connect_37 (lv_at hl 1 rfl) ?_
    refine lv_ishl hx hb dX1_connect_39 ?_
    refine lv_ior hx hb dX1_connect_40 ?_
    refine my_iast (i := (c (170 + t))) (x := ((r1 (c (170 + t))) ||| ((1 : Int32) <<< (nI (c (210 + t)) &&& 31)))) (f := r1) (ws' := (oW cI cG go ro r0 (upd r1 (c (170 + t)) ((r1 (c (170 + t))) ||| ((1 : Int32) <<< (nI (c (210 + t)) &&& 31)))) r2 r3) ++ (cF cI cd (nI (c 0)) (msk (inp c)) (msk (sto c)) (msk (m0 c)) (msk (m1 c)) (nI (c 1)) (szA c) (pA c 50) (pA c 90) (pA c 130) (pA c 170) (pA c 210) (pA c 250))) hx hb hK hP hD hS 2 0 rfl rfl (by omega) (by decide) dX1_connect_41 rfl (fun H locs hP hD hS => ?_)
    refine lv_aload_n hx hb dX1_connect_42 rfl (lv_at hl 3 rfl) ?_
    refine lv_iload hx hb dX1_connect_43 (lv_at hl 0 rfl) ?_
    refine my_aldr (i := 1) (ty := .array .int) (v := .ref (ro 1)) hx hb hK hP 0 3 rfl rfl rfl (by omega) (by decide) dX1_connect_45 rfl ?_
    refine lv_iload hx hb dX1_connect_46 (lv_at hl 1 rfl) ?_
    refine lv_dup2_11 hx hb dX1_connect_48 rfl rfl ?_
    refine my_iald (i := (c (210 + t))) hx hb hK hP 2 0 rfl rfl (by omega) (by decide) dX1_connect_49 ?_
    refine lv_iconst (v := nI 1) hx hb dX1_connect_50 (by decide) ?_
    refine lv_iload_n hx hb dX1_connect_51 rfl (lv_at hl 2 rfl) ?_
    refine lv_ishl hx hb dX1_connect_52 ?_
    refine lv_ior hx hb dX1_connect_53 ?_
    refine my_iast (i := (c (210 + t))) (x := (((upd r1 (c (170 + t)) ((r1 (c (170 + t))) ||| ((1 : Int32) <<< (nI (c (210 + t)) &&& 31)))) (c (210 + t))) ||| ((1 : Int32) <<< (nI (c (170 + t)) &&& 31)))) (f := (upd r1 (c (170 + t)) ((r1 (c (170 + t))) ||| ((1 : Int32) <<< (nI (c (210 + t)) &&& 31))))) (ws' := (oW cI cG go ro r0 (upd (upd r1 (c (170 + t)) ((r1 (c (170 + t))) ||| ((1 : Int32) <<< (nI (c (210 + t)) &&& 31)))) (c (210 + t)) (((upd r1 (c (170 + t)) ((r1 (c (170 + t))) ||| ((1 : Int32) <<< (nI (c (210 + t)) &&& 31)))) (c (210 + t))) ||| ((1 : Int32) <<< (nI (c (170 + t)) &&& 31)))) r2 r3) ++ (cF cI cd (nI (c 0)) (msk (inp c)) (msk (sto c)) (msk (m0 c)) (msk (m1 c)) (nI (c 1)) (szA c) (pA c 50) (pA c 90) (pA c 130) (pA c 170) (pA c 210) (pA c 250))) hx hb hK hP hD hS 2 0 rfl rfl (by omega) (by decide) dX1_connect_54 rfl (fun H locs hP hD hS => ?_)
    refine my_iinc (k := 0) (x := 1) (d := 1) (lv' := [(5, .int (nI 2)), (4, .int (nI (c (210 + t)))), (3, .int (nI (c (170 + t)))), (0, .ref go), (1, .ref (cd 0)), (2, .int (nI t))]) hx hb dX1_connect_55 hl rfl (by decide) (by decide) rfl (fun ls hl => ?_)
    refine lv_goto (tgt := 18) hx hb dX1_connect_58 (by decide) ?_
    refine lv_iload hx hb dX1_connect_18 (lv_at hl 0 rfl) ?_
    refine lv_aload_n hx hb dX1_connect_20 rfl (lv_at hl 4 rfl) ?_
    refine va_get (D := (dC, dI)) (ci := 0) (v := .ref (cd 3)) (C := RX0) (T := TX0) (N := 13) hx hb hts (fun _ h9 => List.mem_cons_of_mem _ (List.mem_append_right _ h9)) hown hK hP 5 rfl rfl 8 (by decide) (hts (.fieldLink RX1 95 "SwitchLevelSimulator$Circuit" "strengths" "[I") (List.mem_of_getElem? (i := 3) rfl)) (fun _ h9 => h9) rfl dX1_connect_21 ?_
    refine lv_iload_n hx hb dX1_connect_24 rfl (lv_at hl 5 rfl) ?_
    refine my_ialdP (i := t) (g := c) (b := 90) hx hb hK hP 8 0 rfl rfl (by omega) dX1_connect_25 ?_
    refine my_cast (show nI (c (90 + t)) = nI 1 from by rw [hs]) ?_
    refine my_icmp_gt (x := 2) (y := 1) (tgt := 61) hx hb (by omega) (by omega) dX1_connect_26 (by decide) (fun _ => ?_) (fun c_2 => absurd c_2 (by decide))
    exact ret () _ _ _ _ _ _ _ (trivial) (by show oW cI cG go ro r0 (cnI (c (90 + t)) 1 r1 (c (170 + t)) (c (210 + t))) (cnI (c (90 + t)) 2 r2 (c (170 + t)) (c (210 + t))) (cnI (c (90 + t)) 3 r3 (c (170 + t)) (c (210 + t))) ++ cW cI cd c = _; rw [show cnI (c (90 + t)) 1 r1 (c (170 + t)) (c (210 + t)) = cnR r1 (c (170 + t)) (c (210 + t)) from (by unfold cnI; rw [if_pos (by omega)]), show cnI (c (90 + t)) 2 r2 (c (170 + t)) (c (210 + t)) = r2 from (by unfold cnI; rw [if_neg (by omega)]), show cnI (c (90 + t)) 3 r3 (c (170 + t)) (c (210 + t)) = r3 from (by unfold cnI; rw [if_neg (by omega)]), ← cnR_upd (f := r1) hab]) hP hD hS (Nat.le_of_ble_eq_true rfl) (Nat.le_of_ble_eq_true rfl) dX1_connect_61
  · refine lv_iconst (v := nI 1) hx hb dX1_connect_15 (by decide) ?_
    refine lv_istore (lv' := [(5, .int (nI 1)), (4, .int (nI (c (210 + t)))), (3, .int (nI (c (170 + t)))), (0, .ref go), (1, .ref (cd 0)), (2, .int (nI t))]) hx hb dX1_connect_16 hl (by decide) rfl (fun ls hl => ?_)
    refine lv_iload hx hb dX1_connect_18 (lv_at hl 0 rfl) ?_
    refine lv_aload_n hx hb dX1_connect_20 rfl (lv_at hl 4 rfl) ?_
    refine va_get (D := (dC, dI)) (ci := 0) (v := .ref (cd 3)) (C := RX0) (T := TX0) (N := 13) hx hb hts (fun _ h9 => List.mem_cons_of_mem _ (List.mem_append_right _ h9)) hown hK hP 5 rfl rfl 8 (by decide) (hts (.fieldLink RX1 95 "SwitchLevelSimulator$Circuit" "strengths" "[I") (List.mem_of_getElem? (i := 3) rfl)) (fun _ h9 => h9) rfl dX1_connect_21 ?_
    refine lv_iload_n hx hb dX1_connect_24 rfl (lv_at hl 5 rfl) ?_
    refine my_ialdP (i := t) (g := c) (b := 90) hx hb hK hP 8 0 rfl rfl (by omega) dX1_connect_25 ?_
    refine my_cast (show nI (c (90 + t)) = nI 2 from by rw [hs]) ?_
    refine my_icmp_gt (x := 1) (y := 2) (tgt := 61) hx hb (by omega) (by omega) dX1_connect_26 (by decide) (fun c_3 => absurd c_3 (by decide)) (fun _ => ?_)
    refine lv_aload_n hx hb dX1_connect_29 rfl (lv_at hl 3 rfl) ?_
    refine lv_iload hx hb dX1_connect_30 (lv_at hl 0 rfl) ?_
    refine my_aldr (i := 1) (ty := .array .int) (v := .ref (ro 1)) hx hb hK hP 0 3 rfl rfl rfl (by omega) (by decide) dX1_connect_32 rfl ?_
    refine lv_iload_n hx hb dX1_connect_33 rfl (lv_at hl 2 rfl) ?_
    refine lv_dup2_11 hx hb dX1_connect_34 rfl rfl ?_
    refine my_iald (i := (c (170 + t))) hx hb hK hP 2 0 rfl rfl (by omega) (by decide) dX1_connect_35 ?_
    refine lv_iconst (v := nI 1) hx hb dX1_connect_36 (by decide) ?_
    refine lv_iload hx hb dX1_connect_37 (lv_at hl 1 rfl) ?_
    refine lv_ishl hx hb dX1_connect_39 ?_
    refine lv_ior hx hb dX1_connect_40 ?_
    refine my_iast (i := (c (170 + t))) (x := ((r1 (c (170 + t))) ||| ((1 : Int32) <<< (nI (c (210 + t)) &&& 31)))) (f := r1) (ws' := (oW cI cG go ro r0 (upd r1 (c (170 + t)) ((r1 (c (170 + t))) ||| ((1 : Int32) <<< (nI (c (210 + t)) &&& 31)))) r2 r3) ++ (cF cI cd (nI (c 0)) (msk (inp c)) (msk (sto c)) (msk (m0 c)) (msk (m1 c)) (nI (c 1)) (szA c) (pA c 50) (pA c 90) (pA c 130) (pA c 170) (pA c 210) (pA c 250))) hx hb hK hP hD hS 2 0 rfl rfl (by omega) (by decide) dX1_connect_41 rfl (fun H locs hP hD hS => ?_)
    refine lv_aload_n hx hb dX1_connect_42 rfl (lv_at hl 3 rfl) ?_
    refine lv_iload hx hb dX1_connect_43 (lv_at hl 0 rfl) ?_
    refine my_aldr (i := 1) (ty := .array .int) (v := .ref (ro 1)) hx hb hK hP 0 3 rfl rfl rfl (by omega) (by decide) dX1_connect_45 rfl ?_
    refine lv_iload hx hb dX1_connect_46 (lv_at hl 1 rfl) ?_
    refine lv_dup2_11 hx hb dX1_connect_48 rfl rfl ?_
    refine my_iald (i := (c (210 + t))) hx hb hK hP 2 0 rfl rfl (by omega) (by decide) dX1_connect_49 ?_
    refine lv_iconst (v := nI 1) hx hb dX1_connect_50 (by decide) ?_
    refine lv_iload_n hx hb dX1_connect_51 rfl (lv_at hl 2 rfl) ?_
    refine lv_ishl hx hb dX1_connect_52 ?_
    refine lv_ior hx hb dX1_connect_53 ?_
    refine my_iast (i := (c (210 + t))) (x := (((upd r1 (c (170 + t)) ((r1 (c (170 + t))) ||| ((1 : Int32) <<< (nI (c (210 + t)) &&& 31)))) (c (210 + t))) ||| ((1 : Int32) <<< (nI (c (170 + t)) &&& 31)))) (f := (upd r1 (c (170 + t)) ((r1 (c (170 + t))) ||| ((1 : Int32) <<< (nI (c (210 + t)) &&& 31))))) (ws' := (oW cI cG go ro r0 (upd (upd r1 (c (170 + t)) ((r1 (c (170 + t))) ||| ((1 : Int32) <<< (nI (c (210 + t)) &&& 31)))) (c (210 + t)) (((upd r1 (c (170 + t)) ((r1 (c (170 + t))) ||| ((1 : Int32) <<< (nI (c (210 + t)) &&& 31)))) (c (210 + t))) ||| ((1 : Int32) <<< (nI (c (170 + t)) &&& 31)))) r2 r3) ++ (cF cI cd (nI (c 0)) (msk (inp c)) (msk (sto c)) (msk (m0 c)) (msk (m1 c)) (nI (c 1)) (szA c) (pA c 50) (pA c 90) (pA c 130) (pA c 170) (pA c 210) (pA c 250))) hx hb hK hP hD hS 2 0 rfl rfl (by omega) (by decide) dX1_connect_54 rfl (fun H locs hP hD hS => ?_)
    refine my_iinc (k := 0) (x := 1) (d := 1) (lv' := [(5, .int (nI 2)), (4, .int (nI (c (210 + t)))), (3, .int (nI (c (170 + t)))), (0, .ref go), (1, .ref (cd 0)), (2, .int (nI t))]) hx hb dX1_connect_55 hl rfl (by decide) (by decide) rfl (fun ls hl => ?_)
    refine lv_goto (tgt := 18) hx hb dX1_connect_58 (by decide) ?_
    refine lv_iload hx hb dX1_connect_18 (lv_at hl 0 rfl) ?_
    refine lv_aload_n hx hb dX1_connect_20 rfl (lv_at hl 4 rfl) ?_
    refine va_get (D := (dC, dI)) (ci := 0) (v := .ref (cd 3)) (C := RX0) (T := TX0) (N := 13) hx hb hts (fun _ h9 => List.mem_cons_of_mem _ (List.mem_append_right _ h9)) hown hK hP 5 rfl rfl 8 (by decide) (hts (.fieldLink RX1 95 "SwitchLevelSimulator$Circuit" "strengths" "[I") (List.mem_of_getElem? (i := 3) rfl)) (fun _ h9 => h9) rfl dX1_connect_21 ?_
    refine lv_iload_n hx hb dX1_connect_24 rfl (lv_at hl 5 rfl) ?_
    refine my_ialdP (i := t) (g := c) (b := 90) hx hb hK hP 8 0 rfl rfl (by omega) dX1_connect_25 ?_
    refine my_cast (show nI (c (90 + t)) = nI 2 from by rw [hs]) ?_
    refine my_icmp_gt (x := 2) (y := 2) (tgt := 61) hx hb (by omega) (by omega) dX1_connect_26 (by decide) (fun c_4 => absurd c_4 (by decide)) (fun _ => ?_)
    refine lv_aload_n hx hb dX1_connect_29 rfl (lv_at hl 3 rfl) ?_
    refine lv_iload hx hb dX1_connect_30 (lv_at hl 0 rfl) ?_
    refine my_aldr (i := 2) (ty := .array .int) (v := .ref (ro 2)) hx hb hK hP 0 3 rfl rfl rfl (by omega) (by decide) dX1_connect_32 rfl ?_
    refine lv_iload_n hx hb dX1_connect_33 rfl (lv_at hl 2 rfl) ?_
    refine lv_dup2_11 hx hb dX1_connect_34 rfl rfl ?_
    refine my_iald (i := (c (170 + t))) hx hb hK hP 3 0 rfl rfl (by omega) (by decide) dX1_connect_35 ?_
    refine lv_iconst (v := nI 1) hx hb dX1_connect_36 (by decide) ?_
    refine lv_iload hx hb dX1_connect_37 (lv_at hl 1 rfl) ?_
    refine lv_ishl hx hb dX1_connect_39 ?_
    refine lv_ior hx hb dX1_connect_40 ?_
    refine my_iast (i := (c (170 + t))) (x := ((r2 (c (170 + t))) ||| ((1 : Int32) <<< (nI (c (210 + t)) &&& 31)))) (f := r2) (ws' := (oW cI cG go ro r0 (upd (upd r1 (c (170 + t)) ((r1 (c (170 + t))) ||| ((1 : Int32) <<< (nI (c (210 + t)) &&& 31)))) (c (210 + t)) (((upd r1 (c (170 + t)) ((r1 (c (170 + t))) ||| ((1 : Int32) <<< (nI (c (210 + t)) &&& 31)))) (c (210 + t))) ||| ((1 : Int32) <<< (nI (c (170 + t)) &&& 31)))) (upd r2 (c (170 + t)) ((r2 (c (170 + t))) ||| ((1 : Int32) <<< (nI (c (210 + t)) &&& 31)))) r3) ++ (cF cI cd (nI (c 0)) (msk (inp c)) (msk (sto c)) (msk (m0 c)) (msk (m1 c)) (nI (c 1)) (szA c) (pA c 50) (pA c 90) (pA c 130) (pA c 170) (pA c 210) (pA c 250))) hx hb hK hP hD hS 3 0 rfl rfl (by omega) (by decide) dX1_connect_41 rfl (fun H locs hP hD hS => ?_)
    refine lv_aload_n hx hb dX1_connect_42 rfl (lv_at hl 3 rfl) ?_
    refine lv_iload hx hb dX1_connect_43 (lv_at hl 0 rfl) ?_
    refine my_aldr (i := 2) (ty := .array .int) (v := .ref (ro 2)) hx hb hK hP 0 3 rfl rfl rfl (by omega) (by decide) dX1_connect_45 rfl ?_
    refine lv_iload hx hb dX1_connect_46 (lv_at hl 1 rfl) ?_
    refine lv_dup2_11 hx hb dX1_connect_48 rfl rfl ?_
    refine my_iald (i := (c (210 + t))) hx hb hK hP 3 0 rfl rfl (by omega) (by decide) dX1_connect_49 ?_
    refine lv_iconst (v := nI 1) hx hb dX1_connect_50 (by decide) ?_
    refine lv_iload_n hx hb dX1_connect_51 rfl (lv_at hl 2 rfl) ?_
    refine lv_ishl hx hb dX1_connect_52 ?_
    refine lv_ior hx hb dX1_connect_53 ?_
    refine my_iast (i := (c (210 + t))) (x := (((upd r2 (c (170 + t)) ((r2 (c (170 + t))) ||| ((1 : Int32) <<< (nI (c (210 + t)) &&& 31)))) (c (210 + t))) ||| ((1 : Int32) <<< (nI (c (170 + t)) &&& 31)))) (f := (upd r2 (c (170 + t)) ((r2 (c (170 + t))) ||| ((1 : Int32) <<< (nI (c (210 + t)) &&& 31))))) (ws' := (oW cI cG go ro r0 (upd (upd r1 (c (170 + t)) ((r1 (c (170 + t))) ||| ((1 : Int32) <<< (nI (c (210 + t)) &&& 31)))) (c (210 + t)) (((upd r1 (c (170 + t)) ((r1 (c (170 + t))) ||| ((1 : Int32) <<< (nI (c (210 + t)) &&& 31)))) (c (210 + t))) ||| ((1 : Int32) <<< (nI (c (170 + t)) &&& 31)))) (upd (upd r2 (c (170 + t)) ((r2 (c (170 + t))) ||| ((1 : Int32) <<< (nI (c (210 + t)) &&& 31)))) (c (210 + t)) (((upd r2 (c (170 + t)) ((r2 (c (170 + t))) ||| ((1 : Int32) <<< (nI (c (210 + t)) &&& 31)))) (c (210 + t))) ||| ((1 : Int32) <<< (nI (c (170 + t)) &&& 31)))) r3) ++ (cF cI cd (nI (c 0)) (msk (inp c)) (msk (sto c)) (msk (m0 c)) (msk (m1 c)) (nI (c 1)) (szA c) (pA c 50) (pA c 90) (pA c 130) (pA c 170) (pA c 210) (pA c 250))) hx hb hK hP hD hS 3 0 rfl rfl (by omega) (by decide) dX1_connect_54 rfl (fun H locs hP hD hS => ?_)
    refine my_iinc (k := 0) (x := 2) (d := 1) (lv' := [(5, .int (nI 3)), (4, .int (nI (c (210 + t)))), (3, .int (nI (c (170 + t)))), (0, .ref go), (1, .ref (cd 0)), (2, .int (nI t))]) hx hb dX1_connect_55 hl rfl (by decide) (by decide) rfl (fun ls hl => ?_)
    refine lv_goto (tgt := 18) hx hb dX1_connect_58 (by decide) ?_
    refine lv_iload hx hb dX1_connect_18 (lv_at hl 0 rfl) ?_
    refine lv_aload_n hx hb dX1_connect_20 rfl (lv_at hl 4 rfl) ?_
    refine va_get (D := (dC, dI)) (ci := 0) (v := .ref (cd 3)) (C := RX0) (T := TX0) (N := 13) hx hb hts (fun _ h9 => List.mem_cons_of_mem _ (List.mem_append_right _ h9)) hown hK hP 5 rfl rfl 8 (by decide) (hts (.fieldLink RX1 95 "SwitchLevelSimulator$Circuit" "strengths" "[I") (List.mem_of_getElem? (i := 3) rfl)) (fun _ h9 => h9) rfl dX1_connect_21 ?_
    refine lv_iload_n hx hb dX1_connect_24 rfl (lv_at hl 5 rfl) ?_
    refine my_ialdP (i := t) (g := c) (b := 90) hx hb hK hP 8 0 rfl rfl (by omega) dX1_connect_25 ?_
    refine my_cast (show nI (c (90 + t)) = nI 2 from by rw [hs]) ?_
    refine my_icmp_gt (x := 3) (y := 2) (tgt := 61) hx hb (by omega) (by omega) dX1_connect_26 (by decide) (fun _ => ?_) (fun c_5 => absurd c_5 (by decide))
    exact ret () _ _ _ _ _ _ _ (trivial) (by show oW cI cG go ro r0 (cnI (c (90 + t)) 1 r1 (c (170 + t)) (c (210 + t))) (cnI (c (90 + t)) 2 r2 (c (170 + t)) (c (210 + t))) (cnI (c (90 + t)) 3 r3 (c (170 + t)) (c (210 + t))) ++ cW cI cd c = _; rw [show cnI (c (90 + t)) 1 r1 (c (170 + t)) (c (210 + t)) = cnR r1 (c (170 + t)) (c (210 + t)) from (by unfold cnI; rw [if_pos (by omega)]), show cnI (c (90 + t)) 2 r2 (c (170 + t)) (c (210 + t)) = cnR r2 (c (170 + t)) (c (210 + t)) from (by unfold cnI; rw [if_pos (by omega)]), show cnI (c (90 + t)) 3 r3 (c (170 + t)) (c (210 + t)) = r3 from (by unfold cnI; rw [if_neg (by omega)]), ← cnR_upd (f := r1) hab, ← cnR_upd (f := r2) hab]) hP hD hS (Nat.le_of_ble_eq_true rfl) (Nat.le_of_ble_eq_true rfl) dX1_connect_61
  · refine lv_iconst (v := nI 1) hx hb dX1_connect_15 (by decide) ?_
    refine lv_istore (lv' := [(5, .int (nI 1)), (4, .int (nI (c (210 + t)))), (3, .int (nI (c (170 + t)))), (0, .ref go), (1, .ref (cd 0)), (2, .int (nI t))]) hx hb dX1_connect_16 hl (by decide) rfl (fun ls hl => ?_)
    refine lv_iload hx hb dX1_connect_18 (lv_at hl 0 rfl) ?_
    refine lv_aload_n hx hb dX1_connect_20 rfl (lv_at hl 4 rfl) ?_
    refine va_get (D := (dC, dI)) (ci := 0) (v := .ref (cd 3)) (C := RX0) (T := TX0) (N := 13) hx hb hts (fun _ h9 => List.mem_cons_of_mem _ (List.mem_append_right _ h9)) hown hK hP 5 rfl rfl 8 (by decide) (hts (.fieldLink RX1 95 "SwitchLevelSimulator$Circuit" "strengths" "[I") (List.mem_of_getElem? (i := 3) rfl)) (fun _ h9 => h9) rfl dX1_connect_21 ?_
    refine lv_iload_n hx hb dX1_connect_24 rfl (lv_at hl 5 rfl) ?_
    refine my_ialdP (i := t) (g := c) (b := 90) hx hb hK hP 8 0 rfl rfl (by omega) dX1_connect_25 ?_
    refine my_cast (show nI (c (90 + t)) = nI 3 from by rw [hs]) ?_
    refine my_icmp_gt (x := 1) (y := 3) (tgt := 61) hx hb (by omega) (by omega) dX1_connect_26 (by decide) (fun c_6 => absurd c_6 (by decide)) (fun _ => ?_)
    refine lv_aload_n hx hb dX1_connect_29 rfl (lv_at hl 3 rfl) ?_
    refine lv_iload hx hb dX1_connect_30 (lv_at hl 0 rfl) ?_
    refine my_aldr (i := 1) (ty := .array .int) (v := .ref (ro 1)) hx hb hK hP 0 3 rfl rfl rfl (by omega) (by decide) dX1_connect_32 rfl ?_
    refine lv_iload_n hx hb dX1_connect_33 rfl (lv_at hl 2 rfl) ?_
    refine lv_dup2_11 hx hb dX1_connect_34 rfl rfl ?_
    refine my_iald (i := (c (170 + t))) hx hb hK hP 2 0 rfl rfl (by omega) (by decide) dX1_connect_35 ?_
    refine lv_iconst (v := nI 1) hx hb dX1_connect_36 (by decide) ?_
    refine lv_iload hx hb dX1_connect_37 (lv_at hl 1 rfl) ?_
    refine lv_ishl hx hb dX1_connect_39 ?_
    refine lv_ior hx hb dX1_connect_40 ?_
    refine my_iast (i := (c (170 + t))) (x := ((r1 (c (170 + t))) ||| ((1 : Int32) <<< (nI (c (210 + t)) &&& 31)))) (f := r1) (ws' := (oW cI cG go ro r0 (upd r1 (c (170 + t)) ((r1 (c (170 + t))) ||| ((1 : Int32) <<< (nI (c (210 + t)) &&& 31)))) r2 r3) ++ (cF cI cd (nI (c 0)) (msk (inp c)) (msk (sto c)) (msk (m0 c)) (msk (m1 c)) (nI (c 1)) (szA c) (pA c 50) (pA c 90) (pA c 130) (pA c 170) (pA c 210) (pA c 250))) hx hb hK hP hD hS 2 0 rfl rfl (by omega) (by decide) dX1_connect_41 rfl (fun H locs hP hD hS => ?_)
    refine lv_aload_n hx hb dX1_connect_42 rfl (lv_at hl 3 rfl) ?_
    refine lv_iload hx hb dX1_connect_43 (lv_at hl 0 rfl) ?_
    refine my_aldr (i := 1) (ty := .array .int) (v := .ref (ro 1)) hx hb hK hP 0 3 rfl rfl rfl (by omega) (by decide) dX1_connect_45 rfl ?_
    refine lv_iload hx hb dX1_connect_46 (lv_at hl 1 rfl) ?_
    refine lv_dup2_11 hx hb dX1_connect_48 rfl rfl ?_
    refine my_iald (i := (c (210 + t))) hx hb hK hP 2 0 rfl rfl (by omega) (by decide) dX1_connect_49 ?_
    refine lv_iconst (v := nI 1) hx hb dX1_connect_50 (by decide) ?_
    refine lv_iload_n hx hb dX1_connect_51 rfl (lv_at hl 2 rfl) ?_
    refine lv_ishl hx hb dX1_connect_52 ?_
    refine lv_ior hx hb dX1_connect_53 ?_
    refine my_iast (i := (c (210 + t))) (x := (((upd r1 (c (170 + t)) ((r1 (c (170 + t))) ||| ((1 : Int32) <<< (nI (c (210 + t)) &&& 31)))) (c (210 + t))) ||| ((1 : Int32) <<< (nI (c (170 + t)) &&& 31)))) (f := (upd r1 (c (170 + t)) ((r1 (c (170 + t))) ||| ((1 : Int32) <<< (nI (c (210 + t)) &&& 31))))) (ws' := (oW cI cG go ro r0 (upd (upd r1 (c (170 + t)) ((r1 (c (170 + t))) ||| ((1 : Int32) <<< (nI (c (210 + t)) &&& 31)))) (c (210 + t)) (((upd r1 (c (170 + t)) ((r1 (c (170 + t))) ||| ((1 : Int32) <<< (nI (c (210 + t)) &&& 31)))) (c (210 + t))) ||| ((1 : Int32) <<< (nI (c (170 + t)) &&& 31)))) r2 r3) ++ (cF cI cd (nI (c 0)) (msk (inp c)) (msk (sto c)) (msk (m0 c)) (msk (m1 c)) (nI (c 1)) (szA c) (pA c 50) (pA c 90) (pA c 130) (pA c 170) (pA c 210) (pA c 250))) hx hb hK hP hD hS 2 0 rfl rfl (by omega) (by decide) dX1_connect_54 rfl (fun H locs hP hD hS => ?_)
    refine my_iinc (k := 0) (x := 1) (d := 1) (lv' := [(5, .int (nI 2)), (4, .int (nI (c (210 + t)))), (3, .int (nI (c (170 + t)))), (0, .ref go), (1, .ref (cd 0)), (2, .int (nI t))]) hx hb dX1_connect_55 hl rfl (by decide) (by decide) rfl (fun ls hl => ?_)
    refine lv_goto (tgt := 18) hx hb dX1_connect_58 (by decide) ?_
    refine lv_iload hx hb dX1_connect_18 (lv_at hl 0 rfl) ?_
    refine lv_aload_n hx hb dX1_connect_20 rfl (lv_at hl 4 rfl) ?_
    refine va_get (D := (dC, dI)) (ci := 0) (v := .ref (cd 3)) (C := RX0) (T := TX0) (N := 13) hx hb hts (fun _ h9 => List.mem_cons_of_mem _ (List.mem_append_right _ h9)) hown hK hP 5 rfl rfl 8 (by decide) (hts (.fieldLink RX1 95 "SwitchLevelSimulator$Circuit" "strengths" "[I") (List.mem_of_getElem? (i := 3) rfl)) (fun _ h9 => h9) rfl dX1_connect_21 ?_
    refine lv_iload_n hx hb dX1_connect_24 rfl (lv_at hl 5 rfl) ?_
    refine my_ialdP (i := t) (g := c) (b := 90) hx hb hK hP 8 0 rfl rfl (by omega) dX1_connect_25 ?_
    refine my_cast (show nI (c (90 + t)) = nI 3 from by rw [hs]) ?_
    refine my_icmp_gt (x := 2) (y := 3) (tgt := 61) hx hb (by omega) (by omega) dX1_connect_26 (by decide) (fun c_7 => absurd c_7 (by decide)) (fun _ => ?_)
    refine lv_aload_n hx hb dX1_connect_29 rfl (lv_at hl 3 rfl) ?_
    refine lv_iload hx hb dX1_connect_30 (lv_at hl 0 rfl) ?_
    refine my_aldr (i := 2) (ty := .array .int) (v := .ref (ro 2)) hx hb hK hP 0 3 rfl rfl rfl (by omega) (by decide) dX1_connect_32 rfl ?_
    refine lv_iload_n hx hb dX1_connect_33 rfl (lv_at hl 2 rfl) ?_
    refine lv_dup2_11 hx hb dX1_connect_34 rfl rfl ?_
    refine my_iald (i := (c (170 + t))) hx hb hK hP 3 0 rfl rfl (by omega) (by decide) dX1_connect_35 ?_
    refine lv_iconst (v := nI 1) hx hb dX1_connect_36 (by decide) ?_
    refine lv_iload hx hb dX1_connect_37 (lv_at hl 1 rfl) ?_
    refine lv_ishl hx hb dX1_connect_39 ?_
    refine lv_ior hx hb dX1_connect_40 ?_
    refine my_iast (i := (c (170 + t))) (x := ((r2 (c (170 + t))) ||| ((1 : Int32) <<< (nI (c (210 + t)) &&& 31)))) (f := r2) (ws' := (oW cI cG go ro r0 (upd (upd r1 (c (170 + t)) ((r1 (c (170 + t))) ||| ((1 : Int32) <<< (nI (c (210 + t)) &&& 31)))) (c (210 + t)) (((upd r1 (c (170 + t)) ((r1 (c (170 + t))) ||| ((1 : Int32) <<< (nI (c (210 + t)) &&& 31)))) (c (210 + t))) ||| ((1 : Int32) <<< (nI (c (170 + t)) &&& 31)))) (upd r2 (c (170 + t)) ((r2 (c (170 + t))) ||| ((1 : Int32) <<< (nI (c (210 + t)) &&& 31)))) r3) ++ (cF cI cd (nI (c 0)) (msk (inp c)) (msk (sto c)) (msk (m0 c)) (msk (m1 c)) (nI (c 1)) (szA c) (pA c 50) (pA c 90) (pA c 130) (pA c 170) (pA c 210) (pA c 250))) hx hb hK hP hD hS 3 0 rfl rfl (by omega) (by decide) dX1_connect_41 rfl (fun H locs hP hD hS => ?_)
    refine lv_aload_n hx hb dX1_connect_42 rfl (lv_at hl 3 rfl) ?_
    refine lv_iload hx hb dX1_connect_43 (lv_at hl 0 rfl) ?_
    refine my_aldr (i := 2) (ty := .array .int) (v := .ref (ro 2)) hx hb hK hP 0 3 rfl rfl rfl (by omega) (by decide) dX1_connect_45 rfl ?_
    refine lv_iload hx hb dX1_connect_46 (lv_at hl 1 rfl) ?_
    refine lv_dup2_11 hx hb dX1_connect_48 rfl rfl ?_
    refine my_iald (i := (c (210 + t))) hx hb hK hP 3 0 rfl rfl (by omega) (by decide) dX1_connect_49 ?_
    refine lv_iconst (v := nI 1) hx hb dX1_connect_50 (by decide) ?_
    refine lv_iload_n hx hb dX1_connect_51 rfl (lv_at hl 2 rfl) ?_
    refine lv_ishl hx hb dX1_connect_52 ?_
    refine lv_ior hx hb dX1_connect_53 ?_
    refine my_iast (i := (c (210 + t))) (x := (((upd r2 (c (170 + t)) ((r2 (c (170 + t))) ||| ((1 : Int32) <<< (nI (c (210 + t)) &&& 31)))) (c (210 + t))) ||| ((1 : Int32) <<< (nI (c (170 + t)) &&& 31)))) (f := (upd r2 (c (170 + t)) ((r2 (c (170 + t))) ||| ((1 : Int32) <<< (nI (c (210 + t)) &&& 31))))) (ws' := (oW cI cG go ro r0 (upd (upd r1 (c (170 + t)) ((r1 (c (170 + t))) ||| ((1 : Int32) <<< (nI (c (210 + t)) &&& 31)))) (c (210 + t)) (((upd r1 (c (170 + t)) ((r1 (c (170 + t))) ||| ((1 : Int32) <<< (nI (c (210 + t)) &&& 31)))) (c (210 + t))) ||| ((1 : Int32) <<< (nI (c (170 + t)) &&& 31)))) (upd (upd r2 (c (170 + t)) ((r2 (c (170 + t))) ||| ((1 : Int32) <<< (nI (c (210 + t)) &&& 31)))) (c (210 + t)) (((upd r2 (c (170 + t)) ((r2 (c (170 + t))) ||| ((1 : Int32) <<< (nI (c (210 + t)) &&& 31)))) (c (210 + t))) ||| ((1 : Int32) <<< (nI (c (170 + t)) &&& 31)))) r3) ++ (cF cI cd (nI (c 0)) (msk (inp c)) (msk (sto c)) (msk (m0 c)) (msk (m1 c)) (nI (c 1)) (szA c) (pA c 50) (pA c 90) (pA c 130) (pA c 170) (pA c 210) (pA c 250))) hx hb hK hP hD hS 3 0 rfl rfl (by omega) (by decide) dX1_connect_54 rfl (fun H locs hP hD hS => ?_)
    refine my_iinc (k := 0) (x := 2) (d := 1) (lv' := [(5, .int (nI 3)), (4, .int (nI (c (210 + t)))), (3, .int (nI (c (170 + t)))), (0, .ref go), (1, .ref (cd 0)), (2, .int (nI t))]) hx hb dX1_connect_55 hl rfl (by decide) (by decide) rfl (fun ls hl => ?_)
    refine lv_goto (tgt := 18) hx hb dX1_connect_58 (by decide) ?_
    refine lv_iload hx hb dX1_connect_18 (lv_at hl 0 rfl) ?_
    refine lv_aload_n hx hb dX1_connect_20 rfl (lv_at hl 4 rfl) ?_
    refine va_get (D := (dC, dI)) (ci := 0) (v := .ref (cd 3)) (C := RX0) (T := TX0) (N := 13) hx hb hts (fun _ h9 => List.mem_cons_of_mem _ (List.mem_append_right _ h9)) hown hK hP 5 rfl rfl 8 (by decide) (hts (.fieldLink RX1 95 "SwitchLevelSimulator$Circuit" "strengths" "[I") (List.mem_of_getElem? (i := 3) rfl)) (fun _ h9 => h9) rfl dX1_connect_21 ?_
    refine lv_iload_n hx hb dX1_connect_24 rfl (lv_at hl 5 rfl) ?_
    refine my_ialdP (i := t) (g := c) (b := 90) hx hb hK hP 8 0 rfl rfl (by omega) dX1_connect_25 ?_
    refine my_cast (show nI (c (90 + t)) = nI 3 from by rw [hs]) ?_
    refine my_icmp_gt (x := 3) (y := 3) (tgt := 61) hx hb (by omega) (by omega) dX1_connect_26 (by decide) (fun c_8 => absurd c_8 (by decide)) (fun _ => ?_)
    refine lv_aload_n hx hb dX1_connect_29 rfl (lv_at hl 3 rfl) ?_
    refine lv_iload hx hb dX1_connect_30 (lv_at hl 0 rfl) ?_
    refine my_aldr (i := 3) (ty := .array .int) (v := .ref (ro 3)) hx hb hK hP 0 3 rfl rfl rfl (by omega) (by decide) dX1_connect_32 rfl ?_
    refine lv_iload_n hx hb dX1_connect_33 rfl (lv_at hl 2 rfl) ?_
    refine lv_dup2_11 hx hb dX1_connect_34 rfl rfl ?_
    refine my_iald (i := (c (170 + t))) hx hb hK hP 4 0 rfl rfl (by omega) (by decide) dX1_connect_35 ?_
    refine lv_iconst (v := nI 1) hx hb dX1_connect_36 (by decide) ?_
    refine lv_iload hx hb dX1_connect_37 (lv_at hl 1 rfl) ?_
    refine lv_ishl hx hb dX1_connect_39 ?_
    refine lv_ior hx hb dX1_connect_40 ?_
    refine my_iast (i := (c (170 + t))) (x := ((r3 (c (170 + t))) ||| ((1 : Int32) <<< (nI (c (210 + t)) &&& 31)))) (f := r3) (ws' := (oW cI cG go ro r0 (upd (upd r1 (c (170 + t)) ((r1 (c (170 + t))) ||| ((1 : Int32) <<< (nI (c (210 + t)) &&& 31)))) (c (210 + t)) (((upd r1 (c (170 + t)) ((r1 (c (170 + t))) ||| ((1 : Int32) <<< (nI (c (210 + t)) &&& 31)))) (c (210 + t))) ||| ((1 : Int32) <<< (nI (c (170 + t)) &&& 31)))) (upd (upd r2 (c (170 + t)) ((r2 (c (170 + t))) ||| ((1 : Int32) <<< (nI (c (210 + t)) &&& 31)))) (c (210 + t)) (((upd r2 (c (170 + t)) ((r2 (c (170 + t))) ||| ((1 : Int32) <<< (nI (c (210 + t)) &&& 31)))) (c (210 + t))) ||| ((1 : Int32) <<< (nI (c (170 + t)) &&& 31)))) (upd r3 (c (170 + t)) ((r3 (c (170 + t))) ||| ((1 : Int32) <<< (nI (c (210 + t)) &&& 31))))) ++ (cF cI cd (nI (c 0)) (msk (inp c)) (msk (sto c)) (msk (m0 c)) (msk (m1 c)) (nI (c 1)) (szA c) (pA c 50) (pA c 90) (pA c 130) (pA c 170) (pA c 210) (pA c 250))) hx hb hK hP hD hS 4 0 rfl rfl (by omega) (by decide) dX1_connect_41 rfl (fun H locs hP hD hS => ?_)
    refine lv_aload_n hx hb dX1_connect_42 rfl (lv_at hl 3 rfl) ?_
    refine lv_iload hx hb dX1_connect_43 (lv_at hl 0 rfl) ?_
    refine my_aldr (i := 3) (ty := .array .int) (v := .ref (ro 3)) hx hb hK hP 0 3 rfl rfl rfl (by omega) (by decide) dX1_connect_45 rfl ?_
    refine lv_iload hx hb dX1_connect_46 (lv_at hl 1 rfl) ?_
    refine lv_dup2_11 hx hb dX1_connect_48 rfl rfl ?_
    refine my_iald (i := (c (210 + t))) hx hb hK hP 4 0 rfl rfl (by omega) (by decide) dX1_connect_49 ?_
    refine lv_iconst (v := nI 1) hx hb dX1_connect_50 (by decide) ?_
    refine lv_iload_n hx hb dX1_connect_51 rfl (lv_at hl 2 rfl) ?_
    refine lv_ishl hx hb dX1_connect_52 ?_
    refine lv_ior hx hb dX1_connect_53 ?_
    refine my_iast (i := (c (210 + t))) (x := (((upd r3 (c (170 + t)) ((r3 (c (170 + t))) ||| ((1 : Int32) <<< (nI (c (210 + t)) &&& 31)))) (c (210 + t))) ||| ((1 : Int32) <<< (nI (c (170 + t)) &&& 31)))) (f := (upd r3 (c (170 + t)) ((r3 (c (170 + t))) ||| ((1 : Int32) <<< (nI (c (210 + t)) &&& 31))))) (ws' := (oW cI cG go ro r0 (upd (upd r1 (c (170 + t)) ((r1 (c (170 + t))) ||| ((1 : Int32) <<< (nI (c (210 + t)) &&& 31)))) (c (210 + t)) (((upd r1 (c (170 + t)) ((r1 (c (170 + t))) ||| ((1 : Int32) <<< (nI (c (210 + t)) &&& 31)))) (c (210 + t))) ||| ((1 : Int32) <<< (nI (c (170 + t)) &&& 31)))) (upd (upd r2 (c (170 + t)) ((r2 (c (170 + t))) ||| ((1 : Int32) <<< (nI (c (210 + t)) &&& 31)))) (c (210 + t)) (((upd r2 (c (170 + t)) ((r2 (c (170 + t))) ||| ((1 : Int32) <<< (nI (c (210 + t)) &&& 31)))) (c (210 + t))) ||| ((1 : Int32) <<< (nI (c (170 + t)) &&& 31)))) (upd (upd r3 (c (170 + t)) ((r3 (c (170 + t))) ||| ((1 : Int32) <<< (nI (c (210 + t)) &&& 31)))) (c (210 + t)) (((upd r3 (c (170 + t)) ((r3 (c (170 + t))) ||| ((1 : Int32) <<< (nI (c (210 + t)) &&& 31)))) (c (210 + t))) ||| ((1 : Int32) <<< (nI (c (170 + t)) &&& 31))))) ++ (cF cI cd (nI (c 0)) (msk (inp c)) (msk (sto c)) (msk (m0 c)) (msk (m1 c)) (nI (c 1)) (szA c) (pA c 50) (pA c 90) (pA c 130) (pA c 170) (pA c 210) (pA c 250))) hx hb hK hP hD hS 4 0 rfl rfl (by omega) (by decide) dX1_connect_54 rfl (fun H locs hP hD hS => ?_)
    refine my_iinc (k := 0) (x := 3) (d := 1) (lv' := [(5, .int (nI 4)), (4, .int (nI (c (210 + t)))), (3, .int (nI (c (170 + t)))), (0, .ref go), (1, .ref (cd 0)), (2, .int (nI t))]) hx hb dX1_connect_55 hl rfl (by decide) (by decide) rfl (fun ls hl => ?_)
    refine lv_goto (tgt := 18) hx hb dX1_connect_58 (by decide) ?_
    refine lv_iload hx hb dX1_connect_18 (lv_at hl 0 rfl) ?_
    refine lv_aload_n hx hb dX1_connect_20 rfl (lv_at hl 4 rfl) ?_
    refine va_get (D := (dC, dI)) (ci := 0) (v := .ref (cd 3)) (C := RX0) (T := TX0) (N := 13) hx hb hts (fun _ h9 => List.mem_cons_of_mem _ (List.mem_append_right _ h9)) hown hK hP 5 rfl rfl 8 (by decide) (hts (.fieldLink RX1 95 "SwitchLevelSimulator$Circuit" "strengths" "[I") (List.mem_of_getElem? (i := 3) rfl)) (fun _ h9 => h9) rfl dX1_connect_21 ?_
    refine lv_iload_n hx hb dX1_connect_24 rfl (lv_at hl 5 rfl) ?_
    refine my_ialdP (i := t) (g := c) (b := 90) hx hb hK hP 8 0 rfl rfl (by omega) dX1_connect_25 ?_
    refine my_cast (show nI (c (90 + t)) = nI 3 from by rw [hs]) ?_
    refine my_icmp_gt (x := 4) (y := 3) (tgt := 61) hx hb (by omega) (by omega) dX1_connect_26 (by decide) (fun _ => ?_) (fun c_9 => absurd c_9 (by decide))
    exact ret () _ _ _ _ _ _ _ (trivial) (by show oW cI cG go ro r0 (cnI (c (90 + t)) 1 r1 (c (170 + t)) (c (210 + t))) (cnI (c (90 + t)) 2 r2 (c (170 + t)) (c (210 + t))) (cnI (c (90 + t)) 3 r3 (c (170 + t)) (c (210 + t))) ++ cW cI cd c = _; rw [show cnI (c (90 + t)) 1 r1 (c (170 + t)) (c (210 + t)) = cnR r1 (c (170 + t)) (c (210 + t)) from (by unfold cnI; rw [if_pos (by omega)]), show cnI (c (90 + t)) 2 r2 (c (170 + t)) (c (210 + t)) = cnR r2 (c (170 + t)) (c (210 + t)) from (by unfold cnI; rw [if_pos (by omega)]), show cnI (c (90 + t)) 3 r3 (c (170 + t)) (c (210 + t)) = cnR r3 (c (170 + t)) (c (210 + t)) from (by unfold cnI; rw [if_pos (by omega)]), ← cnR_upd (f := r1) hab, ← cnR_upd (f := r2) hab, ← cnR_upd (f := r3) hab]) hP hD hS (Nat.le_of_ble_eq_true rfl) (Nat.le_of_ble_eq_true rfl) dX1_connect_61
abbrev rm_X1_strengthPassing : Room := { frames := 1, cells := 0, slots := 0, locals := 21 }
set_option maxHeartbeats 4000000 in
set_option maxRecDepth 100000 in
theorem c_X1_strengthPassing (l : Launch) (dC : Nat → ClassId) (dI : Nat → Nat → Nat) (cI cZ cR cG : ClassId) (lv : Nat) (h1 : 1 ≤ lv) (h6 : lv ≤ 6) : CI l (dC, dI) (tyL cI cZ cR cG) yX1_strengthPassing wsX1_strengthPassing rm_X1_strengthPassing [.int (nI lv)] ([]) (S := Unit) (fun _ => nI (sp lv)) (fun _ => True) (fun _ => []) := by
  refine CI.of (cc := cX1_strengthPassing) (maxL := 1) (rt := .int) (lv := [(0, .int (nI lv))]) (by decide) rfl (Nat.le_of_ble_eq_true rfl) rfl (Or.inl rfl) ?_
  intro p e s m ar below meth kc A Qz ls hx hb hml hown hts hnm hA hS hP hK hD hl ret
  refine lv_iconst (v := nI 1) hx hb dX1_strengthPassing_0 (by decide) ?_
  refine lv_iload_n hx hb dX1_strengthPassing_1 rfl (lv_at hl 0 rfl) ?_
  refine lv_iconst (v := nI 3) hx hb dX1_strengthPassing_2 (by decide) ?_
  refine lv_isub hx hb dX1_strengthPassing_3 ?_
  refine va_mmax hx hb (by rw [hml]; exact hl.1.symm) hown (hts _ (List.mem_of_getElem? (i := 1) rfl)) (hts _ (List.mem_of_getElem? (i := 2) rfl)) (hts _ (List.mem_of_getElem? (i := 3) rfl)) (hts _ (List.mem_of_getElem? (i := 4) rfl)) (by decide) (by decide) (by decide) (by decide) dX1_strengthPassing_4 ?_
  exact ret () _ _ _ _ _ _ _ _ (sp_lv lv h1 h6) (trivial) (rfl) hP hD hS (Nat.le_of_ble_eq_true rfl) (Nat.le_of_ble_eq_true rfl) dX1_strengthPassing_7
abbrev rm_X1_reach : Room := { frames := 1, cells := 0, slots := 0, locals := 21 }
set_option maxHeartbeats 4000000 in
set_option maxRecDepth 100000 in
theorem c_X1_reach (l : Launch) (dC : Nat → ClassId) (dI : Nat → Nat → Nat) (cI cZ cR cG : ClassId) (r : Nat) (f : Nat → Int32) (E : Nat → Nat → Bool) (src al : Nat → Bool) (hrow : ∀ i, i < 24 → (src i = true ∨ al i = true) → f i = msk (E i)) (hal : ∀ i, al i = true → i < 24) (hsr : ∀ i, src i = true → i < 24) : CI l (dC, dI) (tyL cI cZ cR cG) yX1_reach wsX1_reach rm_X1_reach [.int (msk src), .ref r, .int (msk al)] (rW cI r 24 f) (S := Unit) (fun _ => msk (rch (fun a b => E a b = true) src al)) (fun _ => True) (fun _ => rW cI r 24 f) := by
  refine CI.of (cc := cX1_reach) (maxL := 8) (rt := .int) (lv := [(0, .int (msk src)), (1, .ref r), (2, .int (msk al))]) (by decide) rfl (Nat.le_of_ble_eq_true rfl) rfl (Or.inl rfl) ?_
  intro p e s m ar below meth kc A Qz ls hx hb hml hown hts hnm hA hS hP hK hD hl ret
  refine lv_iload_n hx hb dX1_reach_0 rfl (lv_at hl 2 rfl) ?_
  refine lv_iload_n hx hb dX1_reach_1 rfl (lv_at hl 0 rfl) ?_
  refine lv_iconst (v := -1) hx hb dX1_reach_2 (by decide) ?_
  refine lv_ixor hx hb dX1_reach_3 ?_
  refine lv_iand hx hb dX1_reach_4 ?_
  refine my_cast (show (msk al) &&& ((msk src) ^^^ (-1)) = msk (fun i => al i && !src i) from msk_andnot _ _) ?_
  refine lv_istore_n (lv' := [(3, .int (msk (fun i => al i && !src i))), (0, .int (msk src)), (1, .ref r), (2, .int (msk al))]) hx hb dX1_reach_5 rfl hl (by decide) rfl (fun ls hl => ?_)
  refine lv_iload_n hx hb dX1_reach_6 rfl (lv_at hl 1 rfl) ?_
  refine lv_istore (lv' := [(4, .int (msk src)), (3, .int (msk (fun i => al i && !src i))), (0, .int (msk src)), (1, .ref r), (2, .int (msk al))]) hx hb dX1_reach_7 hl (by decide) rfl (fun ls hl => ?_)
  refine lv_iconst (v := nI 0) hx hb dX1_reach_9 (by decide) ?_
  refine lv_istore (lv' := [(5, .int (nI 0)), (4, .int (msk src)), (3, .int (msk (fun i => al i && !src i))), (0, .int (msk src)), (1, .ref r), (2, .int (msk al))]) hx hb dX1_reach_10 hl (by decide) rfl (fun ls hl => ?_)
  have key_12 : ∀ (fu : Nat) (v : Nat) (L : Nat → Bool) (Wt : Nat → Bool), (24 - v) < fu → (v ≤ 24) → (RI E src al L Wt v) → ∀ (H : Heap) (locs : List Loc) (ls : Array Slot), va_P (dC, dI) vwCl (rW cI r 24 f) H → va_D A (rW cI r 24 f) → va_S A s.heap H locs → lv_has ls 8 [(5, .int (nI v)), (4, .int (msk Wt)), (3, .int (msk L)), (0, .int (msk src)), (1, .ref r), (2, .int (msk al))] → W p l e rm_X1_reach s m ar below meth kc H locs 0 0 Qz (F0 m 12 ls []) := by
    intro fu
    induction fu with
    | zero => intro v L Wt hmu; exact absurd hmu (Nat.not_lt_zero _)
    | succ fu ih_12 =>
      intro v L Wt hmu_12 hv hI H locs ls hP hD hS hl
      refine lv_iload hx hb dX1_reach_12 (lv_at hl 0 rfl) ?_
      refine lv_bipush (v := nI 24) hx hb dX1_reach_14 (by decide) ?_
      refine my_icmp_ge (x := v) (y := 24) (tgt := 73) hx hb (by omega) (by omega) dX1_reach_16 (by decide) (fun c_2 => ?_) (fun c_2 => ?_)
      · refine lv_iload_n hx hb dX1_reach_73 rfl (lv_at hl 3 rfl) ?_
        refine lv_iload_n hx hb dX1_reach_74 rfl (lv_at hl 5 rfl) ?_
        refine lv_iload_n hx hb dX1_reach_75 rfl (lv_at hl 2 rfl) ?_
        refine lv_iconst (v := -1) hx hb dX1_reach_76 (by decide) ?_
        refine lv_ixor hx hb dX1_reach_77 ?_
        refine lv_iand hx hb dX1_reach_78 ?_
        refine lv_ior hx hb dX1_reach_79 ?_
        exact ret () _ _ _ _ _ _ _ _ ((show msk src ||| (msk al &&& (msk L ^^^ (-1))) = msk (rch (fun a b => E a b = true) src al) from by rw [msk_andnot, msk_or]; exact msk_cong (fun i _ => RI_end hI hal hsr (Or.inl c_2) i))) (trivial) (rfl) hP hD hS (Nat.le_of_ble_eq_true rfl) (Nat.le_of_ble_eq_true rfl) dX1_reach_80
      · refine lv_iload_n hx hb dX1_reach_19 rfl (lv_at hl 2 rfl) ?_
        refine lv_if_eq (x := (msk L)) (tgt := 73) hx hb dX1_reach_20 (by decide) (fun c_3 => ?_) (fun c_3 => ?_)
        · refine lv_iload_n hx hb dX1_reach_73 rfl (lv_at hl 3 rfl) ?_
          refine lv_iload_n hx hb dX1_reach_74 rfl (lv_at hl 5 rfl) ?_
          refine lv_iload_n hx hb dX1_reach_75 rfl (lv_at hl 2 rfl) ?_
          refine lv_iconst (v := -1) hx hb dX1_reach_76 (by decide) ?_
          refine lv_ixor hx hb dX1_reach_77 ?_
          refine lv_iand hx hb dX1_reach_78 ?_
          refine lv_ior hx hb dX1_reach_79 ?_
          exact ret () _ _ _ _ _ _ _ _ ((show msk src ||| (msk al &&& (msk L ^^^ (-1))) = msk (rch (fun a b => E a b = true) src al) from by rw [msk_andnot, msk_or]; exact msk_cong (fun i _ => RI_end hI hal hsr (Or.inr (Or.inl (msk_zero.mp c_3))) i))) (trivial) (rfl) hP hD hS (Nat.le_of_ble_eq_true rfl) (Nat.le_of_ble_eq_true rfl) dX1_reach_80
        · refine lv_iload hx hb dX1_reach_23 (lv_at hl 1 rfl) ?_
          refine CI.callS (As := [.int (msk Wt)]) (rest := []) (w3 := (fun _ => rW cI r 24 f)) (c_J6_numberOfTrailingZeros_0f7a4 l dC dI cI cZ cR cG (msk Wt)) ⟨hx, hb, hml, hown, hts⟩ (va_cwS 1 hts gX1_reach_J6_numberOfTrailingZeros_0f7a4 rfl rfl rfl (by decide +kernel) ⟨Nat.le_of_ble_eq_true rfl, Nat.le_of_ble_eq_true rfl⟩) rfl hl.1 (Nat.le_of_ble_eq_true rfl) dX1_reach_25 ⟨Nat.le_of_ble_eq_true rfl, Nat.le_of_ble_eq_true rfl⟩ hA hS hP hK hD [] [0] rfl rfl (by decide) (by decide) (by decide) [0] (by decide) (fun _ => rfl) rfl (fun _ H locs hp_4 hP hD hS => ?_)
          rcases ntz_cases Wt with ⟨k, hk24, hkW, hkl, hke⟩ | ⟨hno, hke⟩
          · refine my_cast (show ntzF (msk Wt) = nI k from hke) ?_
            refine lv_istore (lv' := [(6, .int (nI k)), (5, .int (nI v)), (4, .int (msk Wt)), (3, .int (msk L)), (0, .int (msk src)), (1, .ref r), (2, .int (msk al))]) hx hb dX1_reach_28 hl (by decide) rfl (fun ls hl => ?_)
            refine lv_iload hx hb dX1_reach_30 (lv_at hl 0 rfl) ?_
            refine lv_aload_n hx hb dX1_reach_32 rfl (lv_at hl 5 rfl) ?_
            refine my_alen (n := 24) hx hb hK hP 0 0 rfl rfl rfl dX1_reach_33 ?_
            refine my_icmp_lt (x := k) (y := 24) (tgt := 40) hx hb (by omega) (by omega) dX1_reach_34 (by decide) (fun c_5 => ?_) (fun c_5 => ?_)
            · refine lv_aload_n hx hb dX1_reach_40 rfl (lv_at hl 5 rfl) ?_
              refine lv_iload hx hb dX1_reach_41 (lv_at hl 0 rfl) ?_
              refine my_iald (i := k) hx hb hK hP 0 0 rfl rfl (by omega) (by decide) dX1_reach_43 ?_
              refine my_cast (show f k = msk (E k) from hrow k hk24 (by have h9 := hI.2.1 k hkW; unfold seen at h9; rcases Bool.or_eq_true _ _ ▸ h9 with z | z; exact Or.inl z; (simp at z; exact Or.inr z.1))) ?_
              refine lv_iload_n hx hb dX1_reach_44 rfl (lv_at hl 3 rfl) ?_
              refine lv_iand hx hb dX1_reach_45 ?_
              refine my_cast (show (msk (E k)) &&& (msk L) = msk (fun i => E k i && L i) from msk_and _ _) ?_
              refine lv_istore (lv' := [(7, .int (msk (fun i => E k i && L i))), (6, .int (nI k)), (5, .int (nI v)), (4, .int (msk Wt)), (3, .int (msk L)), (0, .int (msk src)), (1, .ref r), (2, .int (msk al))]) hx hb dX1_reach_46 hl (by decide) rfl (fun ls hl => ?_)
              refine lv_iload_n hx hb dX1_reach_48 rfl (lv_at hl 4 rfl) ?_
              refine lv_iload hx hb dX1_reach_49 (lv_at hl 0 rfl) ?_
              refine lv_iconst (v := -1) hx hb dX1_reach_51 (by decide) ?_
              refine lv_ixor hx hb dX1_reach_52 ?_
              refine lv_iand hx hb dX1_reach_53 ?_
              refine my_cast (show (msk L) &&& ((msk (fun i => E k i && L i)) ^^^ (-1)) = msk (fun i => L i && !(E k i && L i)) from msk_andnot _ _) ?_
              refine lv_istore_n (lv' := [(3, .int (msk (fun i => L i && !(E k i && L i)))), (7, .int (msk (fun i => E k i && L i))), (6, .int (nI k)), (5, .int (nI v)), (4, .int (msk Wt)), (0, .int (msk src)), (1, .ref r), (2, .int (msk al))]) hx hb dX1_reach_54 rfl hl (by decide) rfl (fun ls hl => ?_)
              refine lv_iload hx hb dX1_reach_55 (lv_at hl 4 rfl) ?_
              refine lv_iload hx hb dX1_reach_57 (lv_at hl 4 rfl) ?_
              refine lv_iconst (v := nI 1) hx hb dX1_reach_59 (by decide) ?_
              refine lv_isub hx hb dX1_reach_60 ?_
              refine lv_iand hx hb dX1_reach_61 ?_
              refine my_cast (show (msk Wt) &&& ((msk Wt) - (nI 1)) = msk (fun i => Wt i && !decide (i = k)) from low_out hk24 hkW hkl) ?_
              refine lv_iload hx hb dX1_reach_62 (lv_at hl 1 rfl) ?_
              refine lv_ior hx hb dX1_reach_64 ?_
              refine my_cast (show (msk (fun i => Wt i && !decide (i = k))) ||| (msk (fun i => E k i && L i)) = msk (fun i => (Wt i && !decide (i = k)) || (E k i && L i)) from msk_or _ _) ?_
              refine lv_istore (lv' := [(4, .int (msk (fun i => (Wt i && !decide (i = k)) || (E k i && L i)))), (3, .int (msk (fun i => L i && !(E k i && L i)))), (7, .int (msk (fun i => E k i && L i))), (6, .int (nI k)), (5, .int (nI v)), (0, .int (msk src)), (1, .ref r), (2, .int (msk al))]) hx hb dX1_reach_65 hl (by decide) rfl (fun ls hl => ?_)
              refine my_iinc (k := 4) (x := v) (d := 1) (lv' := [(5, .int (nI (v + 1))), (4, .int (msk (fun i => (Wt i && !decide (i = k)) || (E k i && L i)))), (3, .int (msk (fun i => L i && !(E k i && L i)))), (7, .int (msk (fun i => E k i && L i))), (6, .int (nI k)), (0, .int (msk src)), (1, .ref r), (2, .int (msk al))]) hx hb dX1_reach_67 hl rfl (by decide) (by decide) rfl (fun ls hl => ?_)
              refine lv_goto (tgt := 12) hx hb dX1_reach_70 (by decide) ?_
              exact ih_12 (v + 1) (fun i => L i && !(E k i && L i)) (fun i => (Wt i && !decide (i = k)) || (E k i && L i)) (by omega) (by omega) (RI_s hI hk24 hkW) _ _ _ hP hD hS (lv_sub hl [0, 1, 2, 5, 6, 7] rfl)
            · refine lv_goto (tgt := 73) hx hb dX1_reach_37 (by decide) ?_
              refine lv_iload_n hx hb dX1_reach_73 rfl (lv_at hl 4 rfl) ?_
              refine lv_iload_n hx hb dX1_reach_74 rfl (lv_at hl 6 rfl) ?_
              refine lv_iload_n hx hb dX1_reach_75 rfl (lv_at hl 3 rfl) ?_
              refine lv_iconst (v := -1) hx hb dX1_reach_76 (by decide) ?_
              refine lv_ixor hx hb dX1_reach_77 ?_
              refine lv_iand hx hb dX1_reach_78 ?_
              refine lv_ior hx hb dX1_reach_79 ?_
              exact ret () _ _ _ _ _ _ _ _ (absurd hk24 (by omega)) (trivial) (rfl) hP hD hS (Nat.le_of_ble_eq_true rfl) (Nat.le_of_ble_eq_true rfl) dX1_reach_80
          · refine my_cast (show ntzF (msk Wt) = nI 32 from hke) ?_
            refine lv_istore (lv' := [(6, .int (nI 32)), (5, .int (nI v)), (4, .int (msk Wt)), (3, .int (msk L)), (0, .int (msk src)), (1, .ref r), (2, .int (msk al))]) hx hb dX1_reach_28 hl (by decide) rfl (fun ls hl => ?_)
            refine lv_iload hx hb dX1_reach_30 (lv_at hl 0 rfl) ?_
            refine lv_aload_n hx hb dX1_reach_32 rfl (lv_at hl 5 rfl) ?_
            refine my_alen (n := 24) hx hb hK hP 0 0 rfl rfl rfl dX1_reach_33 ?_
            refine my_icmp_lt (x := 32) (y := 24) (tgt := 40) hx hb (by omega) (by omega) dX1_reach_34 (by decide) (fun c_6 => absurd c_6 (by decide)) (fun _ => ?_)
            refine lv_goto (tgt := 73) hx hb dX1_reach_37 (by decide) ?_
            refine lv_iload_n hx hb dX1_reach_73 rfl (lv_at hl 4 rfl) ?_
            refine lv_iload_n hx hb dX1_reach_74 rfl (lv_at hl 6 rfl) ?_
            refine lv_iload_n hx hb dX1_reach_75 rfl (lv_at hl 3 rfl) ?_
            refine lv_iconst (v := -1) hx hb dX1_reach_76 (by decide) ?_
            refine lv_ixor hx hb dX1_reach_77 ?_
            refine lv_iand hx hb dX1_reach_78 ?_
            refine lv_ior hx hb dX1_reach_79 ?_
            exact ret () _ _ _ _ _ _ _ _ ((show msk src ||| (msk al &&& (msk L ^^^ (-1))) = msk (rch (fun a b => E a b = true) src al) from by rw [msk_andnot, msk_or]; exact msk_cong (fun i _ => RI_end hI hal hsr (Or.inr (Or.inr hno)) i))) (trivial) (rfl) hP hD hS (Nat.le_of_ble_eq_true rfl) (Nat.le_of_ble_eq_true rfl) dX1_reach_80
  exact key_12 _ 0 (fun i => al i && !src i) src (Nat.lt_succ_self _) (Nat.zero_le _) (RI_0 E src al) _ _ _ hP hD hS (lv_sub hl [0, 1, 2, 3, 4, 5] rfl)
abbrev rm_X1_levelIn : Room := { frames := 0, cells := 0, slots := 0, locals := 0 }
set_option maxHeartbeats 4000000 in
set_option maxRecDepth 100000 in
theorem c_X1_levelIn (l : Launch) (dC : Nat → ClassId) (dI : Nat → Nat → Nat) (cI cZ cR cG : ClassId) (r : Nat) (f : Nat → Int32) (F : Nat → Nat) (N j : Nat) (hf : ∀ lv, 1 ≤ lv → lv ≤ 7 → f lv = msk (fun i => decide (i < N) && decide (lv ≤ F i))) (hN : N ≤ 24) (hj : j < N) (hF : F j ≤ 7) : CI l (dC, dI) (tyL cI cZ cR cG) yX1_levelIn wsX1_levelIn rm_X1_levelIn [.ref r, .int (nI j)] (rW cI r 8 f) (S := Unit) (fun _ => nI (F j)) (fun _ => True) (fun _ => rW cI r 8 f) := by
  refine CI.of (cc := cX1_levelIn) (maxL := 3) (rt := .int) (lv := [(0, .ref r), (1, .int (nI j))]) (by decide) rfl (Nat.le_of_ble_eq_true rfl) rfl (Or.inl rfl) ?_
  intro p e s m ar below meth kc A Qz ls hx hb hml hown hts hnm hA hS hP hK hD hl ret
  refine lv_iconst (v := nI 0) hx hb dX1_levelIn_0 (by decide) ?_
  refine lv_istore_n (lv' := [(2, .int (nI 0)), (0, .ref r), (1, .int (nI j))]) hx hb dX1_levelIn_1 rfl hl (by decide) rfl (fun ls hl => ?_)
  have key_2 : ∀ (fu : Nat) (k : Nat), (F j + 1 - k) < fu → (k ≤ F j) → ∀ (H : Heap) (locs : List Loc) (ls : Array Slot), va_P (dC, dI) vwCl (rW cI r 8 f) H → va_D A (rW cI r 8 f) → va_S A s.heap H locs → lv_has ls 3 [(2, .int (nI k)), (0, .ref r), (1, .int (nI j))] → W p l e rm_X1_levelIn s m ar below meth kc H locs 0 0 Qz (F0 m 2 ls []) := by
    intro fu
    induction fu with
    | zero => intro k hmu; exact absurd hmu (Nat.not_lt_zero _)
    | succ fu ih_2 =>
      intro k hmu_2 hk H locs ls hP hD hS hl
      refine lv_iload_n hx hb dX1_levelIn_2 rfl (lv_at hl 0 rfl) ?_
      refine lv_bipush (v := nI 7) hx hb dX1_levelIn_3 (by decide) ?_
      refine my_icmp_ge (x := k) (y := 7) (tgt := 26) hx hb (by omega) (by omega) dX1_levelIn_5 (by decide) (fun c_2 => ?_) (fun c_2 => ?_)
      · refine lv_iload_n hx hb dX1_levelIn_26 rfl (lv_at hl 0 rfl) ?_
        exact ret () _ _ _ _ _ _ _ _ (congrArg nI (show k = F j by omega)) (trivial) (rfl) hP hD hS (Nat.le_of_ble_eq_true rfl) (Nat.le_of_ble_eq_true rfl) dX1_levelIn_27
      · refine lv_aload_n hx hb dX1_levelIn_8 rfl (lv_at hl 1 rfl) ?_
        refine lv_iload_n hx hb dX1_levelIn_9 rfl (lv_at hl 0 rfl) ?_
        refine lv_iconst (v := nI 1) hx hb dX1_levelIn_10 (by decide) ?_
        refine my_iadd (x := k) (y := 1) hx hb dX1_levelIn_11 ?_
        refine my_iald (i := (k + 1)) hx hb hK hP 0 0 rfl rfl (by omega) (by decide) dX1_levelIn_12 ?_
        refine lv_iconst (v := nI 1) hx hb dX1_levelIn_13 (by decide) ?_
        refine lv_iload_n hx hb dX1_levelIn_14 rfl (lv_at hl 2 rfl) ?_
        refine lv_ishl hx hb dX1_levelIn_15 ?_
        refine lv_iand hx hb dX1_levelIn_16 ?_
        refine lv_if_eq (x := ((f (k + 1)) &&& ((1 : Int32) <<< (nI j &&& 31)))) (tgt := 26) hx hb dX1_levelIn_17 (by decide) (fun c_3 => ?_) (fun c_3 => ?_)
        · refine lv_iload_n hx hb dX1_levelIn_26 rfl (lv_at hl 0 rfl) ?_
          have hb0 := at_f (p := fun i => decide (i < N) && decide (k + 1 ≤ F i)) (show j < 24 by omega) (by rw [← hf (k + 1) (by omega) (by omega)]; exact c_3)
          simp [hj] at hb0
          exact ret () _ _ _ _ _ _ _ _ (congrArg nI (show k = F j by omega)) (trivial) (rfl) hP hD hS (Nat.le_of_ble_eq_true rfl) (Nat.le_of_ble_eq_true rfl) dX1_levelIn_27
        · refine my_iinc (k := 0) (x := k) (d := 1) (lv' := [(2, .int (nI (k + 1))), (0, .ref r), (1, .int (nI j))]) hx hb dX1_levelIn_20 hl rfl (by decide) (by decide) rfl (fun ls hl => ?_)
          refine lv_goto (tgt := 2) hx hb dX1_levelIn_23 (by decide) ?_
          exact ih_2 (k + 1) (by omega) (by have hb0 := at_t (p := fun i => decide (i < N) && decide (k + 1 ≤ F i)) (show j < 24 by omega) (by rw [← hf (k + 1) (by omega) (by omega)]; exact c_3); simp [hj] at hb0; omega) _ _ _ hP hD hS (lv_sub hl [0, 1, 2] rfl)
  exact key_2 _ 0 (Nat.lt_succ_self _) (Nat.zero_le _) _ _ _ hP hD hS (lv_sub hl [0, 1, 2] rfl)
