/-! the law: its loop and its start -/
section MKW
variable {p : Program} {l : Launch} {e : Env} {R : Room} {s : State} {m : MethodId} {args : Array Value} {below : List Frame} {meth : Method} {c : Code} {H : Heap} {locs : List Loc} {cells slots : Nat} {Q : State → Prop}
variable {cc : ByteArray} {pc : Nat} {ls : Array Slot} {rest : List Value} {D : va_G} {A : Nat → Prop} {tys tyc : List (ClassId × FieldType)} {H0 : Heap} {S : Type}
variable {y : MethodName} {wy : List Cond} {rm : Room} {val : S → Int32} {P : S → Prop} {w2 w3 : S → va_W} {ws wc wr tl : va_W} {bytes : ByteArray} {maxL nL n index : Nat} {ret : Option FieldType} {own C : String} {Ts : List Cond} {b : Nat} {As : List Value}
theorem XV.callIU (hEX : EX s) (ct : XV l D tys y wy rm (.ref b :: As) wc P w2) (hfx : CallFix p m c cc nL s args Ts own) (cw : CallB R s args own index y bytes maxL none wy rm rm.cells rm.slots n ∧ y.name = "<init>" ∧ (Cond.instanceMethod y).before args s = true) (hn : As.length = n) (hls : ls.size = nL) (hst : (rest.map fun v => v.category).sum ≤ 8) (hdg : decode cc pc = .ok (.invokespecial index, 3)) (hf : cells + rm.cells ≤ R.cells ∧ slots + rm.slots ≤ R.slots)
    (hA : ∀ q, H0.size ≤ q → A q) (hS : va_S A H0 H locs) (hP : va_P D vwCl ws H) (hK : va_K D vwCl tys s) (hD : va_D A ws) (isC isR : List Nat) (hC : isC.map (fun i => ws[i]?) = wc.map some) (hR : isR.map (fun i => ws[i]?) = wr.map some) (hnc : va_nd isC = true) (hnr : va_nd isR = true) (hdis : ∀ i ∈ isR, i ∉ isC) (pm : List Nat) (hpn : va_nd pm = true) (hpm : ∀ u, pm.map (fun i => (wr ++ w2 u)[i]?) = (w3 u).map some)
    {st : List Value} (hst2 : st = As.reverse ++ .ref b :: rest)
    (kk : ∀ (u : S) (H1 : Heap) (locs1 : List Loc), P u → va_P D vwCl (w3 u) H1 → va_D A (w3 u) → va_S A H0 H1 locs1 → W p l e R s m args below meth c H1 locs1 (cells + rm.cells) (slots + rm.slots) Q (F0 m (pc + 3) ls rest)) : W p l e R s m args below meth c H locs cells slots Q (F0 m pc ls st) := by
  have e : isR.filterMap (fun i => ws[i]?) = wr := my_fm hR
  exact XV.callI hEX ct hfx cw hn hls hst hdg hf hA hS hP hK hD isC isR hC (by rw [e]; exact hR) hnc hnr hdis pm hpn (fun u => by rw [e]; exact hpm u) hst2 kk
end MKW
theorem lp_hi {L k : Nat} (hL : L ≤ 3072) (hk : k ≤ 512) (h : ¬ (Int32.ofNat L - nI 6 < nI (6 * k))) : 6 * k + 6 ≤ L := by
  by_cases h6 : 6 ≤ L
  · have e : Int32.ofNat L - nI 6 = nI (L - 6) := pk_sub h6
    rw [e] at h
    have h2 : ¬ (L - 6 < 6 * k) := fun q => h ((nI_ltI (by omega) (by omega)).mpr q)
    omega
  · exfalso
    have hz : nI 0 ≤ nI (6 * k) := (nI_leI (by omega) (by omega)).mpr (Nat.zero_le _)
    have hlt : Int32.ofNat L - nI 6 < nI 0 := by
      rcases (show L = 0 ∨ L = 1 ∨ L = 2 ∨ L = 3 ∨ L = 4 ∨ L = 5 by omega) with rfl | rfl | rfl | rfl | rfl | rfl <;> decide
    exact h (Int32.lt_of_lt_of_le hlt hz)
set_option maxHeartbeats 8000000 in
set_option maxRecDepth 100000 in
theorem lp {p : Program} {e : Env} {s : State} {m : MethodId} {below : List Frame} {meth : Method} {kc : Code} (l : Launch) {b L : Nat} {xs : Nat → Int32} {dC : Nat → ClassId} {dI : Nat → Nat → Nat} {cI cZ cR cG : ClassId} (C0 : LC p s m kc b L xs dC dI cI cZ cR cG) (hr : meth.sig.returnType = ret) (hlocks : meth.locks = false) (hL : L ≤ 3072) {xo : Nat} {cd ce : Nat → Nat} {so : Nat} {sd ad : Nat → Nat} : ∀ (n k : Nat) (H : Heap) (locs : List Loc) (ls : Array Slot), 600 - k < n → k ≤ 512 → LI dC dI cI cZ cR cG xo cd ce so sd ad s.heap H locs → lv_has ls 4 [(3, .int (nI (6 * k))), (2, .ref (ad 0)), (1, .ref xo), (0, .ref b)] → W p l e room_1 s m #[Value.ref b] below meth kc H locs (100 + 8 * k) (4000 + 261 * k) (lw_Z below #[Value.ref b] s) (F0 m 18 ls []) := by
  intro n
  induction n with
  | zero => intro k H locs ls h; exact absurd h (Nat.not_lt_zero _)
  | succ n ih =>
    intro k H locs ls hn hk hI hl
    obtain ⟨hx, hb, hml, hown, hts, hX, hbl, hK, hEX⟩ := id C0
    obtain ⟨_, _, _, _, _, _, _, _, _, _, _, _, _, _, hS⟩ := id hI
    have hbA : ¬ (fun q : Nat => s.heap.size ≤ q) b := Nat.not_le.mpr hbl
    refine lv_iload_n hx hb dL_law_18 rfl (lv_at hl 0 rfl) ?_
    refine lv_aload_n hx hb dL_law_19 rfl (lv_at hl 3 rfl) ?_
    refine va_slen hx hb hX hbl hbA hS dL_law_20 ?_
    refine lv_bipush (v := nI 6) hx hb dL_law_21 (by decide) ?_
    refine lv_isub hx hb dL_law_23 ?_
    refine lv_icmp_gt (tgt := 813) hx hb dL_law_24 (by decide) (fun _ => ?_) (fun h9 => ?_)
    · refine lv_iconst (v := 1) hx hb dL_law_813 (by decide) ?_
      refine va_forget (fun q hq => hS.2.2 q hq) ?_
      refine W.widen (show 100 + 8 * k ≤ 600000 by omega) (show 4000 + 261 * k ≤ 7302250 by omega) ?_
      exact lw_ret hx hb hr hlocks dL_law_814
    · have hi : 6 * k + 6 ≤ L := lp_hi hL hk h9
      refine lv_aload_n hx hb dL_law_27 rfl (lv_at hl 3 rfl) ?_
      refine lv_iload_n hx hb dL_law_28 rfl (lv_at hl 0 rfl) ?_
      refine my_sld (n := 6 * k) hx hb hX hbl hbA hS (by omega) hL dL_law_29 ?_
      refine lv_bipush (v := 31) hx hb dL_law_30 (by decide) ?_
      refine lv_iand hx hb dL_law_32 ?_
      obtain ⟨q, hq, he⟩ := sw32 (xs (6 * k))
      refine my_cast he ?_
      have cont : ∀ (H : Heap) (locs : List Loc), LI dC dI cI cZ cR cG xo cd ce so sd ad s.heap H locs → W p l e room_1 s m #[Value.ref b] below meth kc H locs (100 + 8 * k + 8) (4000 + 261 * k + 261) (lw_Z below #[Value.ref b] s) (F0 m 807 ls []) := fun H locs hI => by
        refine my_iinc (k := 0) (x := 6 * k) (d := 6) (lv' := [(3, .int (nI (6 * k + 6))), (2, .ref (ad 0)), (1, .ref xo), (0, .ref b)]) hx hb dL_law_807 hl rfl (by decide) (by decide) rfl (fun ls hl => ?_)
        refine lv_goto (tgt := 18) hx hb dL_law_810 (by decide) ?_
        refine W.widen (show 100 + 8 * k + 8 ≤ 100 + 8 * (k + 1) by omega) (show 4000 + 261 * k + 261 ≤ 4000 + 261 * (k + 1) by omega) ?_
        exact ih (k + 1) H locs ls (by omega) (by omega) hI (by rw [show 6 * (k + 1) = 6 * k + 6 by omega]; exact hl)
      rcases (show q = 0 ∨ q = 1 ∨ q = 2 ∨ q = 3 ∨ q = 4 ∨ q = 5 ∨ q = 6 ∨ q = 7 ∨ q = 8 ∨ q = 9 ∨ q = 10 ∨ q = 11 ∨ q = 12 ∨ q = 13 ∨ q = 14 ∨ q = 15 ∨ q = 16 ∨ q = 17 ∨ q = 18 ∨ q = 19 ∨ q = 20 ∨ q = 21 ∨ q = 22 ∨ q = 23 ∨ q = 24 ∨ q = 25 ∨ q = 26 ∨ q = 27 ∨ q = 28 ∨ q = 29 ∨ q = 30 ∨ q = 31 by omega) with rfl | rfl | rfl | rfl | rfl | rfl | rfl | rfl | rfl | rfl | rfl | rfl | rfl | rfl | rfl | rfl | rfl | rfl | rfl | rfl | rfl | rfl | rfl | rfl | rfl | rfl | rfl | rfl | rfl | rfl | rfl | rfl
      · refine lv_tableIn (tgt := 156) (off := 123) hx hb dL_law_33 (by decide) (by decide) (by decide) (by decide) ?_
        exact op_0 l C0 hi hL (by omega) (by omega) hI hl cont
      · refine lv_tableIn (tgt := 169) (off := 136) hx hb dL_law_33 (by decide) (by decide) (by decide) (by decide) ?_
        exact op_1 l C0 hi hL (by omega) (by omega) hI hl cont
      · refine lv_tableIn (tgt := 192) (off := 159) hx hb dL_law_33 (by decide) (by decide) (by decide) (by decide) ?_
        exact op_2 l C0 hi hL (by omega) (by omega) hI hl cont
      · refine lv_tableIn (tgt := 255) (off := 222) hx hb dL_law_33 (by decide) (by decide) (by decide) (by decide) ?_
        exact op_3 l C0 hi hL (by omega) (by omega) hI hl cont
      · refine lv_tableIn (tgt := 268) (off := 235) hx hb dL_law_33 (by decide) (by decide) (by decide) (by decide) ?_
        exact op_4 l C0 hi hL (by omega) (by omega) hI hl cont
      · refine lv_tableIn (tgt := 281) (off := 248) hx hb dL_law_33 (by decide) (by decide) (by decide) (by decide) ?_
        exact op_5 l C0 hi hL (by omega) (by omega) hI hl cont
      · refine lv_tableIn (tgt := 294) (off := 261) hx hb dL_law_33 (by decide) (by decide) (by decide) (by decide) ?_
        exact op_6 l C0 hi hL (by omega) (by omega) hI hl cont
      · refine lv_tableIn (tgt := 327) (off := 294) hx hb dL_law_33 (by decide) (by decide) (by decide) (by decide) ?_
        exact op_7 l C0 hi hL (by omega) (by omega) hI hl cont
      · refine lv_tableIn (tgt := 360) (off := 327) hx hb dL_law_33 (by decide) (by decide) (by decide) (by decide) ?_
        exact op_8 l C0 hi hL (by omega) (by omega) hI hl cont
      · refine lv_tableIn (tgt := 373) (off := 340) hx hb dL_law_33 (by decide) (by decide) (by decide) (by decide) ?_
        exact op_9 l C0 hi hL (by omega) (by omega) hI hl cont
      · refine lv_tableIn (tgt := 396) (off := 363) hx hb dL_law_33 (by decide) (by decide) (by decide) (by decide) ?_
        exact op_10 l C0 hi hL (by omega) (by omega) hI hl cont
      · refine lv_tableIn (tgt := 419) (off := 386) hx hb dL_law_33 (by decide) (by decide) (by decide) (by decide) ?_
        exact op_11 l C0 hi hL (by omega) (by omega) hI hl cont
      · refine lv_tableIn (tgt := 442) (off := 409) hx hb dL_law_33 (by decide) (by decide) (by decide) (by decide) ?_
        exact op_12 l C0 hi hL (by omega) (by omega) hI hl cont
      · refine lv_tableIn (tgt := 465) (off := 432) hx hb dL_law_33 (by decide) (by decide) (by decide) (by decide) ?_
        exact op_13 l C0 hi hL (by omega) (by omega) hI hl cont
      · refine lv_tableIn (tgt := 488) (off := 455) hx hb dL_law_33 (by decide) (by decide) (by decide) (by decide) ?_
        exact op_14 l C0 hi hL (by omega) (by omega) hI hl cont
      · refine lv_tableIn (tgt := 511) (off := 478) hx hb dL_law_33 (by decide) (by decide) (by decide) (by decide) ?_
        exact op_15 l C0 hi hL (by omega) (by omega) hI hl cont
      · refine lv_tableIn (tgt := 534) (off := 501) hx hb dL_law_33 (by decide) (by decide) (by decide) (by decide) ?_
        exact op_16 l C0 hi hL (by omega) (by omega) hI hl cont
      · refine lv_tableIn (tgt := 557) (off := 524) hx hb dL_law_33 (by decide) (by decide) (by decide) (by decide) ?_
        exact op_17 l C0 hi hL (by omega) (by omega) hI hl cont
      · refine lv_tableIn (tgt := 570) (off := 537) hx hb dL_law_33 (by decide) (by decide) (by decide) (by decide) ?_
        exact op_18 l C0 hi hL (by omega) (by omega) hI hl cont
      · refine lv_tableIn (tgt := 593) (off := 560) hx hb dL_law_33 (by decide) (by decide) (by decide) (by decide) ?_
        exact op_19 l C0 hi hL (by omega) (by omega) hI hl cont
      · refine lv_tableIn (tgt := 606) (off := 573) hx hb dL_law_33 (by decide) (by decide) (by decide) (by decide) ?_
        exact op_20 l C0 hi hL (by omega) (by omega) hI hl cont
      · refine lv_tableIn (tgt := 629) (off := 596) hx hb dL_law_33 (by decide) (by decide) (by decide) (by decide) ?_
        exact op_21 l C0 hi hL (by omega) (by omega) hI hl cont
      · refine lv_tableIn (tgt := 662) (off := 629) hx hb dL_law_33 (by decide) (by decide) (by decide) (by decide) ?_
        exact op_22 l C0 hi hL (by omega) (by omega) hI hl cont
      · refine lv_tableIn (tgt := 675) (off := 642) hx hb dL_law_33 (by decide) (by decide) (by decide) (by decide) ?_
        exact op_23 l C0 hi hL (by omega) (by omega) hI hl cont
      · refine lv_tableIn (tgt := 728) (off := 695) hx hb dL_law_33 (by decide) (by decide) (by decide) (by decide) ?_
        exact op_24 l C0 hi hL (by omega) (by omega) hI hl cont
      · refine lv_tableIn (tgt := 761) (off := 728) hx hb dL_law_33 (by decide) (by decide) (by decide) (by decide) ?_
        exact op_25 l C0 hi hL (by omega) (by omega) hI hl cont
      · refine lv_tableIn (tgt := 784) (off := 751) hx hb dL_law_33 (by decide) (by decide) (by decide) (by decide) ?_
        exact op_26 l C0 hi hL (by omega) (by omega) hI hl cont
      · refine lv_tableOut (tgt := 807) hx hb dL_law_33 (by decide) (by decide) ?_
        exact W.widen (by omega) (by omega) (cont _ _ hI)
      · refine lv_tableOut (tgt := 807) hx hb dL_law_33 (by decide) (by decide) ?_
        exact W.widen (by omega) (by omega) (cont _ _ hI)
      · refine lv_tableOut (tgt := 807) hx hb dL_law_33 (by decide) (by decide) ?_
        exact W.widen (by omega) (by omega) (cont _ _ hI)
      · refine lv_tableOut (tgt := 807) hx hb dL_law_33 (by decide) (by decide) ?_
        exact W.widen (by omega) (by omega) (cont _ _ hI)
      · refine lv_tableOut (tgt := 807) hx hb dL_law_33 (by decide) (by decide) ?_
        exact W.widen (by omega) (by omega) (cont _ _ hI)
set_option maxHeartbeats 8000000 in
set_option maxRecDepth 100000 in
theorem whole_start {p : Program} {e : Env} {s : State} {m : MethodId} {below : List Frame} {meth : Method} {c : Code} (l : Launch) (hflags : l.flags = flags0) {b L : Nat} {xs : Nat → Int32} (hL : L ≤ 3072) (C0 : lw_At p s m meth c b L xs) : W p l e room_1 s m #[Value.ref b] below meth c s.heap [] 0 0 (lw_Z below #[Value.ref b] s) (entryFrame m ([Value.ref b] : List Value).toArray 4) := by
  obtain ⟨hx, hb, hr, hml, hown, htb, hX, hbl, hlocks, hgv⟩ := id C0
  have hts : ∀ w ∈ wsL_law, w.before #[Value.ref b] s = true := fun w hw => htb w (lwi w hw)
  have hown : s.vm.findClass RL = some m.cls := hown
  have hb : c.code = cL_law := hb
  have hA : ∀ q : Nat, s.heap.size ≤ q → (fun q : Nat => s.heap.size ≤ q) q := fun _ h => h
  obtain ⟨k0, iS0, hKn0⟩ := u_known (C := RX0) (T := TX0) (N := 13) (n := 13) hts (fun _ h9 => List.mem_append_left _ (List.mem_append_left _ (List.mem_append_right _ h9))) (htb (.instantiable RX0 13) (List.mem_of_getElem? (i := 47) (by decide +kernel)))
  obtain ⟨k1, iS1, hKn1⟩ := u_known (C := RX1) (T := TX1) (N := 5) (n := 5) hts (fun _ h9 => List.mem_append_left _ (List.mem_append_right _ h9)) (htb (.instantiable RX1 5) (List.mem_of_getElem? (i := 108) (by decide +kernel)))
  obtain ⟨k2, iS2, hKn2⟩ := u_known (C := RX2) (T := TX2) (N := 4) (n := 4) hts (fun _ h9 => List.mem_append_left _ (List.mem_append_left _ (List.mem_append_left _ (List.mem_append_left _ (List.mem_append_right _ h9))))) (htb (.instantiable RX2 4) (List.mem_of_getElem? (i := 39) (by decide +kernel)))
  obtain ⟨k3, iS3, hKn3⟩ := u_known (C := RX3) (T := TX3) (N := 8) (n := 8) hts (fun _ h9 => List.mem_append_left _ (List.mem_append_left _ (List.mem_append_left _ (List.mem_append_right _ h9)))) (htb (.instantiable RX3 8) (List.mem_of_getElem? (i := 423) (by decide +kernel)))
  obtain ⟨dC, dI, hKc⟩ : ∃ (dC : Nat → ClassId) (dI : Nat → Nat → Nat), ∀ (k : Nat) (q : vw_C), vwCl[k]? = some q → u_Kn s q.1 q.2.1 q.2.2 (dC k) (dI k) := by
    refine ⟨fun k => if k = 0 then k0 else if k = 1 then k1 else if k = 2 then k2 else k3, fun k => if k = 0 then iS0 else if k = 1 then iS1 else if k = 2 then iS2 else iS3, ?_⟩
    intro k q hq
    match k, hq with
    | 0, hq => cases hq; exact hKn0
    | 1, hq => cases hq; exact hKn1
    | 2, hq => cases hq; exact hKn2
    | 3, hq => cases hq; exact hKn3
    | k + 4, hq => simp [vwCl] at hq
  obtain ⟨cI, kI, pI, a1, a2, a3⟩ := Cond.arrayClass_spec (htb (.arrayClass .int) (List.mem_of_getElem? (i := 105) (by decide +kernel)))
  obtain ⟨cZ, kZ, pZ, b1, b2, b3⟩ := Cond.arrayClass_spec (htb (.arrayClass .boolean) (List.mem_of_getElem? (i := 453) (by decide +kernel)))
  obtain ⟨pR, cR, kR, r1, r2, r3, r4, r5⟩ := Cond.arrayOver_spec (htb (.arrayOver (.object RX0)) (List.mem_of_getElem? (i := 106) (by decide +kernel)))
  obtain ⟨pG, cG, kG, g1, g2, g3, g4⟩ := Cond.arrayOver_specA (htb (.arrayOver (.array .int)) (List.mem_of_getElem? (i := 114) (by decide +kernel)))
  have hK : va_K (dC, dI) vwCl (tyL cI cZ cR cG) s := ⟨hKc, fun k q hq => by
    match k, hq with
    | 0, hq => cases hq; exact ⟨fun n z => ⟨fun k h => (by cases h), kI, a2, pI, a3⟩, a1⟩
    | 1, hq => cases hq; exact ⟨fun n z => ⟨fun k h => (by cases h), kZ, b2, pZ, b3⟩, b1⟩
    | 2, hq => cases hq; exact ⟨fun n z => ⟨fun k h => (by cases h), kR, r3, pR, r4⟩, kR, pR, r3, r4, r1, r5⟩
    | 3, hq => cases hq; exact ⟨fun n z => ⟨fun k h => (by cases h), kG, g2, pG, g3⟩, g4⟩
    | k + 4, hq => simp [tyL] at hq⟩
  have hEX : EX s := ⟨va_AO.of (htb (.arrayOver (.object RX0)) (List.mem_of_getElem? (i := 106) (by decide +kernel))), va_AOA.of (htb (.arrayOver (.array .int)) (List.mem_of_getElem? (i := 114) (by decide +kernel))), va_Nw.of rfl (htb (.methodLinkNest RX2 9 yX0_init hostX) (List.mem_of_getElem? (i := 48) (by decide +kernel))), va_Nw.of rfl (htb (.methodLinkNest RX2 25 yX1_init hostX) (List.mem_of_getElem? (i := 109) (by decide +kernel)))⟩
  have hS : va_S (fun q : Nat => s.heap.size ≤ q) s.heap s.heap [] := va_S.rf
  have hP : va_P (dC, dI) vwCl [] s.heap := fun k q h => by simp at h
  have hD : va_D (fun q : Nat => s.heap.size ≤ q) [] := ⟨fun i j p q h => by simp at h, fun k q h => by simp at h⟩
  have hl := lv_entry ([.ref b]) (n := 4) (Nat.le_of_ble_eq_true rfl)
  rw [lg_entry_eq]
  generalize (lg_sl ([.ref b]) ++ List.replicate (4 - (lg_sl ([.ref b])).length) Slot.unset).toArray = ls at hl ⊢
  have hl : lv_has ls 4 [(0, .ref b)] := hl
  refine va_new (ci := 2) (fs := [.null, .null, .null, .null]) (C := RX2) (T := TX2) (N := 4) hx hb hts (fun _ h9 => List.mem_append_left _ (List.mem_append_left _ (List.mem_append_left _ (List.mem_append_left _ (List.mem_append_right _ h9))))) tyX2 tyX2_ok hown (hts (.classLink RL 7 RX2) (List.mem_of_getElem? (i := 0) (by decide +kernel))) (hts (.instantiable RX2 4) (List.mem_of_getElem? (i := 1) (by decide +kernel))) (hts (.initialized RX2) (List.mem_of_getElem? (i := 2) (by decide +kernel))) hK hP hD hS hA rfl (fun j hj => by rcases (show j = 0 ∨ j = 1 ∨ j = 2 ∨ j = 3 by omega) with rfl | rfl | rfl | rfl <;> rfl) (Nat.le_of_ble_eq_true rfl) (Nat.le_of_ble_eq_true rfl) dL_law_0 (fun xo H hP hD hS => ?_)
  have hP : va_P (dC, dI) vwCl [(xo, .inr (2, [.null, .null, .null, .null]))] H := hP
  have hD : va_D (fun q : Nat => s.heap.size ≤ q) [(xo, .inr (2, [.null, .null, .null, .null]))] := hD
  refine lv_dup hx hb dL_law_3 rfl ?_
  refine XV.callIU (wr := []) (As := []) (rest := [.ref xo]) (w3 := (fun u => xB xo u.1 u.2.1 u.2.2.1 u.2.2.2 ++ cW cI u.1 (fun _ => 0) ++ cW cI u.2.1 (fun _ => 0) ++ qB cR u.2.2.1 (fun _ => none) ++ tZ cI cG u.2.2.2)) hEX (c_X2_init l dC dI cI cZ cR cG xo) ⟨hx, hb, hml, hown, hts⟩ (cwI 0 hts gL_law_X2_init rfl rfl rfl (hts (.initialized RX2) (List.mem_of_getElem? (i := 2) (by decide +kernel))) (hts (.methodLink RL 9 yX2_init) (List.mem_of_getElem? (i := 6) (by decide +kernel))) (hts (.instanceMethod yX2_init) (List.mem_of_getElem? (i := 7) (by decide +kernel))) rfl (by decide +kernel) ⟨(Nat.le_of_ble_eq_true rfl), (Nat.le_of_ble_eq_true rfl)⟩) rfl hl.1 (Nat.le_of_ble_eq_true rfl) dL_law_4 ⟨(Nat.le_of_ble_eq_true rfl), (Nat.le_of_ble_eq_true rfl)⟩ hA hS hP hK hD [0] [] rfl rfl (by decide) (by decide) (by decide) [0, 1, 2, 3, 4, 5, 6, 7, 8, 9, 10, 11, 12, 13, 14, 15, 16, 17, 18, 19, 20, 21, 22, 23, 24, 25, 26, 27, 28, 29, 30, 31] (by decide) (fun _ => rfl) rfl (fun u H locs hp hP9 hD9 hS => ?_)
  have hP : va_P (dC, dI) vwCl (xB xo u.1 u.2.1 u.2.2.1 u.2.2.2 ++ cW cI u.1 (fun _ => 0) ++ cW cI u.2.1 (fun _ => 0) ++ qB cR u.2.2.1 (fun _ => none) ++ tZ cI cG u.2.2.2) H := hP9
  have hD : va_D (fun q : Nat => s.heap.size ≤ q) (xB xo u.1 u.2.1 u.2.2.1 u.2.2.2 ++ cW cI u.1 (fun _ => 0) ++ cW cI u.2.1 (fun _ => 0) ++ qB cR u.2.2.1 (fun _ => none) ++ tZ cI cG u.2.2.2) := hD9
  refine lv_astore_n (lv' := [(1, .ref xo), (0, .ref b)]) hx hb dL_law_7 rfl hl (by decide) rfl (fun ls hl => ?_)
  refine va_new (ci := 3) (fs := [.null, .null, .null, .null, .null, .null, .null, .null]) (C := RX3) (T := TX3) (N := 8) hx hb hts (fun _ h9 => List.mem_append_left _ (List.mem_append_left _ (List.mem_append_left _ (List.mem_append_right _ h9)))) tyX3 tyX3_ok hown (hts (.classLink RL 10 RX3) (List.mem_of_getElem? (i := 3) (by decide +kernel))) (hts (.instantiable RX3 8) (List.mem_of_getElem? (i := 4) (by decide +kernel))) (hts (.initialized RX3) (List.mem_of_getElem? (i := 5) (by decide +kernel))) hK hP hD hS hA rfl (fun j hj => by rcases (show j = 0 ∨ j = 1 ∨ j = 2 ∨ j = 3 ∨ j = 4 ∨ j = 5 ∨ j = 6 ∨ j = 7 by omega) with rfl | rfl | rfl | rfl | rfl | rfl | rfl | rfl <;> rfl) (Nat.le_of_ble_eq_true rfl) (Nat.le_of_ble_eq_true rfl) dL_law_8 (fun mo H hP hD hS => ?_)
  have hP : va_P (dC, dI) vwCl (xB xo u.1 u.2.1 u.2.2.1 u.2.2.2 ++ cW cI u.1 (fun _ => 0) ++ cW cI u.2.1 (fun _ => 0) ++ qB cR u.2.2.1 (fun _ => none) ++ tZ cI cG u.2.2.2 ++ [(mo, .inr (3, [.null, .null, .null, .null, .null, .null, .null, .null]))]) H := hP
  have hD : va_D (fun q : Nat => s.heap.size ≤ q) (xB xo u.1 u.2.1 u.2.2.1 u.2.2.2 ++ cW cI u.1 (fun _ => 0) ++ cW cI u.2.1 (fun _ => 0) ++ qB cR u.2.2.1 (fun _ => none) ++ tZ cI cG u.2.2.2 ++ [(mo, .inr (3, [.null, .null, .null, .null, .null, .null, .null, .null]))]) := hD
  refine lv_dup hx hb dL_law_11 rfl ?_
  refine XV.callIU (wr := xB xo u.1 u.2.1 u.2.2.1 u.2.2.2 ++ cW cI u.1 (fun _ => 0) ++ cW cI u.2.1 (fun _ => 0) ++ qB cR u.2.2.1 (fun _ => none) ++ tZ cI cG u.2.2.2) (As := []) (rest := [.ref mo]) (w3 := (fun ad => xB xo u.1 u.2.1 u.2.2.1 u.2.2.2 ++ cW cI u.1 (fun _ => 0) ++ cW cI u.2.1 (fun _ => 0) ++ qB cR u.2.2.1 (fun _ => none) ++ tZ cI cG u.2.2.2 ++ mW cI cZ ad (fun _ => 0) (fun _ => 0) (fun _ => 0) (fun _ => 0) (fun _ => 0) (fun _ => 0) (fun _ => 0) (fun _ => 0))) hEX (c_X3_init l dC dI cI cZ cR cG mo) ⟨hx, hb, hml, hown, hts⟩ (cwI 0 hts gL_law_X3_init rfl rfl rfl (hts (.initialized RX3) (List.mem_of_getElem? (i := 5) (by decide +kernel))) (hts (.methodLink RL 12 yX3_init) (List.mem_of_getElem? (i := 42) (by decide +kernel))) (hts (.instanceMethod yX3_init) (List.mem_of_getElem? (i := 43) (by decide +kernel))) rfl (by decide +kernel) ⟨(Nat.le_of_ble_eq_true rfl), (Nat.le_of_ble_eq_true rfl)⟩) rfl hl.1 (Nat.le_of_ble_eq_true rfl) dL_law_12 ⟨(Nat.le_of_ble_eq_true rfl), (Nat.le_of_ble_eq_true rfl)⟩ hA hS hP hK hD [32] [0, 1, 2, 3, 4, 5, 6, 7, 8, 9, 10, 11, 12, 13, 14, 15, 16, 17, 18, 19, 20, 21, 22, 23, 24, 25, 26, 27, 28, 29, 30, 31] rfl rfl (by decide) (by decide) (by decide) [0, 1, 2, 3, 4, 5, 6, 7, 8, 9, 10, 11, 12, 13, 14, 15, 16, 17, 18, 19, 20, 21, 22, 23, 24, 25, 26, 27, 28, 29, 30, 31, 32, 33, 34, 35, 36, 37, 38, 39, 40] (by decide) (fun _ => rfl) rfl (fun ad H locs hp hP9 hD9 hS => ?_)
  subst hp
  have hP : va_P (dC, dI) vwCl (xB xo u.1 u.2.1 u.2.2.1 u.2.2.2 ++ cW cI u.1 (fun _ => 0) ++ cW cI u.2.1 (fun _ => 0) ++ qB cR u.2.2.1 (fun _ => none) ++ tZ cI cG u.2.2.2 ++ mW cI cZ ad (fun _ => 0) (fun _ => 0) (fun _ => 0) (fun _ => 0) (fun _ => 0) (fun _ => 0) (fun _ => 0) (fun _ => 0)) H := hP9
  have hD : va_D (fun q : Nat => s.heap.size ≤ q) (xB xo u.1 u.2.1 u.2.2.1 u.2.2.2 ++ cW cI u.1 (fun _ => 0) ++ cW cI u.2.1 (fun _ => 0) ++ qB cR u.2.2.1 (fun _ => none) ++ tZ cI cG u.2.2.2 ++ mW cI cZ ad (fun _ => 0) (fun _ => 0) (fun _ => 0) (fun _ => 0) (fun _ => 0) (fun _ => 0) (fun _ => 0) (fun _ => 0)) := hD9
  refine lv_astore_n (lv' := [(2, .ref (ad 0)), (1, .ref xo), (0, .ref b)]) hx hb dL_law_15 rfl hl (by decide) rfl (fun ls hl => ?_)
  refine lv_iconst (v := nI 0) hx hb dL_law_16 (by decide) ?_
  refine lv_istore_n (lv' := [(3, .int (nI (6 * 0))), (2, .ref (ad 0)), (1, .ref xo), (0, .ref b)]) hx hb dL_law_17 rfl hl (by decide) rfl (fun ls hl => ?_)
  have e9 : (fun _ => none : Nat → Option Nat) = fO none none := funext fun k => by
    match k with
    | 0 => rfl
    | 1 => rfl
    | k + 2 => rfl
  have hP : va_P (dC, dI) vwCl (LX cI cZ cR cG xo u.1 u.2.1 u.2.2.1 u.2.2.2 ad (fun _ => 0) (fun _ => 0) (fun _ _ => 0) (fun _ => 0) (fun _ => 0) (fun _ => 0) (fun _ _ => 0) (fO none none) ++ []) H := by rw [← e9, List.append_nil]; exact hP
  have hD : va_D (fun q : Nat => s.heap.size ≤ q) (LX cI cZ cR cG xo u.1 u.2.1 u.2.2.1 u.2.2.2 ad (fun _ => 0) (fun _ => 0) (fun _ _ => 0) (fun _ => 0) (fun _ => 0) (fun _ => 0) (fun _ _ => 0) (fO none none) ++ []) := by rw [← e9, List.append_nil]; exact hD
  have k0 : Kp (fun _ => 0) (fun _ => 0) := ⟨Rel.rf _, Nat.zero_le _, Nat.zero_le _, fun n hn => absurd hn (Nat.not_lt_zero _), fun t ht => absurd ht (Nat.not_lt_zero _)⟩
  refine W.widen (k := 100 + 8 * 0) (n := 4000 + 261 * 0) (Nat.le_of_ble_eq_true rfl) (Nat.le_of_ble_eq_true rfl) ?_
  exact lp l ⟨hx, hb, hml, hown, hts, hX, hbl, hK, hEX⟩ hr hlocks hL 700 0 _ _ ls (by decide) (by decide) ⟨fun _ => 0, fun _ => 0, fun _ _ => 0, fun _ => 0, fun _ => 0, fun _ => 0, fun _ _ => 0, none, none, k0, rfl, rfl, hP, hD, hS⟩ hl
