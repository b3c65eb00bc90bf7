/-! THE CLAIM OUT OF ONE WALK OF THE LAW'S BODY. Your part is whole_start (and what it stands on); all else here is the same for every law, but numbers. -/
def R_law : String := "SwitchLevelSimulatorLaw"
def lw_P (b : Addr) (xs : List Int32) (args : Array Value) (s : State) : Prop := args = #[.ref b] ∧ s.IntsAt b xs ∧ xs.length ≤ 3072 ∧ (Jvm.Cond.and given_1 narrow_1).before args s = true
def lw_Q (_ : Array Value) (s : State) (o : Outcome) (t : State) : Prop := o = .returned (some (.int 1)) ∧ Framed s o t [] 600000 7302250
def lw_Z (below : List Frame) (a : Array Value) (s : State) : State → Prop := fun t => ∃ o, t.status = .running ∧ Ended t below o ∧ lw_Q a s o t
/-- the law's own end, with 1 on the stack, nothing written that was there before, its room as the claim has it -/
theorem lw_ret {p : Program} {l : Launch} {e : Env} {s : State} {m : MethodId} {below : List Frame} {meth : Method} {c : Code} {b : Nat} (hx : p.tables.exec = Jvm.exec) (hb : c.code = code) (hr : meth.sig.returnType = ret) (hlocks : meth.locks = false) {pc : Nat} {H : Heap} {ls : Array Slot} (hdg : decode code pc = .ok (.ireturn, 1)) : W p l e room_1 s m #[Value.ref b] below meth c H [] 600000 7302250 (lw_Z below #[Value.ref b] s) (F0 m pc ls [.int 1]) := by
  intro T hT X
  obtain ⟨fs, hret, hrun, hended, hW, hframe⟩ := X.leave (v := some (.int 1)) (hlocks := hlocks) (fun h => by rw [hr] at h; cases h)
  have hmeth' : T.vm.method? m = some meth := X.method'
  refine ⟨T.setFrames fs, ?_, .returned (some (.int 1)), hrun, hended, rfl, ⟨_, rfl⟩, hW, hframe⟩
  jvm_step X.here [X.here.top, hx, hb, hdg, hmeth', hr, ret, narrow_b1]
  (try refine ⟨rfl, ?_⟩); (try refine ⟨rfl, ?_⟩)
  first | (intro acts; rw [hret _ acts rfl rfl rfl]) | rw [hret _ _ rfl rfl rfl]
  exact Steps.refl _
/-- what holds at the law's entry: the machine, the code, the tables' words (any of lw_tbl by 'hts w (by decide +kernel)'), the script of L ints xs at the cell b, what the Statement gives of the start (any of its parts by flat_of_before) -/
def lw_At (p : Program) (s : State) (m : MethodId) (meth : Method) (c : Code) (b L : Nat) (xs : Nat → Int32) : Prop :=
  p.tables.exec = Jvm.exec ∧ c.code = code ∧ meth.sig.returnType = ret ∧ c.maxLocals = 4 ∧ s.vm.findClass R_law = some m.cls ∧ (∀ w ∈ lw_tbl, w.before #[Value.ref b] s = true) ∧ va_X b L xs s s.heap ∧ b < s.heap.size ∧ meth.locks = false ∧ (Jvm.Cond.and given_1 narrow_1).before #[Value.ref b] s = true
/-! calls of a caller that has, behind the cells that are written out, a tail that the callee does not touch -/
theorem va_D.left {A : Nat → Prop} {a b : va_W} (h : va_D A (a ++ b)) : va_D A a := by
  have g : ∀ (i : Nat) (q : Nat × va_E), a[i]? = some q → (a ++ b)[i]? = some q := fun i q hq => by
    rw [List.getElem?_append_left (List.getElem?_eq_some_iff.mp hq).1]; exact hq
  exact ⟨fun i j p q hi hj => h.1 i j p q (g i p hi) (g j q hj), fun k q hk => h.2 k q (g k q hk)⟩
theorem va_P.left {D : va_G} {cl : List vw_C} {a b : va_W} {H : Heap} (h : va_P D cl (a ++ b) H) : va_P D cl a H := fun i q hq => h i q (by
  rw [List.getElem?_append_left (List.getElem?_eq_some_iff.mp hq).1]; exact hq)
theorem va_A.app {a b : va_W} {sz q : Nat} (h : va_A a sz q) : va_A (a ++ b) sz q := by
  rcases h with ⟨k, e, h⟩ | h
  · exact Or.inl ⟨k, e, by rw [List.getElem?_append_left (List.getElem?_eq_some_iff.mp h).1]; exact h⟩
  · exact Or.inr h
section MKT
variable {p : Program} {l : Launch} {e : Env} {R : Room} {s : State} {m : MethodId} {args : Array Value} {below : List Frame} {meth : Method} {c : Code} {H : Heap} {locs : List Loc} {cells slots : Nat} {Q : State → Prop}
variable {cc : ByteArray} {pc : Nat} {ls : Array Slot} {rest : List Value} {D : va_G} {A : Nat → Prop} {tys tyc : List (ClassId × FieldType)} {H0 : Heap} {S : Type}
variable {y : MethodName} {wy : List Cond} {rm : Room} {val : S → Int32} {P : S → Prop} {w2 w3 : S → va_W} {ws wc wr tl : va_W} {bytes : ByteArray} {maxL nL n index : Nat} {ret : Option FieldType} {own C : String} {Ts : List Cond} {b : Nat} {As : List Value}
theorem CI.callVT (ct : CI l D tys y wy rm (.ref b :: As) wc val P w2) (hfx : CallFix p m c cc nL s args Ts own) (cw : CallW R s args own C index y bytes maxL ret wy rm rm.cells rm.slots n) (hn : As.length = n) (hls : ls.size = nL) (hst : (rest.map fun v => v.category).sum ≤ 8) (hdg : decode cc pc = .ok (.invokevirtual index, 3)) (hf : cells + rm.cells ≤ R.cells ∧ slots + rm.slots ≤ R.slots)
    (hA : ∀ q, H0.size ≤ q → A q) (hS : va_S A H0 H locs) (hP : va_P D vwCl (ws ++ tl) H) (hK : va_K D vwCl tys s) (hD : va_D A (ws ++ tl)) (isC isR : List Nat) (hC : isC.map (fun i => ws[i]?) = wc.map some) (hR : isR.map (fun i => ws[i]?) = (isR.filterMap (fun i => ws[i]?)).map some) (hnc : va_nd isC = true) (hnr : va_nd isR = true) (hdis : ∀ i ∈ isR, i ∉ isC) (qc ci : Nat) {fs : List Value} {T : u_T} {N : Nat} (hqc : wc[qc]? = some (b, .inr (ci, fs))) (hci : vwCl[ci]? = some (C, T, N)) (pm : List Nat) (hpn : va_nd pm = true) (hpm : ∀ u, pm.map (fun i => (isR.filterMap (fun i => ws[i]?) ++ w2 u)[i]?) = (w3 u).map some)
    {st : List Value} (hst2 : st = As.reverse ++ .ref b :: rest)
    (kk : ∀ (u : S) (H1 : Heap) (locs1 : List Loc), P u → va_P D vwCl (w3 u ++ tl) H1 → va_D A (w3 u ++ tl) → va_S A H0 H1 locs1 → W p l e R s m args below meth c H1 locs1 (cells + rm.cells) (slots + rm.slots) Q (F0 m (pc + 3) ls (.int (val u) :: rest))) : W p l e R s m args below meth c H locs cells slots Q (F0 m pc ls st) := by
  subst hst2
  have hPc : va_P D vwCl wc H := (hP.part isC hC).left
  have hDc : va_D A wc := (hD.part isC hnc hC).left
  have hFc : ∀ q, va_A wc H.size q → A q := fun q h => va_freeP hD hS hA isC hC q h.app
  refine va_calli (va_runV (As := As) (rest := rest) hfx (ct H.size) cw ⟨PC.blind, va_recv hK hPc hci hqc, fun U hU hW => ⟨rfl, by rw [hU], by rw [hU]; exact hPc, va_K.moved hW.alike hK, hDc.weaken (fun _ _ _ _ => trivial)⟩⟩ rfl hn hls rfl (lv_room hst) hdg hf) hS (fun q _ h => hFc q h) hFc (fun r u t H1 locs1 ht hvm hw hB hz1 hk1 hS1 => ?_)
  obtain ⟨rfl, hw⟩ := hw
  obtain ⟨hP1, hK1, hD1⟩ := hB
  rw [ht] at hP1
  obtain ⟨g1, g2⟩ := va_joinQ hP hD isC isR hC hR hnr hdis hk1 hFc hP1 hD1
  exact kk u H1 locs1 hw (g1.part pm (hpm u)) (g2.part pm hpn (hpm u)) hS1
theorem XI.callVT (hEX : EX s) (ct : XI l D tys y wy rm (.ref b :: As) wc val P w2) (hfx : CallFix p m c cc nL s args Ts own) (cw : CallW R s args own C index y bytes maxL ret wy rm rm.cells rm.slots n) (hn : As.length = n) (hls : ls.size = nL) (hst : (rest.map fun v => v.category).sum ≤ 8) (hdg : decode cc pc = .ok (.invokevirtual index, 3)) (hf : cells + rm.cells ≤ R.cells ∧ slots + rm.slots ≤ R.slots)
    (hA : ∀ q, H0.size ≤ q → A q) (hS : va_S A H0 H locs) (hP : va_P D vwCl (ws ++ tl) H) (hK : va_K D vwCl tys s) (hD : va_D A (ws ++ tl)) (isC isR : List Nat) (hC : isC.map (fun i => ws[i]?) = wc.map some) (hR : isR.map (fun i => ws[i]?) = (isR.filterMap (fun i => ws[i]?)).map some) (hnc : va_nd isC = true) (hnr : va_nd isR = true) (hdis : ∀ i ∈ isR, i ∉ isC) (qc ci : Nat) {fs : List Value} {T : u_T} {N : Nat} (hqc : wc[qc]? = some (b, .inr (ci, fs))) (hci : vwCl[ci]? = some (C, T, N)) (pm : List Nat) (hpn : va_nd pm = true) (hpm : ∀ u, pm.map (fun i => (isR.filterMap (fun i => ws[i]?) ++ w2 u)[i]?) = (w3 u).map some)
    {st : List Value} (hst2 : st = As.reverse ++ .ref b :: rest)
    (kk : ∀ (u : S) (H1 : Heap) (locs1 : List Loc), P u → va_P D vwCl (w3 u ++ tl) H1 → va_D A (w3 u ++ tl) → va_S A H0 H1 locs1 → W p l e R s m args below meth c H1 locs1 (cells + rm.cells) (slots + rm.slots) Q (F0 m (pc + 3) ls (.int (val u) :: rest))) : W p l e R s m args below meth c H locs cells slots Q (F0 m pc ls st) := by
  subst hst2
  have hPc : va_P D vwCl wc H := (hP.part isC hC).left
  have hDc : va_D A wc := (hD.part isC hnc hC).left
  have hFc : ∀ q, va_A wc H.size q → A q := fun q h => va_freeP hD hS hA isC hC q h.app
  refine va_calli (va_runV (As := As) (rest := rest) hfx (ct H.size) cw ⟨PX.blind, va_recv hK hPc hci hqc, fun U hU hW => ⟨rfl, ⟨by rw [hU], by rw [hU]; exact hPc, va_K.moved hW.alike hK, hDc.weaken (fun _ _ _ _ => trivial)⟩, EX.warm hW hEX⟩⟩ rfl hn hls rfl (lv_room hst) hdg hf) hS (fun q _ h => hFc q h) hFc (fun r u t H1 locs1 ht hvm hw hB hz1 hk1 hS1 => ?_)
  obtain ⟨rfl, hw⟩ := hw
  obtain ⟨hP1, hK1, hD1⟩ := hB
  rw [ht] at hP1
  obtain ⟨g1, g2⟩ := va_joinQ hP hD isC isR hC hR hnr hdis hk1 hFc hP1 hD1
  exact kk u H1 locs1 hw (g1.part pm (hpm u)) (g2.part pm hpn (hpm u)) hS1
end MKT
/-- the law's world: the class's cells and the reference's -/
abbrev LX (cI cZ cR cG : ClassId) (xo : Nat) (cd ce : Nat → Nat) (so : Nat) (sd ad c ev : Nat → Nat) (r : Nat → Nat → Int32) (g sl : Nat → Nat) (sv : Nat → Int32) (z : Nat → Nat → Nat) (f : Nat → Option Nat) : va_W := xB xo cd ce so sd ++ cW cI cd c ++ cW cI ce ev ++ qB cR so f ++ tF cI cG sd (r 0) (r 1) (r 2) (r 3) (r 4) (r 5) (r 6) (r 7) (r 8) (r 9) (r 10) ++ mW cI cZ ad g sl sv (z 0) (z 1) (z 2) (z 3) (z 4)
def rU (u r : Nat → Nat → Int32) : Nat → Nat → Int32 := fun k => match k with
  | 0 => u 0
  | 1 => u 1
  | 2 => u 2
  | 3 => r 3
  | 4 => u 3
  | 5 => u 4
  | 6 => u 5
  | 7 => r 7
  | 8 => u 6
  | 9 => u 7
  | _ => u 8
def z4 (u : F4) (z : Nat → Nat → Nat) : Nat → Nat → Nat := fun k => match k with
  | 0 => u.1
  | 1 => u.2.2.1
  | 2 => u.2.2.2
  | 3 => u.2.1
  | _ => z 4
def z5 (u : F5) : Nat → Nat → Nat := fun k => match k with
  | 0 => u.1
  | 1 => u.2.2.1
  | 2 => u.2.2.2.1
  | 3 => u.2.1
  | _ => u.2.2.2.2
/-- a slot: empty, or a circuit's cells and numbers -/
abbrev SO : Type := Option ((Nat → Nat) × (Nat → Nat))
def sB (cI : ClassId) (o : SO) : va_W := match o with
  | none => []
  | some q => cW cI q.1 q.2
def fO (o0 o1 : SO) : Nat → Option Nat := fun k => match k with
  | 0 => o0.map (fun q => q.1 0)
  | 1 => o1.map (fun q => q.1 0)
  | _ => none
def SR (sl : Nat → Nat) (sv : Nat → Int32) (k : Nat) (o : SO) : Prop := match o with
  | none => sv k = 0
  | some q => sv k ≠ 0 ∧ Kp q.2 (fun j => sl (290 * k + j))
theorem sw32 (x : Int32) : ∃ k, k < 32 ∧ x &&& 31 = nI k := by
  have h : (x &&& 31).toBitVec = x.toBitVec &&& 31#32 := rfl
  have h2 : (x.toBitVec &&& 31#32).toNat < 32 := by
    rw [BitVec.toNat_and]
    exact Nat.lt_of_le_of_lt Nat.and_le_right (by decide)
  have h3 : (x &&& 31).toInt = ((x.toBitVec &&& 31#32).toNat : Int) := by
    show (x &&& 31).toBitVec.toInt = _
    rw [h, BitVec.toInt_eq_toNat_of_lt (by omega)]
  obtain ⟨j, -, h4, -, h5, -⟩ := inR_at (x := x &&& 31) (a := 0) (b := 31) (decide_eq_true ⟨by rw [h3]; omega, by rw [h3]; omega⟩)
  exact ⟨j, by omega, h5⟩
theorem Kp_ext {c g g' : Nat → Nat} (k : Kp c g) (h : ∀ i, i < 290 → g' i = g i) : Kp c g' := by
  obtain ⟨⟨r0, r1, r2, r3⟩, ok⟩ := k
  have h0 := ok.1
  have h1 := ok.2.1
  have e0 := h 0 (by omega)
  have e1 := h 1 (by omega)
  refine ⟨⟨by rw [e0]; exact r0, by rw [e1]; exact r1, fun n hn => ?_, fun t ht => ?_⟩, ?_⟩
  · rw [e0] at hn
    rw [h _ (by omega), h _ (by omega)]
    exact r2 n hn
  · rw [e1] at ht
    rw [h (50 + t) (by omega), h (90 + t) (by omega), h (130 + t) (by omega), h (170 + t) (by omega), h (210 + t) (by omega), h (250 + t) (by omega)]
    exact r3 t ht
  · unfold okG
    rw [e0, e1]
    refine ⟨h0, h1, fun n hn => ?_, fun t ht => ?_⟩
    · rw [h _ (by omega), h _ (by omega)]
      exact ok.2.2.1 n hn
    · rw [h (50 + t) (by omega), h (90 + t) (by omega), h (130 + t) (by omega), h (170 + t) (by omega), h (210 + t) (by omega), h (250 + t) (by omega)]
      exact ok.2.2.2 t ht
theorem SR_ext {sl sl' : Nat → Nat} {sv sv' : Nat → Int32} {k : Nat} {o : SO} (h : SR sl sv k o) (h1 : ∀ i, i < 290 → sl' (290 * k + i) = sl (290 * k + i)) (h2 : sv' k = sv k) : SR sl' sv' k o := by
  cases o with
  | none => exact h2.trans h
  | some q => exact ⟨by rw [h2]; exact h.1, Kp_ext h.2 (fun i hi => h1 i hi)⟩
theorem SR_other {sl g : Nat → Nat} {sv : Nat → Int32} {j k : Nat} {o : SO} (h : SR sl sv k o) (hk : k ≠ j) : SR (svS sl j g 290) (upd sv j 1) k o := SR_ext h (fun i hi => by unfold svS; rw [if_neg (by omega)]) (by unfold upd; rw [if_neg hk])
theorem SR_new {sl c d g : Nat → Nat} {ck : Nat → Nat} {sv : Nat → Int32} {j : Nat} (k : Kp c g) : SR (svS sl j g 290) (upd sv j 1) j (some (ck, cpy c d)) := by
  have ok := k.1.ok k.2
  refine ⟨by unfold upd; rw [if_pos rfl]; decide, Kp_ext (g := g) ⟨(cpy_Rel c d ok.1 ok.2.1).tr k.1, k.2⟩ (fun i hi => ?_)⟩
  show svS sl j g 290 (290 * j + i) = g i
  unfold svS
  rw [if_pos (by omega), show 290 * j + i - 290 * j = i by omega]
theorem va_P.asc {D : va_G} {cl : List vw_C} {a b c : va_W} {H : Heap} (h : va_P D cl ((a ++ b) ++ c) H) : va_P D cl (a ++ (b ++ c)) H := by rw [← List.append_assoc]; exact h
theorem va_P.csa {D : va_G} {cl : List vw_C} {a b c : va_W} {H : Heap} (h : va_P D cl (a ++ (b ++ c)) H) : va_P D cl ((a ++ b) ++ c) H := by rw [List.append_assoc]; exact h
theorem va_D.asc {A : Nat → Prop} {a b c : va_W} (h : va_D A ((a ++ b) ++ c)) : va_D A (a ++ (b ++ c)) := by rw [← List.append_assoc]; exact h
theorem va_D.csa {A : Nat → Prop} {a b c : va_W} (h : va_D A (a ++ (b ++ c))) : va_D A ((a ++ b) ++ c) := by rw [List.append_assoc]; exact h
theorem fO_up0 (o1 : SO) (q : (Nat → Nat) × (Nat → Nat)) : va_up (fO none o1) 0 (some (q.1 0)) = fO (some q) o1 := by
  funext k
  match k with
  | 0 => rfl
  | 1 => rfl
  | k + 2 => rfl
theorem fO_up1 (o0 : SO) (q : (Nat → Nat) × (Nat → Nat)) : va_up (fO o0 none) 1 (some (q.1 0)) = fO o0 (some q) := by
  funext k
  match k with
  | 0 => rfl
  | 1 => rfl
  | k + 2 => rfl
/-- the script's word -/
theorem my_sld {p : Program} {l : Launch} {e : Env} {R : Room} {s : State} {m : MethodId} {args : Array Value} {below : List Frame} {meth : Method} {c : Code} {H : Heap} {locs : List Loc} {cells slots : Nat} {Q : State → Prop} {cc : ByteArray} {pc : Nat} {ls : Array Slot} {rest : List Value} {A : Nat → Prop} {H0 : Heap} (hx : p.tables.exec = Jvm.exec) (hb : c.code = cc) {b L : Nat} {xs : Nat → Int32} (hX : va_X b L xs s H0) (hbl : b < H0.size) (hbA : ¬ A b) (hS : va_S A H0 H locs) {n : Nat} (hn : n < L) (hL : L ≤ 3072) (hdg : decode cc pc = .ok (.iaload, 1))
    (kk : W p l e R s m args below meth c H locs cells slots Q (F0 m (pc + 1) ls (.int (xs n) :: rest))) : W p l e R s m args below meth c H locs cells slots Q (F0 m pc ls (.int (nI n) :: .ref b :: rest)) := va_sld hx hb hX hbl hbA hS (vp_in_nI hn (by omega)) hdg (by rw [nI_clamp (by omega)]; exact kk)
/-- what holds all along the law -/
def LC (p : Program) (s : State) (m : MethodId) (kc : Code) (b L : Nat) (xs : Nat → Int32) (dC : Nat → ClassId) (dI : Nat → Nat → Nat) (cI cZ cR cG : ClassId) : Prop :=
  p.tables.exec = Jvm.exec ∧ kc.code = cL_law ∧ kc.maxLocals = 4 ∧ s.vm.findClass RL = some m.cls ∧ (∀ w ∈ wsL_law, w.before #[Value.ref b] s = true) ∧ va_X b L xs s s.heap ∧ b < s.heap.size ∧ va_K (dC, dI) vwCl (tyL cI cZ cR cG) s ∧ EX s
/-- the law's world and its numbers, at one moment -/
def LI (dC : Nat → ClassId) (dI : Nat → Nat → Nat) (cI cZ cR cG : ClassId) (xo : Nat) (cd ce : Nat → Nat) (so : Nat) (sd ad : Nat → Nat) (H0 H : Heap) (locs : List Loc) : Prop := ∃ (c ev : Nat → Nat) (r : Nat → Nat → Int32) (g sl : Nat → Nat) (sv : Nat → Int32) (z : Nat → Nat → Nat) (o0 o1 : SO), Kp c g ∧ SR sl sv 0 o0 ∧ SR sl sv 1 o1 ∧ va_P (dC, dI) vwCl (LX cI cZ cR cG xo cd ce so sd ad c ev r g sl sv z (fO o0 o1) ++ (sB cI o0 ++ sB cI o1)) H ∧ va_D (fun q => H0.size ≤ q) (LX cI cZ cR cG xo cd ce so sd ad c ev r g sl sv z (fO o0 o1) ++ (sB cI o0 ++ sB cI o1)) ∧ va_S (fun q => H0.size ≤ q) H0 H locs
