/-! the class's circuit: rows, and what its fields are behind each change -/
section MKP
variable {p : Program} {l : Launch} {e : Env} {R : Room} {s : State} {m : MethodId} {args : Array Value} {below : List Frame} {meth : Method} {c : Code} {H : Heap} {locs : List Loc} {cells slots : Nat} {Q : State → Prop}
variable {cc : ByteArray} {pc : Nat} {ls : Array Slot} {rest : List Value} {D : va_G} {cl : List vw_C} {A : Nat → Prop} {a : Nat} {tys : List (ClassId × FieldType)} {ws : va_W} {H0 : Heap}
theorem my_ialdP (hx : p.tables.exec = Jvm.exec) (hb : c.code = cc) (hK : va_K D cl tys s) (hP : va_P D cl ws H) (q0 t0 : Nat) {cA : ClassId} {i b : Nat} {g : Nat → Nat} (ha : ws[q0]? = some (a, .inl (cA, 40, .inl (nA (pA g b))))) (ht : tys[t0]? = some (cA, .int)) (hi : i < 40) (hdg : decode cc pc = .ok (.iaload, 1))
    (kk : W p l e R s m args below meth c H locs cells slots Q (F0 m (pc + 1) ls (.int (nI (g (b + i))) :: rest))) : W p l e R s m args below meth c H locs cells slots Q (F0 m pc ls (.int (nI i) :: .ref a :: rest)) := my_iald hx hb hK hP q0 t0 ha ht hi (by decide) hdg (by show W _ _ _ _ _ _ _ _ _ _ _ _ _ _ _ (F0 m (pc + 1) ls (.int (nI (pA g b i)) :: rest)); rw [pA_at hi]; exact kk)
def cpN (f g : Nat → Nat) (k : Nat) : Nat → Nat := fun j => if j < k then f j else g j
theorem cpN_eq (f g : Nat → Nat) (k : Nat) : va_cpy (nA f) (nA g) 0 0 k = nA (cpN f g k) := by
  funext j
  unfold va_cpy nA cpN
  by_cases h : j < k
  · rw [if_pos ⟨Nat.zero_le _, by omega⟩, if_pos h]
    simp
  · rw [if_neg (by omega), if_neg h]
theorem my_copyN (hexec : p.tables.exec = Jvm.exec) (hb : c.code = cc) (hml : c.maxLocals = ls.size) {own : String} {index : Nat} (hown : s.vm.findClass own = some m.cls) (hlink : (Cond.methodLink own index arraycopyName).before args s = true) (hnat : (Cond.native arraycopyName).before args s = true) (hstat : (Cond.static arraycopyName).before args s = true) (hini : (Cond.initialized "java/lang/System").before args s = true)
    (hK : va_K D cl tys s) (hP : va_P D cl ws H) (hD : va_D A ws) (hS : va_S A H0 H locs) (q0 q1 t0 : Nat) {a0 : Nat} {c0 : ClassId} {f g : Nat → Nat} {k : Nat} (ha0 : ws[q0]? = some (a0, .inl (c0, 40, .inl (nA f)))) (ha1 : ws[q1]? = some (a, .inl (c0, 40, .inl (nA g)))) (ht0 : tys[t0]? = some (c0, .int)) (hk : k ≤ 40)
    (hframes : 1 ≤ R.frames) (hlocals : (rest.map fun v => v.category).sum + (nativeFrameWords "java/lang/System" "arraycopy" 5 + 11) ≤ R.locals) (hdg : decode cc pc = .ok (.invokestatic index, 3)) {ws' : va_W} (hw : ws.set q1 (a, .inl (c0, 40, .inl (nA (cpN f g k)))) = ws')
    (kk : ∀ (H1 : Heap) (locs1 : List Loc), va_P D cl ws' H1 → va_D A ws' → va_S A H0 H1 locs1 → W p l e R s m args below meth c H1 locs1 cells slots Q (F0 m (pc + 3) ls rest)) : W p l e R s m args below meth c H locs cells slots Q (F0 m pc ls (.int (nI k) :: .int (nI 0) :: .ref a :: .int (nI 0) :: .ref a0 :: rest)) := by
  subst hw
  have e0 : (nI 0).toNatClampNeg = 0 := nI_clamp (by decide)
  have ek : (nI k).toNatClampNeg = k := nI_clamp (by omega)
  refine va_copyi hexec hb hml hown hlink hnat hstat hini hK hP hD hS q0 q1 t0 t0 (ty := .int) ha0 ha1 ht0 ht0 rfl (nI_pos (by decide)) (nI_pos (by decide)) (nI_pos (by omega)) (by rw [e0, ek]; omega) (by rw [e0, ek]; omega) (fun i _ => rfl) hframes hlocals hdg fun H1 locs1 h1 h2 h3 => ?_
  rw [e0, ek, cpN_eq] at h1 h2
  exact kk H1 locs1 h1 h2 h3
theorem my_copy8 (hexec : p.tables.exec = Jvm.exec) (hb : c.code = cc) (hml : c.maxLocals = ls.size) {own : String} {index : Nat} (hown : s.vm.findClass own = some m.cls) (hlink : (Cond.methodLink own index arraycopyName).before args s = true) (hnat : (Cond.native arraycopyName).before args s = true) (hstat : (Cond.static arraycopyName).before args s = true) (hini : (Cond.initialized "java/lang/System").before args s = true)
    (hK : va_K D cl tys s) (hP : va_P D cl ws H) (hD : va_D A ws) (hS : va_S A H0 H locs) (q0 q1 t0 : Nat) {a0 : Nat} {c0 : ClassId} {f g : Nat → Int32} (ha0 : ws[q0]? = some (a0, .inl (c0, 8, .inl f))) (ha1 : ws[q1]? = some (a, .inl (c0, 8, .inl g))) (ht0 : tys[t0]? = some (c0, .int))
    (hframes : 1 ≤ R.frames) (hlocals : (rest.map fun v => v.category).sum + (nativeFrameWords "java/lang/System" "arraycopy" 5 + 11) ≤ R.locals) (hdg : decode cc pc = .ok (.invokestatic index, 3)) {ws' : va_W} (hw : ws.set q1 (a, .inl (c0, 8, .inl f)) = ws')
    (kk : ∀ (H1 : Heap) (locs1 : List Loc), va_P D cl ws' H1 → va_D A ws' → va_S A H0 H1 locs1 → W p l e R s m args below meth c H1 locs1 cells slots Q (F0 m (pc + 3) ls rest)) : W p l e R s m args below meth c H locs cells slots Q (F0 m pc ls (.int (nI 8) :: .int (nI 0) :: .ref a :: .int (nI 0) :: .ref a0 :: rest)) := by
  subst hw
  have e0 : (nI 0).toNatClampNeg = 0 := nI_clamp (by decide)
  have ek : (nI 8).toNatClampNeg = 8 := nI_clamp (by decide)
  refine va_copyi hexec hb hml hown hlink hnat hstat hini hK hP hD hS q0 q1 t0 t0 (ty := .int) ha0 ha1 ht0 ht0 rfl (nI_pos (by decide)) (nI_pos (by decide)) (nI_pos (by decide)) (by rw [e0, ek]; omega) (by rw [e0, ek]; omega) (fun i _ => rfl) hframes hlocals hdg fun H1 locs1 h1 h2 h3 => ?_
  rw [e0, ek] at h1 h2
  have hl : q1 < ws.length := (List.getElem?_eq_some_iff.mp ha1).1
  refine kk H1 locs1 (my_congr h1 q1 (List.getElem?_set_self hl) (fun j hj => ?_) (List.set_set ..)) ?_ h3
  · unfold va_cpy
    rw [if_pos ⟨Nat.zero_le _, by omega⟩]
    simp
  · have := h2.set (p := q1) (e := .inl (c0, 8, .inl f)) (List.getElem?_set_self hl)
    rw [List.set_set] at this
    exact this
end MKP
theorem hasN_t {x : Int32} {k : Nat} (hk : k < 2 ^ 31) (h1 : ¬ x < 0) (h2 : ¬ nI k ≤ x) : inN x k = true := by
  unfold inN
  apply decide_eq_true
  rw [Int32.lt_iff_toInt_lt] at h1
  rw [Int32.le_iff_toInt_le, nI_toInt hk] at h2
  have : (0 : Int32).toInt = 0 := rfl
  omega
theorem hasN_f1 {x : Int32} {k : Nat} (h1 : x < 0) : inN x k = false := by
  unfold inN
  apply decide_eq_false
  rw [Int32.lt_iff_toInt_lt] at h1
  have : (0 : Int32).toInt = 0 := rfl
  omega
theorem hasN_f2 {x : Int32} {k : Nat} (hk : k < 2 ^ 31) (h2 : nI k ≤ x) : inN x k = false := by
  unfold inN
  apply decide_eq_false
  rw [Int32.le_iff_toInt_le, nI_toInt hk] at h2
  omega
theorem m0_f {c : Nat → Nat} {j : Nat} (hj : j < c 0) : m0 c j = false ↔ c (26 + j) = 1 := by unfold m0; simp [hj]
theorem m1_f {c : Nat → Nat} {j : Nat} (hj : j < c 0) : m1 c j = false ↔ c (26 + j) = 0 := by unfold m1; simp [hj]
theorem at_t {p : Nat → Bool} {k : Nat} (hk : k < 24) (h : ¬ (msk p &&& ((1 : Int32) <<< (nI k &&& 31))) = 0) : p k = true := by
  cases e : p k
  · exact absurd ((msk_at p k hk).mpr e) h
  · rfl
theorem at_f {p : Nat → Bool} {k : Nat} (hk : k < 24) (h : (msk p &&& ((1 : Int32) <<< (nI k &&& 31))) = 0) : p k = false := (msk_at p k hk).mp h
def vlM (c : Nat → Nat) (v i : Nat) : Bool := decide (i < c 0) && decide (c (26 + i) = v)
theorem vlM_2 {c : Nat → Nat} (ok : okG c) : msk (m0 c) &&& msk (m1 c) = msk (vlM c 2) := by
  rw [msk_and]
  refine msk_cong fun i _ => ?_
  unfold m0 m1 vlM
  by_cases h : i < c 0
  · have := (ok.2.2.1 i h).2
    rw [decide_eq_true h]
    rcases (show c (26 + i) = 0 ∨ c (26 + i) = 1 ∨ c (26 + i) = 2 by omega) with e | e | e <;> rw [e] <;> rfl
  · rw [decide_eq_false h]; rfl
theorem vlM_1 {c : Nat → Nat} (ok : okG c) : msk (m1 c) &&& (msk (m0 c) ^^^ (-1)) = msk (vlM c 1) := by
  rw [msk_andnot]
  refine msk_cong fun i _ => ?_
  unfold m0 m1 vlM
  by_cases h : i < c 0
  · have := (ok.2.2.1 i h).2
    rw [decide_eq_true h]
    rcases (show c (26 + i) = 0 ∨ c (26 + i) = 1 ∨ c (26 + i) = 2 by omega) with e | e | e <;> rw [e] <;> rfl
  · rw [decide_eq_false h]; rfl
theorem vlM_0 {c : Nat → Nat} (ok : okG c) : msk (m0 c) &&& (msk (m1 c) ^^^ (-1)) = msk (vlM c 0) := by
  rw [msk_andnot]
  refine msk_cong fun i _ => ?_
  unfold m0 m1 vlM
  by_cases h : i < c 0
  · have := (ok.2.2.1 i h).2
    rw [decide_eq_true h]
    rcases (show c (26 + i) = 0 ∨ c (26 + i) = 1 ∨ c (26 + i) = 2 by omega) with e | e | e <;> rw [e] <;> rfl
  · rw [decide_eq_false h]; rfl
theorem vlM_mk {c : Nat → Nat} (h : c 0 ≤ 24) (v : Nat) : msk (vlM c v) = mk (vlu c v) (c 0) := by
  rw [mk_msk _ _ h]
  rfl
theorem inp_mk {c : Nat → Nat} (h : c 0 ≤ 24) : msk (inp c) = mk (fun k => decide (c (2 + k) = 0)) (c 0) := by
  rw [mk_msk _ _ h]
  rfl
/-- a node more -/
theorem addN_0 (c : Nat → Nat) (z : Nat) : addN c z 0 = c 0 + 1 := up1_s
theorem addN_k {c : Nat → Nat} {z : Nat} (h : c 0 < 24) {j : Nat} (hj : j = 1 ∨ 50 ≤ j) : addN c z j = c j := by
  unfold addN
  rw [up1_n (by omega), up1_n (by omega), up1_n (by omega)]
theorem addN_2 {c : Nat → Nat} {z : Nat} (h : c 0 < 24) {i : Nat} (hi : i < 24) : addN c z (2 + i) = if i = c 0 then z else c (2 + i) := by
  unfold addN
  rw [up1_n (show 2 + i ≠ 0 by omega), up1_n (show 2 + i ≠ 26 + c 0 by omega)]
  by_cases e : i = c 0
  · rw [if_pos e, e, up1_s]
  · rw [if_neg e, up1_n (by omega)]
theorem addN_26 {c : Nat → Nat} {z : Nat} (h : c 0 < 24) {i : Nat} (hi : i < 24) : addN c z (26 + i) = if i = c 0 then 2 else c (26 + i) := by
  unfold addN
  rw [up1_n (show 26 + i ≠ 0 by omega)]
  by_cases e : i = c 0
  · rw [if_pos e, e, up1_s]
  · rw [if_neg e, up1_n (by omega), up1_n (by omega)]
theorem pA_cong {c d : Nat → Nat} {b : Nat} (h : ∀ t, t < 40 → c (b + t) = d (b + t)) : pA c b = pA d b := by
  funext t
  unfold pA
  by_cases e : t < 40
  · rw [if_pos e, if_pos e, h t e]
  · rw [if_neg e, if_neg e]
theorem addN_inp {c : Nat → Nat} {z : Nat} (h : c 0 < 24) {i : Nat} (hi : i < 24) : inp (addN c z) i = if i = c 0 then decide (z = 0) else inp c i := by
  unfold inp
  rw [addN_0, addN_2 h hi]
  by_cases e : i = c 0
  · rw [if_pos e, if_pos e, decide_eq_true (show i < c 0 + 1 by omega)]; rfl
  · rw [if_neg e, if_neg e]
    by_cases q : i < c 0
    · rw [decide_eq_true q, decide_eq_true (show i < c 0 + 1 by omega)]
    · rw [decide_eq_false q, decide_eq_false (show ¬ i < c 0 + 1 by omega)]
theorem addN_sto {c : Nat → Nat} {z : Nat} (h : c 0 < 24) {i : Nat} (hi : i < 24) : sto (addN c z) i = if i = c 0 then !decide (z = 0) else sto c i := by
  unfold sto
  rw [addN_0, addN_2 h hi]
  by_cases e : i = c 0
  · rw [if_pos e, if_pos e, decide_eq_true (show i < c 0 + 1 by omega)]; rfl
  · rw [if_neg e, if_neg e]
    by_cases q : i < c 0
    · rw [decide_eq_true q, decide_eq_true (show i < c 0 + 1 by omega)]
    · rw [decide_eq_false q, decide_eq_false (show ¬ i < c 0 + 1 by omega)]
theorem addN_m0 {c : Nat → Nat} {z : Nat} (h : c 0 < 24) {i : Nat} (hi : i < 24) : m0 (addN c z) i = if i = c 0 then true else m0 c i := by
  unfold m0
  rw [addN_0, addN_26 h hi]
  by_cases e : i = c 0
  · rw [if_pos e, if_pos e, decide_eq_true (show i < c 0 + 1 by omega)]; rfl
  · rw [if_neg e, if_neg e]
    by_cases q : i < c 0
    · rw [decide_eq_true q, decide_eq_true (show i < c 0 + 1 by omega)]
    · rw [decide_eq_false q, decide_eq_false (show ¬ i < c 0 + 1 by omega)]
theorem addN_m1 {c : Nat → Nat} {z : Nat} (h : c 0 < 24) {i : Nat} (hi : i < 24) : m1 (addN c z) i = if i = c 0 then true else m1 c i := by
  unfold m1
  rw [addN_0, addN_26 h hi]
  by_cases e : i = c 0
  · rw [if_pos e, if_pos e, decide_eq_true (show i < c 0 + 1 by omega)]; rfl
  · rw [if_neg e, if_neg e]
    by_cases q : i < c 0
    · rw [decide_eq_true q, decide_eq_true (show i < c 0 + 1 by omega)]
    · rw [decide_eq_false q, decide_eq_false (show ¬ i < c 0 + 1 by omega)]
abbrev bN (c : Nat → Nat) : Int32 := (1 : Int32) <<< (nI (c 0) &&& 31)
/-- sizedAtLeast, with the new node at the levels below lv -/
def szL (c : Nat → Nat) (lv : Nat) : Nat → Int32 := fun l => if 1 ≤ l ∧ l < lv then szA c l ||| bN c else szA c l
theorem szL_1 (c : Nat → Nat) : szL c 1 = szA c := by
  funext l
  unfold szL
  rw [if_neg (by omega)]
theorem szL_s (c : Nat → Nat) {lv : Nat} (h : 1 ≤ lv) : upd (szL c lv) lv ((szL c lv lv) ||| bN c) = szL c (lv + 1) := by
  funext l
  unfold upd szL
  by_cases e : l = lv
  · subst e
    rw [if_pos rfl, if_neg (by omega), if_pos ⟨h, by omega⟩]
  · rw [if_neg e]
    by_cases q : 1 ≤ l ∧ l < lv
    · rw [if_pos q, if_pos ⟨q.1, by omega⟩]
    · rw [if_neg q, if_neg (fun z => q ⟨z.1, by omega⟩)]
theorem cW_add {cI : ClassId} {cd c : Nat → Nat} {z : Nat} (h : c 0 < 24) : cW cI cd (addN c z) = cF cI cd (nI (c 0 + 1)) (if z = 0 then msk (inp c) ||| bN c else msk (inp c)) (if z = 0 then msk (sto c) else msk (sto c) ||| bN c) (pvZ (msk (m0 c)) (bN c) (nI 2)) (pvO (msk (m1 c)) (bN c) (nI 2)) (nI (c 1)) (szL c (z + 1)) (pA c 50) (pA c 90) (pA c 130) (pA c 170) (pA c 210) (pA c 250) := by
  have hi0 : ∀ i, i < 24 → i = c 0 → inp c i = false ∧ sto c i = false := fun i _ e => by
    unfold inp sto
    rw [decide_eq_false (show ¬ i < c 0 by omega)]
    exact ⟨rfl, rfl⟩
  refine cF_eq (by rw [addN_0]) ?_ ?_ ?_ ?_ (by rw [addN_k h (Or.inl rfl)]) ?_ (pA_cong fun t _ => addN_k h (by omega)) (pA_cong fun t _ => addN_k h (by omega)) (pA_cong fun t _ => addN_k h (by omega)) (pA_cong fun t _ => addN_k h (by omega)) (pA_cong fun t _ => addN_k h (by omega)) (pA_cong fun t _ => addN_k h (by omega))
  · by_cases hz : z = 0
    · rw [if_pos hz, show bN c = msk (fun i => decide (i = c 0)) from msk_bit _ h, msk_or]
      refine msk_cong fun i hi => ?_
      rw [addN_inp h hi]
      by_cases e : i = c 0 <;> simp [e, hz]
    · rw [if_neg hz]
      refine msk_cong fun i hi => ?_
      rw [addN_inp h hi]
      by_cases e : i = c 0
      · rw [if_pos e, (hi0 i hi e).1, decide_eq_false hz]
      · rw [if_neg e]
  · by_cases hz : z = 0
    · rw [if_pos hz]
      refine msk_cong fun i hi => ?_
      rw [addN_sto h hi]
      by_cases e : i = c 0
      · rw [if_pos e, (hi0 i hi e).2, decide_eq_true hz]; rfl
      · rw [if_neg e]
    · rw [if_neg hz, show bN c = msk (fun i => decide (i = c 0)) from msk_bit _ h, msk_or]
      refine msk_cong fun i hi => ?_
      rw [addN_sto h hi]
      by_cases e : i = c 0 <;> simp [e, hz]
  · rw [pvZ_m h (by omega)]
    refine msk_cong fun i hi => ?_
    rw [addN_m0 h hi]
    rfl
  · rw [pvO_m h (by omega)]
    refine msk_cong fun i hi => ?_
    rw [addN_m1 h hi]
    rfl
  · funext lv
    unfold szL
    have key : ∀ i, i < 24 → szB (addN c z) lv i = if i = c 0 then decide (1 ≤ lv ∧ lv < z + 1) else szB c lv i := fun i hi => by
      unfold szB
      rw [addN_sto h hi, addN_2 h hi]
      by_cases e : i = c 0
      · rw [if_pos e, if_pos e, if_pos e]
        by_cases a : 1 ≤ lv <;> by_cases b : lv ≤ z <;> by_cases d : z = 0 <;> simp [a, b, d] <;> omega
      · rw [if_neg e, if_neg e, if_neg e]
    have h0 : szB c lv (c 0) = false := by
      unfold szB sto
      rw [decide_eq_false (Nat.lt_irrefl _)]
      rfl
    show msk _ = _
    by_cases q : 1 ≤ lv ∧ lv < z + 1
    · rw [if_pos q, show bN c = msk (fun i => decide (i = c 0)) from msk_bit _ h]
      show _ = msk _ ||| _
      rw [msk_or]
      refine msk_cong fun i hi => ?_
      rw [key i hi, decide_eq_true q]
      by_cases e : i = c 0 <;> simp [e]
    · rw [if_neg q]
      refine msk_cong fun i hi => ?_
      rw [key i hi, decide_eq_false q]
      by_cases e : i = c 0
      · rw [if_pos e, e, h0]
      · rw [if_neg e]
/-- a change from 50 on leaves the sets -/
theorem cW_hi {cI : ClassId} {cd c d : Nat → Nat} (h : ∀ j, j < 50 → j ≠ 1 → d j = c j) (hc : c 0 ≤ 24) : cW cI cd d = cF cI cd (nI (c 0)) (msk (inp c)) (msk (sto c)) (msk (m0 c)) (msk (m1 c)) (nI (d 1)) (szA c) (pA d 50) (pA d 90) (pA d 130) (pA d 170) (pA d 210) (pA d 250) := by
  have e0 := h 0 (by omega) (by omega)
  have e2 : ∀ i, i < 24 → d (2 + i) = c (2 + i) := fun i hi => h (2 + i) (by omega) (by omega)
  have e26 : ∀ i, i < 24 → d (26 + i) = c (26 + i) := fun i hi => h (26 + i) (by omega) (by omega)
  refine cF_eq (by rw [e0]) (msk_cong fun i hi => ?_) (msk_cong fun i hi => ?_) (msk_cong fun i hi => ?_) (msk_cong fun i hi => ?_) rfl (funext fun lv => msk_cong fun i hi => ?_) rfl rfl rfl rfl rfl rfl
  · unfold inp; rw [e0, e2 i hi]
  · unfold sto; rw [e0, e2 i hi]
  · unfold m0; rw [e0, e26 i hi]
  · unfold m1; rw [e0, e26 i hi]
  · unfold szB sto; rw [e0, e2 i hi]
theorem cW_addT {cI : ClassId} {cd c : Nat → Nat} {ty st ga on ot : Nat} (hc : c 0 ≤ 24) (h : c 1 < 40) : cW cI cd (addT c ty st ga on ot) = cF cI cd (nI (c 0)) (msk (inp c)) (msk (sto c)) (msk (m0 c)) (msk (m1 c)) (nI (c 1 + 1)) (szA c) (up1 (pA c 50) (c 1) ty) (up1 (pA c 90) (c 1) st) (up1 (pA c 130) (c 1) ga) (up1 (pA c 170) (c 1) on) (up1 (pA c 210) (c 1) ot) (up1 (pA c 250) (c 1) 0) := by
  rw [cW_hi (c := c) (fun j hj hj1 => by unfold addT; rw [up1_n (by omega), up1_n (by omega), up1_n (by omega), up1_n (by omega), up1_n (by omega), up1_n (by omega), up1_n (by omega)]) hc]
  refine cF_eq rfl rfl rfl rfl rfl (by unfold addT; rw [up1_s]) rfl ?_ ?_ ?_ ?_ ?_ ?_
  · rw [pA_up h]; exact pA_cong fun t ht => by
      unfold addT
      rw [up1_n (show 50 + t ≠ 1 by omega), up1_n (show 50 + t ≠ 250 + c 1 by omega), up1_n (show 50 + t ≠ 210 + c 1 by omega), up1_n (show 50 + t ≠ 170 + c 1 by omega), up1_n (show 50 + t ≠ 130 + c 1 by omega), up1_n (show 50 + t ≠ 90 + c 1 by omega)]
  · rw [pA_up h]; exact pA_cong fun t ht => by
      unfold addT
      rw [up1_n (show 90 + t ≠ 1 by omega), up1_n (show 90 + t ≠ 250 + c 1 by omega), up1_n (show 90 + t ≠ 210 + c 1 by omega), up1_n (show 90 + t ≠ 170 + c 1 by omega), up1_n (show 90 + t ≠ 130 + c 1 by omega)]
      unfold up1
      by_cases e : 90 + t = 90 + c 1
      · rw [if_pos e, if_pos e]
      · rw [if_neg e, if_neg e, if_neg (by omega)]
  · rw [pA_up h]; exact pA_cong fun t ht => by
      unfold addT
      rw [up1_n (show 130 + t ≠ 1 by omega), up1_n (show 130 + t ≠ 250 + c 1 by omega), up1_n (show 130 + t ≠ 210 + c 1 by omega), up1_n (show 130 + t ≠ 170 + c 1 by omega)]
      unfold up1
      by_cases e : 130 + t = 130 + c 1
      · rw [if_pos e, if_pos e]
      · rw [if_neg e, if_neg e, if_neg (by omega), if_neg (by omega)]
  · rw [pA_up h]; exact pA_cong fun t ht => by
      unfold addT
      rw [up1_n (show 170 + t ≠ 1 by omega), up1_n (show 170 + t ≠ 250 + c 1 by omega), up1_n (show 170 + t ≠ 210 + c 1 by omega)]
      unfold up1
      by_cases e : 170 + t = 170 + c 1
      · rw [if_pos e, if_pos e]
      · rw [if_neg e, if_neg e, if_neg (by omega), if_neg (by omega), if_neg (by omega)]
  · rw [pA_up h]; exact pA_cong fun t ht => by
      unfold addT
      rw [up1_n (show 210 + t ≠ 1 by omega), up1_n (show 210 + t ≠ 250 + c 1 by omega)]
      unfold up1
      by_cases e : 210 + t = 210 + c 1
      · rw [if_pos e, if_pos e]
      · rw [if_neg e, if_neg e, if_neg (by omega), if_neg (by omega), if_neg (by omega), if_neg (by omega)]
  · rw [pA_up h]; exact pA_cong fun t ht => by
      unfold addT
      rw [up1_n (show 250 + t ≠ 1 by omega)]
      unfold up1
      by_cases e : 250 + t = 250 + c 1
      · rw [if_pos e, if_pos e]
      · rw [if_neg e, if_neg e, if_neg (by omega), if_neg (by omega), if_neg (by omega), if_neg (by omega), if_neg (by omega)]
theorem cW_flt {cI : ClassId} {cd c : Nat → Nat} {t v : Nat} (hc : c 0 ≤ 24) (h : t < 40) : cW cI cd (up1 c (250 + t) v) = cF cI cd (nI (c 0)) (msk (inp c)) (msk (sto c)) (msk (m0 c)) (msk (m1 c)) (nI (c 1)) (szA c) (pA c 50) (pA c 90) (pA c 130) (pA c 170) (pA c 210) (up1 (pA c 250) t v) := by
  rw [cW_hi (c := c) (fun j hj hj1 => up1_n (by omega)) hc]
  exact cF_eq rfl rfl rfl rfl rfl (by rw [up1_n (by omega)]) rfl (pA_ne (by omega)) (pA_ne (by omega)) (pA_ne (by omega)) (pA_ne (by omega)) (pA_ne (by omega)) (pA_up h).symm
/-- values alone -/
theorem cW_val {cI : ClassId} {cd c d : Nat → Nat} (h : ∀ j, (j < 26 ∨ 50 ≤ j) → d j = c j) {z o : Int32} (hz : msk (m0 d) = z) (ho : msk (m1 d) = o) (hc : c 0 ≤ 24) : cW cI cd d = cF cI cd (nI (c 0)) (msk (inp c)) (msk (sto c)) z o (nI (c 1)) (szA c) (pA c 50) (pA c 90) (pA c 130) (pA c 170) (pA c 210) (pA c 250) := by
  have e0 := h 0 (by omega)
  have e2 : ∀ i, i < 24 → d (2 + i) = c (2 + i) := fun i hi => h (2 + i) (by omega)
  refine cF_eq (by rw [e0]) (msk_cong fun i hi => ?_) (msk_cong fun i hi => ?_) hz ho (by rw [h 1 (by omega)]) (funext fun lv => msk_cong fun i hi => ?_) (pA_cong fun t _ => h _ (by omega)) (pA_cong fun t _ => h _ (by omega)) (pA_cong fun t _ => h _ (by omega)) (pA_cong fun t _ => h _ (by omega)) (pA_cong fun t _ => h _ (by omega)) (pA_cong fun t _ => h _ (by omega))
  · unfold inp; rw [e0, e2 i hi]
  · unfold sto; rw [e0, e2 i hi]
  · unfold szB sto; rw [e0, e2 i hi]
theorem cW_put {cI : ClassId} {cd c : Nat → Nat} {j v : Nat} (hc : c 0 ≤ 24) (hj : j < c 0) (hv : v ≤ 2) : cW cI cd (up1 c (26 + j) v) = cF cI cd (nI (c 0)) (msk (inp c)) (msk (sto c)) (pvZ (msk (m0 c)) ((1 : Int32) <<< (nI j &&& 31)) (nI v)) (pvO (msk (m1 c)) ((1 : Int32) <<< (nI j &&& 31)) (nI v)) (nI (c 1)) (szA c) (pA c 50) (pA c 90) (pA c 130) (pA c 170) (pA c 210) (pA c 250) := by
  refine cW_val (d := up1 c (26 + j) v) (fun i hi => up1_n (by omega)) ?_ ?_ hc
  · rw [pvZ_m (by omega) hv]
    refine msk_cong fun i hi => ?_
    unfold m0
    rw [up1_n (show 0 ≠ 26 + j by omega)]
    by_cases e : i = j
    · subst e; rw [if_pos rfl, up1_s, decide_eq_true hj]; rfl
    · rw [if_neg e, up1_n (by omega)]
  · rw [pvO_m (by omega) hv]
    refine msk_cong fun i hi => ?_
    unfold m1
    rw [up1_n (show 0 ≠ 26 + j by omega)]
    by_cases e : i = j
    · subst e; rw [if_pos rfl, up1_s, decide_eq_true hj]; rfl
    · rw [if_neg e, up1_n (by omega)]
theorem cW_stp {cI : ClassId} {cd c : Nat → Nat} (ok : okG c) : cW cI cd (stp c) = cF cI cd (nI (c 0)) (msk (inp c)) (msk (sto c)) (msk (lvU c 0 1)) (msk (lvU c 1 1)) (nI (c 1)) (szA c) (pA c 50) (pA c 90) (pA c 130) (pA c 170) (pA c 210) (pA c 250) :=
  cW_val (fun j hj => by rcases hj with q | q; exact stp_lo q; exact stp_hi ok q) (msk_cong fun i _ => (lvU_1 ok i).2.symm) (msk_cong fun i _ => (lvU_1 ok i).1.symm) ok.1
theorem cW_for {cI : ClassId} {cd c : Nat → Nat} (ok : okG c) : cW cI cd (forK c (c 0)) = cF cI cd (nI (c 0)) (msk (inp c)) (msk (sto c)) (msk (m0 c) ||| msk (sto c)) (msk (m1 c) ||| msk (sto c)) (nI (c 1)) (szA c) (pA c 50) (pA c 90) (pA c 130) (pA c 170) (pA c 210) (pA c 250) := by
  have h0 := ok.1
  refine cW_val (d := forK c (c 0)) (fun i hi => forK_lo (by omega)) ?_ ?_ h0
  · rw [msk_or]
    refine msk_cong fun i hi => ?_
    unfold m0 sto
    rw [forK_lo (show 0 < 26 ∨ 26 + c 0 ≤ 0 by omega)]
    by_cases q : i < c 0
    · rw [decide_eq_true q]
      by_cases e : c (2 + i) = 0
      · rw [show forK c (c 0) (26 + i) = c (26 + i) from if_neg (fun z => z.2.2 (by rw [show 26 + i - 26 = i by omega]; exact e)), decide_eq_true e]; simp
      · rw [show forK c (c 0) (26 + i) = 2 from if_pos ⟨by omega, by omega, by rw [show 26 + i - 26 = i by omega]; exact e⟩, decide_eq_false e]; simp
    · rw [decide_eq_false q]; rfl
  · rw [msk_or]
    refine msk_cong fun i hi => ?_
    unfold m1 sto
    rw [forK_lo (show 0 < 26 ∨ 26 + c 0 ≤ 0 by omega)]
    by_cases q : i < c 0
    · rw [decide_eq_true q]
      by_cases e : c (2 + i) = 0
      · rw [show forK c (c 0) (26 + i) = c (26 + i) from if_neg (fun z => z.2.2 (by rw [show 26 + i - 26 = i by omega]; exact e)), decide_eq_true e]; simp
      · rw [show forK c (c 0) (26 + i) = 2 from if_pos ⟨by omega, by omega, by rw [show 26 + i - 26 = i by omega]; exact e⟩, decide_eq_false e]; simp
    · rw [decide_eq_false q]; rfl
/-- a copy: what was there before stays behind the last transistor -/
def cpy (c d : Nat → Nat) : Nat → Nat := fun j => if j < 50 then c j else if (j - 50) % 40 < c 1 then c j else d j
theorem cpy_lo {c d : Nat → Nat} {j : Nat} (h : j < 50) : cpy c d j = c j := if_pos h
theorem cpy_Rel (c d : Nat → Nat) (h0 : c 0 ≤ 24) (h1 : c 1 ≤ 40) : Rel (cpy c d) c := by
  refine ⟨cpy_lo (by omega), cpy_lo (by omega), fun n hn => ⟨cpy_lo (by omega), cpy_lo (by omega)⟩, fun t ht => ?_⟩
  have key : ∀ b, b = 50 ∨ b = 90 ∨ b = 130 ∨ b = 170 ∨ b = 210 ∨ b = 250 → cpy c d (b + t) = c (b + t) := fun b hb => by
    unfold cpy
    rw [if_neg (by omega), if_pos (by omega)]
  exact ⟨key _ (by omega), key _ (by omega), key _ (by omega), key _ (by omega), key _ (by omega), key _ (by omega)⟩
theorem cW_cpy {cI : ClassId} {cd c d : Nat → Nat} (h0 : c 0 ≤ 24) (h1 : c 1 ≤ 40) : cW cI cd (cpy c d) = cF cI cd (nI (c 0)) (msk (inp c)) (msk (sto c)) (msk (m0 c)) (msk (m1 c)) (nI (c 1)) (szA c) (cpN (pA c 50) (pA d 50) (c 1)) (cpN (pA c 90) (pA d 90) (c 1)) (cpN (pA c 130) (pA d 130) (c 1)) (cpN (pA c 170) (pA d 170) (c 1)) (cpN (pA c 210) (pA d 210) (c 1)) (cpN (pA c 250) (pA d 250) (c 1)) := by
  have key : ∀ b, b = 50 ∨ b = 90 ∨ b = 130 ∨ b = 170 ∨ b = 210 ∨ b = 250 → pA (cpy c d) b = cpN (pA c b) (pA d b) (c 1) := fun b hb => by
    funext t
    show (if t < 40 then cpy c d (b + t) else 0) = (if t < c 1 then (if t < 40 then c (b + t) else 0) else (if t < 40 then d (b + t) else 0))
    by_cases e : t < 40
    · rw [if_pos e, if_pos e, if_pos e]
      unfold cpy
      rw [if_neg (show ¬ b + t < 50 by omega)]
      by_cases q : t < c 1
      · rw [if_pos (by omega), if_pos q]
      · rw [if_neg (by omega), if_neg q]
    · rw [if_neg e, if_neg (show ¬ t < c 1 by omega), if_neg e]
  rw [cW_hi (c := c) (fun j hj _ => cpy_lo hj) h0, cpy_lo (show 1 < 50 by omega), key 50 (by omega), key 90 (by omega), key 130 (by omega), key 170 (by omega), key 210 (by omega), key 250 (by omega)]
