section MKU
variable {p : Program} {l : Launch} {e : Env} {R : Room} {s : State} {m : MethodId} {args : Array Value} {below : List Frame} {meth : Method} {c : Code} {H : Heap} {locs : List Loc} {cells slots : Nat} {Q : State → Prop}
variable {cc : ByteArray} {pc : Nat} {ls : Array Slot} {rest : List Value} {D : va_G} {A : Nat → Prop} {tys tyc : List (ClassId × FieldType)} {H0 : Heap} {S : Type}
variable {y : MethodName} {wy : List Cond} {rm : Room} {val : S → Int32} {P : S → Prop} {w2 w3 : S → va_W} {ws wc wr tl : va_W} {bytes : ByteArray} {maxL nL n index : Nat} {ret : Option FieldType} {own C : String} {Ts : List Cond} {b : Nat} {As : List Value}
theorem my_fm {α β : Type} {f : α → Option β} : ∀ {l : List α} {w : List β}, l.map f = w.map some → l.filterMap f = w
  | [], [], _ => rfl
  | [], _ :: _, h => by cases h
  | _ :: _, [], h => by cases h
  | a :: l, b :: w, h => by
    injection h with h1 h2
    rw [List.filterMap_cons, h1, my_fm h2]
theorem CI.callVU (ct : CI l D tys y wy rm (.ref b :: As) wc val P w2) (hfx : CallFix p m c cc nL s args Ts own) (cw : CallW R s args own C index y bytes maxL ret wy rm rm.cells rm.slots n) (hn : As.length = n) (hls : ls.size = nL) (hst : (rest.map fun v => v.category).sum ≤ 8) (hdg : decode cc pc = .ok (.invokevirtual index, 3)) (hf : cells + rm.cells ≤ R.cells ∧ slots + rm.slots ≤ R.slots)
    (hA : ∀ q, H0.size ≤ q → A q) (hS : va_S A H0 H locs) (hP : va_P D vwCl (ws ++ tl) H) (hK : va_K D vwCl tys s) (hD : va_D A (ws ++ tl)) (isC isR : List Nat) (hC : isC.map (fun i => ws[i]?) = wc.map some) (hR : isR.map (fun i => ws[i]?) = wr.map some) (hnc : va_nd isC = true) (hnr : va_nd isR = true) (hdis : ∀ i ∈ isR, i ∉ isC) (qc ci : Nat) {fs : List Value} {T : u_T} {N : Nat} (hqc : wc[qc]? = some (b, .inr (ci, fs))) (hci : vwCl[ci]? = some (C, T, N)) (pm : List Nat) (hpn : va_nd pm = true) (hpm : ∀ u, pm.map (fun i => (wr ++ w2 u)[i]?) = (w3 u).map some)
    {st : List Value} (hst2 : st = As.reverse ++ .ref b :: rest)
    (kk : ∀ (u : S) (H1 : Heap) (locs1 : List Loc), P u → va_P D vwCl (w3 u ++ tl) H1 → va_D A (w3 u ++ tl) → va_S A H0 H1 locs1 → W p l e R s m args below meth c H1 locs1 (cells + rm.cells) (slots + rm.slots) Q (F0 m (pc + 3) ls (.int (val u) :: rest))) : W p l e R s m args below meth c H locs cells slots Q (F0 m pc ls st) := by
  have e : isR.filterMap (fun i => ws[i]?) = wr := my_fm hR
  exact CI.callVT ct hfx cw hn hls hst hdg hf hA hS hP hK hD isC isR hC (by rw [e]; exact hR) hnc hnr hdis qc ci hqc hci pm hpn (fun u => by rw [e]; exact hpm u) hst2 kk
theorem XI.callVU (hEX : EX s) (ct : XI l D tys y wy rm (.ref b :: As) wc val P w2) (hfx : CallFix p m c cc nL s args Ts own) (cw : CallW R s args own C index y bytes maxL ret wy rm rm.cells rm.slots n) (hn : As.length = n) (hls : ls.size = nL) (hst : (rest.map fun v => v.category).sum ≤ 8) (hdg : decode cc pc = .ok (.invokevirtual index, 3)) (hf : cells + rm.cells ≤ R.cells ∧ slots + rm.slots ≤ R.slots)
    (hA : ∀ q, H0.size ≤ q → A q) (hS : va_S A H0 H locs) (hP : va_P D vwCl (ws ++ tl) H) (hK : va_K D vwCl tys s) (hD : va_D A (ws ++ tl)) (isC isR : List Nat) (hC : isC.map (fun i => ws[i]?) = wc.map some) (hR : isR.map (fun i => ws[i]?) = wr.map some) (hnc : va_nd isC = true) (hnr : va_nd isR = true) (hdis : ∀ i ∈ isR, i ∉ isC) (qc ci : Nat) {fs : List Value} {T : u_T} {N : Nat} (hqc : wc[qc]? = some (b, .inr (ci, fs))) (hci : vwCl[ci]? = some (C, T, N)) (pm : List Nat) (hpn : va_nd pm = true) (hpm : ∀ u, pm.map (fun i => (wr ++ w2 u)[i]?) = (w3 u).map some)
    {st : List Value} (hst2 : st = As.reverse ++ .ref b :: rest)
    (kk : ∀ (u : S) (H1 : Heap) (locs1 : List Loc), P u → va_P D vwCl (w3 u ++ tl) H1 → va_D A (w3 u ++ tl) → va_S A H0 H1 locs1 → W p l e R s m args below meth c H1 locs1 (cells + rm.cells) (slots + rm.slots) Q (F0 m (pc + 3) ls (.int (val u) :: rest))) : W p l e R s m args below meth c H locs cells slots Q (F0 m pc ls st) := by
  have e : isR.filterMap (fun i => ws[i]?) = wr := my_fm hR
  exact XI.callVT hEX ct hfx cw hn hls hst hdg hf hA hS hP hK hD isC isR hC (by rw [e]; exact hR) hnc hnr hdis qc ci hqc hci pm hpn (fun u => by rw [e]; exact hpm u) hst2 kk
end MKU
