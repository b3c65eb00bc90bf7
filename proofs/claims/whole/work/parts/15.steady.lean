/-! the class's SteadyState: its cells, its rows of neighbours, its levels -/
theorem ct_mask (q : Nat → Bool) (N : Nat) : ∀ n, ct (fun i => decide (i < N) && q i) n = ct q (min n N)
  | 0 => by rw [Nat.zero_min]; rfl
  | n + 1 => by
    rw [ct, ct_mask q N n]
    by_cases h : n < N
    · rw [decide_eq_true h, Bool.true_and, show min n N = n by omega, show min (n + 1) N = n + 1 by omega]
      rfl
    · rw [decide_eq_false h, show min n N = N by omega, show min (n + 1) N = N by omega]
      rfl
theorem for_ct {c : Nat → Nat} (h : c 0 ≤ 24) : ct (fun i => sto c i && !vlM c 2 i) 24 = ct (kno c) (c 0) := by
  have e : ct (fun i => sto c i && !vlM c 2 i) 24 = ct (fun i => decide (i < c 0) && kno c i) 24 := ct_cong fun i _ => by
    unfold sto vlM kno
    by_cases q : i < c 0
    · by_cases a : c (2 + i) = 0 <;> by_cases b : c (26 + i) = 2 <;> simp [q, a, b]
    · simp [q]
  rw [e, ct_mask, show min 24 (c 0) = c 0 by omega]
abbrev gO (ro : Nat → Nat) : (Nat → Int32) ⊕ (Nat → Int64) ⊕ (Nat → UInt32) ⊕ (Nat → UInt64) ⊕ (Nat → Option Nat) := .inr (.inr (.inr (.inr (fun i => if i < 4 then some (ro i) else none))))
abbrev tO (sd : Nat → Nat) : Nat × va_E := (sd 0, .inr (1, [.ref (sd 1), .ref (sd 2), .ref (sd 3), .ref (sd 4), .ref (sd 5)]))
abbrev tF (cI cG : ClassId) (sd : Nat → Nat) (fq fu fd r0 r1 r2 r3 t0 t1 t2 t3 : Nat → Int32) : va_W := [tO sd, (sd 1, .inl (cI, 8, .inl fq)), (sd 2, .inl (cI, 8, .inl fu)), (sd 3, .inl (cI, 8, .inl fd)), (sd 4, .inl (cG, 4, gO (fun i => sd (6 + i)))), (sd 5, .inl (cG, 4, gO (fun i => sd (10 + i)))), (sd 6, .inl (cI, 24, .inl r0)), (sd 7, .inl (cI, 24, .inl r1)), (sd 8, .inl (cI, 24, .inl r2)), (sd 9, .inl (cI, 24, .inl r3)), (sd 10, .inl (cI, 24, .inl t0)), (sd 11, .inl (cI, 24, .inl t1)), (sd 12, .inl (cI, 24, .inl t2)), (sd 13, .inl (cI, 24, .inl t3))]
/-- one table of neighbours -/
abbrev oW (cI cG : ClassId) (go : Nat) (ro : Nat → Nat) (r0 r1 r2 r3 : Nat → Int32) : va_W := [(go, .inl (cG, 4, gO ro)), (ro 0, .inl (cI, 24, .inl r0)), (ro 1, .inl (cI, 24, .inl r1)), (ro 2, .inl (cI, 24, .inl r2)), (ro 3, .inl (cI, 24, .inl r3))]
/-- what findSide uses -/
abbrev vF (cI cG : ClassId) (sd : Nat → Nat) (sx : Nat) (fq fs t0 t1 t2 t3 : Nat → Int32) : va_W := [tO sd, (sd 1, .inl (cI, 8, .inl fq)), (sd 5, .inl (cG, 4, gO (fun i => sd (10 + i)))), (sd 10, .inl (cI, 24, .inl t0)), (sd 11, .inl (cI, 24, .inl t1)), (sd 12, .inl (cI, 24, .inl t2)), (sd 13, .inl (cI, 24, .inl t3)), (sx, .inl (cI, 8, .inl fs))]
abbrev rW (cI : ClassId) (r : Nat) (k : Nat) (f : Nat → Int32) : va_W := [(r, .inl (cI, k, .inl f))]
/-- two nodes become neighbours -/
def cnR (f : Nat → Int32) (a b : Nat) : Nat → Int32 := fun i => if i = a then f a ||| ((1 : Int32) <<< (nI b &&& 31)) else if i = b then f b ||| ((1 : Int32) <<< (nI a &&& 31)) else f i
def cnI (k r : Nat) (f : Nat → Int32) (a b : Nat) : Nat → Int32 := if r ≤ k then cnR f a b else f
theorem cnR_upd {f : Nat → Int32} {a b : Nat} (h : a ≠ b) : upd (upd f a ((f a) ||| ((1 : Int32) <<< (nI b &&& 31)))) b (((upd f a ((f a) ||| ((1 : Int32) <<< (nI b &&& 31)))) b) ||| ((1 : Int32) <<< (nI a &&& 31))) = cnR f a b := by
  funext i
  unfold cnR upd
  by_cases e : i = b
  · subst e
    rw [if_pos rfl, if_neg (fun z => h z.symm), if_neg (fun z => h z.symm), if_pos rfl]
  · rw [if_neg e]
    by_cases d : i = a
    · rw [if_pos d, if_pos d]
    · rw [if_neg d, if_neg d, if_neg e]
theorem eK_0 (g : Nat → Nat) (cl : Bool) (r i : Nat) : msk (eK g cl r 0 i) = 0 := msk_none
theorem eK_st {g : Nat → Nat} (ok : okG g) {cl : Bool} {r T : Nat} (hT : T < g 1) (hc : (if cl = true then decide (swS g T = 1) else !decide (swS g T = 0)) = true) {f : Nat → Int32} (h : ∀ i, i < g 0 → f i = msk (eK g cl r T i)) : ∀ i, i < g 0 → cnI (g (90 + T)) r f (g (170 + T)) (g (210 + T)) i = msk (eK g cl r (T + 1) i) := by
  intro i hi
  have h0 := ok.1
  have hX := ok.2.2.2 T hT
  have hcn : cnd g cl r T = decide (r ≤ g (90 + T)) := by unfold cnd; rw [hc, Bool.true_and]
  unfold cnI
  by_cases hr : r ≤ g (90 + T)
  · rw [if_pos hr]
    unfold cnR
    by_cases a : i = g (170 + T)
    · rw [if_pos a, h _ hX.2.2.2.2.1, msk_bit _ (by omega), msk_or]
      refine msk_cong fun b _ => ?_
      rw [eK, hcn, decide_eq_true hr, a]
      have : decide (g (170 + T) = g (210 + T)) = false := decide_eq_false hX.2.2.2.2.2.2.1
      rw [this]
      simp
    · rw [if_neg a]
      by_cases b : i = g (210 + T)
      · rw [if_pos b, h _ hX.2.2.2.2.2.1, msk_bit _ (by omega), msk_or]
        refine msk_cong fun q _ => ?_
        rw [eK, hcn, decide_eq_true hr, b]
        have : decide (g (210 + T) = g (170 + T)) = false := decide_eq_false (fun z => hX.2.2.2.2.2.2.1 z.symm)
        rw [this]
        simp
      · rw [if_neg b, h i hi]
        refine msk_cong fun q _ => ?_
        rw [eK, decide_eq_false a, decide_eq_false b]
        simp
  · rw [if_neg hr, h i hi]
    refine msk_cong fun q _ => ?_
    rw [eK, hcn, decide_eq_false hr]
    simp
theorem eK_sk {g : Nat → Nat} {cl : Bool} {r T : Nat} (hc : (if cl = true then decide (swS g T = 1) else !decide (swS g T = 0)) = false) {f : Nat → Int32} (h : ∀ i, i < g 0 → f i = msk (eK g cl r T i)) : ∀ i, i < g 0 → f i = msk (eK g cl r (T + 1) i) := by
  intro i hi
  rw [h i hi]
  refine msk_cong fun q _ => ?_
  rw [eK]
  unfold cnd
  rw [hc]
  simp
def mk6 (a1 a2 a3 b1 b2 b3 : Nat → Int32) : Nat → Nat → Int32 := fun r => if r = 1 then a1 else if r = 2 then a2 else if r = 3 then a3 else if r = 4 then b1 else if r = 5 then b2 else b3
/-- both tables hold the neighbours of c -/
def NB (c : Nat → Nat) (r1 r2 r3 t1 t2 t3 : Nat → Int32) : Prop := (∀ i, i < c 0 → r1 i = msk (eK c true 1 (c 1) i)) ∧ (∀ i, i < c 0 → r2 i = msk (eK c true 2 (c 1) i)) ∧ (∀ i, i < c 0 → r3 i = msk (eK c true 3 (c 1) i)) ∧ (∀ i, i < c 0 → t1 i = msk (eK c false 1 (c 1) i)) ∧ (∀ i, i < c 0 → t2 i = msk (eK c false 2 (c 1) i)) ∧ (∀ i, i < c 0 → t3 i = msk (eK c false 3 (c 1) i))
theorem lvQ_lt {c : Nat → Nat} {lv i : Nat} (h : lvQ c lv i = true) : i < c 0 := by unfold lvQ at h; simp at h; exact h.1
theorem lvU_lt {c : Nat → Nat} {s lv i : Nat} (h : lvU c s lv i = true) : i < c 0 := by unfold lvU at h; simp at h; exact h.1
theorem sto_lt {c : Nat → Nat} {i : Nat} (h : sto c i = true) : i < c 0 := by unfold sto at h; simp at h; exact h.1
theorem srcQ_lt {c : Nat → Nat} {lv lw i : Nat} (h : (lvQ c lv i || szB c lw i) = true) : i < c 0 := by
  rcases Bool.or_eq_true _ _ ▸ h with z | z
  · exact lvQ_lt z
  · unfold szB at z; simp at z; exact sto_lt z.1
theorem rcp_lt {c : Nat → Nat} {lv i : Nat} (h : rcp c lv i = true) : i < c 0 := by unfold rcp at h; simp at h; exact sto_lt h.1
theorem srcU_lt {c : Nat → Nat} {s lv lw i : Nat} (h : (lvU c s lv i || ((szB c lw i && car c s i) && rcp c lw i)) = true) : i < c 0 := by
  rcases Bool.or_eq_true _ _ ▸ h with z | z
  · exact lvU_lt z
  · simp at z; exact rcp_lt z.2
theorem car_1 {c : Nat → Nat} (ok : okG c) : msk (m1 c) = msk (car c 1) := msk_cong fun i _ => by
  unfold m1 car
  by_cases h : i < c 0
  · have := (ok.2.2.1 i h).2
    rw [decide_eq_true h]
    rcases (show c (26 + i) = 0 ∨ c (26 + i) = 1 ∨ c (26 + i) = 2 by omega) with e | e | e <;> rw [e] <;> rfl
  · rw [decide_eq_false h]; rfl
theorem car_0 {c : Nat → Nat} (ok : okG c) : msk (m0 c) = msk (car c 0) := msk_cong fun i _ => by
  unfold m0 car
  by_cases h : i < c 0
  · have := (ok.2.2.1 i h).2
    rw [decide_eq_true h]
    rcases (show c (26 + i) = 0 ∨ c (26 + i) = 1 ∨ c (26 + i) = 2 by omega) with e | e | e <;> rw [e] <;> rfl
  · rw [decide_eq_false h]; rfl
theorem rcp_m (c : Nat → Nat) (lv : Nat) : msk (sto c) &&& (msk (lvQ c (lv + 1)) ^^^ (-1)) = msk (rcp c lv) := msk_andnot _ _
theorem srcU_m (c : Nat → Nat) (s lv : Nat) : msk (lvU c s (lv + 1)) ||| ((msk (szB c lv) &&& msk (car c s)) &&& msk (rcp c lv)) = msk (fun i => lvU c s (lv + 1) i || ((szB c lv i && car c s i) && rcp c lv i)) := by
  rw [msk_and, msk_and, msk_or]
theorem chg_m {c : Nat → Nat} (ok : okG c) : (msk (lvU c 1 1) ^^^ msk (m1 c)) ||| (msk (lvU c 0 1) ^^^ msk (m0 c)) = msk (act c) := by
  rw [msk_xor, msk_xor, msk_or]
  refine msk_cong fun i _ => ?_
  rw [(lvU_1 ok i).1, (lvU_1 ok i).2]
  exact act_m ok i
theorem sp_lv : ∀ lv, 1 ≤ lv → lv ≤ 6 → (if nI 1 < nI lv - nI 3 then nI lv - nI 3 else nI 1) = nI (sp lv) := by
  intro lv h1 h6
  have : ∀ lv, lv < 7 → 1 ≤ lv → (if nI 1 < nI lv - nI 3 then nI lv - nI 3 else nI 1) = nI (sp lv) := by decide +kernel
  exact this lv (by omega) h1
theorem vic_E {c : Nat → Nat} (ok : okG c) {n : Nat} (h : c (2 + n) ≠ 0) : rch (fun a b => eK c false 1 (c 1) a b = true) (fun i => decide (i = n)) (sto c) = vicS c n := by
  unfold vicS
  rw [if_neg h]
  have e : (fun a b => eK c false 1 (c 1) a b = true) = eNO c := by
    funext a b
    apply propext
    rw [eK_iff]
    unfold eNO cnd
    constructor
    · rintro ⟨t, ht, hc, he⟩
      simp at hc
      exact ⟨t, ht, hc.1, he⟩
    · rintro ⟨t, ht, hs, he⟩
      have := ok.2.2.2 t ht
      exact ⟨t, ht, by simp [hs]; omega, he⟩
  rw [e]
/-- numberOfTrailingZeros of what waits -/
theorem ntz_cases (Wt : Nat → Bool) : (∃ k, k < 24 ∧ Wt k = true ∧ (∀ i, i < k → Wt i = false) ∧ ntzF (msk Wt) = nI k) ∨ ((∀ i, i < 24 → Wt i = false) ∧ ntzF (msk Wt) = nI 32) := by
  rcases first_of Wt 24 with h | ⟨k, h1, h2, h3⟩
  · right
    refine ⟨h, ?_⟩
    rw [msk_zero.mpr h, ntz_none]
  · left
    exact ⟨k, h1, h2, h3, ntz_low h1 h2 h3⟩
theorem lv_pick9 {f : Nat → Int32} {P : Nat → Int32} {k : Nat} {x : Int32} (h : ∀ j, k + 1 ≤ j → j ≤ 7 → f j = P j) (hx : x = P k) : ∀ j, k ≤ j → j ≤ 7 → upd f k x j = P j := fun j h1 h2 => by
  unfold upd
  by_cases e : j = k
  · rw [if_pos e, e]; exact hx
  · rw [if_neg e]; exact h j (by omega) h2
