/-! the law's steps, over numbers: alike circuits answer alike and stay alike -/
theorem mk_cong {p q : Nat → Bool} {n : Nat} (hn : n ≤ 24) (h : ∀ i, i < n → p i = q i) : mk p n = mk q n := by
  rw [mk_msk p n hn, mk_msk q n hn]
  refine msk_cong (fun i _ => ?_)
  by_cases e : i < n
  · rw [h i e]
  · simp [e]
theorem Rel.up {c g : Nat → Nat} (h : Rel c g) {k v : Nat} (hk : 2 ≤ k) : Rel (up1 c k v) (up1 g k v) := by
  have e0 : ∀ f : Nat → Nat, up1 f k v 0 = f 0 := fun f => up1_n (by omega)
  have e1 : ∀ f : Nat → Nat, up1 f k v 1 = f 1 := fun f => up1_n (by omega)
  have ej : ∀ j, c j = g j → up1 c k v j = up1 g k v j := fun j hj => by
    unfold up1
    rw [hj]
  refine ⟨by rw [e0, e0]; exact h.1, by rw [e1, e1]; exact h.2.1, fun n hn => ?_, fun t ht => ?_⟩
  · rw [e0] at hn
    exact ⟨ej _ (h.2.2.1 n hn).1, ej _ (h.2.2.1 n hn).2⟩
  · rw [e1] at ht
    obtain ⟨a1, a2, a3, a4, a5, a6⟩ := h.2.2.2 t ht
    exact ⟨ej _ a1, ej _ a2, ej _ a3, ej _ a4, ej _ a5, ej _ a6⟩
theorem okG_val {g : Nat → Nat} (ok : okG g) {n v : Nat} (hv : v ≤ 2) (hn : n < g 0) : okG (up1 g (26 + n) v) := by
  have h0 := ok.1
  have e0 : up1 g (26 + n) v 0 = g 0 := up1_n (by omega)
  have e1 : up1 g (26 + n) v 1 = g 1 := up1_n (by omega)
  unfold okG
  rw [e0, e1]
  refine ⟨ok.1, ok.2.1, fun k hk => ?_, fun t ht => ?_⟩
  · rw [up1_n (show 2 + k ≠ 26 + n by omega)]
    refine ⟨(ok.2.2.1 k hk).1, ?_⟩
    by_cases e : k = n
    · subst e; rw [up1_s]; exact hv
    · rw [up1_n (by omega)]; exact (ok.2.2.1 k hk).2
  · rw [up1_n (by omega), up1_n (by omega), up1_n (by omega), up1_n (by omega), up1_n (by omega), up1_n (by omega)]
    exact ok.2.2.2 t ht
theorem addN_at (g : Nat → Nat) (z j : Nat) : addN g z j = if j = 0 then g 0 + 1 else if j = 26 + g 0 then 2 else if j = 2 + g 0 then z else g j := rfl
theorem addN_hi {g : Nat → Nat} {z j : Nat} (h : g 0 < 24) (hj : 50 ≤ j ∨ j = 1) : addN g z j = g j := by
  rw [addN_at, if_neg (by omega), if_neg (by omega), if_neg (by omega)]
theorem addN_z {g : Nat → Nat} {z n : Nat} (h : g 0 < 24) (hn : n ≤ g 0) : addN g z (2 + n) = if n = g 0 then z else g (2 + n) := by
  rw [addN_at, if_neg (by omega), if_neg (by omega)]
  by_cases e : n = g 0
  · rw [if_pos (by omega), if_pos e]
  · rw [if_neg (by omega), if_neg e]
theorem addN_v {g : Nat → Nat} {z n : Nat} (h : g 0 < 24) (hn : n ≤ g 0) : addN g z (26 + n) = if n = g 0 then 2 else g (26 + n) := by
  rw [addN_at, if_neg (by omega)]
  by_cases e : n = g 0
  · rw [if_pos (by omega), if_pos e]
  · rw [if_neg (by omega), if_neg (by omega), if_neg e]
theorem Rel.addN {c g : Nat → Nat} (h : Rel c g) {z : Nat} (h0 : g 0 < 24) : Rel (addN c z) (addN g z) := by
  have hc0 : c 0 < 24 := by rw [h.1]; exact h0
  refine ⟨by rw [addN_0, addN_0, h.1], by rw [addN_hi hc0 (Or.inr rfl), addN_hi h0 (Or.inr rfl)]; exact h.2.1, fun n hn => ?_, fun t ht => ?_⟩
  · rw [addN_0] at hn
    rw [addN_z hc0 (by rw [h.1]; omega), addN_z h0 (by omega), addN_v hc0 (by rw [h.1]; omega), addN_v h0 (by omega), h.1]
    by_cases e : n = g 0
    · rw [if_pos e, if_pos e, if_pos e, if_pos e]; exact ⟨rfl, rfl⟩
    · rw [if_neg e, if_neg e, if_neg e, if_neg e]; exact h.2.2.1 n (by omega)
  · rw [addN_hi h0 (Or.inr rfl)] at ht
    have hh := fun j hj => addN_hi (g := c) (z := z) (j := j) hc0 (Or.inl hj)
    have hg := fun j hj => addN_hi (g := g) (z := z) (j := j) h0 (Or.inl hj)
    rw [hh _ (by omega), hh _ (by omega), hh _ (by omega), hh _ (by omega), hh _ (by omega), hh _ (by omega), hg _ (by omega), hg _ (by omega), hg _ (by omega), hg _ (by omega), hg _ (by omega), hg _ (by omega)]
    exact h.2.2.2 t ht
theorem okG_addN {g : Nat → Nat} (ok : okG g) {z : Nat} (hz : z ≤ 3) (h0 : g 0 < 24) : okG (addN g z) := by
  have hg := fun j hj => addN_hi (g := g) (z := z) (j := j) h0 (Or.inl hj)
  unfold okG
  rw [addN_0, addN_hi h0 (Or.inr rfl)]
  refine ⟨by omega, ok.2.1, fun n hn => ?_, fun t ht => ?_⟩
  · rw [addN_z h0 (by omega), addN_v h0 (by omega)]
    by_cases e : n = g 0
    · rw [if_pos e, if_pos e]; exact ⟨hz, Nat.le_refl _⟩
    · rw [if_neg e, if_neg e]; exact ok.2.2.1 n (by omega)
  · rw [hg _ (by omega), hg _ (by omega), hg _ (by omega), hg _ (by omega), hg _ (by omega), hg _ (by omega)]
    have := ok.2.2.2 t ht
    exact ⟨this.1, this.2.1, this.2.2.1, by omega, by omega, by omega, by omega⟩
theorem addT_at (g : Nat → Nat) (ty st ga on ot j : Nat) : addT g ty st ga on ot j = if j = 1 then g 1 + 1 else if j = 250 + g 1 then 0 else if j = 210 + g 1 then ot else if j = 170 + g 1 then on else if j = 130 + g 1 then ga else if j = 90 + g 1 then st else if j = 50 + g 1 then ty else g j := rfl
theorem addT_lo {g : Nat → Nat} {ty st ga on ot j : Nat} (hj : j < 50) (h1 : j ≠ 1) : addT g ty st ga on ot j = g j := by
  rw [addT_at, if_neg h1, if_neg (by omega), if_neg (by omega), if_neg (by omega), if_neg (by omega), if_neg (by omega), if_neg (by omega)]
theorem addT_1 (g : Nat → Nat) (ty st ga on ot : Nat) : addT g ty st ga on ot 1 = g 1 + 1 := rfl
theorem addT_t {g : Nat → Nat} {ty st ga on ot t : Nat} (h : g 1 < 40) (ht : t ≤ g 1) : addT g ty st ga on ot (50 + t) = (if t = g 1 then ty else g (50 + t)) ∧ addT g ty st ga on ot (90 + t) = (if t = g 1 then st else g (90 + t)) ∧ addT g ty st ga on ot (130 + t) = (if t = g 1 then ga else g (130 + t)) ∧ addT g ty st ga on ot (170 + t) = (if t = g 1 then on else g (170 + t)) ∧ addT g ty st ga on ot (210 + t) = (if t = g 1 then ot else g (210 + t)) ∧ addT g ty st ga on ot (250 + t) = (if t = g 1 then 0 else g (250 + t)) := by
  simp only [addT_at]
  by_cases e : t = g 1
  · subst e
    refine ⟨?_, ?_, ?_, ?_, ?_, ?_⟩
    · rw [if_neg (by omega), if_neg (by omega), if_neg (by omega), if_neg (by omega), if_neg (by omega), if_neg (by omega), if_pos rfl, if_pos rfl]
    · rw [if_neg (by omega), if_neg (by omega), if_neg (by omega), if_neg (by omega), if_neg (by omega), if_pos rfl, if_pos rfl]
    · rw [if_neg (by omega), if_neg (by omega), if_neg (by omega), if_neg (by omega), if_pos rfl, if_pos rfl]
    · rw [if_neg (by omega), if_neg (by omega), if_neg (by omega), if_pos rfl, if_pos rfl]
    · rw [if_neg (by omega), if_neg (by omega), if_pos rfl, if_pos rfl]
    · rw [if_neg (by omega), if_pos rfl, if_pos rfl]
  · refine ⟨?_, ?_, ?_, ?_, ?_, ?_⟩ <;> rw [if_neg (by omega), if_neg (by omega), if_neg (by omega), if_neg (by omega), if_neg (by omega), if_neg (by omega), if_neg (by omega), if_neg e]
theorem Rel.addT {c g : Nat → Nat} (h : Rel c g) {ty st ga on ot : Nat} (h1 : g 1 < 40) (h0 : g 0 ≤ 24) : Rel (addT c ty st ga on ot) (addT g ty st ga on ot) := by
  have hc1 : c 1 < 40 := by rw [h.2.1]; exact h1
  refine ⟨by rw [addT_lo (by omega) (by omega), addT_lo (by omega) (by omega)]; exact h.1, by rw [addT_1, addT_1, h.2.1], fun n hn => ?_, fun t ht => ?_⟩
  · rw [addT_lo (by omega) (by omega)] at hn
    rw [addT_lo (by omega) (by omega), addT_lo (by omega) (by omega), addT_lo (by omega) (by omega), addT_lo (by omega) (by omega)]
    exact h.2.2.1 n hn
  · rw [addT_1] at ht
    obtain ⟨a1, a2, a3, a4, a5, a6⟩ := addT_t (g := c) (ty := ty) (st := st) (ga := ga) (on := on) (ot := ot) (t := t) hc1 (by rw [h.2.1]; omega)
    obtain ⟨b1, b2, b3, b4, b5, b6⟩ := addT_t (g := g) (ty := ty) (st := st) (ga := ga) (on := on) (ot := ot) (t := t) h1 (by omega)
    rw [a1, a2, a3, a4, a5, a6, b1, b2, b3, b4, b5, b6, h.2.1]
    by_cases e : t = g 1
    · simp only [if_pos e, and_self]
    · simp only [if_neg e]; exact h.2.2.2 t (by omega)
theorem okG_addT {g : Nat → Nat} (ok : okG g) {ty st ga on ot : Nat} (h1 : g 1 < 40) (hty : ty ≤ 2) (hst : 1 ≤ st ∧ st ≤ 3) (hga : ga < g 0) (hon : on < g 0) (hot : ot < g 0) (hne : on ≠ ot) : okG (addT g ty st ga on ot) := by
  have h0 := ok.1
  unfold okG
  rw [addT_1, addT_lo (j := 0) (by omega) (by omega)]
  refine ⟨h0, by omega, fun n hn => ?_, fun t ht => ?_⟩
  · rw [addT_lo (by omega) (by omega), addT_lo (by omega) (by omega)]
    exact ok.2.2.1 n hn
  · obtain ⟨b1, b2, b3, b4, b5, b6⟩ := addT_t (g := g) (ty := ty) (st := st) (ga := ga) (on := on) (ot := ot) (t := t) h1 (by omega)
    rw [b1, b2, b3, b4, b5, b6]
    by_cases e : t = g 1
    · simp only [if_pos e]; exact ⟨hty, hst.1, hst.2, hga, hon, hot, by omega⟩
    · simp only [if_neg e]; exact ok.2.2.2 t (by omega)
theorem forK_at (g : Nat → Nat) (k j : Nat) : forK g k j = if 26 ≤ j ∧ j < 26 + k ∧ g (2 + (j - 26)) ≠ 0 then 2 else g j := rfl
theorem frK_n {g : Nat → Nat} {k n : Nat} (hn : n < k) : forK g k (26 + n) = if g (2 + n) ≠ 0 then 2 else g (26 + n) := by
  rw [forK_at, show 2 + (26 + n - 26) = 2 + n by omega]
  by_cases e : g (2 + n) ≠ 0
  · rw [if_pos ⟨by omega, by omega, e⟩, if_pos e]
  · rw [if_neg (fun z => e z.2.2), if_neg e]
theorem forK_o {g : Nat → Nat} {k j : Nat} (hj : j < 26 ∨ 26 + k ≤ j) : forK g k j = g j := by
  rw [forK_at, if_neg (by omega)]
theorem Rel.forK {c g : Nat → Nat} (h : Rel c g) (h0 : g 0 ≤ 24) : Rel (forK c (c 0)) (forK g (g 0)) := by
  rw [h.1]
  refine ⟨by rw [forK_o (by omega), forK_o (by omega)]; exact h.1, by rw [forK_o (by omega), forK_o (by omega)]; exact h.2.1, fun n hn => ?_, fun t ht => ?_⟩
  · rw [forK_o (by omega)] at hn
    rw [forK_o (by omega), forK_o (by omega), frK_n hn, frK_n hn, (h.2.2.1 n hn).1, (h.2.2.1 n hn).2]
    exact ⟨rfl, rfl⟩
  · rw [forK_o (by omega)] at ht
    rw [forK_o (by omega), forK_o (by omega), forK_o (by omega), forK_o (by omega), forK_o (by omega), forK_o (by omega), forK_o (by omega), forK_o (by omega), forK_o (by omega), forK_o (by omega), forK_o (by omega), forK_o (by omega)]
    exact h.2.2.2 t ht
theorem okG_forK {g : Nat → Nat} (ok : okG g) : okG (forK g (g 0)) := by
  have h0 := ok.1
  unfold okG
  rw [forK_o (j := 0) (by omega), forK_o (j := 1) (by omega)]
  refine ⟨ok.1, ok.2.1, fun n hn => ?_, fun t ht => ?_⟩
  · rw [forK_o (by omega), frK_n hn]
    refine ⟨(ok.2.2.1 n hn).1, ?_⟩
    split
    · omega
    · exact (ok.2.2.1 n hn).2
  · rw [forK_o (by omega), forK_o (by omega), forK_o (by omega), forK_o (by omega), forK_o (by omega), forK_o (by omega)]
    exact ok.2.2.2 t ht
theorem clrK_t {g : Nat → Nat} {k t : Nat} (ht : t < k) : clrK g k (250 + t) = 0 := if_pos ⟨by omega, by omega⟩
theorem Rel.clrK {c g : Nat → Nat} (h : Rel c g) (h0 : g 0 ≤ 24) (h1 : g 1 ≤ 40) : Rel (clrK c (c 1)) (clrK g (g 1)) := by
  rw [h.2.1]
  refine ⟨by rw [clrK_lo (by omega), clrK_lo (by omega)]; exact h.1, by rw [clrK_lo (by omega), clrK_lo (by omega)]; exact h.2.1, fun n hn => ?_, fun t ht => ?_⟩
  · rw [clrK_lo (by omega)] at hn
    rw [clrK_lo (by omega), clrK_lo (by omega), clrK_lo (by omega), clrK_lo (by omega)]
    exact h.2.2.1 n hn
  · rw [clrK_lo (by omega)] at ht
    rw [clrK_t ht, clrK_t ht, clrK_lo (by omega), clrK_lo (by omega), clrK_lo (by omega), clrK_lo (by omega), clrK_lo (by omega), clrK_lo (by omega), clrK_lo (by omega), clrK_lo (by omega), clrK_lo (by omega), clrK_lo (by omega)]
    obtain ⟨a1, a2, a3, a4, a5, -⟩ := h.2.2.2 t ht
    exact ⟨a1, a2, a3, a4, a5, rfl⟩
theorem okG_clrK {g : Nat → Nat} (ok : okG g) : okG (clrK g (g 1)) := by
  have h0 := ok.1
  have h1 := ok.2.1
  unfold okG
  rw [clrK_lo (j := 0) (by omega), clrK_lo (j := 1) (by omega)]
  refine ⟨ok.1, ok.2.1, fun n hn => ?_, fun t ht => ?_⟩
  · rw [clrK_lo (by omega), clrK_lo (by omega)]
    exact ok.2.2.1 n hn
  · rw [clrK_t ht, clrK_lo (by omega), clrK_lo (by omega), clrK_lo (by omega), clrK_lo (by omega), clrK_lo (by omega)]
    obtain ⟨a1, a2, a3, a4, a5, a6, a7, -⟩ := ok.2.2.2 t ht
    exact ⟨a1, a2, a3, a4, a5, a6, a7, by omega⟩
/-- what the law's step keeps -/
def Kp (c g : Nat → Nat) : Prop := Rel c g ∧ okG g
theorem K_addI {c g : Nat → Nat} (k : Kp c g) : aAddI c = aAddI g ∧ Kp (gAddI c) (gAddI g) := by
  obtain ⟨h, ok⟩ := k
  have := ok.1
  unfold aAddI gAddI
  rw [h.1]
  by_cases e : g 0 = 24
  · rw [if_pos e, if_pos e, if_pos e]; exact ⟨rfl, h, ok⟩
  · rw [if_neg e, if_neg e, if_neg e]; exact ⟨rfl, h.addN (by omega), okG_addN ok (by omega) (by omega)⟩
theorem K_addS {c g : Nat → Nat} (k : Kp c g) (x : Int32) : aAddS c x = aAddS g x ∧ Kp (gAddS c x) (gAddS g x) := by
  obtain ⟨h, ok⟩ := k
  have := ok.1
  unfold aAddS gAddS
  rw [h.1]
  by_cases e1 : inR x 1 3 = true
  · obtain ⟨j, q1, q2, q3, q4, q5⟩ := inR_at e1
    have hj : nx x = j := q5
    rw [if_pos e1, if_pos e1, if_pos e1]
    by_cases e : g 0 = 24
    · rw [if_pos e, if_pos e, if_pos e]; exact ⟨rfl, h, ok⟩
    · rw [if_neg e, if_neg e, if_neg e]; exact ⟨rfl, h.addN (by omega), okG_addN ok (by omega) (by omega)⟩
  · rw [if_neg e1, if_neg e1, if_neg e1]; exact ⟨rfl, h, ok⟩
theorem K_addT {c g : Nat → Nat} (k : Kp c g) (ty st ga on ot : Int32) : aAddT c ty st ga on ot = aAddT g ty st ga on ot ∧ Kp (gAddT c ty st ga on ot) (gAddT g ty st ga on ot) := by
  obtain ⟨h, ok⟩ := k
  have h0 := ok.1
  have h1 := ok.2.1
  have hT : okT c ga on ot = okT g ga on ot := by unfold okT; rw [h.1]
  unfold aAddT gAddT
  rw [hT, h.2.1]
  by_cases e1 : okT g ga on ot = true
  · rw [if_pos e1, if_pos e1, if_pos e1]
    have e9 := e1
    unfold okT at e9
    rw [Bool.and_eq_true, Bool.and_eq_true] at e9
    obtain ⟨j1, a1, a2, a3, a4⟩ := inN_at e9.1
    obtain ⟨j2, b1, b2, b3, b4⟩ := inN_at e9.2.1
    obtain ⟨j3, c1, c2, c3, c4⟩ := inN_at e9.2.2
    by_cases e2 : on = ot
    · rw [if_pos e2, if_pos e2, if_pos e2]; exact ⟨rfl, h, ok⟩
    · rw [if_neg e2, if_neg e2, if_neg e2]
      by_cases e3 : (inR ty 0 2 && inR st 1 3) = true
      · rw [if_pos e3, if_pos e3, if_pos e3]
        rw [Bool.and_eq_true] at e3
        obtain ⟨j4, d1, d2, d3, d4, d5⟩ := inR_at e3.1
        obtain ⟨j5, f1, f2, f3, f4, f5⟩ := inR_at e3.2
        by_cases e4 : g 1 = 40
        · rw [if_pos e4, if_pos e4, if_pos e4]; exact ⟨rfl, h, ok⟩
        · rw [if_neg e4, if_neg e4, if_neg e4]
          have g1 : nx ga = j1 := a4
          have g2 : nx on = j2 := b4
          have g3 : nx ot = j3 := c4
          have g4 : nx ty = j4 := d5
          have g5 : nx st = j5 := f5
          rw [g1, g2, g3, g4, g5]
          exact ⟨rfl, h.addT (by omega) h0, okG_addT ok (by omega) (by omega) (by omega) a1 b1 c1 (fun z => e2 (by rw [b3, c3, z]))⟩
      · rw [if_neg e3, if_neg e3, if_neg e3]; exact ⟨rfl, h, ok⟩
  · rw [if_neg e1, if_neg e1, if_neg e1]; exact ⟨rfl, h, ok⟩
theorem K_inp {c g : Nat → Nat} (k : Kp c g) : mk (fun j => decide (c (2 + j) = 0)) (c 0) = mk (fun j => decide (g (2 + j) = 0)) (g 0) := by
  rw [k.1.1]
  exact mk_cong k.2.1 (fun j hj => by rw [(k.1.2.2.1 j hj).1])
theorem K_setV {c g : Nat → Nat} (k : Kp c g) (f : Bool) (x v : Int32) : aSetV f c x v = aSetV f g x v ∧ Kp (gSetV f c x v) (gSetV f g x v) := by
  obtain ⟨h, ok⟩ := k
  unfold aSetV gSetV
  rw [h.1]
  by_cases e1 : inN x (g 0) = true
  · obtain ⟨j, a1, a2, a3, a4⟩ := inN_at e1
    have hj : nx x = j := a4
    rw [if_pos e1, if_pos e1, if_pos e1, if_pos e1, hj, (h.2.2.1 j a1).1, (h.2.2.1 j a1).2]
    by_cases e2 : decide (g (2 + j) = 0) = f
    · rw [if_pos e2, if_pos e2, if_pos e2]
      by_cases e3 : inR v 0 2 = true
      · obtain ⟨i, b1, b2, b3, b4, b5⟩ := inR_at e3
        have hi : nx v = i := b5
        rw [if_pos e3, if_pos e3, if_pos e3]
        exact ⟨rfl, h.up (by omega), okG_val ok (by omega) a1⟩
      · rw [if_neg e3, if_neg e3, if_neg e3]; exact ⟨rfl, h, ok⟩
    · rw [if_neg e2, if_neg e2, if_neg e2]; exact ⟨rfl, h, ok⟩
  · rw [if_neg e1, if_neg e1, if_neg e1, if_neg e1]; exact ⟨rfl, h, ok⟩
theorem K_for {c g : Nat → Nat} (k : Kp c g) : aFor c = aFor g ∧ Kp (forK c (c 0)) (forK g (g 0)) := by
  refine ⟨?_, k.1.forK k.2.1, okG_forK k.2⟩
  unfold aFor
  rw [k.1.1, ct_cong (fun n hn => show kno c n = kno g n by unfold kno; rw [(k.1.2.2.1 n hn).1, (k.1.2.2.1 n hn).2])]
theorem K_val {c g : Nat → Nat} (k : Kp c g) (x : Int32) : aVal c x = aVal g x := by
  unfold aVal
  rw [k.1.1]
  by_cases e1 : inN x (g 0) = true
  · obtain ⟨j, a1, a2, a3, a4⟩ := inN_at e1
    have hj : nx x = j := a4
    rw [if_pos e1, if_pos e1, hj, (k.1.2.2.1 j a1).2]
  · rw [if_neg e1, if_neg e1]
theorem K_with {c g : Nat → Nat} (k : Kp c g) (x : Int32) : aWith c x = aWith g x := by
  unfold aWith
  rw [k.1.1, mk_cong k.2.1 (fun n hn => show vlu c (nx x) n = vlu g (nx x) n by unfold vlu; rw [(k.1.2.2.1 n hn).2])]
theorem K_sw {c g : Nat → Nat} (k : Kp c g) (x : Int32) : aSw c x = aSw g x := by
  unfold aSw
  rw [k.1.2.1]
  by_cases e1 : inN x (g 1) = true
  · obtain ⟨j, a1, a2, a3, a4⟩ := inN_at e1
    have hj : nx x = j := a4
    rw [if_pos e1, if_pos e1, hj, k.1.sw k.2 a1]
  · rw [if_neg e1, if_neg e1]
theorem K_q {c g : Nat → Nat} (k : Kp c g) (x : Int32) : aQ c x = aQ g x := by unfold aQ; rw [k.1.1, k.1.q k.2]
theorem K_u {c g : Nat → Nat} (k : Kp c g) (s : Nat) (x : Int32) : aU s c x = aU s g x := by unfold aU; rw [k.1.1, k.1.u k.2]
theorem K_sv {c g : Nat → Nat} (k : Kp c g) (x : Int32) : aSv c x = aSv g x := by
  unfold aSv
  rw [k.1.1]
  by_cases e1 : inN x (g 0) = true
  · obtain ⟨j, a1, a2, a3, a4⟩ := inN_at e1
    have hj : nx x = j := a4
    rw [if_pos e1, if_pos e1, hj, k.1.stvE k.2 a1]
  · rw [if_neg e1, if_neg e1]
theorem Rel.stoE {c g : Nat → Nat} (h : Rel c g) : sto c = sto g := by
  funext n
  unfold sto
  rw [h.1]
  by_cases e : n < g 0
  · rw [(h.2.2.1 n e).1]
  · rw [decide_eq_false e]; rfl
theorem Rel.eNOE {c g : Nat → Nat} (h : Rel c g) (ok : okG g) : eNO c = eNO g := by
  funext a b
  unfold eNO
  rw [h.2.1]
  apply propext
  constructor
  · rintro ⟨t, ht, h1, h2⟩
    exact ⟨t, ht, by rw [← h.sw ok ht]; exact h1, (h.edgE ht a b).mp h2⟩
  · rintro ⟨t, ht, h1, h2⟩
    exact ⟨t, ht, by rw [h.sw ok ht]; exact h1, (h.edgE ht a b).mpr h2⟩
theorem K_vic {c g : Nat → Nat} (k : Kp c g) (x : Int32) : aVic c x = aVic g x := by
  unfold aVic
  rw [k.1.1]
  by_cases e1 : inN x (g 0) = true
  · obtain ⟨j, a1, a2, a3, a4⟩ := inN_at e1
    have hj : nx x = j := a4
    rw [if_pos e1, if_pos e1, hj]
    unfold vicS
    rw [(k.1.2.2.1 j a1).1, k.1.stoE, k.1.eNOE k.2]
  · rw [if_neg e1, if_neg e1]
theorem K_step {c g : Nat → Nat} (k : Kp c g) : msk (act c) = msk (act g) ∧ Kp (stp c) (stp g) := ⟨by rw [k.1.actE k.2], k.1.stpE k.2, stp_ok k.2⟩
theorem K_set {c g : Nat → Nat} (k : Kp c g) (x : Int32) : aSet c x = aSet g x ∧ Kp (gSet c x) (gSet g x) := by
  unfold aSet gSet
  by_cases e : inR x 1 100 = true
  · rw [if_pos e, if_pos e, if_pos e, if_pos e]
    exact ⟨(Rel.setAE _ _ k.1 k.2).1, (Rel.setAE _ _ k.1 k.2).2, setA_ok _ _ k.2⟩
  · rw [if_neg e, if_neg e, if_neg e, if_neg e]; exact ⟨rfl, k⟩
theorem K_per {c g : Nat → Nat} (k : Kp c g) (x : Int32) : aPer c x = aPer g x := by unfold aPer; rw [Rel.perAE _ _ k.1 k.2 k.1 rfl]
theorem K_flt {c g : Nat → Nat} (k : Kp c g) (x v : Int32) : aFlt c x v = aFlt g x v ∧ Kp (gFlt c x v) (gFlt g x v) := by
  obtain ⟨h, ok⟩ := k
  have h1 := ok.2.1
  unfold aFlt gFlt
  rw [h.2.1]
  by_cases e1 : inN x (g 1) = true
  · obtain ⟨j, a1, a2, a3, a4⟩ := inN_at e1
    have hj : nx x = j := a4
    rw [if_pos e1, if_pos e1, if_pos e1, if_pos e1, hj]
    by_cases e3 : inR v 0 2 = true
    · obtain ⟨i, b1, b2, b3, b4, b5⟩ := inR_at e3
      have hi : nx v = i := b5
      rw [if_pos e3, if_pos e3, if_pos e3, if_pos e3]
      exact ⟨by rw [(h.2.2.2 j a1).2.2.2.2.2], h.up (by omega), okG_flt ok (by omega) (by omega)⟩
    · rw [if_neg e3, if_neg e3, if_neg e3, if_neg e3]; exact ⟨rfl, h, ok⟩
  · rw [if_neg e1, if_neg e1, if_neg e1, if_neg e1]; exact ⟨rfl, h, ok⟩
theorem K_clr {c g : Nat → Nat} (k : Kp c g) : aClr c = aClr g ∧ Kp (clrK c (c 1)) (clrK g (g 1)) := by
  refine ⟨?_, k.1.clrK k.2.1 k.2.2.1, okG_clrK k.2⟩
  unfold aClr
  rw [k.1.2.1, ct_cong (fun n hn => show flw c n = flw g n by unfold flw; rw [(k.1.2.2.2 n hn).2.2.2.2.2])]
theorem K_det {c g : Nat → Nat} (k : Kp c g) (t f n m : Int32) : aDet c t f n m = aDet g t f n m := by
  unfold aDet
  rw [k.1.1, k.1.2.1]
  by_cases e1 : inN t (g 1) = true
  · obtain ⟨j, a1, a2, a3, a4⟩ := inN_at e1
    have hj : nx t = j := a4
    rw [if_pos e1, if_pos e1]
    by_cases e2 : inN n (g 0) = true
    · obtain ⟨i, b1, b2, b3, b4⟩ := inN_at e2
      have hi : nx n = i := b4
      rw [if_pos e2, if_pos e2]
      by_cases e3 : (inR f 1 2 && inR m 1 100) = true
      · rw [if_pos e3, if_pos e3]
        rw [Bool.and_eq_true] at e3
        obtain ⟨u, d1, d2, d3, d4, d5⟩ := inR_at e3.1
        have hu : nx f = u := d5
        rw [k.1.detE k.2 (by rw [hj]; exact a1) (by rw [hu]; omega) (by rw [hi]; exact b1)]
      · rw [if_neg e3, if_neg e3]
    · rw [if_neg e2, if_neg e2]
  · rw [if_neg e1, if_neg e1]
theorem K_dfs {c g : Nat → Nat} (k : Kp c g) (n m : Int32) : aDfs c n m = aDfs g n m := by
  unfold aDfs
  rw [k.1.1, k.1.2.1]
  by_cases e2 : inN n (g 0) = true
  · obtain ⟨i, b1, b2, b3, b4⟩ := inN_at e2
    have hi : nx n = i := b4
    rw [if_pos e2, if_pos e2, k.1.dctE k.2 (by rw [hi]; exact b1) _ (Nat.le_refl _)]
  · rw [if_neg e2, if_neg e2]
