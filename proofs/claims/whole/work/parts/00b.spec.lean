/-! what a circuit is (the 290 numbers of the reference's row), its strengths as least solutions, its steps -/
def nA (g : Nat → Nat) : Nat → Int32 := fun j => nI (g j)
def up1 (g : Nat → Nat) (k x : Nat) : Nat → Nat := fun j => if j = k then x else g j
theorem up1_s {g : Nat → Nat} {k x : Nat} : up1 g k x k = x := if_pos rfl
theorem up1_n {g : Nat → Nat} {k x j : Nat} (h : j ≠ k) : up1 g k x j = g j := if_neg h
theorem nA_up (g : Nat → Nat) (k x : Nat) : upd (nA g) k (nI x) = nA (up1 g k x) := by
  funext j
  by_cases h : j = k
  · subst h; simp [upd, nA, up1]
  · simp [upd, nA, up1, h]
/-- a circuit whose numbers are in range -/
def okG (g : Nat → Nat) : Prop := g 0 ≤ 24 ∧ g 1 ≤ 40 ∧ (∀ n, n < g 0 → g (2 + n) ≤ 3 ∧ g (26 + n) ≤ 2) ∧ ∀ t, t < g 1 → g (50 + t) ≤ 2 ∧ 1 ≤ g (90 + t) ∧ g (90 + t) ≤ 3 ∧ g (130 + t) < g 0 ∧ g (170 + t) < g 0 ∧ g (210 + t) < g 0 ∧ g (170 + t) ≠ g (210 + t) ∧ g (250 + t) ≤ 2
/-- a switch's state -/
def swS (g : Nat → Nat) (t : Nat) : Nat := if g (250 + t) ≠ 0 then (if g (250 + t) = 1 then 0 else 1) else if g (50 + t) = 2 then 1 else if g (26 + g (130 + t)) = 2 then 2 else if decide (g (26 + g (130 + t)) = 1) = decide (g (50 + t) = 0) then 1 else 0
theorem swS_le (g : Nat → Nat) (t : Nat) : swS g t ≤ 2 := by
  unfold swS
  repeat' split
  all_goals omega
/-- the two ways through a transistor -/
def edg (g : Nat → Nat) (t a b : Nat) : Prop := (a = g (170 + t) ∧ b = g (210 + t)) ∨ (a = g (210 + t) ∧ b = g (170 + t))
def bas (g : Nat → Nat) (n : Nat) : Nat := if g (2 + n) = 0 then 7 else g (2 + n)
def PreQ (g h : Nat → Nat) : Prop := (∀ n, n < g 0 → bas g n ≤ h n) ∧ ∀ t, t < g 1 → swS g t = 1 → ∀ a b, edg g t a b → g (2 + b) ≠ 0 → min (g (90 + t) + 3) (h a) ≤ h b
def PreU (g : Nat → Nat) (s : Nat) (q h : Nat → Nat) : Prop := (∀ n, n < g 0 → (g (26 + n) = s ∨ g (26 + n) = 2) → q n ≤ bas g n → bas g n ≤ h n) ∧ ∀ t, t < g 1 → swS g t ≠ 0 → ∀ a b, edg g t a b → g (2 + b) ≠ 0 → q b ≤ min (g (90 + t) + 3) (h a) → min (g (90 + t) + 3) (h a) ≤ h b
/-- the least of all that P allows, place by place -/
noncomputable def low (P : (Nat → Nat) → Prop) (n : Nat) : Nat := Classical.epsilon (fun v => (∃ h, P h ∧ h n = v) ∧ ∀ w, (∃ h, P h ∧ h n = w) → v ≤ w)
theorem low_spec {P : (Nat → Nat) → Prop} {h : Nat → Nat} (hP : P h) (n : Nat) : (∃ h, P h ∧ h n = low P n) ∧ ∀ w, (∃ h, P h ∧ h n = w) → low P n ≤ w := by
  apply Classical.epsilon_spec (p := fun v => (∃ h, P h ∧ h n = v) ∧ ∀ w, (∃ h, P h ∧ h n = w) → v ≤ w)
  obtain ⟨k, h1, h2⟩ := pk_least (fun v => ∃ h, P h ∧ h n = v) ⟨h n, h, hP, rfl⟩
  exact ⟨k, h1, fun w hw => Nat.not_lt.mp fun c => h2 w c hw⟩
theorem low_le {P : (Nat → Nat) → Prop} {h : Nat → Nat} (hP : P h) (n : Nat) : low P n ≤ h n := (low_spec hP n).2 _ ⟨h, hP, rfl⟩
theorem low_at {P : (Nat → Nat) → Prop} {h : Nat → Nat} (hP : P h) (n : Nat) : ∃ h, P h ∧ h n = low P n := (low_spec hP n).1
noncomputable def qF (g : Nat → Nat) : Nat → Nat := low (PreQ g)
noncomputable def uF (g : Nat → Nat) (s : Nat) : Nat → Nat := low (PreU g s (qF g))
theorem bas_le {g : Nat → Nat} (ok : okG g) {n : Nat} (hn : n < g 0) : 1 ≤ bas g n ∧ bas g n ≤ 7 ∧ (g (2 + n) ≠ 0 → bas g n = g (2 + n) ∧ bas g n ≤ 3) ∧ (g (2 + n) = 0 → bas g n = 7) := by
  have := (ok.2.2.1 n hn).1
  unfold bas
  split <;> omega
theorem PreQ_7 {g : Nat → Nat} (ok : okG g) : PreQ g (fun _ => 7) := ⟨fun n hn => (bas_le ok hn).2.1, fun t _ _ a b _ _ => Nat.min_le_right _ _⟩
theorem PreU_7 {g : Nat → Nat} (ok : okG g) (s : Nat) (q : Nat → Nat) : PreU g s q (fun _ => 7) := ⟨fun n hn _ _ => (bas_le ok hn).2.1, fun t _ _ a b _ _ _ => Nat.min_le_right _ _⟩
theorem PreQ_q {g : Nat → Nat} (ok : okG g) : PreQ g (qF g) := by
  refine ⟨fun n hn => ?_, fun t ht hs a b he hb => ?_⟩
  · obtain ⟨h, hp, e⟩ := low_at (PreQ_7 ok) n
    show _ ≤ low (PreQ g) n
    rw [← e]
    exact hp.1 n hn
  · obtain ⟨h, hp, e⟩ := low_at (PreQ_7 ok) b
    have h1 : qF g a ≤ h a := low_le hp a
    have h2 := hp.2 t ht hs a b he hb
    have h3 : qF g b = h b := e.symm
    omega
theorem PreU_u {g : Nat → Nat} (ok : okG g) (s : Nat) : PreU g s (qF g) (uF g s) := by
  refine ⟨fun n hn hv hq => ?_, fun t ht hs a b he hb hq => ?_⟩
  · obtain ⟨h, hp, e⟩ := low_at (PreU_7 ok s (qF g)) n
    have h3 : uF g s n = h n := e.symm
    rw [h3]
    exact hp.1 n hn hv hq
  · obtain ⟨h, hp, e⟩ := low_at (PreU_7 ok s (qF g)) b
    have h1 : uF g s a ≤ h a := low_le hp a
    have h2 := hp.2 t ht hs a b he hb (by omega)
    have h3 : uF g s b = h b := e.symm
    omega
theorem q_le {g h : Nat → Nat} (hp : PreQ g h) (n : Nat) : qF g n ≤ h n := low_le hp n
theorem u_le {g h : Nat → Nat} {s : Nat} (hp : PreU g s (qF g) h) (n : Nat) : uF g s n ≤ h n := low_le hp n
theorem q_le7 {g : Nat → Nat} (ok : okG g) (n : Nat) : qF g n ≤ 7 := q_le (PreQ_7 ok) n
theorem u_le7 {g : Nat → Nat} (ok : okG g) (s n : Nat) : uF g s n ≤ 7 := u_le (PreU_7 ok s _) n
theorem edg_lt {g : Nat → Nat} (ok : okG g) {t a b : Nat} (ht : t < g 1) (he : edg g t a b) : a < g 0 ∧ b < g 0 := by
  obtain ⟨-, -, -, h⟩ := ok
  have := h t ht
  rcases he with ⟨rfl, rfl⟩ | ⟨rfl, rfl⟩ <;> omega
/-- the seventh level -/
theorem q_top {g : Nat → Nat} (ok : okG g) {n : Nat} (hn : n < g 0) : 7 ≤ qF g n ↔ g (2 + n) = 0 := by
  constructor
  · intro h
    have hp : PreQ g (fun n => if g (2 + n) = 0 then 7 else 6) := by
      refine ⟨fun n hn => ?_, fun t ht _ a b _ hb => ?_⟩
      · have := bas_le ok hn
        show bas g n ≤ if g (2 + n) = 0 then 7 else 6
        split <;> omega
      · have h9 := ok.2.2.2 t ht
        show min _ _ ≤ if g (2 + b) = 0 then 7 else 6
        rw [if_neg hb]
        exact Nat.le_trans (Nat.min_le_left _ _) (by omega)
    have h2 := q_le hp n
    by_cases e : g (2 + n) = 0
    · exact e
    · have h3 : qF g n ≤ if g (2 + n) = 0 then 7 else 6 := h2
      rw [if_neg e] at h3
      omega
  · intro h
    have := (PreQ_q ok).1 n hn
    rw [(bas_le ok hn).2.2.2 h] at this
    exact this
theorem u_top {g : Nat → Nat} (ok : okG g) (s : Nat) {n : Nat} (hn : n < g 0) : 7 ≤ uF g s n ↔ (g (2 + n) = 0 ∧ (g (26 + n) = s ∨ g (26 + n) = 2)) := by
  constructor
  · intro h
    have hp : PreU g s (qF g) (fun n => if g (2 + n) = 0 then (if g (26 + n) = s ∨ g (26 + n) = 2 then 7 else 0) else 6) := by
      refine ⟨fun n hn hv _ => ?_, fun t ht _ a b _ hb _ => ?_⟩
      · have := bas_le ok hn
        show bas g n ≤ if g (2 + n) = 0 then (if g (26 + n) = s ∨ g (26 + n) = 2 then 7 else 0) else 6
        rw [if_pos hv]
        split <;> omega
      · have h9 := ok.2.2.2 t ht
        show min _ _ ≤ if g (2 + b) = 0 then (if g (26 + b) = s ∨ g (26 + b) = 2 then 7 else 0) else 6
        rw [if_neg hb]
        exact Nat.le_trans (Nat.min_le_left _ _) (by omega)
    have h2 : uF g s n ≤ if g (2 + n) = 0 then (if g (26 + n) = s ∨ g (26 + n) = 2 then 7 else 0) else 6 := u_le hp n
    by_cases e : g (2 + n) = 0
    · rw [if_pos e] at h2
      by_cases e2 : g (26 + n) = s ∨ g (26 + n) = 2
      · exact ⟨e, e2⟩
      · rw [if_neg e2] at h2; omega
    · rw [if_neg e] at h2; omega
  · intro h
    have hb := (bas_le ok hn).2.2.2 h.1
    have := (PreU_u ok s).1 n hn h.2 (by rw [hb]; exact q_le7 ok n)
    rw [hb] at this
    exact this
/-- an input that doesn't carry has the strength 0 -/
theorem u_inp {g : Nat → Nat} (ok : okG g) (s : Nat) {n : Nat} (hi : g (2 + n) = 0) (hv : ¬ (g (26 + n) = s ∨ g (26 + n) = 2)) : uF g s n = 0 := by
  have hp : PreU g s (qF g) (fun n => if g (2 + n) = 0 then (if g (26 + n) = s ∨ g (26 + n) = 2 then 7 else 0) else 6) := by
    refine ⟨fun n hn hv _ => ?_, fun t ht _ a b _ hb _ => ?_⟩
    · have := bas_le ok hn
      show bas g n ≤ if g (2 + n) = 0 then (if g (26 + n) = s ∨ g (26 + n) = 2 then 7 else 0) else 6
      rw [if_pos hv]
      split <;> omega
    · have h9 := ok.2.2.2 t ht
      show min _ _ ≤ if g (2 + b) = 0 then (if g (26 + b) = s ∨ g (26 + b) = 2 then 7 else 0) else 6
      rw [if_neg hb]
      exact Nat.le_trans (Nat.min_le_left _ _) (by omega)
  have h2 : uF g s n ≤ if g (2 + n) = 0 then (if g (26 + n) = s ∨ g (26 + n) = 2 then 7 else 0) else 6 := u_le hp n
  rw [if_pos hi, if_neg hv] at h2
  omega
/-- a level below: the least set that holds the stronger level and the sources, and is closed -/
theorem q_level {g : Nat → Nat} (ok : okG g) {lv : Nat} (h1 : 1 ≤ lv) (h6 : lv ≤ 6) {R : Nat → Bool}
    (hsrc : ∀ n, n < g 0 → (lv + 1 ≤ qF g n ∨ (g (2 + n) ≠ 0 ∧ lv ≤ g (2 + n))) → R n = true)
    (hcl : ∀ a b t, R a = true → t < g 1 → swS g t = 1 → edg g t a b → lv ≤ g (90 + t) + 3 → g (2 + b) ≠ 0 → R b = true)
    (hmin : ∀ T : Nat → Bool, (∀ n, n < g 0 → (lv + 1 ≤ qF g n ∨ (g (2 + n) ≠ 0 ∧ lv ≤ g (2 + n))) → T n = true) → (∀ a b t, T a = true → t < g 1 → swS g t = 1 → edg g t a b → lv ≤ g (90 + t) + 3 → g (2 + b) ≠ 0 → T b = true) → ∀ n, n < g 0 → R n = true → T n = true)
    {n : Nat} (hn : n < g 0) : R n = decide (lv ≤ qF g n) := by
  have pq := PreQ_q ok
  have d1 : R n = true → lv ≤ qF g n := by
    intro h
    have := hmin (fun n => decide (lv ≤ qF g n)) (fun n hn h => decide_eq_true (by
      rcases h with h | ⟨h, h'⟩
      · omega
      · have := pq.1 n hn
        rw [((bas_le ok hn).2.2.1 h).1] at this
        omega)) (fun a b t ha ht hs he hl hb => decide_eq_true (by
      have := pq.2 t ht hs a b he hb
      have ha' := of_decide_eq_true ha
      omega)) n hn h
    exact of_decide_eq_true this
  have d2 : lv ≤ qF g n → R n = true := by
    intro h
    have hp : PreQ g (fun n => if R n = true then qF g n else min (qF g n) (lv - 1)) := by
      refine ⟨fun n hn => ?_, fun t ht hs a b he hb => ?_⟩
      · show bas g n ≤ if R n = true then qF g n else min (qF g n) (lv - 1)
        have hb := pq.1 n hn
        by_cases e : R n = true
        · rw [if_pos e]; exact hb
        · rw [if_neg e]
          have h2 : bas g n < lv := Nat.lt_of_not_le fun c => e (hsrc n hn (by
            by_cases e0 : g (2 + n) = 0
            · left
              have := (q_top ok hn).mpr e0
              omega
            · right
              exact ⟨e0, by rw [← ((bas_le ok hn).2.2.1 e0).1]; exact c⟩))
          omega
      · show min (g (90 + t) + 3) (if R a = true then qF g a else min (qF g a) (lv - 1)) ≤ if R b = true then qF g b else min (qF g b) (lv - 1)
        have h3 := pq.2 t ht hs a b he hb
        have ha : (if R a = true then qF g a else min (qF g a) (lv - 1)) ≤ qF g a := by split <;> omega
        by_cases eb : R b = true
        · rw [if_pos eb]; omega
        · rw [if_neg eb]
          by_cases ea : R a = true
          · have : ¬ lv ≤ g (90 + t) + 3 := fun c => eb (hcl a b t ea ht hs he c hb)
            rw [if_pos ea]
            omega
          · rw [if_neg ea]
            omega
    have := q_le hp n
    by_cases e : R n = true
    · exact e
    · have h4 : qF g n ≤ if R n = true then qF g n else min (qF g n) (lv - 1) := this
      rw [if_neg e] at h4
      omega
  cases e : R n
  · exact (decide_eq_false fun c => by rw [d2 c] at e; cases e).symm
  · exact (decide_eq_true (d1 e)).symm
theorem u_level {g : Nat → Nat} (ok : okG g) (s : Nat) {lv : Nat} (h1 : 1 ≤ lv) (h6 : lv ≤ 6) {R : Nat → Bool}
    (hsrc : ∀ n, n < g 0 → (lv + 1 ≤ uF g s n ∨ (g (2 + n) ≠ 0 ∧ lv ≤ g (2 + n) ∧ (g (26 + n) = s ∨ g (26 + n) = 2) ∧ qF g n ≤ lv)) → R n = true)
    (hcl : ∀ a b t, R a = true → t < g 1 → swS g t ≠ 0 → edg g t a b → lv ≤ g (90 + t) + 3 → g (2 + b) ≠ 0 → qF g b ≤ lv → R b = true)
    (hmin : ∀ T : Nat → Bool, (∀ n, n < g 0 → (lv + 1 ≤ uF g s n ∨ (g (2 + n) ≠ 0 ∧ lv ≤ g (2 + n) ∧ (g (26 + n) = s ∨ g (26 + n) = 2) ∧ qF g n ≤ lv)) → T n = true) → (∀ a b t, T a = true → t < g 1 → swS g t ≠ 0 → edg g t a b → lv ≤ g (90 + t) + 3 → g (2 + b) ≠ 0 → qF g b ≤ lv → T b = true) → ∀ n, n < g 0 → R n = true → T n = true)
    {n : Nat} (hn : n < g 0) : R n = decide (lv ≤ uF g s n) := by
  have pu := PreU_u ok s
  have d1 : R n = true → lv ≤ uF g s n := by
    intro h
    have := hmin (fun n => decide (lv ≤ uF g s n)) (fun n hn h => decide_eq_true (by
      rcases h with h | ⟨h, h', h2, h3⟩
      · omega
      · have hb := ((bas_le ok hn).2.2.1 h).1
        have := pu.1 n hn h2 (by omega)
        omega)) (fun a b t ha ht hs he hl hb hq => decide_eq_true (by
      have ha' := of_decide_eq_true ha
      have := pu.2 t ht hs a b he hb (by omega)
      omega)) n hn h
    exact of_decide_eq_true this
  have d2 : lv ≤ uF g s n → R n = true := by
    intro h
    have hp : PreU g s (qF g) (fun n => if R n = true then uF g s n else min (uF g s n) (lv - 1)) := by
      refine ⟨fun n hn hv hq => ?_, fun t ht hs a b he hb hq => ?_⟩
      · show bas g n ≤ if R n = true then uF g s n else min (uF g s n) (lv - 1)
        have hb := pu.1 n hn hv hq
        by_cases e : R n = true
        · rw [if_pos e]; exact hb
        · rw [if_neg e]
          have h2 : bas g n < lv := Nat.lt_of_not_le fun c => e (hsrc n hn (by
            by_cases e0 : g (2 + n) = 0
            · left
              have := (u_top ok s hn).mpr ⟨e0, hv⟩
              omega
            · have hb0 := ((bas_le ok hn).2.2.1 e0).1
              by_cases e1 : qF g n ≤ lv
              · right
                exact ⟨e0, by omega, hv, e1⟩
              · left
                omega))
          omega
      · have hq' : qF g b ≤ min (g (90 + t) + 3) (if R a = true then uF g s a else min (uF g s a) (lv - 1)) := hq
        show min (g (90 + t) + 3) (if R a = true then uF g s a else min (uF g s a) (lv - 1)) ≤ if R b = true then uF g s b else min (uF g s b) (lv - 1)
        have ha : (if R a = true then uF g s a else min (uF g s a) (lv - 1)) ≤ uF g s a := by split <;> omega
        have h3 := pu.2 t ht hs a b he hb (by omega)
        by_cases eb : R b = true
        · rw [if_pos eb]; omega
        · rw [if_neg eb]
          by_cases ea : R a = true
          · rw [if_pos ea] at hq' ⊢
            have : ¬ (lv ≤ g (90 + t) + 3 ∧ lv ≤ uF g s a) := fun c => eb (by
              by_cases e1 : qF g b ≤ lv
              · exact hcl a b t ea ht hs he c.1 hb e1
              · exact hsrc b (edg_lt ok ht he).2 (Or.inl (by omega)))
            omega
          · rw [if_neg ea]
            omega
    have := u_le hp n
    by_cases e : R n = true
    · exact e
    · have h4 : uF g s n ≤ if R n = true then uF g s n else min (uF g s n) (lv - 1) := this
      rw [if_neg e] at h4
      omega
  cases e : R n
  · exact (decide_eq_false fun c => by rw [d2 c] at e; cases e).symm
  · exact (decide_eq_true (d1 e)).symm
/-- up and down are never both 0 -/
theorem ud_pos {g : Nat → Nat} (ok : okG g) {n : Nat} (hn : n < g 0) : 1 ≤ uF g 1 n ∨ 1 ≤ uF g 0 n := by
  have pq := PreQ_q ok
  have key : ∀ k, k ≤ 7 → ∀ n, n < g 0 → 8 - k ≤ qF g n → qF g n ≤ uF g 1 n ∨ qF g n ≤ uF g 0 n := by
    intro k
    induction k with
    | zero => intro _ n _ h; have := q_le7 ok n; omega
    | succ k ih =>
      intro hk n hn hL
      have ih := ih (by omega)
      rcases Nat.lt_or_ge (qF g n) (8 - k) with hlt | hge
      · -- the level 7 - k
        have eL : qF g n = 7 - k := by omega
        refine Classical.byContradiction fun bad => ?_
        have hp : PreQ g (fun n => @ite _ ((¬ (qF g n ≤ uF g 1 n ∨ qF g n ≤ uF g 0 n)) ∧ n < g 0 ∧ qF g n = 7 - k) (Classical.propDecidable _) (qF g n - 1) (qF g n)) := by
          refine ⟨fun n hn => ?_, fun t ht hs a b he hb => ?_⟩
          · show bas g n ≤ @ite _ _ (Classical.propDecidable _) _ _
            have hb := pq.1 n hn
            split
            · rename_i hc
              have hne : bas g n ≠ qF g n := fun e => hc.1 (by
                have hv := (ok.2.2.1 n hn).2
                have hu := fun s hs => (PreU_u ok s).1 n hn hs (by omega)
                rcases (show g (26 + n) = 0 ∨ g (26 + n) = 1 ∨ g (26 + n) = 2 by omega) with h | h | h
                · exact Or.inr (by rw [← e]; exact hu 0 (Or.inl h))
                · exact Or.inl (by rw [← e]; exact hu 1 (Or.inl h))
                · exact Or.inl (by rw [← e]; exact hu 1 (Or.inr h)))
              omega
            · exact hb
          · have hlt := edg_lt ok ht he
            have h3 := pq.2 t ht hs a b he hb
            show min _ (@ite _ _ (Classical.propDecidable _) _ _) ≤ @ite _ _ (Classical.propDecidable _) _ _
            have ha : (@ite _ ((¬ (qF g a ≤ uF g 1 a ∨ qF g a ≤ uF g 0 a)) ∧ a < g 0 ∧ qF g a = 7 - k) (Classical.propDecidable _) (qF g a - 1) (qF g a)) ≤ qF g a := by split <;> omega
            by_cases cb : (¬ (qF g b ≤ uF g 1 b ∨ qF g b ≤ uF g 0 b)) ∧ b < g 0 ∧ qF g b = 7 - k
            · rw [if_pos cb]
              by_cases ca : (¬ (qF g a ≤ uF g 1 a ∨ qF g a ≤ uF g 0 a)) ∧ a < g 0 ∧ qF g a = 7 - k
              · rw [if_pos ca]
                omega
              · rw [if_neg ca]
                refine Nat.le_of_not_lt fun c => ?_
                -- a carries
                have hq : qF g b ≤ min (g (90 + t) + 3) (qF g a) := by omega
                have hga : qF g a ≤ uF g 1 a ∨ qF g a ≤ uF g 0 a := by
                  rcases Nat.lt_or_ge (qF g a) (8 - k) with h | h
                  · exact Classical.byContradiction fun z => ca ⟨z, hlt.1, by omega⟩
                  · exact ih a hlt.1 h
                refine cb.1 ?_
                rcases hga with h | h
                · left
                  have := (PreU_u ok 1).2 t ht (by omega) a b he hb (by omega)
                  omega
                · right
                  have := (PreU_u ok 0).2 t ht (by omega) a b he hb (by omega)
                  omega
            · rw [if_neg cb]
              omega
        have h4 : qF g n ≤ @ite _ ((¬ (qF g n ≤ uF g 1 n ∨ qF g n ≤ uF g 0 n)) ∧ n < g 0 ∧ qF g n = 7 - k) (Classical.propDecidable _) (qF g n - 1) (qF g n) := q_le hp n
        rw [if_pos ⟨bad, hn, eL⟩] at h4
        omega
      · exact ih n hn hge
  have hb := (bas_le ok hn).1
  have hq := pq.1 n hn
  rcases key 7 (by omega) n hn (by omega) with h | h
  · left; omega
  · right; omega
