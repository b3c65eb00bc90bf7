/-! the reference's rounds over all transistors: what grows, until nothing does -/
theorem up1_same (f : Nat → Nat) (k : Nat) : up1 f k (f k) = f := by
  funext j
  by_cases h : j = k
  · subst h; exact up1_s
  · exact up1_n h
def gv (g row : Nat → Nat) (t a : Nat) : Nat := min (g (90 + t) + 3) (row a)
def grD (g de : Nat → Nat) (t a b : Nat) : Bool := !decide (g (2 + b) = 0) && decide (de b < gv g de t a)
def nxD (g de : Nat → Nat) (t a b : Nat) : Nat → Nat := if grD g de t a b = true then up1 de b (gv g de t a) else de
def grU (g q row : Nat → Nat) (t a b : Nat) : Bool := !decide (g (2 + b) = 0) && (decide (row b < gv g row t a) && decide (q b ≤ gv g row t a))
def nxU (g q row : Nat → Nat) (t a b : Nat) : Nat → Nat := if grU g q row t a b = true then up1 row b (gv g row t a) else row
/-- what is still to be grown -/
def sm (f : Nat → Nat) : Nat → Nat
  | 0 => 0
  | n + 1 => sm f n + (7 - f n)
theorem sm_up {f : Nat → Nat} {b v : Nat} (h1 : f b < v) (h2 : v ≤ 7) : ∀ n, (b < n → sm (up1 f b v) n < sm f n) ∧ (n ≤ b → sm (up1 f b v) n = sm f n)
  | 0 => ⟨fun h => absurd h (Nat.not_lt_zero _), fun _ => rfl⟩
  | n + 1 => by
    have ih := sm_up h1 h2 n
    refine ⟨fun h => ?_, fun h => ?_⟩
    · rw [sm, sm]
      by_cases e : b = n
      · subst e
        rw [ih.2 (Nat.le_refl _), up1_s]
        omega
      · have := ih.1 (by omega)
        rw [up1_n (show n ≠ b by omega)]
        omega
    · rw [sm, sm, ih.2 (by omega), up1_n (show n ≠ b by omega)]
/-- between the start and the least solution -/
def DI (g de : Nat → Nat) : Prop := ∀ n, n < g 0 → bas g n ≤ de n ∧ de n ≤ qF g n
def CloD (g de : Nat → Nat) (k : Nat) : Prop := ∀ t, t < k → swS g t = 1 → ∀ a b, edg g t a b → g (2 + b) ≠ 0 → min (g (90 + t) + 3) (de a) ≤ de b
theorem DI_nx {g de : Nat → Nat} (ok : okG g) (h : DI g de) {t a b : Nat} (ht : t < g 1) (hs : swS g t = 1) (he : edg g t a b) : DI g (nxD g de t a b) := by
  unfold nxD
  split
  · rename_i hg
    unfold grD at hg
    simp at hg
    have hl := edg_lt ok ht he
    have hq := (PreQ_q ok).2 t ht hs a b he hg.1
    intro n hn
    by_cases e : n = b
    · subst e
      rw [up1_s]
      have h1 := h n hn
      have h2 := h a hl.1
      unfold gv at hg ⊢
      omega
    · rw [up1_n e]
      exact h n hn
  · exact h
theorem nxD_sm {g de : Nat → Nat} (ok : okG g) (h : DI g de) {t a b : Nat} (ht : t < g 1) (he : edg g t a b) : (grD g de t a b = true → sm (nxD g de t a b) 24 < sm de 24) ∧ (grD g de t a b = false → nxD g de t a b = de) := by
  have hl := edg_lt ok ht he
  have h0 := ok.1
  refine ⟨fun hg => ?_, fun hg => ?_⟩
  · unfold nxD
    rw [if_pos hg]
    unfold grD at hg
    simp at hg
    have h2 := h a hl.1
    have h3 := q_le7 ok a
    exact (sm_up hg.2 (by unfold gv; omega) 24).1 (by omega)
  · unfold nxD
    rw [if_neg (by rw [hg]; decide)]
/-- one transistor, both ways -/
theorem clo_stepD {g de : Nat → Nat} (ok : okG g) {t : Nat} (h : CloD g de t) (h1 : grD g de t (g (170 + t)) (g (210 + t)) = false) (h2 : grD g de t (g (210 + t)) (g (170 + t)) = false) : CloD g de (t + 1) := by
  intro u hu hs a b he hb
  rcases Nat.lt_or_ge u t with c | c
  · exact h u c hs a b he hb
  · have e : u = t := by omega
    subst e
    unfold grD gv at h1 h2
    rcases he with ⟨rfl, rfl⟩ | ⟨rfl, rfl⟩
    · simp [hb] at h1
      exact h1
    · simp [hb] at h2
      exact h2
theorem clo_skipD {g de : Nat → Nat} {t : Nat} (h : CloD g de t) (hn : swS g t ≠ 1) : CloD g de (t + 1) := by
  intro u hu hs a b he hb
  rcases Nat.lt_or_ge u t with c | c
  · exact h u c hs a b he hb
  · exact absurd (by rw [← show u = t by omega]; exact hs) hn
theorem DI_end {g de : Nat → Nat} (h : DI g de) (hc : CloD g de (g 1)) : ∀ n, n < g 0 → de n = qF g n := fun n hn => Nat.le_antisymm (h n hn).2 (q_le ⟨fun n hn => (h n hn).1, hc⟩ n)
def UI (g : Nat → Nat) (s : Nat) (row : Nat → Nat) : Prop := ∀ n, n < g 0 → ((g (26 + n) = s ∨ g (26 + n) = 2) → qF g n ≤ bas g n → bas g n ≤ row n) ∧ row n ≤ uF g s n
def CloU (g q row : Nat → Nat) (k : Nat) : Prop := ∀ t, t < k → swS g t ≠ 0 → ∀ a b, edg g t a b → g (2 + b) ≠ 0 → q b ≤ min (g (90 + t) + 3) (row a) → min (g (90 + t) + 3) (row a) ≤ row b
theorem UI_nx {g q row : Nat → Nat} (ok : okG g) {s : Nat} (hq : ∀ n, n < g 0 → q n = qF g n) (h : UI g s row) {t a b : Nat} (ht : t < g 1) (hs : swS g t ≠ 0) (he : edg g t a b) : UI g s (nxU g q row t a b) := by
  unfold nxU
  split
  · rename_i hg
    unfold grU at hg
    simp at hg
    have hl := edg_lt ok ht he
    intro n hn
    by_cases e : n = b
    · subst e
      rw [up1_s]
      have h1 := h n hn
      have h2 := (h a hl.1).2
      have h3 := hq n hn
      have hu := (PreU_u ok s).2 t ht hs a n he hg.1
      unfold gv at hg ⊢
      refine ⟨fun hv hb => ?_, ?_⟩
      · have := h1.1 hv hb
        omega
      · omega
    · rw [up1_n e]
      exact h n hn
  · exact h
theorem nxU_sm {g q row : Nat → Nat} (ok : okG g) {s : Nat} (h : UI g s row) {t a b : Nat} (ht : t < g 1) (he : edg g t a b) : (grU g q row t a b = true → sm (nxU g q row t a b) 24 < sm row 24) ∧ (grU g q row t a b = false → nxU g q row t a b = row) := by
  have hl := edg_lt ok ht he
  have h0 := ok.1
  refine ⟨fun hg => ?_, fun hg => ?_⟩
  · unfold nxU
    rw [if_pos hg]
    unfold grU at hg
    simp at hg
    have h2 := (h a hl.1).2
    have h3 := u_le7 ok s a
    exact (sm_up hg.2.1 (by unfold gv; omega) 24).1 (by omega)
  · unfold nxU
    rw [if_neg (by rw [hg]; decide)]
theorem clo_stepU {g q row : Nat → Nat} {t : Nat} (h : CloU g q row t) (h1 : grU g q row t (g (170 + t)) (g (210 + t)) = false) (h2 : grU g q row t (g (210 + t)) (g (170 + t)) = false) : CloU g q row (t + 1) := by
  intro u hu hs a b he hb hq
  rcases Nat.lt_or_ge u t with c | c
  · exact h u c hs a b he hb hq
  · have e : u = t := by omega
    subst e
    unfold grU gv at h1 h2
    refine Nat.le_of_not_lt fun z => ?_
    rcases he with ⟨rfl, rfl⟩ | ⟨rfl, rfl⟩
    · rw [decide_eq_false hb, decide_eq_true z, decide_eq_true hq] at h1
      cases h1
    · rw [decide_eq_false hb, decide_eq_true z, decide_eq_true hq] at h2
      cases h2
theorem clo_skipU {g q row : Nat → Nat} {t : Nat} (h : CloU g q row t) (hn : swS g t = 0) : CloU g q row (t + 1) := by
  intro u hu hs a b he hb hq
  rcases Nat.lt_or_ge u t with c | c
  · exact h u c hs a b he hb hq
  · exact absurd (by rw [show u = t by omega]; exact hn) hs
theorem UI_end {g q row : Nat → Nat} {s : Nat} (hq : ∀ n, n < g 0 → q n = qF g n) (ok : okG g) (h : UI g s row) (hc : CloU g q row (g 1)) : ∀ n, n < g 0 → row n = uF g s n := fun n hn => Nat.le_antisymm (h n hn).2 (u_le ⟨fun n hn => (h n hn).1, fun t ht hs a b he hb hz => hc t ht hs a b he hb (by rw [hq b (edg_lt ok ht he).2]; exact hz)⟩ n)
/-- the state of a round: m tells whether something has grown since f0 -/
def RdD (g f0 f : Nat → Nat) (m : Bool) (t : Nat) : Prop := DI g f ∧ (m = true → sm f 24 < sm f0 24) ∧ (m = false → sm f 24 ≤ sm f0 24 ∧ CloD g f t)
def RdU (g : Nat → Nat) (s : Nat) (q f0 f : Nat → Nat) (m : Bool) (t : Nat) : Prop := UI g s f ∧ (m = true → sm f 24 < sm f0 24) ∧ (m = false → sm f 24 ≤ sm f0 24 ∧ CloU g q f t)
theorem RdD_0 {g f : Nat → Nat} (h : DI g f) : RdD g f f false 0 := ⟨h, fun z => (by cases z), fun _ => ⟨Nat.le_refl _, fun t ht => absurd ht (Nat.not_lt_zero t)⟩⟩
theorem RdU_0 {g : Nat → Nat} {s : Nat} {q f : Nat → Nat} (h : UI g s f) : RdU g s q f f false 0 := ⟨h, fun z => (by cases z), fun _ => ⟨Nat.le_refl _, fun t ht => absurd ht (Nat.not_lt_zero t)⟩⟩
theorem edg_1 (g : Nat → Nat) (t : Nat) : edg g t (g (170 + t)) (g (210 + t)) := Or.inl ⟨rfl, rfl⟩
theorem edg_2 (g : Nat → Nat) (t : Nat) : edg g t (g (210 + t)) (g (170 + t)) := Or.inr ⟨rfl, rfl⟩
theorem RdD_s {g f0 f : Nat → Nat} (ok : okG g) {m : Bool} {t : Nat} (ht : t < g 1) (hs : swS g t = 1) (h : RdD g f0 f m t) {r1 r2 : Bool} (e1 : grD g f t (g (170 + t)) (g (210 + t)) = r1) (e2 : grD g (nxD g f t (g (170 + t)) (g (210 + t))) t (g (210 + t)) (g (170 + t)) = r2) : RdD g f0 (nxD g (nxD g f t (g (170 + t)) (g (210 + t))) t (g (210 + t)) (g (170 + t))) (r2 || (r1 || m)) (t + 1) := by
  have d1 := DI_nx ok h.1 ht hs (edg_1 g t)
  have d2 := DI_nx ok d1 ht hs (edg_2 g t)
  have s1 := nxD_sm ok h.1 ht (edg_1 g t)
  have s2 := nxD_sm ok d1 ht (edg_2 g t)
  refine ⟨d2, fun hm => ?_, fun hm => ?_⟩
  · have hle : sm f 24 ≤ sm f0 24 := by
      cases m
      · exact (h.2.2 rfl).1
      · exact Nat.le_of_lt (h.2.1 rfl)
    cases r2
    · cases r1
      · rw [s2.2 e2, s1.2 e1]
        exact h.2.1 (by simpa using hm)
      · rw [s2.2 e2]
        have := s1.1 e1
        omega
    · have := s2.1 e2
      cases r1
      · rw [s1.2 e1] at this ⊢
        omega
      · have := s1.1 e1
        omega
  · simp at hm
    obtain ⟨h2, h1, h0⟩ := hm
    subst h2; subst h1; subst h0
    rw [s2.2 e2, s1.2 e1]
    rw [s1.2 e1] at e2
    exact ⟨(h.2.2 rfl).1, clo_stepD ok (h.2.2 rfl).2 e1 e2⟩
theorem RdD_k {g f0 f : Nat → Nat} {m : Bool} {t : Nat} (hn : swS g t ≠ 1) (h : RdD g f0 f m t) : RdD g f0 f m (t + 1) := ⟨h.1, h.2.1, fun z => ⟨(h.2.2 z).1, clo_skipD (h.2.2 z).2 hn⟩⟩
theorem RdU_s {g q f0 f : Nat → Nat} (ok : okG g) {s : Nat} (hq : ∀ n, n < g 0 → q n = qF g n) {m : Bool} {t : Nat} (ht : t < g 1) (hs : swS g t ≠ 0) (h : RdU g s q f0 f m t) {r1 r2 : Bool} (e1 : grU g q f t (g (170 + t)) (g (210 + t)) = r1) (e2 : grU g q (nxU g q f t (g (170 + t)) (g (210 + t))) t (g (210 + t)) (g (170 + t)) = r2) : RdU g s q f0 (nxU g q (nxU g q f t (g (170 + t)) (g (210 + t))) t (g (210 + t)) (g (170 + t))) (r2 || (r1 || m)) (t + 1) := by
  have d1 := UI_nx ok hq h.1 ht hs (edg_1 g t)
  have d2 := UI_nx ok hq d1 ht hs (edg_2 g t)
  have s1 := nxU_sm (q := q) ok h.1 ht (edg_1 g t)
  have s2 := nxU_sm (q := q) ok d1 ht (edg_2 g t)
  refine ⟨d2, fun hm => ?_, fun hm => ?_⟩
  · have hle : sm f 24 ≤ sm f0 24 := by
      cases m
      · exact (h.2.2 rfl).1
      · exact Nat.le_of_lt (h.2.1 rfl)
    cases r2
    · cases r1
      · rw [s2.2 e2, s1.2 e1]
        exact h.2.1 (by simpa using hm)
      · rw [s2.2 e2]
        have := s1.1 e1
        omega
    · have := s2.1 e2
      cases r1
      · rw [s1.2 e1] at this ⊢
        omega
      · have := s1.1 e1
        omega
  · simp at hm
    obtain ⟨h2, h1, h0⟩ := hm
    subst h2; subst h1; subst h0
    rw [s2.2 e2, s1.2 e1]
    rw [s1.2 e1] at e2
    exact ⟨(h.2.2 rfl).1, clo_stepU (h.2.2 rfl).2 e1 e2⟩
theorem RdU_k {g q f0 f : Nat → Nat} {s : Nat} {m : Bool} {t : Nat} (hn : swS g t = 0) (h : RdU g s q f0 f m t) : RdU g s q f0 f m (t + 1) := ⟨h.1, h.2.1, fun z => ⟨(h.2.2 z).1, clo_skipU (h.2.2 z).2 hn⟩⟩
theorem fill_s {F f : Nat → Nat} {n v : Nat} (h : ∀ j, j < n → f j = F j) (hv : v = F n) : ∀ j, j < n + 1 → up1 f n v j = F j := fun j hj => by
  by_cases e : j = n
  · subst e; rw [up1_s]; exact hv
  · rw [up1_n e]; exact h j (by omega)
theorem fill_0 {F f : Nat → Nat} : ∀ j, j < 0 → f j = F j := fun j h => absurd h (Nat.not_lt_zero j)
theorem DI_0 {g f : Nat → Nat} (ok : okG g) {n : Nat} (hn : g 0 ≤ n) (h : ∀ j, j < n → f j = bas g j) : DI g f := fun j hj => by
  rw [h j (by omega)]
  exact ⟨Nat.le_refl _, (PreQ_q ok).1 j hj⟩
noncomputable def ub (g : Nat → Nat) (s j : Nat) : Nat := if (g (26 + j) = s ∨ g (26 + j) = 2) ∧ qF g j ≤ bas g j then bas g j else 0
theorem UI_0 {g f : Nat → Nat} {s : Nat} (ok : okG g) {n : Nat} (hn : g 0 ≤ n) (h : ∀ j, j < n → f j = ub g s j) : UI g s f := fun j hj => by
  rw [h j (by omega)]
  unfold ub
  refine ⟨fun hv hb => by rw [if_pos ⟨hv, hb⟩]; exact Nat.le_refl _, ?_⟩
  split
  · rename_i hc
    exact (PreU_u ok s).1 j hj hc.1 hc.2
  · exact Nat.zero_le _
theorem RdD_mu {g f0 f : Nat → Nat} {m : Bool} {t : Nat} (h : RdD g f0 f m t) : 2 * sm f 24 + (if m = true then 1 else 0) < 2 * sm f0 24 + 1 := by
  cases m
  · have := (h.2.2 rfl).1
    rw [if_neg (by decide)]
    omega
  · have := h.2.1 rfl
    rw [if_pos rfl]
    omega
theorem RdU_mu {g q f0 f : Nat → Nat} {s : Nat} {m : Bool} {t : Nat} (h : RdU g s q f0 f m t) : 2 * sm f 24 + (if m = true then 1 else 0) < 2 * sm f0 24 + 1 := by
  cases m
  · have := (h.2.2 rfl).1
    rw [if_neg (by decide)]
    omega
  · have := h.2.1 rfl
    rw [if_pos rfl]
    omega
