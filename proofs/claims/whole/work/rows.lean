section
/-! sets of nodes as ints: bits (begun with the kit's rows to paste), masks out of predicates -/
def bt (x : Int32) (i : Nat) : Bool := x.toBitVec.getLsbD i
theorem b_ext {x y : Int32} (h : ∀ i, i < 32 → bt x i = bt y i) : x = y := Int32.toBitVec_inj.mp (BitVec.eq_of_getLsbD_eq (fun i hi => h i hi))
theorem b_or (x y : Int32) (i : Nat) : bt (x ||| y) i = (bt x i || bt y i) := by unfold bt; rw [Int32.toBitVec_or, BitVec.getLsbD_or]
theorem b_and (x y : Int32) (i : Nat) : bt (x &&& y) i = (bt x i && bt y i) := by unfold bt; rw [Int32.toBitVec_and, BitVec.getLsbD_and]
theorem b_xor (x y : Int32) (i : Nat) : bt (x ^^^ y) i = (bt x i ^^ bt y i) := by unfold bt; rw [Int32.toBitVec_xor, BitVec.getLsbD_xor]
theorem b_m1 : ∀ i, i < 32 → bt (-1) i = true := by decide +kernel
theorem b_0 (i : Nat) : bt 0 i = false := BitVec.getLsbD_zero
theorem b_1 : ∀ i, i < 32 → bt 1 i = decide (i = 0) := by decide +kernel
theorem s_l : ∀ n, n < 32 → ((nI n &&& 31).toBitVec.smod 32).toNat = n := by decide +kernel
theorem b_shl (n : Nat) (hn : n < 32) (x : Int32) {i : Nat} (hi : i < 32) : bt (x <<< (nI n &&& 31)) i = (decide (n ≤ i) && bt x (i - n)) := by
  unfold bt
  rw [Int32.toBitVec_shiftLeft]
  show (x.toBitVec <<< ((nI n &&& 31).toBitVec.smod 32).toNat).getLsbD i = _
  rw [s_l n hn, BitVec.getLsbD_shiftLeft]
  rcases Nat.lt_or_ge i n with h | h
  · simp [h, Nat.not_le.mpr h]
  · simp [hi, h, Nat.not_lt.mpr h]
theorem b_sshr (n : Nat) (hn : n < 32) (x : Int32) {i : Nat} (hi : i < 32) : bt (x >>> (nI n &&& 31)) i = if n + i < 32 then bt x (n + i) else bt x 31 := by
  unfold bt
  rw [Int32.toBitVec_shiftRight]
  show (x.toBitVec.sshiftRight ((nI n &&& 31).toBitVec.smod 32).toNat).getLsbD i = _
  rw [s_l n hn, BitVec.getLsbD_sshiftRight, BitVec.msb_eq_getLsbD_last]
  simp [hi]
theorem b_bit (k : Nat) (hk : k < 32) {i : Nat} (hi : i < 32) : bt ((1 : Int32) <<< (nI k &&& 31)) i = decide (i = k) := by
  rw [b_shl k hk 1 hi]
  by_cases h : k ≤ i
  · rw [b_1 (i - k) (by omega)]
    by_cases e : i = k
    · subst e; simp
    · rw [decide_eq_false (show ¬ i - k = 0 by omega), decide_eq_false e]; simp
  · rw [decide_eq_false h, decide_eq_false (show ¬ i = k by omega)]; rfl
/-- a Boolean as the machine has it -/
def bI (b : Bool) : Int32 := if b then 1 else 0
theorem bI_t : bI true = 1 := rfl
theorem bI_f : bI false = 0 := rfl
theorem bI_0 {b : Bool} : bI b = 0 ↔ b = false := by cases b <;> decide
theorem bI_n0 {b : Bool} : ¬ bI b = 0 ↔ b = true := by cases b <;> decide
/-- the set of the i below n with p i -/
def mk (p : Nat → Bool) : Nat → Int32
  | 0 => 0
  | n + 1 => mk p n ||| (if p n then (1 : Int32) <<< (nI n &&& 31) else 0)
theorem b_mk (p : Nat → Bool) : ∀ n, n ≤ 32 → ∀ i, i < 32 → bt (mk p n) i = (decide (i < n) && p i)
  | 0, _, i, _ => by rw [mk, b_0]; simp
  | n + 1, h, i, hi => by
    rw [mk, b_or, b_mk p n (by omega) i hi]
    by_cases e : i = n
    · subst e
      cases hp : p i
      · simp [b_0]
      · simp [b_bit i hi hi]
    · have h2 : bt (if p n = true then (1 : Int32) <<< (nI n &&& 31) else 0) i = false := by
        cases hp : p n
        · simp [b_0]
        · simp [b_bit n (by omega) hi, e]
      rw [h2, Bool.or_false]
      congr 1
      by_cases g : i < n
      · rw [decide_eq_true g, decide_eq_true (show i < n + 1 by omega)]
      · rw [decide_eq_false g, decide_eq_false (show ¬ i < n + 1 by omega)]
def msk (p : Nat → Bool) : Int32 := mk p 24
theorem b_msk (p : Nat → Bool) (i : Nat) (hi : i < 32) : bt (msk p) i = (decide (i < 24) && p i) := b_mk p 24 (by omega) i hi
theorem b_mskL (p : Nat → Bool) (i : Nat) (hi : i < 24) : bt (msk p) i = p i := by rw [b_msk p i (by omega), decide_eq_true hi, Bool.true_and]
theorem msk_cong {p q : Nat → Bool} (h : ∀ i, i < 24 → p i = q i) : msk p = msk q := b_ext fun i hi => by
  rw [b_msk p i hi, b_msk q i hi]
  by_cases g : i < 24
  · rw [h i g]
  · rw [decide_eq_false g]; rfl
theorem msk_inj {p q : Nat → Bool} (h : msk p = msk q) : ∀ i, i < 24 → p i = q i := fun i hi => by rw [← b_mskL p i hi, h, b_mskL q i hi]
theorem mk_msk (p : Nat → Bool) (n : Nat) (hn : n ≤ 24) : mk p n = msk (fun i => decide (i < n) && p i) := b_ext fun i hi => by
  rw [b_mk p n (by omega) i hi, b_msk _ i hi]
  by_cases g : i < 24
  · rw [decide_eq_true g]; simp
  · rw [decide_eq_false g, decide_eq_false (show ¬ i < n by omega)]; rfl
theorem msk_or (p q : Nat → Bool) : msk p ||| msk q = msk (fun i => p i || q i) := b_ext fun i hi => by
  rw [b_or, b_msk p i hi, b_msk q i hi, b_msk _ i hi]
  cases decide (i < 24) <;> simp
theorem msk_and (p q : Nat → Bool) : msk p &&& msk q = msk (fun i => p i && q i) := b_ext fun i hi => by
  rw [b_and, b_msk p i hi, b_msk q i hi, b_msk _ i hi]
  cases decide (i < 24) <;> simp
theorem msk_xor (p q : Nat → Bool) : msk p ^^^ msk q = msk (fun i => p i ^^ q i) := b_ext fun i hi => by
  rw [b_xor, b_msk p i hi, b_msk q i hi, b_msk _ i hi]
  cases decide (i < 24) <;> simp
theorem msk_andnot (p q : Nat → Bool) : msk p &&& (msk q ^^^ (-1)) = msk (fun i => p i && !q i) := b_ext fun i hi => by
  rw [b_and, b_xor, b_m1 i hi, b_msk p i hi, b_msk q i hi, b_msk _ i hi]
  cases decide (i < 24) <;> simp
theorem msk_bit (k : Nat) (hk : k < 24) : (1 : Int32) <<< (nI k &&& 31) = msk (fun i => decide (i = k)) := b_ext fun i hi => by
  rw [b_bit k (by omega) hi, b_msk _ i hi]
  by_cases e : i = k
  · subst e; simp [hk]
  · simp [e]
theorem msk_none : msk (fun _ => false) = 0 := by decide +kernel
theorem msk_zero {p : Nat → Bool} : msk p = 0 ↔ ∀ i, i < 24 → p i = false := by
  rw [← msk_none]
  exact ⟨fun h i hi => msk_inj h i hi, fun h => msk_cong h⟩
theorem msk_at (p : Nat → Bool) (k : Nat) (hk : k < 24) : (msk p &&& ((1 : Int32) <<< (nI k &&& 31))) = 0 ↔ p k = false := by
  rw [msk_bit k hk, msk_and, msk_zero]
  constructor
  · intro h
    have := h k hk
    simpa using this
  · intro h i _
    by_cases e : i = k
    · subst e; simp [h]
    · simp [e]
theorem msk_shr (p : Nat → Bool) (k : Nat) (hk : k < 24) : (msk p >>> (nI k &&& 31)) &&& 1 = bI (p k) := b_ext fun i hi => by
  rw [b_and, b_sshr k (by omega) _ hi, b_1 i hi]
  by_cases e : i = 0
  · subst e
    rw [if_pos (by omega), Nat.add_zero, b_mskL p k hk]
    cases p k <;> decide
  · rw [decide_eq_false e, Bool.and_false]
    cases p k
    · exact (b_0 i).symm
    · rw [bI_t, b_1 i hi, decide_eq_false e]
theorem bI_or (a b : Bool) : bI a ||| bI b = bI (a || b) := by cases a <;> cases b <;> decide
theorem bI_xor (a b : Bool) : bI a ^^^ bI b = bI (a ^^ b) := by cases a <;> cases b <;> decide
theorem bI_nI (b : Bool) : bI b = nI (if b then 1 else 0) := by cases b <;> decide
/-- the lowest one of a set: what stands without it, what stands below it -/
theorem low_sub {p : Nat → Bool} {k : Nat} (hk : k < 24) (h : p k = true) (hl : ∀ i, i < k → p i = false) : msk p - 1 = msk (fun i => (p i && !decide (i = k)) || decide (i < k)) := by
  have e1 : ∀ k, k < 24 → (1 : Int32) <<< (nI k &&& 31) - 1 = msk (fun i => decide (i < k)) := by decide +kernel
  have e2 : msk p = msk (fun i => p i && !decide (i = k)) + (1 : Int32) <<< (nI k &&& 31) := by
    have h0 : msk (fun i => p i && !decide (i = k)) &&& msk (fun i => decide (i = k)) = 0 := by
      rw [msk_and, msk_zero]
      intro i _
      cases p i <;> simp
    rw [msk_bit k hk]
    have h1 : msk (fun i => p i && !decide (i = k)) + msk (fun i => decide (i = k)) = msk (fun i => p i && !decide (i = k)) ||| msk (fun i => decide (i = k)) := by
      apply Int32.toBitVec_inj.mp
      rw [Int32.toBitVec_add, Int32.toBitVec_or]
      apply BitVec.add_eq_or_of_and_eq_zero
      rw [← Int32.toBitVec_and, h0]
      rfl
    rw [h1, msk_or]
    apply msk_cong
    intro i _
    by_cases e : i = k
    · subst e; simp [h]
    · simp [e]
  have h3 : msk (fun i => p i && !decide (i = k)) &&& msk (fun i => decide (i < k)) = 0 := by
    rw [msk_and, msk_zero]
    intro i _
    by_cases e : i < k
    · simp [hl i e]
    · simp [e]
  rw [e2, show msk (fun i => p i && !decide (i = k)) + (1 : Int32) <<< (nI k &&& 31) - 1 = msk (fun i => p i && !decide (i = k)) + ((1 : Int32) <<< (nI k &&& 31) - 1) from by rw [Int32.sub_eq_add_neg, Int32.sub_eq_add_neg, Int32.add_assoc], e1 k hk, ← msk_or]
  apply Int32.toBitVec_inj.mp
  rw [Int32.toBitVec_add, Int32.toBitVec_or]
  apply BitVec.add_eq_or_of_and_eq_zero
  rw [← Int32.toBitVec_and, h3]
  rfl
theorem low_out {p : Nat → Bool} {k : Nat} (hk : k < 24) (h : p k = true) (hl : ∀ i, i < k → p i = false) : msk p &&& (msk p - 1) = msk (fun i => p i && !decide (i = k)) := by
  rw [low_sub hk h hl, msk_and]
  apply msk_cong
  intro i _
  by_cases e : i < k
  · simp [hl i e]
  · simp [e]
theorem low_below {p : Nat → Bool} {k : Nat} (hk : k < 24) (h : p k = true) (hl : ∀ i, i < k → p i = false) : (msk p ^^^ (-1)) &&& (msk p - 1) = msk (fun i => decide (i < k)) := by
  rw [low_sub hk h hl, show ∀ a b : Int32, a &&& b = b &&& a from fun a b => Int32.and_comm a b, msk_andnot]
  apply msk_cong
  intro i _
  by_cases e : i < k
  · simp [hl i e, e]
  · cases p i <;> simp [e]
theorem first_of (p : Nat → Bool) : ∀ n, (∀ i, i < n → p i = false) ∨ ∃ k, k < n ∧ p k = true ∧ ∀ i, i < k → p i = false
  | 0 => Or.inl fun _ h => absurd h (Nat.not_lt_zero _)
  | n + 1 => by
    rcases first_of p n with h | ⟨k, h1, h2, h3⟩
    · cases hp : p n
      · refine Or.inl fun i hi => ?_
        rcases Nat.lt_or_ge i n with g | g
        · exact h i g
        · rw [show i = n by omega]; exact hp
      · exact Or.inr ⟨n, by omega, hp, h⟩
    · exact Or.inr ⟨k, by omega, h2, h3⟩
/-- Integer.numberOfTrailingZeros, behind its first row -/
def ntz4 (n i : Int32) : Int32 := n + (i.toUInt32 >>> ((1 : Int32).toUInt32 &&& Int32.toUInt32 31)).toInt32
def ntz3 (n i : Int32) : Int32 := if i ≤ 4 then ntz4 n i else ntz4 (n + 2) (i.toUInt32 >>> ((2 : Int32).toUInt32 &&& Int32.toUInt32 31)).toInt32
def ntz2 (n i : Int32) : Int32 := if i ≤ 16 then ntz3 n i else ntz3 (n + 4) (i.toUInt32 >>> ((4 : Int32).toUInt32 &&& Int32.toUInt32 31)).toInt32
def ntz1 (n i : Int32) : Int32 := if i ≤ 256 then ntz2 n i else ntz2 (n + 8) (i.toUInt32 >>> ((8 : Int32).toUInt32 &&& Int32.toUInt32 31)).toInt32
def ntz0 (n i : Int32) : Int32 := if i ≤ 65536 then ntz1 n i else ntz1 (n + 16) (i.toUInt32 >>> ((16 : Int32).toUInt32 &&& Int32.toUInt32 31)).toInt32
def ntzG (i : Int32) : Int32 := if i ≤ 0 then i &&& 32 else ntz0 1 i
def ntzF (x : Int32) : Int32 := ntzG ((x ^^^ (-1)) &&& (x - 1))
theorem ntz_low {p : Nat → Bool} {k : Nat} (hk : k < 24) (h : p k = true) (hl : ∀ i, i < k → p i = false) : ntzF (msk p) = nI k := by
  have e : ∀ k, k < 24 → ntzG (msk (fun i => decide (i < k))) = nI k := by decide +kernel
  rw [ntzF, low_below hk h hl, e k hk]
theorem ntz_none : ntzF 0 = nI 32 := by decide +kernel
/-- Integer.bitCount -/
def ush (x : Int32) (k : Int32) : Int32 := (x.toUInt32 >>> (k.toUInt32 &&& Int32.toUInt32 31)).toInt32
def bcF (x : Int32) : Int32 :=
  let a := x - (ush x 1 &&& 1431655765)
  let b := (a &&& 858993459) + (ush a 2 &&& 858993459)
  let c := (b + ush b 4) &&& 252645135
  let d := c + ush c 8
  let e := d + ush d 16
  e &&& 63
end
section
/-! what a circuit is (the 290 numbers of the reference's row), its strengths as least solutions, its steps -/
def nA (g : Nat → Nat) : Nat → Int32 := fun j => nI (g j)
def up1 (g : Nat → Nat) (k x : Nat) : Nat → Nat := fun j => if j = k then x else g j
theorem up1_s {g : Nat → Nat} {k x : Nat} : up1 g k x k = x := if_pos rfl
theorem up1_n {g : Nat → Nat} {k x j : Nat} (h : j ≠ k) : up1 g k x j = g j := if_neg h
theorem nA_up (g : Nat → Nat) (k x : Nat) : upd (nA g) k (nI x) = nA (up1 g k x) := by
  funext j
  by_cases h : j = k
  · subst h; simp [upd, nA, up1]
  · simp [upd, nA, up1, h]
/-- a circuit whose numbers are in range -/
def okG (g : Nat → Nat) : Prop := g 0 ≤ 24 ∧ g 1 ≤ 40 ∧ (∀ n, n < g 0 → g (2 + n) ≤ 3 ∧ g (26 + n) ≤ 2) ∧ ∀ t, t < g 1 → g (50 + t) ≤ 2 ∧ 1 ≤ g (90 + t) ∧ g (90 + t) ≤ 3 ∧ g (130 + t) < g 0 ∧ g (170 + t) < g 0 ∧ g (210 + t) < g 0 ∧ g (170 + t) ≠ g (210 + t) ∧ g (250 + t) ≤ 2
/-- a switch's state -/
def swS (g : Nat → Nat) (t : Nat) : Nat := if g (250 + t) ≠ 0 then (if g (250 + t) = 1 then 0 else 1) else if g (50 + t) = 2 then 1 else if g (26 + g (130 + t)) = 2 then 2 else if decide (g (26 + g (130 + t)) = 1) = decide (g (50 + t) = 0) then 1 else 0
theorem swS_le (g : Nat → Nat) (t : Nat) : swS g t ≤ 2 := by
  unfold swS
  repeat' split
  all_goals omega
/-- the two ways through a transistor -/
def edg (g : Nat → Nat) (t a b : Nat) : Prop := (a = g (170 + t) ∧ b = g (210 + t)) ∨ (a = g (210 + t) ∧ b = g (170 + t))
def bas (g : Nat → Nat) (n : Nat) : Nat := if g (2 + n) = 0 then 7 else g (2 + n)
def PreQ (g h : Nat → Nat) : Prop := (∀ n, n < g 0 → bas g n ≤ h n) ∧ ∀ t, t < g 1 → swS g t = 1 → ∀ a b, edg g t a b → g (2 + b) ≠ 0 → min (g (90 + t) + 3) (h a) ≤ h b
def PreU (g : Nat → Nat) (s : Nat) (q h : Nat → Nat) : Prop := (∀ n, n < g 0 → (g (26 + n) = s ∨ g (26 + n) = 2) → q n ≤ bas g n → bas g n ≤ h n) ∧ ∀ t, t < g 1 → swS g t ≠ 0 → ∀ a b, edg g t a b → g (2 + b) ≠ 0 → q b ≤ min (g (90 + t) + 3) (h a) → min (g (90 + t) + 3) (h a) ≤ h b
/-- the least of all that P allows, place by place -/
noncomputable def low (P : (Nat → Nat) → Prop) (n : Nat) : Nat := Classical.epsilon (fun v => (∃ h, P h ∧ h n = v) ∧ ∀ w, (∃ h, P h ∧ h n = w) → v ≤ w)
theorem low_spec {P : (Nat → Nat) → Prop} {h : Nat → Nat} (hP : P h) (n : Nat) : (∃ h, P h ∧ h n = low P n) ∧ ∀ w, (∃ h, P h ∧ h n = w) → low P n ≤ w := by
  apply Classical.epsilon_spec (p := fun v => (∃ h, P h ∧ h n = v) ∧ ∀ w, (∃ h, P h ∧ h n = w) → v ≤ w)
  obtain ⟨k, h1, h2⟩ := pk_least (fun v => ∃ h, P h ∧ h n = v) ⟨h n, h, hP, rfl⟩
  exact ⟨k, h1, fun w hw => Nat.not_lt.mp fun c => h2 w c hw⟩
theorem low_le {P : (Nat → Nat) → Prop} {h : Nat → Nat} (hP : P h) (n : Nat) : low P n ≤ h n := (low_spec hP n).2 _ ⟨h, hP, rfl⟩
theorem low_at {P : (Nat → Nat) → Prop} {h : Nat → Nat} (hP : P h) (n : Nat) : ∃ h, P h ∧ h n = low P n := (low_spec hP n).1
noncomputable def qF (g : Nat → Nat) : Nat → Nat := low (PreQ g)
noncomputable def uF (g : Nat → Nat) (s : Nat) : Nat → Nat := low (PreU g s (qF g))
theorem bas_le {g : Nat → Nat} (ok : okG g) {n : Nat} (hn : n < g 0) : 1 ≤ bas g n ∧ bas g n ≤ 7 ∧ (g (2 + n) ≠ 0 → bas g n = g (2 + n) ∧ bas g n ≤ 3) ∧ (g (2 + n) = 0 → bas g n = 7) := by
  have := (ok.2.2.1 n hn).1
  unfold bas
  split <;> omega
theorem PreQ_7 {g : Nat → Nat} (ok : okG g) : PreQ g (fun _ => 7) := ⟨fun n hn => (bas_le ok hn).2.1, fun t _ _ a b _ _ => Nat.min_le_right _ _⟩
theorem PreU_7 {g : Nat → Nat} (ok : okG g) (s : Nat) (q : Nat → Nat) : PreU g s q (fun _ => 7) := ⟨fun n hn _ _ => (bas_le ok hn).2.1, fun t _ _ a b _ _ _ => Nat.min_le_right _ _⟩
theorem PreQ_q {g : Nat → Nat} (ok : okG g) : PreQ g (qF g) := by
  refine ⟨fun n hn => ?_, fun t ht hs a b he hb => ?_⟩
  · obtain ⟨h, hp, e⟩ := low_at (PreQ_7 ok) n
    show _ ≤ low (PreQ g) n
    rw [← e]
    exact hp.1 n hn
  · obtain ⟨h, hp, e⟩ := low_at (PreQ_7 ok) b
    have h1 : qF g a ≤ h a := low_le hp a
    have h2 := hp.2 t ht hs a b he hb
    have h3 : qF g b = h b := e.symm
    omega
theorem PreU_u {g : Nat → Nat} (ok : okG g) (s : Nat) : PreU g s (qF g) (uF g s) := by
  refine ⟨fun n hn hv hq => ?_, fun t ht hs a b he hb hq => ?_⟩
  · obtain ⟨h, hp, e⟩ := low_at (PreU_7 ok s (qF g)) n
    have h3 : uF g s n = h n := e.symm
    rw [h3]
    exact hp.1 n hn hv hq
  · obtain ⟨h, hp, e⟩ := low_at (PreU_7 ok s (qF g)) b
    have h1 : uF g s a ≤ h a := low_le hp a
    have h2 := hp.2 t ht hs a b he hb (by omega)
    have h3 : uF g s b = h b := e.symm
    omega
theorem q_le {g h : Nat → Nat} (hp : PreQ g h) (n : Nat) : qF g n ≤ h n := low_le hp n
theorem u_le {g h : Nat → Nat} {s : Nat} (hp : PreU g s (qF g) h) (n : Nat) : uF g s n ≤ h n := low_le hp n
theorem q_le7 {g : Nat → Nat} (ok : okG g) (n : Nat) : qF g n ≤ 7 := q_le (PreQ_7 ok) n
theorem u_le7 {g : Nat → Nat} (ok : okG g) (s n : Nat) : uF g s n ≤ 7 := u_le (PreU_7 ok s _) n
theorem edg_lt {g : Nat → Nat} (ok : okG g) {t a b : Nat} (ht : t < g 1) (he : edg g t a b) : a < g 0 ∧ b < g 0 := by
  obtain ⟨-, -, -, h⟩ := ok
  have := h t ht
  rcases he with ⟨rfl, rfl⟩ | ⟨rfl, rfl⟩ <;> omega
/-- the seventh level -/
theorem q_top {g : Nat → Nat} (ok : okG g) {n : Nat} (hn : n < g 0) : 7 ≤ qF g n ↔ g (2 + n) = 0 := by
  constructor
  · intro h
    have hp : PreQ g (fun n => if g (2 + n) = 0 then 7 else 6) := by
      refine ⟨fun n hn => ?_, fun t ht _ a b _ hb => ?_⟩
      · have := bas_le ok hn
        show bas g n ≤ if g (2 + n) = 0 then 7 else 6
        split <;> omega
      · have h9 := ok.2.2.2 t ht
        show min _ _ ≤ if g (2 + b) = 0 then 7 else 6
        rw [if_neg hb]
        exact Nat.le_trans (Nat.min_le_left _ _) (by omega)
    have h2 := q_le hp n
    by_cases e : g (2 + n) = 0
    · exact e
    · have h3 : qF g n ≤ if g (2 + n) = 0 then 7 else 6 := h2
      rw [if_neg e] at h3
      omega
  · intro h
    have := (PreQ_q ok).1 n hn
    rw [(bas_le ok hn).2.2.2 h] at this
    exact this
theorem u_top {g : Nat → Nat} (ok : okG g) (s : Nat) {n : Nat} (hn : n < g 0) : 7 ≤ uF g s n ↔ (g (2 + n) = 0 ∧ (g (26 + n) = s ∨ g (26 + n) = 2)) := by
  constructor
  · intro h
    have hp : PreU g s (qF g) (fun n => if g (2 + n) = 0 then (if g (26 + n) = s ∨ g (26 + n) = 2 then 7 else 0) else 6) := by
      refine ⟨fun n hn hv _ => ?_, fun t ht _ a b _ hb _ => ?_⟩
      · have := bas_le ok hn
        show bas g n ≤ if g (2 + n) = 0 then (if g (26 + n) = s ∨ g (26 + n) = 2 then 7 else 0) else 6
        rw [if_pos hv]
        split <;> omega
      · have h9 := ok.2.2.2 t ht
        show min _ _ ≤ if g (2 + b) = 0 then (if g (26 + b) = s ∨ g (26 + b) = 2 then 7 else 0) else 6
        rw [if_neg hb]
        exact Nat.le_trans (Nat.min_le_left _ _) (by omega)
    have h2 : uF g s n ≤ if g (2 + n) = 0 then (if g (26 + n) = s ∨ g (26 + n) = 2 then 7 else 0) else 6 := u_le hp n
    by_cases e : g (2 + n) = 0
    · rw [if_pos e] at h2
      by_cases e2 : g (26 + n) = s ∨ g (26 + n) = 2
      · exact ⟨e, e2⟩
      · rw [if_neg e2] at h2; omega
    · rw [if_neg e] at h2; omega
  · intro h
    have hb := (bas_le ok hn).2.2.2 h.1
    have := (PreU_u ok s).1 n hn h.2 (by rw [hb]; exact q_le7 ok n)
    rw [hb] at this
    exact this
/-- an input that doesn't carry has the strength 0 -/
theorem u_inp {g : Nat → Nat} (ok : okG g) (s : Nat) {n : Nat} (hi : g (2 + n) = 0) (hv : ¬ (g (26 + n) = s ∨ g (26 + n) = 2)) : uF g s n = 0 := by
  have hp : PreU g s (qF g) (fun n => if g (2 + n) = 0 then (if g (26 + n) = s ∨ g (26 + n) = 2 then 7 else 0) else 6) := by
    refine ⟨fun n hn hv _ => ?_, fun t ht _ a b _ hb _ => ?_⟩
    · have := bas_le ok hn
      show bas g n ≤ if g (2 + n) = 0 then (if g (26 + n) = s ∨ g (26 + n) = 2 then 7 else 0) else 6
      rw [if_pos hv]
      split <;> omega
    · have h9 := ok.2.2.2 t ht
      show min _ _ ≤ if g (2 + b) = 0 then (if g (26 + b) = s ∨ g (26 + b) = 2 then 7 else 0) else 6
      rw [if_neg hb]
      exact Nat.le_trans (Nat.min_le_left _ _) (by omega)
  have h2 : uF g s n ≤ if g (2 + n) = 0 then (if g (26 + n) = s ∨ g (26 + n) = 2 then 7 else 0) else 6 := u_le hp n
  rw [if_pos hi, if_neg hv] at h2
  omega
/-- a level below: the least set that holds the stronger level and the sources, and is closed -/
theorem q_level {g : Nat → Nat} (ok : okG g) {lv : Nat} (h1 : 1 ≤ lv) (h6 : lv ≤ 6) {R : Nat → Bool}
    (hsrc : ∀ n, n < g 0 → (lv + 1 ≤ qF g n ∨ (g (2 + n) ≠ 0 ∧ lv ≤ g (2 + n))) → R n = true)
    (hcl : ∀ a b t, R a = true → t < g 1 → swS g t = 1 → edg g t a b → lv ≤ g (90 + t) + 3 → g (2 + b) ≠ 0 → R b = true)
    (hmin : ∀ T : Nat → Bool, (∀ n, n < g 0 → (lv + 1 ≤ qF g n ∨ (g (2 + n) ≠ 0 ∧ lv ≤ g (2 + n))) → T n = true) → (∀ a b t, T a = true → t < g 1 → swS g t = 1 → edg g t a b → lv ≤ g (90 + t) + 3 → g (2 + b) ≠ 0 → T b = true) → ∀ n, n < g 0 → R n = true → T n = true)
    {n : Nat} (hn : n < g 0) : R n = decide (lv ≤ qF g n) := by
  have pq := PreQ_q ok
  have d1 : R n = true → lv ≤ qF g n := by
    intro h
    have := hmin (fun n => decide (lv ≤ qF g n)) (fun n hn h => decide_eq_true (by
      rcases h with h | ⟨h, h'⟩
      · omega
      · have := pq.1 n hn
        rw [((bas_le ok hn).2.2.1 h).1] at this
        omega)) (fun a b t ha ht hs he hl hb => decide_eq_true (by
      have := pq.2 t ht hs a b he hb
      have ha' := of_decide_eq_true ha
      omega)) n hn h
    exact of_decide_eq_true this
  have d2 : lv ≤ qF g n → R n = true := by
    intro h
    have hp : PreQ g (fun n => if R n = true then qF g n else min (qF g n) (lv - 1)) := by
      refine ⟨fun n hn => ?_, fun t ht hs a b he hb => ?_⟩
      · show bas g n ≤ if R n = true then qF g n else min (qF g n) (lv - 1)
        have hb := pq.1 n hn
        by_cases e : R n = true
        · rw [if_pos e]; exact hb
        · rw [if_neg e]
          have h2 : bas g n < lv := Nat.lt_of_not_le fun c => e (hsrc n hn (by
            by_cases e0 : g (2 + n) = 0
            · left
              have := (q_top ok hn).mpr e0
              omega
            · right
              exact ⟨e0, by rw [← ((bas_le ok hn).2.2.1 e0).1]; exact c⟩))
          omega
      · show min (g (90 + t) + 3) (if R a = true then qF g a else min (qF g a) (lv - 1)) ≤ if R b = true then qF g b else min (qF g b) (lv - 1)
        have h3 := pq.2 t ht hs a b he hb
        have ha : (if R a = true then qF g a else min (qF g a) (lv - 1)) ≤ qF g a := by split <;> omega
        by_cases eb : R b = true
        · rw [if_pos eb]; omega
        · rw [if_neg eb]
          by_cases ea : R a = true
          · have : ¬ lv ≤ g (90 + t) + 3 := fun c => eb (hcl a b t ea ht hs he c hb)
            rw [if_pos ea]
            omega
          · rw [if_neg ea]
            omega
    have := q_le hp n
    by_cases e : R n = true
    · exact e
    · have h4 : qF g n ≤ if R n = true then qF g n else min (qF g n) (lv - 1) := this
      rw [if_neg e] at h4
      omega
  cases e : R n
  · exact (decide_eq_false fun c => by rw [d2 c] at e; cases e).symm
  · exact (decide_eq_true (d1 e)).symm
theorem u_level {g : Nat → Nat} (ok : okG g) (s : Nat) {lv : Nat} (h1 : 1 ≤ lv) (h6 : lv ≤ 6) {R : Nat → Bool}
    (hsrc : ∀ n, n < g 0 → (lv + 1 ≤ uF g s n ∨ (g (2 + n) ≠ 0 ∧ lv ≤ g (2 + n) ∧ (g (26 + n) = s ∨ g (26 + n) = 2) ∧ qF g n ≤ lv)) → R n = true)
    (hcl : ∀ a b t, R a = true → t < g 1 → swS g t ≠ 0 → edg g t a b → lv ≤ g (90 + t) + 3 → g (2 + b) ≠ 0 → qF g b ≤ lv → R b = true)
    (hmin : ∀ T : Nat → Bool, (∀ n, n < g 0 → (lv + 1 ≤ uF g s n ∨ (g (2 + n) ≠ 0 ∧ lv ≤ g (2 + n) ∧ (g (26 + n) = s ∨ g (26 + n) = 2) ∧ qF g n ≤ lv)) → T n = true) → (∀ a b t, T a = true → t < g 1 → swS g t ≠ 0 → edg g t a b → lv ≤ g (90 + t) + 3 → g (2 + b) ≠ 0 → qF g b ≤ lv → T b = true) → ∀ n, n < g 0 → R n = true → T n = true)
    {n : Nat} (hn : n < g 0) : R n = decide (lv ≤ uF g s n) := by
  have pu := PreU_u ok s
  have d1 : R n = true → lv ≤ uF g s n := by
    intro h
    have := hmin (fun n => decide (lv ≤ uF g s n)) (fun n hn h => decide_eq_true (by
      rcases h with h | ⟨h, h', h2, h3⟩
      · omega
      · have hb := ((bas_le ok hn).2.2.1 h).1
        have := pu.1 n hn h2 (by omega)
        omega)) (fun a b t ha ht hs he hl hb hq => decide_eq_true (by
      have ha' := of_decide_eq_true ha
      have := pu.2 t ht hs a b he hb (by omega)
      omega)) n hn h
    exact of_decide_eq_true this
  have d2 : lv ≤ uF g s n → R n = true := by
    intro h
    have hp : PreU g s (qF g) (fun n => if R n = true then uF g s n else min (uF g s n) (lv - 1)) := by
      refine ⟨fun n hn hv hq => ?_, fun t ht hs a b he hb hq => ?_⟩
      · show bas g n ≤ if R n = true then uF g s n else min (uF g s n) (lv - 1)
        have hb := pu.1 n hn hv hq
        by_cases e : R n = true
        · rw [if_pos e]; exact hb
        · rw [if_neg e]
          have h2 : bas g n < lv := Nat.lt_of_not_le fun c => e (hsrc n hn (by
            by_cases e0 : g (2 + n) = 0
            · left
              have := (u_top ok s hn).mpr ⟨e0, hv⟩
              omega
            · have hb0 := ((bas_le ok hn).2.2.1 e0).1
              by_cases e1 : qF g n ≤ lv
              · right
                exact ⟨e0, by omega, hv, e1⟩
              · left
                omega))
          omega
      · have hq' : qF g b ≤ min (g (90 + t) + 3) (if R a = true then uF g s a else min (uF g s a) (lv - 1)) := hq
        show min (g (90 + t) + 3) (if R a = true then uF g s a else min (uF g s a) (lv - 1)) ≤ if R b = true then uF g s b else min (uF g s b) (lv - 1)
        have ha : (if R a = true then uF g s a else min (uF g s a) (lv - 1)) ≤ uF g s a := by split <;> omega
        have h3 := pu.2 t ht hs a b he hb (by omega)
        by_cases eb : R b = true
        · rw [if_pos eb]; omega
        · rw [if_neg eb]
          by_cases ea : R a = true
          · rw [if_pos ea] at hq' ⊢
            have : ¬ (lv ≤ g (90 + t) + 3 ∧ lv ≤ uF g s a) := fun c => eb (by
              by_cases e1 : qF g b ≤ lv
              · exact hcl a b t ea ht hs he c.1 hb e1
              · exact hsrc b (edg_lt ok ht he).2 (Or.inl (by omega)))
            omega
          · rw [if_neg ea]
            omega
    have := u_le hp n
    by_cases e : R n = true
    · exact e
    · have h4 : uF g s n ≤ if R n = true then uF g s n else min (uF g s n) (lv - 1) := this
      rw [if_neg e] at h4
      omega
  cases e : R n
  · exact (decide_eq_false fun c => by rw [d2 c] at e; cases e).symm
  · exact (decide_eq_true (d1 e)).symm
/-- up and down are never both 0 -/
theorem ud_pos {g : Nat → Nat} (ok : okG g) {n : Nat} (hn : n < g 0) : 1 ≤ uF g 1 n ∨ 1 ≤ uF g 0 n := by
  have pq := PreQ_q ok
  have key : ∀ k, k ≤ 7 → ∀ n, n < g 0 → 8 - k ≤ qF g n → qF g n ≤ uF g 1 n ∨ qF g n ≤ uF g 0 n := by
    intro k
    induction k with
    | zero => intro _ n _ h; have := q_le7 ok n; omega
    | succ k ih =>
      intro hk n hn hL
      have ih := ih (by omega)
      rcases Nat.lt_or_ge (qF g n) (8 - k) with hlt | hge
      · -- the level 7 - k
        have eL : qF g n = 7 - k := by omega
        refine Classical.byContradiction fun bad => ?_
        have hp : PreQ g (fun n => @ite _ ((¬ (qF g n ≤ uF g 1 n ∨ qF g n ≤ uF g 0 n)) ∧ n < g 0 ∧ qF g n = 7 - k) (Classical.propDecidable _) (qF g n - 1) (qF g n)) := by
          refine ⟨fun n hn => ?_, fun t ht hs a b he hb => ?_⟩
          · show bas g n ≤ @ite _ _ (Classical.propDecidable _) _ _
            have hb := pq.1 n hn
            split
            · rename_i hc
              have hne : bas g n ≠ qF g n := fun e => hc.1 (by
                have hv := (ok.2.2.1 n hn).2
                have hu := fun s hs => (PreU_u ok s).1 n hn hs (by omega)
                rcases (show g (26 + n) = 0 ∨ g (26 + n) = 1 ∨ g (26 + n) = 2 by omega) with h | h | h
                · exact Or.inr (by rw [← e]; exact hu 0 (Or.inl h))
                · exact Or.inl (by rw [← e]; exact hu 1 (Or.inl h))
                · exact Or.inl (by rw [← e]; exact hu 1 (Or.inr h)))
              omega
            · exact hb
          · have hlt := edg_lt ok ht he
            have h3 := pq.2 t ht hs a b he hb
            show min _ (@ite _ _ (Classical.propDecidable _) _ _) ≤ @ite _ _ (Classical.propDecidable _) _ _
            have ha : (@ite _ ((¬ (qF g a ≤ uF g 1 a ∨ qF g a ≤ uF g 0 a)) ∧ a < g 0 ∧ qF g a = 7 - k) (Classical.propDecidable _) (qF g a - 1) (qF g a)) ≤ qF g a := by split <;> omega
            by_cases cb : (¬ (qF g b ≤ uF g 1 b ∨ qF g b ≤ uF g 0 b)) ∧ b < g 0 ∧ qF g b = 7 - k
            · rw [if_pos cb]
              by_cases ca : (¬ (qF g a ≤ uF g 1 a ∨ qF g a ≤ uF g 0 a)) ∧ a < g 0 ∧ qF g a = 7 - k
              · rw [if_pos ca]
                omega
              · rw [if_neg ca]
                refine Nat.le_of_not_lt fun c => ?_
                -- a carries
                have hq : qF g b ≤ min (g (90 + t) + 3) (qF g a) := by omega
                have hga : qF g a ≤ uF g 1 a ∨ qF g a ≤ uF g 0 a := by
                  rcases Nat.lt_or_ge (qF g a) (8 - k) with h | h
                  · exact Classical.byContradiction fun z => ca ⟨z, hlt.1, by omega⟩
                  · exact ih a hlt.1 h
                refine cb.1 ?_
                rcases hga with h | h
                · left
                  have := (PreU_u ok 1).2 t ht (by omega) a b he hb (by omega)
                  omega
                · right
                  have := (PreU_u ok 0).2 t ht (by omega) a b he hb (by omega)
                  omega
            · rw [if_neg cb]
              omega
        have h4 : qF g n ≤ @ite _ ((¬ (qF g n ≤ uF g 1 n ∨ qF g n ≤ uF g 0 n)) ∧ n < g 0 ∧ qF g n = 7 - k) (Classical.propDecidable _) (qF g n - 1) (qF g n) := q_le hp n
        rw [if_pos ⟨bad, hn, eL⟩] at h4
        omega
      · exact ih n hn hge
  have hb := (bas_le ok hn).1
  have hq := pq.1 n hn
  rcases key 7 (by omega) n hn (by omega) with h | h
  · left; omega
  · right; omega
end
section
/-! steady values, steps, settling, periods, faults; two circuits that agree where it matters -/
noncomputable def stv (g : Nat → Nat) (n : Nat) : Nat := if g (2 + n) = 0 then g (26 + n) else if uF g 0 n = 0 then 1 else if uF g 1 n = 0 then 0 else 2
noncomputable def stp (g : Nat → Nat) : Nat → Nat := fun j => if 26 ≤ j ∧ j < 26 + g 0 then stv g (j - 26) else g j
noncomputable def act (g : Nat → Nat) : Nat → Bool := fun n => decide (n < g 0) && !decide (stv g n = g (26 + n))
theorem stp_v {g : Nat → Nat} {n : Nat} (hn : n < g 0) : stp g (26 + n) = stv g n := by
  unfold stp
  rw [if_pos ⟨by omega, by omega⟩, show 26 + n - 26 = n by omega]
theorem stp_lo {g : Nat → Nat} {j : Nat} (h : j < 26) : stp g j = g j := if_neg (by omega)
theorem stp_hi {g : Nat → Nat} (ok : okG g) {j : Nat} (h : 50 ≤ j) : stp g j = g j := if_neg (by have := ok.1; omega)
theorem stv_le {g : Nat → Nat} (ok : okG g) {n : Nat} (hn : n < g 0) : stv g n ≤ 2 := by
  have := (ok.2.2.1 n hn).2
  unfold stv
  repeat' split
  all_goals omega
theorem stp_ok {g : Nat → Nat} (ok : okG g) : okG (stp g) := by
  have e0 : stp g 0 = g 0 := stp_lo (by omega)
  have e1 : stp g 1 = g 1 := stp_lo (by omega)
  refine ⟨by rw [e0]; exact ok.1, by rw [e1]; exact ok.2.1, fun n hn => ?_, fun t ht => ?_⟩
  · rw [e0] at hn
    rw [stp_lo (show 2 + n < 26 by have := ok.1; omega), stp_v hn]
    exact ⟨(ok.2.2.1 n hn).1, stv_le ok hn⟩
  · rw [e1] at ht
    rw [e0, stp_hi ok (show 50 ≤ 50 + t by omega), stp_hi ok (show 50 ≤ 90 + t by omega), stp_hi ok (show 50 ≤ 130 + t by omega), stp_hi ok (show 50 ≤ 170 + t by omega), stp_hi ok (show 50 ≤ 210 + t by omega), stp_hi ok (show 50 ≤ 250 + t by omega)]
    exact ok.2.2.2 t ht
theorem act_stp {g : Nat → Nat} (ok : okG g) (h : msk (act g) = 0) : stp g = g := by
  funext j
  unfold stp
  split
  · rename_i hj
    have h2 := msk_zero.mp h (j - 26) (by have := ok.1; omega)
    unfold act at h2
    rw [decide_eq_true (show j - 26 < g 0 by omega), Bool.true_and, show 26 + (j - 26) = j by omega] at h2
    simpa using h2
  · rfl
noncomputable def setA : Nat → Nat → (Nat → Nat) → Int32 × (Nat → Nat)
  | 0, k, g => (if msk (act g) = 0 then nI k else -7, g)
  | m + 1, k, g => if msk (act g) = 0 then (nI k, g) else setA m (k + 1) (stp g)
theorem setA_0 (k : Nat) (g : Nat → Nat) : setA 0 k g = (if msk (act g) = 0 then nI k else -7, g) := rfl
theorem setA_s (m k : Nat) (g : Nat → Nat) : setA (m + 1) k g = if msk (act g) = 0 then (nI k, g) else setA m (k + 1) (stp g) := rfl
theorem setA_stable {m k : Nat} {g : Nat → Nat} (h : msk (act g) = 0) : setA m k g = (nI k, g) := by
  cases m with
  | zero => rw [setA_0, if_pos h]
  | succ m => rw [setA_s, if_pos h]
theorem setA_ok : ∀ (m k : Nat) {g : Nat → Nat}, okG g → okG (setA m k g).2
  | 0, k, g, ok => ok
  | m + 1, k, g, ok => by
    rw [setA_s]
    split
    · exact ok
    · exact setA_ok m (k + 1) (stp_ok ok)
theorem setA_r : ∀ (m k : Nat) (g : Nat → Nat), (∃ j, j ≤ m ∧ (setA m k g).1 = nI (k + j)) ∨ (setA m k g).1 = -7
  | 0, k, g => by
    rw [setA_0]
    by_cases h : msk (act g) = 0
    · left; exact ⟨0, Nat.le_refl _, by rw [if_pos h]; rfl⟩
    · right; rw [if_neg h]
  | m + 1, k, g => by
    rw [setA_s]
    by_cases h : msk (act g) = 0
    · left; exact ⟨0, Nat.zero_le _, by rw [if_pos h]; rfl⟩
    · rw [if_neg h]
      rcases setA_r m (k + 1) (stp g) with ⟨j, h1, h2⟩ | h2
      · left; exact ⟨j + 1, by omega, by rw [h2]; congr 1; omega⟩
      · right; exact h2
def sameV (g h : Nat → Nat) : Bool := decide (∀ n, n < h 0 → g (26 + n) = h (26 + n))
noncomputable def perA : Nat → Nat → (Nat → Nat) → (Nat → Nat) → Int32
  | 0, _, _, _ => -8
  | m + 1, k, g, g0 => if sameV (stp g) g0 = true then nI k else perA m (k + 1) (stp g) g0
theorem perA_0 (k : Nat) (g g0 : Nat → Nat) : perA 0 k g g0 = -8 := rfl
theorem perA_s (m k : Nat) (g g0 : Nat → Nat) : perA (m + 1) k g g0 = if sameV (stp g) g0 = true then nI k else perA m (k + 1) (stp g) g0 := rfl
/-- the value at a node of a copy that has settled; 2 if it doesn't -/
noncomputable def svl (m n : Nat) (g : Nat → Nat) : Nat := if (setA m 0 g).1 = -7 then 2 else (setA m 0 g).2 (26 + n)
def opp (a b : Nat) : Bool := (decide (a = 0) && decide (b = 1)) || (decide (a = 1) && decide (b = 0))
noncomputable def det (g : Nat → Nat) (t f n m : Nat) : Bool := opp (svl m n g) (svl m n (up1 g (250 + t) f))
noncomputable def dct (g : Nat → Nat) (n m : Nat) : Nat → Nat
  | 0 => 0
  | k + 1 => dct g n m k + (if det g (k / 2) (k % 2 + 1) n m = true then 1 else 0)
theorem dct_le (g : Nat → Nat) (n m : Nat) : ∀ k, dct g n m k ≤ k
  | 0 => Nat.le_refl _
  | k + 1 => by
    have := dct_le g n m k
    rw [dct]
    split <;> omega
theorem dct_x {g : Nat → Nat} {n m : Nat} (h : svl m n g = 2) : ∀ k, dct g n m k = 0
  | 0 => rfl
  | k + 1 => by
    rw [dct, dct_x h k]
    have : det g (k / 2) (k % 2 + 1) n m = false := by unfold det; rw [h]; rfl
    rw [this]; rfl
/-- the same circuit, where it matters -/
def Rel (c g : Nat → Nat) : Prop := c 0 = g 0 ∧ c 1 = g 1 ∧ (∀ n, n < g 0 → c (2 + n) = g (2 + n) ∧ c (26 + n) = g (26 + n)) ∧ ∀ t, t < g 1 → c (50 + t) = g (50 + t) ∧ c (90 + t) = g (90 + t) ∧ c (130 + t) = g (130 + t) ∧ c (170 + t) = g (170 + t) ∧ c (210 + t) = g (210 + t) ∧ c (250 + t) = g (250 + t)
theorem Rel.rf (g : Nat → Nat) : Rel g g := ⟨rfl, rfl, fun _ _ => ⟨rfl, rfl⟩, fun _ _ => ⟨rfl, rfl, rfl, rfl, rfl, rfl⟩⟩
theorem Rel.sy {c g : Nat → Nat} (h : Rel c g) : Rel g c := ⟨h.1.symm, h.2.1.symm, fun n hn => by rw [h.1] at hn; exact ⟨(h.2.2.1 n hn).1.symm, (h.2.2.1 n hn).2.symm⟩, fun t ht => by
  rw [h.2.1] at ht
  obtain ⟨a, b, c, d, e, f⟩ := h.2.2.2 t ht
  exact ⟨a.symm, b.symm, c.symm, d.symm, e.symm, f.symm⟩⟩
theorem Rel.tr {a b c : Nat → Nat} (h : Rel a b) (k : Rel b c) : Rel a c := ⟨h.1.trans k.1, h.2.1.trans k.2.1, fun n hn => by
  have h1 := h.2.2.1 n (by rw [k.1]; exact hn)
  have h2 := k.2.2.1 n hn
  exact ⟨h1.1.trans h2.1, h1.2.trans h2.2⟩, fun t ht => by
  obtain ⟨a1, a2, a3, a4, a5, a6⟩ := h.2.2.2 t (by rw [k.2.1]; exact ht)
  obtain ⟨b1, b2, b3, b4, b5, b6⟩ := k.2.2.2 t ht
  exact ⟨a1.trans b1, a2.trans b2, a3.trans b3, a4.trans b4, a5.trans b5, a6.trans b6⟩⟩
theorem Rel.ok {c g : Nat → Nat} (h : Rel c g) (ok : okG g) : okG c := by
  refine ⟨by rw [h.1]; exact ok.1, by rw [h.2.1]; exact ok.2.1, fun n hn => ?_, fun t ht => ?_⟩
  · rw [h.1] at hn
    rw [(h.2.2.1 n hn).1, (h.2.2.1 n hn).2]
    exact ok.2.2.1 n hn
  · rw [h.2.1] at ht
    obtain ⟨a, b, c, d, e, f⟩ := h.2.2.2 t ht
    rw [a, b, c, d, e, f, h.1]
    exact ok.2.2.2 t ht
theorem Rel.sw {c g : Nat → Nat} (h : Rel c g) (ok : okG g) {t : Nat} (ht : t < g 1) : swS c t = swS g t := by
  obtain ⟨a, _, d, _, _, f⟩ := h.2.2.2 t ht
  have hv := (h.2.2.1 (g (130 + t)) (ok.2.2.2 t ht).2.2.2.1).2
  unfold swS
  rw [f, a, d, hv]
theorem Rel.edgE {c g : Nat → Nat} (h : Rel c g) {t : Nat} (ht : t < g 1) (a b : Nat) : edg c t a b ↔ edg g t a b := by
  obtain ⟨_, _, _, d, e, _⟩ := h.2.2.2 t ht
  unfold edg
  rw [d, e]
theorem Rel.basE {c g : Nat → Nat} (h : Rel c g) {n : Nat} (hn : n < g 0) : bas c n = bas g n := by
  unfold bas
  rw [(h.2.2.1 n hn).1]
theorem Rel.preQ1 {c g : Nat → Nat} (h : Rel c g) (ok : okG g) {f : Nat → Nat} (hp : PreQ g f) : PreQ c f := by
  refine ⟨fun n hn => ?_, fun t ht hs a b he hb => ?_⟩
  · rw [h.1] at hn
    rw [h.basE hn]
    exact hp.1 n hn
  · rw [h.2.1] at ht
    rw [h.sw ok ht] at hs
    have he := (h.edgE ht a b).mp he
    rw [(h.2.2.1 b (edg_lt ok ht he).2).1] at hb
    rw [(h.2.2.2 t ht).2.1]
    exact hp.2 t ht hs a b he hb
theorem Rel.q {c g : Nat → Nat} (h : Rel c g) (ok : okG g) : qF c = qF g := by
  unfold qF
  rw [show PreQ c = PreQ g from funext fun f => propext ⟨fun k => h.sy.preQ1 (h.ok ok) k, fun k => h.preQ1 ok k⟩]
theorem Rel.preU1 {c g : Nat → Nat} (h : Rel c g) (ok : okG g) {s : Nat} {q f : Nat → Nat} (hp : PreU g s q f) : PreU c s q f := by
  refine ⟨fun n hn hv hq => ?_, fun t ht hs a b he hb hq => ?_⟩
  · rw [h.1] at hn
    rw [h.basE hn] at hq ⊢
    rw [(h.2.2.1 n hn).2] at hv
    exact hp.1 n hn hv hq
  · rw [h.2.1] at ht
    rw [h.sw ok ht] at hs
    have he := (h.edgE ht a b).mp he
    rw [(h.2.2.1 b (edg_lt ok ht he).2).1] at hb
    rw [(h.2.2.2 t ht).2.1] at hq ⊢
    exact hp.2 t ht hs a b he hb hq
theorem Rel.u {c g : Nat → Nat} (h : Rel c g) (ok : okG g) (s : Nat) : uF c s = uF g s := by
  unfold uF
  rw [h.q ok, show PreU c s (qF g) = PreU g s (qF g) from funext fun f => propext ⟨fun k => h.sy.preU1 (h.ok ok) k, fun k => h.preU1 ok k⟩]
theorem Rel.stvE {c g : Nat → Nat} (h : Rel c g) (ok : okG g) {n : Nat} (hn : n < g 0) : stv c n = stv g n := by
  unfold stv
  rw [h.u ok, h.u ok, (h.2.2.1 n hn).1, (h.2.2.1 n hn).2]
theorem Rel.actE {c g : Nat → Nat} (h : Rel c g) (ok : okG g) : act c = act g := by
  funext n
  unfold act
  rw [h.1]
  by_cases hn : n < g 0
  · rw [h.stvE ok hn, (h.2.2.1 n hn).2]
  · rw [decide_eq_false hn]; rfl
theorem Rel.stpE {c g : Nat → Nat} (h : Rel c g) (ok : okG g) : Rel (stp c) (stp g) := by
  have okc := h.ok ok
  have e0 : stp g 0 = g 0 := stp_lo (by omega)
  have e1 : stp g 1 = g 1 := stp_lo (by omega)
  refine ⟨?_, ?_, fun n hn => ?_, fun t ht => ?_⟩
  · rw [e0, stp_lo (by omega)]; exact h.1
  · rw [e1, stp_lo (by omega)]; exact h.2.1
  · rw [e0] at hn
    have := ok.1
    rw [stp_lo (show 2 + n < 26 by omega), stp_lo (show 2 + n < 26 by omega), stp_v hn, stp_v (by rw [h.1]; exact hn)]
    exact ⟨(h.2.2.1 n hn).1, h.stvE ok hn⟩
  · rw [e1] at ht
    rw [stp_hi ok (show 50 ≤ 50 + t by omega), stp_hi ok (show 50 ≤ 90 + t by omega), stp_hi ok (show 50 ≤ 130 + t by omega), stp_hi ok (show 50 ≤ 170 + t by omega), stp_hi ok (show 50 ≤ 210 + t by omega), stp_hi ok (show 50 ≤ 250 + t by omega), stp_hi okc (show 50 ≤ 50 + t by omega), stp_hi okc (show 50 ≤ 90 + t by omega), stp_hi okc (show 50 ≤ 130 + t by omega), stp_hi okc (show 50 ≤ 170 + t by omega), stp_hi okc (show 50 ≤ 210 + t by omega), stp_hi okc (show 50 ≤ 250 + t by omega)]
    exact h.2.2.2 t ht
theorem Rel.setAE : ∀ (m k : Nat) {c g : Nat → Nat}, Rel c g → okG g → (setA m k c).1 = (setA m k g).1 ∧ Rel (setA m k c).2 (setA m k g).2
  | 0, k, c, g, h, ok => by rw [setA_0, setA_0, h.actE ok]; exact ⟨rfl, h⟩
  | m + 1, k, c, g, h, ok => by
    rw [setA_s, setA_s, h.actE ok]
    split
    · exact ⟨rfl, h⟩
    · exact Rel.setAE m (k + 1) (h.stpE ok) (stp_ok ok)
theorem Rel.same {c g c0 g0 : Nat → Nat} (h : Rel c g) (h0 : Rel c0 g0) (e : g 0 = g0 0) : sameV c c0 = sameV g g0 := by
  unfold sameV
  apply decide_eq_decide.mpr
  rw [h0.1]
  constructor
  · intro k n hn
    rw [← (h0.2.2.1 n hn).2, ← (h.2.2.1 n (by rw [e]; exact hn)).2]
    exact k n hn
  · intro k n hn
    rw [(h0.2.2.1 n hn).2, (h.2.2.1 n (by rw [e]; exact hn)).2]
    exact k n hn
theorem Rel.perAE : ∀ (m k : Nat) {c g c0 g0 : Nat → Nat}, Rel c g → okG g → Rel c0 g0 → g 0 = g0 0 → perA m k c c0 = perA m k g g0
  | 0, k, c, g, c0, g0, _, _, _, _ => rfl
  | m + 1, k, c, g, c0, g0, h, ok, h0, e => by
    have e2 : stp g 0 = g0 0 := by rw [stp_lo (by omega)]; exact e
    rw [perA_s, perA_s, (h.stpE ok).same h0 e2, Rel.perAE m (k + 1) (h.stpE ok) (stp_ok ok) h0 e2]
theorem Rel.svlE {c g : Nat → Nat} (h : Rel c g) (ok : okG g) (m n : Nat) (hn : n < g 0) : svl m n c = svl m n g := by
  have hs := Rel.setAE m 0 h ok
  have e0 : ∀ (m k : Nat) (g : Nat → Nat), (setA m k g).2 0 = g 0 := by
    intro m
    induction m with
    | zero => intro k g; rfl
    | succ m ih =>
      intro k g
      rw [setA_s]
      split
      · rfl
      · rw [ih, stp_lo (by omega)]
  unfold svl
  rw [hs.1, (hs.2.2.2.1 n (by rw [e0]; exact hn)).2]
theorem Rel.flt {c g : Nat → Nat} (h : Rel c g) {t f : Nat} (ht : t < g 1) (k1 : g 1 ≤ 40) (k0 : g 0 ≤ 24) : Rel (up1 c (250 + t) f) (up1 g (250 + t) f) := by
  have e1 : up1 g (250 + t) f 1 = g 1 := up1_n (by omega)
  have e0 : up1 g (250 + t) f 0 = g 0 := up1_n (by omega)
  refine ⟨?_, ?_, fun n hn => ?_, fun u hu => ?_⟩
  · rw [up1_n (by omega), up1_n (by omega)]; exact h.1
  · rw [up1_n (by omega), up1_n (by omega)]; exact h.2.1
  · rw [e0] at hn
    rw [up1_n (by omega), up1_n (by omega), up1_n (by omega), up1_n (by omega)]; exact h.2.2.1 n hn
  · rw [e1] at hu
    obtain ⟨a, b, c, d, e, f⟩ := h.2.2.2 u hu
    rw [up1_n (show 50 + u ≠ 250 + t by omega), up1_n (show 90 + u ≠ 250 + t by omega), up1_n (show 130 + u ≠ 250 + t by omega), up1_n (show 170 + u ≠ 250 + t by omega), up1_n (show 210 + u ≠ 250 + t by omega), up1_n (show 50 + u ≠ 250 + t by omega), up1_n (show 90 + u ≠ 250 + t by omega), up1_n (show 130 + u ≠ 250 + t by omega), up1_n (show 170 + u ≠ 250 + t by omega), up1_n (show 210 + u ≠ 250 + t by omega)]
    refine ⟨a, b, c, d, e, ?_⟩
    by_cases z : u = t
    · subst z; rw [up1_s, up1_s]
    · rw [up1_n (by omega), up1_n (by omega)]; exact f
theorem okG_flt {g : Nat → Nat} (ok : okG g) {t f : Nat} (hf : f ≤ 2) (ht : t < 40) : okG (up1 g (250 + t) f) := by
  have k1 := ok.2.1
  have k0 := ok.1
  have e1 : up1 g (250 + t) f 1 = g 1 := up1_n (by omega)
  have e0 : up1 g (250 + t) f 0 = g 0 := up1_n (by omega)
  refine ⟨by rw [e0]; exact k0, by rw [e1]; exact k1, fun n hn => ?_, fun u hu => ?_⟩
  · rw [e0] at hn
    rw [up1_n (by omega), up1_n (by omega)]; exact ok.2.2.1 n hn
  · rw [e1] at hu
    rw [e0, up1_n (show 50 + u ≠ 250 + t by omega), up1_n (show 90 + u ≠ 250 + t by omega), up1_n (show 130 + u ≠ 250 + t by omega), up1_n (show 170 + u ≠ 250 + t by omega), up1_n (show 210 + u ≠ 250 + t by omega)]
    have h := ok.2.2.2 u hu
    refine ⟨h.1, h.2.1, h.2.2.1, h.2.2.2.1, h.2.2.2.2.1, h.2.2.2.2.2.1, h.2.2.2.2.2.2.1, ?_⟩
    by_cases z : u = t
    · subst z; rw [up1_s]; exact hf
    · rw [up1_n (by omega)]; exact h.2.2.2.2.2.2.2
theorem Rel.detE {c g : Nat → Nat} (h : Rel c g) (ok : okG g) {t f n m : Nat} (ht : t < g 1) (hf : f ≤ 2) (hn : n < g 0) : det c t f n m = det g t f n m := by
  unfold det
  have k1 := ok.2.1
  rw [h.svlE ok m n hn, (h.flt ht k1 ok.1).svlE (okG_flt ok hf (by omega)) m n (by rw [up1_n (by omega)]; exact hn)]
theorem Rel.dctE {c g : Nat → Nat} (h : Rel c g) (ok : okG g) {n m : Nat} (hn : n < g 0) : ∀ k, k ≤ 2 * g 1 → dct c n m k = dct g n m k
  | 0, _ => rfl
  | k + 1, hk => by
    rw [dct, dct, Rel.dctE h ok hn k (by omega), h.detE ok (show k / 2 < g 1 by omega) (show k % 2 + 1 ≤ 2 by omega) hn]
end
