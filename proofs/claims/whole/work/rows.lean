section
/-! sets of nodes as ints: bits (begun with the kit's rows to paste), masks out of predicates -/
def bt (x : Int32) (i : Nat) : Bool := x.toBitVec.getLsbD i
theorem b_ext {x y : Int32} (h : ∀ i, i < 32 → bt x i = bt y i) : x = y := Int32.toBitVec_inj.mp (BitVec.eq_of_getLsbD_eq (fun i hi => h i hi))
theorem b_or (x y : Int32) (i : Nat) : bt (x ||| y) i = (bt x i || bt y i) := by unfold bt; rw [Int32.toBitVec_or, BitVec.getLsbD_or]
theorem b_and (x y : Int32) (i : Nat) : bt (x &&& y) i = (bt x i && bt y i) := by unfold bt; rw [Int32.toBitVec_and, BitVec.getLsbD_and]
theorem b_xor (x y : Int32) (i : Nat) : bt (x ^^^ y) i = (bt x i ^^ bt y i) := by unfold bt; rw [Int32.toBitVec_xor, BitVec.getLsbD_xor]
theorem b_m1 : ∀ i, i < 32 → bt (-1) i = true := by decide +kernel
theorem b_0 (i : Nat) : bt 0 i = false := BitVec.getLsbD_zero
theorem b_1 : ∀ i, i < 32 → bt 1 i = decide (i = 0) := by decide +kernel
theorem s_l : ∀ n, n < 32 → ((nI n &&& 31).toBitVec.smod 32).toNat = n := by decide +kernel
theorem b_shl (n : Nat) (hn : n < 32) (x : Int32) {i : Nat} (hi : i < 32) : bt (x <<< (nI n &&& 31)) i = (decide (n ≤ i) && bt x (i - n)) := by
  unfold bt
  rw [Int32.toBitVec_shiftLeft]
  show (x.toBitVec <<< ((nI n &&& 31).toBitVec.smod 32).toNat).getLsbD i = _
  rw [s_l n hn, BitVec.getLsbD_shiftLeft]
  rcases Nat.lt_or_ge i n with h | h
  · simp [h, Nat.not_le.mpr h]
  · simp [hi, h, Nat.not_lt.mpr h]
theorem b_sshr (n : Nat) (hn : n < 32) (x : Int32) {i : Nat} (hi : i < 32) : bt (x >>> (nI n &&& 31)) i = if n + i < 32 then bt x (n + i) else bt x 31 := by
  unfold bt
  rw [Int32.toBitVec_shiftRight]
  show (x.toBitVec.sshiftRight ((nI n &&& 31).toBitVec.smod 32).toNat).getLsbD i = _
  rw [s_l n hn, BitVec.getLsbD_sshiftRight, BitVec.msb_eq_getLsbD_last]
  simp [hi]
theorem b_bit (k : Nat) (hk : k < 32) {i : Nat} (hi : i < 32) : bt ((1 : Int32) <<< (nI k &&& 31)) i = decide (i = k) := by
  rw [b_shl k hk 1 hi]
  by_cases h : k ≤ i
  · rw [b_1 (i - k) (by omega)]
    by_cases e : i = k
    · subst e; simp
    · rw [decide_eq_false (show ¬ i - k = 0 by omega), decide_eq_false e]; simp
  · rw [decide_eq_false h, decide_eq_false (show ¬ i = k by omega)]; rfl
/-- a Boolean as the machine has it -/
def bI (b : Bool) : Int32 := if b then 1 else 0
theorem bI_t : bI true = 1 := rfl
theorem bI_f : bI false = 0 := rfl
theorem bI_0 {b : Bool} : bI b = 0 ↔ b = false := by cases b <;> decide
theorem bI_n0 {b : Bool} : ¬ bI b = 0 ↔ b = true := by cases b <;> decide
/-- the set of the i below n with p i -/
def mk (p : Nat → Bool) : Nat → Int32
  | 0 => 0
  | n + 1 => mk p n ||| (if p n then (1 : Int32) <<< (nI n &&& 31) else 0)
theorem b_mk (p : Nat → Bool) : ∀ n, n ≤ 32 → ∀ i, i < 32 → bt (mk p n) i = (decide (i < n) && p i)
  | 0, _, i, _ => by rw [mk, b_0]; simp
  | n + 1, h, i, hi => by
    rw [mk, b_or, b_mk p n (by omega) i hi]
    by_cases e : i = n
    · subst e
      cases hp : p i
      · simp [b_0]
      · simp [b_bit i hi hi]
    · have h2 : bt (if p n = true then (1 : Int32) <<< (nI n &&& 31) else 0) i = false := by
        cases hp : p n
        · simp [b_0]
        · simp [b_bit n (by omega) hi, e]
      rw [h2, Bool.or_false]
      congr 1
      by_cases g : i < n
      · rw [decide_eq_true g, decide_eq_true (show i < n + 1 by omega)]
      · rw [decide_eq_false g, decide_eq_false (show ¬ i < n + 1 by omega)]
def msk (p : Nat → Bool) : Int32 := mk p 24
theorem b_msk (p : Nat → Bool) (i : Nat) (hi : i < 32) : bt (msk p) i = (decide (i < 24) && p i) := b_mk p 24 (by omega) i hi
theorem b_mskL (p : Nat → Bool) (i : Nat) (hi : i < 24) : bt (msk p) i = p i := by rw [b_msk p i (by omega), decide_eq_true hi, Bool.true_and]
theorem msk_cong {p q : Nat → Bool} (h : ∀ i, i < 24 → p i = q i) : msk p = msk q := b_ext fun i hi => by
  rw [b_msk p i hi, b_msk q i hi]
  by_cases g : i < 24
  · rw [h i g]
  · rw [decide_eq_false g]; rfl
theorem msk_inj {p q : Nat → Bool} (h : msk p = msk q) : ∀ i, i < 24 → p i = q i := fun i hi => by rw [← b_mskL p i hi, h, b_mskL q i hi]
theorem mk_msk (p : Nat → Bool) (n : Nat) (hn : n ≤ 24) : mk p n = msk (fun i => decide (i < n) && p i) := b_ext fun i hi => by
  rw [b_mk p n (by omega) i hi, b_msk _ i hi]
  by_cases g : i < 24
  · rw [decide_eq_true g]; simp
  · rw [decide_eq_false g, decide_eq_false (show ¬ i < n by omega)]; rfl
theorem msk_or (p q : Nat → Bool) : msk p ||| msk q = msk (fun i => p i || q i) := b_ext fun i hi => by
  rw [b_or, b_msk p i hi, b_msk q i hi, b_msk _ i hi]
  cases decide (i < 24) <;> simp
theorem msk_and (p q : Nat → Bool) : msk p &&& msk q = msk (fun i => p i && q i) := b_ext fun i hi => by
  rw [b_and, b_msk p i hi, b_msk q i hi, b_msk _ i hi]
  cases decide (i < 24) <;> simp
theorem msk_xor (p q : Nat → Bool) : msk p ^^^ msk q = msk (fun i => p i ^^ q i) := b_ext fun i hi => by
  rw [b_xor, b_msk p i hi, b_msk q i hi, b_msk _ i hi]
  cases decide (i < 24) <;> simp
theorem msk_andnot (p q : Nat → Bool) : msk p &&& (msk q ^^^ (-1)) = msk (fun i => p i && !q i) := b_ext fun i hi => by
  rw [b_and, b_xor, b_m1 i hi, b_msk p i hi, b_msk q i hi, b_msk _ i hi]
  cases decide (i < 24) <;> simp
theorem msk_bit (k : Nat) (hk : k < 24) : (1 : Int32) <<< (nI k &&& 31) = msk (fun i => decide (i = k)) := b_ext fun i hi => by
  rw [b_bit k (by omega) hi, b_msk _ i hi]
  by_cases e : i = k
  · subst e; simp [hk]
  · simp [e]
theorem msk_none : msk (fun _ => false) = 0 := by decide +kernel
theorem msk_zero {p : Nat → Bool} : msk p = 0 ↔ ∀ i, i < 24 → p i = false := by
  rw [← msk_none]
  exact ⟨fun h i hi => msk_inj h i hi, fun h => msk_cong h⟩
theorem msk_at (p : Nat → Bool) (k : Nat) (hk : k < 24) : (msk p &&& ((1 : Int32) <<< (nI k &&& 31))) = 0 ↔ p k = false := by
  rw [msk_bit k hk, msk_and, msk_zero]
  constructor
  · intro h
    have := h k hk
    simpa using this
  · intro h i _
    by_cases e : i = k
    · subst e; simp [h]
    · simp [e]
theorem msk_shr (p : Nat → Bool) (k : Nat) (hk : k < 24) : (msk p >>> (nI k &&& 31)) &&& 1 = bI (p k) := b_ext fun i hi => by
  rw [b_and, b_sshr k (by omega) _ hi, b_1 i hi]
  by_cases e : i = 0
  · subst e
    rw [if_pos (by omega), Nat.add_zero, b_mskL p k hk]
    cases p k <;> decide
  · rw [decide_eq_false e, Bool.and_false]
    cases p k
    · exact (b_0 i).symm
    · rw [bI_t, b_1 i hi, decide_eq_false e]
theorem bI_or (a b : Bool) : bI a ||| bI b = bI (a || b) := by cases a <;> cases b <;> decide
theorem bI_xor (a b : Bool) : bI a ^^^ bI b = bI (a ^^ b) := by cases a <;> cases b <;> decide
theorem bI_nI (b : Bool) : bI b = nI (if b then 1 else 0) := by cases b <;> decide
/-- the lowest one of a set: what stands without it, what stands below it -/
theorem low_sub {p : Nat → Bool} {k : Nat} (hk : k < 24) (h : p k = true) (hl : ∀ i, i < k → p i = false) : msk p - 1 = msk (fun i => (p i && !decide (i = k)) || decide (i < k)) := by
  have e1 : ∀ k, k < 24 → (1 : Int32) <<< (nI k &&& 31) - 1 = msk (fun i => decide (i < k)) := by decide +kernel
  have e2 : msk p = msk (fun i => p i && !decide (i = k)) + (1 : Int32) <<< (nI k &&& 31) := by
    have h0 : msk (fun i => p i && !decide (i = k)) &&& msk (fun i => decide (i = k)) = 0 := by
      rw [msk_and, msk_zero]
      intro i _
      cases p i <;> simp
    rw [msk_bit k hk]
    have h1 : msk (fun i => p i && !decide (i = k)) + msk (fun i => decide (i = k)) = msk (fun i => p i && !decide (i = k)) ||| msk (fun i => decide (i = k)) := by
      apply Int32.toBitVec_inj.mp
      rw [Int32.toBitVec_add, Int32.toBitVec_or]
      apply BitVec.add_eq_or_of_and_eq_zero
      rw [← Int32.toBitVec_and, h0]
      rfl
    rw [h1, msk_or]
    apply msk_cong
    intro i _
    by_cases e : i = k
    · subst e; simp [h]
    · simp [e]
  have h3 : msk (fun i => p i && !decide (i = k)) &&& msk (fun i => decide (i < k)) = 0 := by
    rw [msk_and, msk_zero]
    intro i _
    by_cases e : i < k
    · simp [hl i e]
    · simp [e]
  rw [e2, show msk (fun i => p i && !decide (i = k)) + (1 : Int32) <<< (nI k &&& 31) - 1 = msk (fun i => p i && !decide (i = k)) + ((1 : Int32) <<< (nI k &&& 31) - 1) from by rw [Int32.sub_eq_add_neg, Int32.sub_eq_add_neg, Int32.add_assoc], e1 k hk, ← msk_or]
  apply Int32.toBitVec_inj.mp
  rw [Int32.toBitVec_add, Int32.toBitVec_or]
  apply BitVec.add_eq_or_of_and_eq_zero
  rw [← Int32.toBitVec_and, h3]
  rfl
theorem low_out {p : Nat → Bool} {k : Nat} (hk : k < 24) (h : p k = true) (hl : ∀ i, i < k → p i = false) : msk p &&& (msk p - 1) = msk (fun i => p i && !decide (i = k)) := by
  rw [low_sub hk h hl, msk_and]
  apply msk_cong
  intro i _
  by_cases e : i < k
  · simp [hl i e]
  · simp [e]
theorem low_below {p : Nat → Bool} {k : Nat} (hk : k < 24) (h : p k = true) (hl : ∀ i, i < k → p i = false) : (msk p ^^^ (-1)) &&& (msk p - 1) = msk (fun i => decide (i < k)) := by
  rw [low_sub hk h hl, show ∀ a b : Int32, a &&& b = b &&& a from fun a b => Int32.and_comm a b, msk_andnot]
  apply msk_cong
  intro i _
  by_cases e : i < k
  · simp [hl i e, e]
  · cases p i <;> simp [e]
theorem first_of (p : Nat → Bool) : ∀ n, (∀ i, i < n → p i = false) ∨ ∃ k, k < n ∧ p k = true ∧ ∀ i, i < k → p i = false
  | 0 => Or.inl fun _ h => absurd h (Nat.not_lt_zero _)
  | n + 1 => by
    rcases first_of p n with h | ⟨k, h1, h2, h3⟩
    · cases hp : p n
      · refine Or.inl fun i hi => ?_
        rcases Nat.lt_or_ge i n with g | g
        · exact h i g
        · rw [show i = n by omega]; exact hp
      · exact Or.inr ⟨n, by omega, hp, h⟩
    · exact Or.inr ⟨k, by omega, h2, h3⟩
/-- Integer.numberOfTrailingZeros, behind its first row -/
def ntz4 (n i : Int32) : Int32 := n + (i.toUInt32 >>> ((1 : Int32).toUInt32 &&& Int32.toUInt32 31)).toInt32
def ntz3 (n i : Int32) : Int32 := if i ≤ 4 then ntz4 n i else ntz4 (n + 2) (i.toUInt32 >>> ((2 : Int32).toUInt32 &&& Int32.toUInt32 31)).toInt32
def ntz2 (n i : Int32) : Int32 := if i ≤ 16 then ntz3 n i else ntz3 (n + 4) (i.toUInt32 >>> ((4 : Int32).toUInt32 &&& Int32.toUInt32 31)).toInt32
def ntz1 (n i : Int32) : Int32 := if i ≤ 256 then ntz2 n i else ntz2 (n + 8) (i.toUInt32 >>> ((8 : Int32).toUInt32 &&& Int32.toUInt32 31)).toInt32
def ntz0 (n i : Int32) : Int32 := if i ≤ 65536 then ntz1 n i else ntz1 (n + 16) (i.toUInt32 >>> ((16 : Int32).toUInt32 &&& Int32.toUInt32 31)).toInt32
def ntzG (i : Int32) : Int32 := if i ≤ 0 then i &&& 32 else ntz0 1 i
def ntzF (x : Int32) : Int32 := ntzG ((x ^^^ (-1)) &&& (x - 1))
theorem ntz_low {p : Nat → Bool} {k : Nat} (hk : k < 24) (h : p k = true) (hl : ∀ i, i < k → p i = false) : ntzF (msk p) = nI k := by
  have e : ∀ k, k < 24 → ntzG (msk (fun i => decide (i < k))) = nI k := by decide +kernel
  rw [ntzF, low_below hk h hl, e k hk]
theorem ntz_none : ntzF 0 = nI 32 := by decide +kernel
/-- Integer.bitCount -/
def ush (x : Int32) (k : Int32) : Int32 := (x.toUInt32 >>> (k.toUInt32 &&& Int32.toUInt32 31)).toInt32
def bcF (x : Int32) : Int32 :=
  let a := x - (ush x 1 &&& 1431655765)
  let b := (a &&& 858993459) + (ush a 2 &&& 858993459)
  let c := (b + ush b 4) &&& 252645135
  let d := c + ush c 8
  let e := d + ush d 16
  e &&& 63
end
section
/-! what a circuit is (the 290 numbers of the reference's row), its strengths as least solutions, its steps -/
def nA (g : Nat → Nat) : Nat → Int32 := fun j => nI (g j)
def up1 (g : Nat → Nat) (k x : Nat) : Nat → Nat := fun j => if j = k then x else g j
theorem up1_s {g : Nat → Nat} {k x : Nat} : up1 g k x k = x := if_pos rfl
theorem up1_n {g : Nat → Nat} {k x j : Nat} (h : j ≠ k) : up1 g k x j = g j := if_neg h
theorem nA_up (g : Nat → Nat) (k x : Nat) : upd (nA g) k (nI x) = nA (up1 g k x) := by
  funext j
  by_cases h : j = k
  · subst h; simp [upd, nA, up1]
  · simp [upd, nA, up1, h]
/-- a circuit whose numbers are in range -/
def okG (g : Nat → Nat) : Prop := g 0 ≤ 24 ∧ g 1 ≤ 40 ∧ (∀ n, n < g 0 → g (2 + n) ≤ 3 ∧ g (26 + n) ≤ 2) ∧ ∀ t, t < g 1 → g (50 + t) ≤ 2 ∧ 1 ≤ g (90 + t) ∧ g (90 + t) ≤ 3 ∧ g (130 + t) < g 0 ∧ g (170 + t) < g 0 ∧ g (210 + t) < g 0 ∧ g (170 + t) ≠ g (210 + t) ∧ g (250 + t) ≤ 2
/-- a switch's state -/
def swS (g : Nat → Nat) (t : Nat) : Nat := if g (250 + t) ≠ 0 then (if g (250 + t) = 1 then 0 else 1) else if g (50 + t) = 2 then 1 else if g (26 + g (130 + t)) = 2 then 2 else if decide (g (26 + g (130 + t)) = 1) = decide (g (50 + t) = 0) then 1 else 0
theorem swS_le (g : Nat → Nat) (t : Nat) : swS g t ≤ 2 := by
  unfold swS
  repeat' split
  all_goals omega
/-- the two ways through a transistor -/
def edg (g : Nat → Nat) (t a b : Nat) : Prop := (a = g (170 + t) ∧ b = g (210 + t)) ∨ (a = g (210 + t) ∧ b = g (170 + t))
def bas (g : Nat → Nat) (n : Nat) : Nat := if g (2 + n) = 0 then 7 else g (2 + n)
def PreQ (g h : Nat → Nat) : Prop := (∀ n, n < g 0 → bas g n ≤ h n) ∧ ∀ t, t < g 1 → swS g t = 1 → ∀ a b, edg g t a b → g (2 + b) ≠ 0 → min (g (90 + t) + 3) (h a) ≤ h b
def PreU (g : Nat → Nat) (s : Nat) (q h : Nat → Nat) : Prop := (∀ n, n < g 0 → (g (26 + n) = s ∨ g (26 + n) = 2) → q n ≤ bas g n → bas g n ≤ h n) ∧ ∀ t, t < g 1 → swS g t ≠ 0 → ∀ a b, edg g t a b → g (2 + b) ≠ 0 → q b ≤ min (g (90 + t) + 3) (h a) → min (g (90 + t) + 3) (h a) ≤ h b
/-- the least of all that P allows, place by place -/
noncomputable def low (P : (Nat → Nat) → Prop) (n : Nat) : Nat := Classical.epsilon (fun v => (∃ h, P h ∧ h n = v) ∧ ∀ w, (∃ h, P h ∧ h n = w) → v ≤ w)
theorem low_spec {P : (Nat → Nat) → Prop} {h : Nat → Nat} (hP : P h) (n : Nat) : (∃ h, P h ∧ h n = low P n) ∧ ∀ w, (∃ h, P h ∧ h n = w) → low P n ≤ w := by
  apply Classical.epsilon_spec (p := fun v => (∃ h, P h ∧ h n = v) ∧ ∀ w, (∃ h, P h ∧ h n = w) → v ≤ w)
  obtain ⟨k, h1, h2⟩ := pk_least (fun v => ∃ h, P h ∧ h n = v) ⟨h n, h, hP, rfl⟩
  exact ⟨k, h1, fun w hw => Nat.not_lt.mp fun c => h2 w c hw⟩
theorem low_le {P : (Nat → Nat) → Prop} {h : Nat → Nat} (hP : P h) (n : Nat) : low P n ≤ h n := (low_spec hP n).2 _ ⟨h, hP, rfl⟩
theorem low_at {P : (Nat → Nat) → Prop} {h : Nat → Nat} (hP : P h) (n : Nat) : ∃ h, P h ∧ h n = low P n := (low_spec hP n).1
noncomputable def qF (g : Nat → Nat) : Nat → Nat := low (PreQ g)
noncomputable def uF (g : Nat → Nat) (s : Nat) : Nat → Nat := low (PreU g s (qF g))
theorem bas_le {g : Nat → Nat} (ok : okG g) {n : Nat} (hn : n < g 0) : 1 ≤ bas g n ∧ bas g n ≤ 7 ∧ (g (2 + n) ≠ 0 → bas g n = g (2 + n) ∧ bas g n ≤ 3) ∧ (g (2 + n) = 0 → bas g n = 7) := by
  have := (ok.2.2.1 n hn).1
  unfold bas
  split <;> omega
theorem PreQ_7 {g : Nat → Nat} (ok : okG g) : PreQ g (fun _ => 7) := ⟨fun n hn => (bas_le ok hn).2.1, fun t _ _ a b _ _ => Nat.min_le_right _ _⟩
theorem PreU_7 {g : Nat → Nat} (ok : okG g) (s : Nat) (q : Nat → Nat) : PreU g s q (fun _ => 7) := ⟨fun n hn _ _ => (bas_le ok hn).2.1, fun t _ _ a b _ _ _ => Nat.min_le_right _ _⟩
theorem PreQ_q {g : Nat → Nat} (ok : okG g) : PreQ g (qF g) := by
  refine ⟨fun n hn => ?_, fun t ht hs a b he hb => ?_⟩
  · obtain ⟨h, hp, e⟩ := low_at (PreQ_7 ok) n
    show _ ≤ low (PreQ g) n
    rw [← e]
    exact hp.1 n hn
  · obtain ⟨h, hp, e⟩ := low_at (PreQ_7 ok) b
    have h1 : qF g a ≤ h a := low_le hp a
    have h2 := hp.2 t ht hs a b he hb
    have h3 : qF g b = h b := e.symm
    omega
theorem PreU_u {g : Nat → Nat} (ok : okG g) (s : Nat) : PreU g s (qF g) (uF g s) := by
  refine ⟨fun n hn hv hq => ?_, fun t ht hs a b he hb hq => ?_⟩
  · obtain ⟨h, hp, e⟩ := low_at (PreU_7 ok s (qF g)) n
    have h3 : uF g s n = h n := e.symm
    rw [h3]
    exact hp.1 n hn hv hq
  · obtain ⟨h, hp, e⟩ := low_at (PreU_7 ok s (qF g)) b
    have h1 : uF g s a ≤ h a := low_le hp a
    have h2 := hp.2 t ht hs a b he hb (by omega)
    have h3 : uF g s b = h b := e.symm
    omega
theorem q_le {g h : Nat → Nat} (hp : PreQ g h) (n : Nat) : qF g n ≤ h n := low_le hp n
theorem u_le {g h : Nat → Nat} {s : Nat} (hp : PreU g s (qF g) h) (n : Nat) : uF g s n ≤ h n := low_le hp n
theorem q_le7 {g : Nat → Nat} (ok : okG g) (n : Nat) : qF g n ≤ 7 := q_le (PreQ_7 ok) n
theorem u_le7 {g : Nat → Nat} (ok : okG g) (s n : Nat) : uF g s n ≤ 7 := u_le (PreU_7 ok s _) n
theorem edg_lt {g : Nat → Nat} (ok : okG g) {t a b : Nat} (ht : t < g 1) (he : edg g t a b) : a < g 0 ∧ b < g 0 := by
  obtain ⟨-, -, -, h⟩ := ok
  have := h t ht
  rcases he with ⟨rfl, rfl⟩ | ⟨rfl, rfl⟩ <;> omega
/-- the seventh level -/
theorem q_top {g : Nat → Nat} (ok : okG g) {n : Nat} (hn : n < g 0) : 7 ≤ qF g n ↔ g (2 + n) = 0 := by
  constructor
  · intro h
    have hp : PreQ g (fun n => if g (2 + n) = 0 then 7 else 6) := by
      refine ⟨fun n hn => ?_, fun t ht _ a b _ hb => ?_⟩
      · have := bas_le ok hn
        show bas g n ≤ if g (2 + n) = 0 then 7 else 6
        split <;> omega
      · have h9 := ok.2.2.2 t ht
        show min _ _ ≤ if g (2 + b) = 0 then 7 else 6
        rw [if_neg hb]
        exact Nat.le_trans (Nat.min_le_left _ _) (by omega)
    have h2 := q_le hp n
    by_cases e : g (2 + n) = 0
    · exact e
    · have h3 : qF g n ≤ if g (2 + n) = 0 then 7 else 6 := h2
      rw [if_neg e] at h3
      omega
  · intro h
    have := (PreQ_q ok).1 n hn
    rw [(bas_le ok hn).2.2.2 h] at this
    exact this
theorem u_top {g : Nat → Nat} (ok : okG g) (s : Nat) {n : Nat} (hn : n < g 0) : 7 ≤ uF g s n ↔ (g (2 + n) = 0 ∧ (g (26 + n) = s ∨ g (26 + n) = 2)) := by
  constructor
  · intro h
    have hp : PreU g s (qF g) (fun n => if g (2 + n) = 0 then (if g (26 + n) = s ∨ g (26 + n) = 2 then 7 else 0) else 6) := by
      refine ⟨fun n hn hv _ => ?_, fun t ht _ a b _ hb _ => ?_⟩
      · have := bas_le ok hn
        show bas g n ≤ if g (2 + n) = 0 then (if g (26 + n) = s ∨ g (26 + n) = 2 then 7 else 0) else 6
        rw [if_pos hv]
        split <;> omega
      · have h9 := ok.2.2.2 t ht
        show min _ _ ≤ if g (2 + b) = 0 then (if g (26 + b) = s ∨ g (26 + b) = 2 then 7 else 0) else 6
        rw [if_neg hb]
        exact Nat.le_trans (Nat.min_le_left _ _) (by omega)
    have h2 : uF g s n ≤ if g (2 + n) = 0 then (if g (26 + n) = s ∨ g (26 + n) = 2 then 7 else 0) else 6 := u_le hp n
    by_cases e : g (2 + n) = 0
    · rw [if_pos e] at h2
      by_cases e2 : g (26 + n) = s ∨ g (26 + n) = 2
      · exact ⟨e, e2⟩
      · rw [if_neg e2] at h2; omega
    · rw [if_neg e] at h2; omega
  · intro h
    have hb := (bas_le ok hn).2.2.2 h.1
    have := (PreU_u ok s).1 n hn h.2 (by rw [hb]; exact q_le7 ok n)
    rw [hb] at this
    exact this
/-- an input that doesn't carry has the strength 0 -/
theorem u_inp {g : Nat → Nat} (ok : okG g) (s : Nat) {n : Nat} (hi : g (2 + n) = 0) (hv : ¬ (g (26 + n) = s ∨ g (26 + n) = 2)) : uF g s n = 0 := by
  have hp : PreU g s (qF g) (fun n => if g (2 + n) = 0 then (if g (26 + n) = s ∨ g (26 + n) = 2 then 7 else 0) else 6) := by
    refine ⟨fun n hn hv _ => ?_, fun t ht _ a b _ hb _ => ?_⟩
    · have := bas_le ok hn
      show bas g n ≤ if g (2 + n) = 0 then (if g (26 + n) = s ∨ g (26 + n) = 2 then 7 else 0) else 6
      rw [if_pos hv]
      split <;> omega
    · have h9 := ok.2.2.2 t ht
      show min _ _ ≤ if g (2 + b) = 0 then (if g (26 + b) = s ∨ g (26 + b) = 2 then 7 else 0) else 6
      rw [if_neg hb]
      exact Nat.le_trans (Nat.min_le_left _ _) (by omega)
  have h2 : uF g s n ≤ if g (2 + n) = 0 then (if g (26 + n) = s ∨ g (26 + n) = 2 then 7 else 0) else 6 := u_le hp n
  rw [if_pos hi, if_neg hv] at h2
  omega
/-- a level below: the least set that holds the stronger level and the sources, and is closed -/
theorem q_level {g : Nat → Nat} (ok : okG g) {lv : Nat} (h1 : 1 ≤ lv) (h6 : lv ≤ 6) {R : Nat → Bool}
    (hsrc : ∀ n, n < g 0 → (lv + 1 ≤ qF g n ∨ (g (2 + n) ≠ 0 ∧ lv ≤ g (2 + n))) → R n = true)
    (hcl : ∀ a b t, R a = true → t < g 1 → swS g t = 1 → edg g t a b → lv ≤ g (90 + t) + 3 → g (2 + b) ≠ 0 → R b = true)
    (hmin : ∀ T : Nat → Bool, (∀ n, n < g 0 → (lv + 1 ≤ qF g n ∨ (g (2 + n) ≠ 0 ∧ lv ≤ g (2 + n))) → T n = true) → (∀ a b t, T a = true → t < g 1 → swS g t = 1 → edg g t a b → lv ≤ g (90 + t) + 3 → g (2 + b) ≠ 0 → T b = true) → ∀ n, n < g 0 → R n = true → T n = true)
    {n : Nat} (hn : n < g 0) : R n = decide (lv ≤ qF g n) := by
  have pq := PreQ_q ok
  have d1 : R n = true → lv ≤ qF g n := by
    intro h
    have := hmin (fun n => decide (lv ≤ qF g n)) (fun n hn h => decide_eq_true (by
      rcases h with h | ⟨h, h'⟩
      · omega
      · have := pq.1 n hn
        rw [((bas_le ok hn).2.2.1 h).1] at this
        omega)) (fun a b t ha ht hs he hl hb => decide_eq_true (by
      have := pq.2 t ht hs a b he hb
      have ha' := of_decide_eq_true ha
      omega)) n hn h
    exact of_decide_eq_true this
  have d2 : lv ≤ qF g n → R n = true := by
    intro h
    have hp : PreQ g (fun n => if R n = true then qF g n else min (qF g n) (lv - 1)) := by
      refine ⟨fun n hn => ?_, fun t ht hs a b he hb => ?_⟩
      · show bas g n ≤ if R n = true then qF g n else min (qF g n) (lv - 1)
        have hb := pq.1 n hn
        by_cases e : R n = true
        · rw [if_pos e]; exact hb
        · rw [if_neg e]
          have h2 : bas g n < lv := Nat.lt_of_not_le fun c => e (hsrc n hn (by
            by_cases e0 : g (2 + n) = 0
            · left
              have := (q_top ok hn).mpr e0
              omega
            · right
              exact ⟨e0, by rw [← ((bas_le ok hn).2.2.1 e0).1]; exact c⟩))
          omega
      · show min (g (90 + t) + 3) (if R a = true then qF g a else min (qF g a) (lv - 1)) ≤ if R b = true then qF g b else min (qF g b) (lv - 1)
        have h3 := pq.2 t ht hs a b he hb
        have ha : (if R a = true then qF g a else min (qF g a) (lv - 1)) ≤ qF g a := by split <;> omega
        by_cases eb : R b = true
        · rw [if_pos eb]; omega
        · rw [if_neg eb]
          by_cases ea : R a = true
          · have : ¬ lv ≤ g (90 + t) + 3 := fun c => eb (hcl a b t ea ht hs he c hb)
            rw [if_pos ea]
            omega
          · rw [if_neg ea]
            omega
    have := q_le hp n
    by_cases e : R n = true
    · exact e
    · have h4 : qF g n ≤ if R n = true then qF g n else min (qF g n) (lv - 1) := this
      rw [if_neg e] at h4
      omega
  cases e : R n
  · exact (decide_eq_false fun c => by rw [d2 c] at e; cases e).symm
  · exact (decide_eq_true (d1 e)).symm
theorem u_level {g : Nat → Nat} (ok : okG g) (s : Nat) {lv : Nat} (h1 : 1 ≤ lv) (h6 : lv ≤ 6) {R : Nat → Bool}
    (hsrc : ∀ n, n < g 0 → (lv + 1 ≤ uF g s n ∨ (g (2 + n) ≠ 0 ∧ lv ≤ g (2 + n) ∧ (g (26 + n) = s ∨ g (26 + n) = 2) ∧ qF g n ≤ lv)) → R n = true)
    (hcl : ∀ a b t, R a = true → t < g 1 → swS g t ≠ 0 → edg g t a b → lv ≤ g (90 + t) + 3 → g (2 + b) ≠ 0 → qF g b ≤ lv → R b = true)
    (hmin : ∀ T : Nat → Bool, (∀ n, n < g 0 → (lv + 1 ≤ uF g s n ∨ (g (2 + n) ≠ 0 ∧ lv ≤ g (2 + n) ∧ (g (26 + n) = s ∨ g (26 + n) = 2) ∧ qF g n ≤ lv)) → T n = true) → (∀ a b t, T a = true → t < g 1 → swS g t ≠ 0 → edg g t a b → lv ≤ g (90 + t) + 3 → g (2 + b) ≠ 0 → qF g b ≤ lv → T b = true) → ∀ n, n < g 0 → R n = true → T n = true)
    {n : Nat} (hn : n < g 0) : R n = decide (lv ≤ uF g s n) := by
  have pu := PreU_u ok s
  have d1 : R n = true → lv ≤ uF g s n := by
    intro h
    have := hmin (fun n => decide (lv ≤ uF g s n)) (fun n hn h => decide_eq_true (by
      rcases h with h | ⟨h, h', h2, h3⟩
      · omega
      · have hb := ((bas_le ok hn).2.2.1 h).1
        have := pu.1 n hn h2 (by omega)
        omega)) (fun a b t ha ht hs he hl hb hq => decide_eq_true (by
      have ha' := of_decide_eq_true ha
      have := pu.2 t ht hs a b he hb (by omega)
      omega)) n hn h
    exact of_decide_eq_true this
  have d2 : lv ≤ uF g s n → R n = true := by
    intro h
    have hp : PreU g s (qF g) (fun n => if R n = true then uF g s n else min (uF g s n) (lv - 1)) := by
      refine ⟨fun n hn hv hq => ?_, fun t ht hs a b he hb hq => ?_⟩
      · show bas g n ≤ if R n = true then uF g s n else min (uF g s n) (lv - 1)
        have hb := pu.1 n hn hv hq
        by_cases e : R n = true
        · rw [if_pos e]; exact hb
        · rw [if_neg e]
          have h2 : bas g n < lv := Nat.lt_of_not_le fun c => e (hsrc n hn (by
            by_cases e0 : g (2 + n) = 0
            · left
              have := (u_top ok s hn).mpr ⟨e0, hv⟩
              omega
            · have hb0 := ((bas_le ok hn).2.2.1 e0).1
              by_cases e1 : qF g n ≤ lv
              · right
                exact ⟨e0, by omega, hv, e1⟩
              · left
                omega))
          omega
      · have hq' : qF g b ≤ min (g (90 + t) + 3) (if R a = true then uF g s a else min (uF g s a) (lv - 1)) := hq
        show min (g (90 + t) + 3) (if R a = true then uF g s a else min (uF g s a) (lv - 1)) ≤ if R b = true then uF g s b else min (uF g s b) (lv - 1)
        have ha : (if R a = true then uF g s a else min (uF g s a) (lv - 1)) ≤ uF g s a := by split <;> omega
        have h3 := pu.2 t ht hs a b he hb (by omega)
        by_cases eb : R b = true
        · rw [if_pos eb]; omega
        · rw [if_neg eb]
          by_cases ea : R a = true
          · rw [if_pos ea] at hq' ⊢
            have : ¬ (lv ≤ g (90 + t) + 3 ∧ lv ≤ uF g s a) := fun c => eb (by
              by_cases e1 : qF g b ≤ lv
              · exact hcl a b t ea ht hs he c.1 hb e1
              · exact hsrc b (edg_lt ok ht he).2 (Or.inl (by omega)))
            omega
          · rw [if_neg ea]
            omega
    have := u_le hp n
    by_cases e : R n = true
    · exact e
    · have h4 : uF g s n ≤ if R n = true then uF g s n else min (uF g s n) (lv - 1) := this
      rw [if_neg e] at h4
      omega
  cases e : R n
  · exact (decide_eq_false fun c => by rw [d2 c] at e; cases e).symm
  · exact (decide_eq_true (d1 e)).symm
/-- up and down are never both 0 -/
theorem ud_pos {g : Nat → Nat} (ok : okG g) {n : Nat} (hn : n < g 0) : 1 ≤ uF g 1 n ∨ 1 ≤ uF g 0 n := by
  have pq := PreQ_q ok
  have key : ∀ k, k ≤ 7 → ∀ n, n < g 0 → 8 - k ≤ qF g n → qF g n ≤ uF g 1 n ∨ qF g n ≤ uF g 0 n := by
    intro k
    induction k with
    | zero => intro _ n _ h; have := q_le7 ok n; omega
    | succ k ih =>
      intro hk n hn hL
      have ih := ih (by omega)
      rcases Nat.lt_or_ge (qF g n) (8 - k) with hlt | hge
      · -- the level 7 - k
        have eL : qF g n = 7 - k := by omega
        refine Classical.byContradiction fun bad => ?_
        have hp : PreQ g (fun n => @ite _ ((¬ (qF g n ≤ uF g 1 n ∨ qF g n ≤ uF g 0 n)) ∧ n < g 0 ∧ qF g n = 7 - k) (Classical.propDecidable _) (qF g n - 1) (qF g n)) := by
          refine ⟨fun n hn => ?_, fun t ht hs a b he hb => ?_⟩
          · show bas g n ≤ @ite _ _ (Classical.propDecidable _) _ _
            have hb := pq.1 n hn
            split
            · rename_i hc
              have hne : bas g n ≠ qF g n := fun e => hc.1 (by
                have hv := (ok.2.2.1 n hn).2
                have hu := fun s hs => (PreU_u ok s).1 n hn hs (by omega)
                rcases (show g (26 + n) = 0 ∨ g (26 + n) = 1 ∨ g (26 + n) = 2 by omega) with h | h | h
                · exact Or.inr (by rw [← e]; exact hu 0 (Or.inl h))
                · exact Or.inl (by rw [← e]; exact hu 1 (Or.inl h))
                · exact Or.inl (by rw [← e]; exact hu 1 (Or.inr h)))
              omega
            · exact hb
          · have hlt := edg_lt ok ht he
            have h3 := pq.2 t ht hs a b he hb
            show min _ (@ite _ _ (Classical.propDecidable _) _ _) ≤ @ite _ _ (Classical.propDecidable _) _ _
            have ha : (@ite _ ((¬ (qF g a ≤ uF g 1 a ∨ qF g a ≤ uF g 0 a)) ∧ a < g 0 ∧ qF g a = 7 - k) (Classical.propDecidable _) (qF g a - 1) (qF g a)) ≤ qF g a := by split <;> omega
            by_cases cb : (¬ (qF g b ≤ uF g 1 b ∨ qF g b ≤ uF g 0 b)) ∧ b < g 0 ∧ qF g b = 7 - k
            · rw [if_pos cb]
              by_cases ca : (¬ (qF g a ≤ uF g 1 a ∨ qF g a ≤ uF g 0 a)) ∧ a < g 0 ∧ qF g a = 7 - k
              · rw [if_pos ca]
                omega
              · rw [if_neg ca]
                refine Nat.le_of_not_lt fun c => ?_
                -- a carries
                have hq : qF g b ≤ min (g (90 + t) + 3) (qF g a) := by omega
                have hga : qF g a ≤ uF g 1 a ∨ qF g a ≤ uF g 0 a := by
                  rcases Nat.lt_or_ge (qF g a) (8 - k) with h | h
                  · exact Classical.byContradiction fun z => ca ⟨z, hlt.1, by omega⟩
                  · exact ih a hlt.1 h
                refine cb.1 ?_
                rcases hga with h | h
                · left
                  have := (PreU_u ok 1).2 t ht (by omega) a b he hb (by omega)
                  omega
                · right
                  have := (PreU_u ok 0).2 t ht (by omega) a b he hb (by omega)
                  omega
            · rw [if_neg cb]
              omega
        have h4 : qF g n ≤ @ite _ ((¬ (qF g n ≤ uF g 1 n ∨ qF g n ≤ uF g 0 n)) ∧ n < g 0 ∧ qF g n = 7 - k) (Classical.propDecidable _) (qF g n - 1) (qF g n) := q_le hp n
        rw [if_pos ⟨bad, hn, eL⟩] at h4
        omega
      · exact ih n hn hge
  have hb := (bas_le ok hn).1
  have hq := pq.1 n hn
  rcases key 7 (by omega) n hn (by omega) with h | h
  · left; omega
  · right; omega
end
section
/-! steady values, steps, settling, periods, faults; two circuits that agree where it matters -/
noncomputable def stv (g : Nat → Nat) (n : Nat) : Nat := if g (2 + n) = 0 then g (26 + n) else if uF g 0 n = 0 then 1 else if uF g 1 n = 0 then 0 else 2
noncomputable def stp (g : Nat → Nat) : Nat → Nat := fun j => if 26 ≤ j ∧ j < 26 + g 0 then stv g (j - 26) else g j
noncomputable def act (g : Nat → Nat) : Nat → Bool := fun n => decide (n < g 0) && !decide (stv g n = g (26 + n))
theorem stp_v {g : Nat → Nat} {n : Nat} (hn : n < g 0) : stp g (26 + n) = stv g n := by
  unfold stp
  rw [if_pos ⟨by omega, by omega⟩, show 26 + n - 26 = n by omega]
theorem stp_lo {g : Nat → Nat} {j : Nat} (h : j < 26) : stp g j = g j := if_neg (by omega)
theorem stp_hi {g : Nat → Nat} (ok : okG g) {j : Nat} (h : 50 ≤ j) : stp g j = g j := if_neg (by have := ok.1; omega)
theorem stv_le {g : Nat → Nat} (ok : okG g) {n : Nat} (hn : n < g 0) : stv g n ≤ 2 := by
  have := (ok.2.2.1 n hn).2
  unfold stv
  repeat' split
  all_goals omega
theorem stp_ok {g : Nat → Nat} (ok : okG g) : okG (stp g) := by
  have e0 : stp g 0 = g 0 := stp_lo (by omega)
  have e1 : stp g 1 = g 1 := stp_lo (by omega)
  refine ⟨by rw [e0]; exact ok.1, by rw [e1]; exact ok.2.1, fun n hn => ?_, fun t ht => ?_⟩
  · rw [e0] at hn
    rw [stp_lo (show 2 + n < 26 by have := ok.1; omega), stp_v hn]
    exact ⟨(ok.2.2.1 n hn).1, stv_le ok hn⟩
  · rw [e1] at ht
    rw [e0, stp_hi ok (show 50 ≤ 50 + t by omega), stp_hi ok (show 50 ≤ 90 + t by omega), stp_hi ok (show 50 ≤ 130 + t by omega), stp_hi ok (show 50 ≤ 170 + t by omega), stp_hi ok (show 50 ≤ 210 + t by omega), stp_hi ok (show 50 ≤ 250 + t by omega)]
    exact ok.2.2.2 t ht
theorem act_stp {g : Nat → Nat} (ok : okG g) (h : msk (act g) = 0) : stp g = g := by
  funext j
  unfold stp
  split
  · rename_i hj
    have h2 := msk_zero.mp h (j - 26) (by have := ok.1; omega)
    unfold act at h2
    rw [decide_eq_true (show j - 26 < g 0 by omega), Bool.true_and, show 26 + (j - 26) = j by omega] at h2
    simpa using h2
  · rfl
noncomputable def setA : Nat → Nat → (Nat → Nat) → Int32 × (Nat → Nat)
  | 0, k, g => (if msk (act g) = 0 then nI k else -7, g)
  | m + 1, k, g => if msk (act g) = 0 then (nI k, g) else setA m (k + 1) (stp g)
theorem setA_0 (k : Nat) (g : Nat → Nat) : setA 0 k g = (if msk (act g) = 0 then nI k else -7, g) := rfl
theorem setA_s (m k : Nat) (g : Nat → Nat) : setA (m + 1) k g = if msk (act g) = 0 then (nI k, g) else setA m (k + 1) (stp g) := rfl
theorem setA_stable {m k : Nat} {g : Nat → Nat} (h : msk (act g) = 0) : setA m k g = (nI k, g) := by
  cases m with
  | zero => rw [setA_0, if_pos h]
  | succ m => rw [setA_s, if_pos h]
theorem setA_ok : ∀ (m k : Nat) {g : Nat → Nat}, okG g → okG (setA m k g).2
  | 0, k, g, ok => ok
  | m + 1, k, g, ok => by
    rw [setA_s]
    split
    · exact ok
    · exact setA_ok m (k + 1) (stp_ok ok)
theorem setA_r : ∀ (m k : Nat) (g : Nat → Nat), (∃ j, j ≤ m ∧ (setA m k g).1 = nI (k + j)) ∨ (setA m k g).1 = -7
  | 0, k, g => by
    rw [setA_0]
    by_cases h : msk (act g) = 0
    · left; exact ⟨0, Nat.le_refl _, by rw [if_pos h]; rfl⟩
    · right; rw [if_neg h]
  | m + 1, k, g => by
    rw [setA_s]
    by_cases h : msk (act g) = 0
    · left; exact ⟨0, Nat.zero_le _, by rw [if_pos h]; rfl⟩
    · rw [if_neg h]
      rcases setA_r m (k + 1) (stp g) with ⟨j, h1, h2⟩ | h2
      · left; exact ⟨j + 1, by omega, by rw [h2]; congr 1; omega⟩
      · right; exact h2
def sameV (g h : Nat → Nat) : Bool := decide (∀ n, n < h 0 → g (26 + n) = h (26 + n))
noncomputable def perA : Nat → Nat → (Nat → Nat) → (Nat → Nat) → Int32
  | 0, _, _, _ => -8
  | m + 1, k, g, g0 => if sameV (stp g) g0 = true then nI k else perA m (k + 1) (stp g) g0
theorem perA_0 (k : Nat) (g g0 : Nat → Nat) : perA 0 k g g0 = -8 := rfl
theorem perA_s (m k : Nat) (g g0 : Nat → Nat) : perA (m + 1) k g g0 = if sameV (stp g) g0 = true then nI k else perA m (k + 1) (stp g) g0 := rfl
/-- the value at a node of a copy that has settled; 2 if it doesn't -/
noncomputable def svl (m n : Nat) (g : Nat → Nat) : Nat := if (setA m 0 g).1 = -7 then 2 else (setA m 0 g).2 (26 + n)
def opp (a b : Nat) : Bool := (decide (a = 0) && decide (b = 1)) || (decide (a = 1) && decide (b = 0))
noncomputable def det (g : Nat → Nat) (t f n m : Nat) : Bool := opp (svl m n g) (svl m n (up1 g (250 + t) f))
noncomputable def dct (g : Nat → Nat) (n m : Nat) : Nat → Nat
  | 0 => 0
  | k + 1 => dct g n m k + (if det g (k / 2) (k % 2 + 1) n m = true then 1 else 0)
theorem dct_le (g : Nat → Nat) (n m : Nat) : ∀ k, dct g n m k ≤ k
  | 0 => Nat.le_refl _
  | k + 1 => by
    have := dct_le g n m k
    rw [dct]
    split <;> omega
theorem dct_x {g : Nat → Nat} {n m : Nat} (h : svl m n g = 2) : ∀ k, dct g n m k = 0
  | 0 => rfl
  | k + 1 => by
    rw [dct, dct_x h k]
    have : det g (k / 2) (k % 2 + 1) n m = false := by unfold det; rw [h]; rfl
    rw [this]; rfl
/-- the same circuit, where it matters -/
def Rel (c g : Nat → Nat) : Prop := c 0 = g 0 ∧ c 1 = g 1 ∧ (∀ n, n < g 0 → c (2 + n) = g (2 + n) ∧ c (26 + n) = g (26 + n)) ∧ ∀ t, t < g 1 → c (50 + t) = g (50 + t) ∧ c (90 + t) = g (90 + t) ∧ c (130 + t) = g (130 + t) ∧ c (170 + t) = g (170 + t) ∧ c (210 + t) = g (210 + t) ∧ c (250 + t) = g (250 + t)
theorem Rel.rf (g : Nat → Nat) : Rel g g := ⟨rfl, rfl, fun _ _ => ⟨rfl, rfl⟩, fun _ _ => ⟨rfl, rfl, rfl, rfl, rfl, rfl⟩⟩
theorem Rel.sy {c g : Nat → Nat} (h : Rel c g) : Rel g c := ⟨h.1.symm, h.2.1.symm, fun n hn => by rw [h.1] at hn; exact ⟨(h.2.2.1 n hn).1.symm, (h.2.2.1 n hn).2.symm⟩, fun t ht => by
  rw [h.2.1] at ht
  obtain ⟨a, b, c, d, e, f⟩ := h.2.2.2 t ht
  exact ⟨a.symm, b.symm, c.symm, d.symm, e.symm, f.symm⟩⟩
theorem Rel.tr {a b c : Nat → Nat} (h : Rel a b) (k : Rel b c) : Rel a c := ⟨h.1.trans k.1, h.2.1.trans k.2.1, fun n hn => by
  have h1 := h.2.2.1 n (by rw [k.1]; exact hn)
  have h2 := k.2.2.1 n hn
  exact ⟨h1.1.trans h2.1, h1.2.trans h2.2⟩, fun t ht => by
  obtain ⟨a1, a2, a3, a4, a5, a6⟩ := h.2.2.2 t (by rw [k.2.1]; exact ht)
  obtain ⟨b1, b2, b3, b4, b5, b6⟩ := k.2.2.2 t ht
  exact ⟨a1.trans b1, a2.trans b2, a3.trans b3, a4.trans b4, a5.trans b5, a6.trans b6⟩⟩
theorem Rel.ok {c g : Nat → Nat} (h : Rel c g) (ok : okG g) : okG c := by
  refine ⟨by rw [h.1]; exact ok.1, by rw [h.2.1]; exact ok.2.1, fun n hn => ?_, fun t ht => ?_⟩
  · rw [h.1] at hn
    rw [(h.2.2.1 n hn).1, (h.2.2.1 n hn).2]
    exact ok.2.2.1 n hn
  · rw [h.2.1] at ht
    obtain ⟨a, b, c, d, e, f⟩ := h.2.2.2 t ht
    rw [a, b, c, d, e, f, h.1]
    exact ok.2.2.2 t ht
theorem Rel.sw {c g : Nat → Nat} (h : Rel c g) (ok : okG g) {t : Nat} (ht : t < g 1) : swS c t = swS g t := by
  obtain ⟨a, _, d, _, _, f⟩ := h.2.2.2 t ht
  have hv := (h.2.2.1 (g (130 + t)) (ok.2.2.2 t ht).2.2.2.1).2
  unfold swS
  rw [f, a, d, hv]
theorem Rel.edgE {c g : Nat → Nat} (h : Rel c g) {t : Nat} (ht : t < g 1) (a b : Nat) : edg c t a b ↔ edg g t a b := by
  obtain ⟨_, _, _, d, e, _⟩ := h.2.2.2 t ht
  unfold edg
  rw [d, e]
theorem Rel.basE {c g : Nat → Nat} (h : Rel c g) {n : Nat} (hn : n < g 0) : bas c n = bas g n := by
  unfold bas
  rw [(h.2.2.1 n hn).1]
theorem Rel.preQ1 {c g : Nat → Nat} (h : Rel c g) (ok : okG g) {f : Nat → Nat} (hp : PreQ g f) : PreQ c f := by
  refine ⟨fun n hn => ?_, fun t ht hs a b he hb => ?_⟩
  · rw [h.1] at hn
    rw [h.basE hn]
    exact hp.1 n hn
  · rw [h.2.1] at ht
    rw [h.sw ok ht] at hs
    have he := (h.edgE ht a b).mp he
    rw [(h.2.2.1 b (edg_lt ok ht he).2).1] at hb
    rw [(h.2.2.2 t ht).2.1]
    exact hp.2 t ht hs a b he hb
theorem Rel.q {c g : Nat → Nat} (h : Rel c g) (ok : okG g) : qF c = qF g := by
  unfold qF
  rw [show PreQ c = PreQ g from funext fun f => propext ⟨fun k => h.sy.preQ1 (h.ok ok) k, fun k => h.preQ1 ok k⟩]
theorem Rel.preU1 {c g : Nat → Nat} (h : Rel c g) (ok : okG g) {s : Nat} {q f : Nat → Nat} (hp : PreU g s q f) : PreU c s q f := by
  refine ⟨fun n hn hv hq => ?_, fun t ht hs a b he hb hq => ?_⟩
  · rw [h.1] at hn
    rw [h.basE hn] at hq ⊢
    rw [(h.2.2.1 n hn).2] at hv
    exact hp.1 n hn hv hq
  · rw [h.2.1] at ht
    rw [h.sw ok ht] at hs
    have he := (h.edgE ht a b).mp he
    rw [(h.2.2.1 b (edg_lt ok ht he).2).1] at hb
    rw [(h.2.2.2 t ht).2.1] at hq ⊢
    exact hp.2 t ht hs a b he hb hq
theorem Rel.u {c g : Nat → Nat} (h : Rel c g) (ok : okG g) (s : Nat) : uF c s = uF g s := by
  unfold uF
  rw [h.q ok, show PreU c s (qF g) = PreU g s (qF g) from funext fun f => propext ⟨fun k => h.sy.preU1 (h.ok ok) k, fun k => h.preU1 ok k⟩]
theorem Rel.stvE {c g : Nat → Nat} (h : Rel c g) (ok : okG g) {n : Nat} (hn : n < g 0) : stv c n = stv g n := by
  unfold stv
  rw [h.u ok, h.u ok, (h.2.2.1 n hn).1, (h.2.2.1 n hn).2]
theorem Rel.actE {c g : Nat → Nat} (h : Rel c g) (ok : okG g) : act c = act g := by
  funext n
  unfold act
  rw [h.1]
  by_cases hn : n < g 0
  · rw [h.stvE ok hn, (h.2.2.1 n hn).2]
  · rw [decide_eq_false hn]; rfl
theorem Rel.stpE {c g : Nat → Nat} (h : Rel c g) (ok : okG g) : Rel (stp c) (stp g) := by
  have okc := h.ok ok
  have e0 : stp g 0 = g 0 := stp_lo (by omega)
  have e1 : stp g 1 = g 1 := stp_lo (by omega)
  refine ⟨?_, ?_, fun n hn => ?_, fun t ht => ?_⟩
  · rw [e0, stp_lo (by omega)]; exact h.1
  · rw [e1, stp_lo (by omega)]; exact h.2.1
  · rw [e0] at hn
    have := ok.1
    rw [stp_lo (show 2 + n < 26 by omega), stp_lo (show 2 + n < 26 by omega), stp_v hn, stp_v (by rw [h.1]; exact hn)]
    exact ⟨(h.2.2.1 n hn).1, h.stvE ok hn⟩
  · rw [e1] at ht
    rw [stp_hi ok (show 50 ≤ 50 + t by omega), stp_hi ok (show 50 ≤ 90 + t by omega), stp_hi ok (show 50 ≤ 130 + t by omega), stp_hi ok (show 50 ≤ 170 + t by omega), stp_hi ok (show 50 ≤ 210 + t by omega), stp_hi ok (show 50 ≤ 250 + t by omega), stp_hi okc (show 50 ≤ 50 + t by omega), stp_hi okc (show 50 ≤ 90 + t by omega), stp_hi okc (show 50 ≤ 130 + t by omega), stp_hi okc (show 50 ≤ 170 + t by omega), stp_hi okc (show 50 ≤ 210 + t by omega), stp_hi okc (show 50 ≤ 250 + t by omega)]
    exact h.2.2.2 t ht
theorem Rel.setAE : ∀ (m k : Nat) {c g : Nat → Nat}, Rel c g → okG g → (setA m k c).1 = (setA m k g).1 ∧ Rel (setA m k c).2 (setA m k g).2
  | 0, k, c, g, h, ok => by rw [setA_0, setA_0, h.actE ok]; exact ⟨rfl, h⟩
  | m + 1, k, c, g, h, ok => by
    rw [setA_s, setA_s, h.actE ok]
    split
    · exact ⟨rfl, h⟩
    · exact Rel.setAE m (k + 1) (h.stpE ok) (stp_ok ok)
theorem Rel.same {c g c0 g0 : Nat → Nat} (h : Rel c g) (h0 : Rel c0 g0) (e : g 0 = g0 0) : sameV c c0 = sameV g g0 := by
  unfold sameV
  apply decide_eq_decide.mpr
  rw [h0.1]
  constructor
  · intro k n hn
    rw [← (h0.2.2.1 n hn).2, ← (h.2.2.1 n (by rw [e]; exact hn)).2]
    exact k n hn
  · intro k n hn
    rw [(h0.2.2.1 n hn).2, (h.2.2.1 n (by rw [e]; exact hn)).2]
    exact k n hn
theorem Rel.perAE : ∀ (m k : Nat) {c g c0 g0 : Nat → Nat}, Rel c g → okG g → Rel c0 g0 → g 0 = g0 0 → perA m k c c0 = perA m k g g0
  | 0, k, c, g, c0, g0, _, _, _, _ => rfl
  | m + 1, k, c, g, c0, g0, h, ok, h0, e => by
    have e2 : stp g 0 = g0 0 := by rw [stp_lo (by omega)]; exact e
    rw [perA_s, perA_s, (h.stpE ok).same h0 e2, Rel.perAE m (k + 1) (h.stpE ok) (stp_ok ok) h0 e2]
theorem Rel.svlE {c g : Nat → Nat} (h : Rel c g) (ok : okG g) (m n : Nat) (hn : n < g 0) : svl m n c = svl m n g := by
  have hs := Rel.setAE m 0 h ok
  have e0 : ∀ (m k : Nat) (g : Nat → Nat), (setA m k g).2 0 = g 0 := by
    intro m
    induction m with
    | zero => intro k g; rfl
    | succ m ih =>
      intro k g
      rw [setA_s]
      split
      · rfl
      · rw [ih, stp_lo (by omega)]
  unfold svl
  rw [hs.1, (hs.2.2.2.1 n (by rw [e0]; exact hn)).2]
theorem Rel.flt {c g : Nat → Nat} (h : Rel c g) {t f : Nat} (ht : t < g 1) (k1 : g 1 ≤ 40) (k0 : g 0 ≤ 24) : Rel (up1 c (250 + t) f) (up1 g (250 + t) f) := by
  have e1 : up1 g (250 + t) f 1 = g 1 := up1_n (by omega)
  have e0 : up1 g (250 + t) f 0 = g 0 := up1_n (by omega)
  refine ⟨?_, ?_, fun n hn => ?_, fun u hu => ?_⟩
  · rw [up1_n (by omega), up1_n (by omega)]; exact h.1
  · rw [up1_n (by omega), up1_n (by omega)]; exact h.2.1
  · rw [e0] at hn
    rw [up1_n (by omega), up1_n (by omega), up1_n (by omega), up1_n (by omega)]; exact h.2.2.1 n hn
  · rw [e1] at hu
    obtain ⟨a, b, c, d, e, f⟩ := h.2.2.2 u hu
    rw [up1_n (show 50 + u ≠ 250 + t by omega), up1_n (show 90 + u ≠ 250 + t by omega), up1_n (show 130 + u ≠ 250 + t by omega), up1_n (show 170 + u ≠ 250 + t by omega), up1_n (show 210 + u ≠ 250 + t by omega), up1_n (show 50 + u ≠ 250 + t by omega), up1_n (show 90 + u ≠ 250 + t by omega), up1_n (show 130 + u ≠ 250 + t by omega), up1_n (show 170 + u ≠ 250 + t by omega), up1_n (show 210 + u ≠ 250 + t by omega)]
    refine ⟨a, b, c, d, e, ?_⟩
    by_cases z : u = t
    · subst z; rw [up1_s, up1_s]
    · rw [up1_n (by omega), up1_n (by omega)]; exact f
theorem okG_flt {g : Nat → Nat} (ok : okG g) {t f : Nat} (hf : f ≤ 2) (ht : t < 40) : okG (up1 g (250 + t) f) := by
  have k1 := ok.2.1
  have k0 := ok.1
  have e1 : up1 g (250 + t) f 1 = g 1 := up1_n (by omega)
  have e0 : up1 g (250 + t) f 0 = g 0 := up1_n (by omega)
  refine ⟨by rw [e0]; exact k0, by rw [e1]; exact k1, fun n hn => ?_, fun u hu => ?_⟩
  · rw [e0] at hn
    rw [up1_n (by omega), up1_n (by omega)]; exact ok.2.2.1 n hn
  · rw [e1] at hu
    rw [e0, up1_n (show 50 + u ≠ 250 + t by omega), up1_n (show 90 + u ≠ 250 + t by omega), up1_n (show 130 + u ≠ 250 + t by omega), up1_n (show 170 + u ≠ 250 + t by omega), up1_n (show 210 + u ≠ 250 + t by omega)]
    have h := ok.2.2.2 u hu
    refine ⟨h.1, h.2.1, h.2.2.1, h.2.2.2.1, h.2.2.2.2.1, h.2.2.2.2.2.1, h.2.2.2.2.2.2.1, ?_⟩
    by_cases z : u = t
    · subst z; rw [up1_s]; exact hf
    · rw [up1_n (by omega)]; exact h.2.2.2.2.2.2.2
theorem Rel.detE {c g : Nat → Nat} (h : Rel c g) (ok : okG g) {t f n m : Nat} (ht : t < g 1) (hf : f ≤ 2) (hn : n < g 0) : det c t f n m = det g t f n m := by
  unfold det
  have k1 := ok.2.1
  rw [h.svlE ok m n hn, (h.flt ht k1 ok.1).svlE (okG_flt ok hf (by omega)) m n (by rw [up1_n (by omega)]; exact hn)]
theorem Rel.dctE {c g : Nat → Nat} (h : Rel c g) (ok : okG g) {n m : Nat} (hn : n < g 0) : ∀ k, k ≤ 2 * g 1 → dct c n m k = dct g n m k
  | 0, _ => rfl
  | k + 1, hk => by
    rw [dct, dct, Rel.dctE h ok hn k (by omega), h.detE ok (show k / 2 < g 1 by omega) (show k % 2 + 1 ≤ 2 by omega) hn]
end
section
-- ===== PART A: goes FIRST, ahead of the names: the tables' words, and 'selects' of the private methods out of them =====
/-- a private method of a class that the tables say can be made, by its rows of tables_1 -/
def lw_okq (q : MethodName × Nat) : Prop := (q.1.cls ≠ "java/lang/invoke/MethodHandle" ∧ q.1.cls ≠ "java/lang/invoke/VarHandle") ∧ Cond.instantiable q.1.cls q.2 ∈ tables_1 ∧ Cond.privateMethod q.1 ∈ tables_1 ∧ Cond.instanceMethod q.1 ∈ tables_1
theorem lw_p0 : lw_okq (⟨"SwitchLevelSimulator$Circuit", "appendUnknownNode", "()I"⟩, 13) := ⟨⟨by decide +kernel, by decide +kernel⟩, List.mem_of_getElem? (i := 17) (by decide +kernel), List.mem_of_getElem? (i := 123) (by decide +kernel), List.mem_of_getElem? (i := 124) (by decide +kernel)⟩
theorem lw_p1 : lw_okq (⟨"SwitchLevelSimulator", "replaceValue", "(IIZ)I"⟩, 4) := ⟨⟨by decide +kernel, by decide +kernel⟩, List.mem_of_getElem? (i := 9) (by decide +kernel), List.mem_of_getElem? (i := 170) (by decide +kernel), List.mem_of_getElem? (i := 171) (by decide +kernel)⟩
theorem lw_p2 : lw_okq (⟨"SwitchLevelSimulator$SteadyState", "findNeighbors", "(LSwitchLevelSimulator$Circuit;)V"⟩, 5) := ⟨⟨by decide +kernel, by decide +kernel⟩, List.mem_of_getElem? (i := 78) (by decide +kernel), List.mem_of_getElem? (i := 238) (by decide +kernel), List.mem_of_getElem? (i := 239) (by decide +kernel)⟩
theorem lw_p3 : lw_okq (⟨"SwitchLevelSimulator$SteadyState", "findDefinite", "(LSwitchLevelSimulator$Circuit;)V"⟩, 5) := ⟨⟨by decide +kernel, by decide +kernel⟩, List.mem_of_getElem? (i := 78) (by decide +kernel), List.mem_of_getElem? (i := 246) (by decide +kernel), List.mem_of_getElem? (i := 247) (by decide +kernel)⟩
theorem lw_p4 : lw_okq (⟨"SwitchLevelSimulator$SteadyState", "findSide", "([IILSwitchLevelSimulator$Circuit;)V"⟩, 5) := ⟨⟨by decide +kernel, by decide +kernel⟩, List.mem_of_getElem? (i := 78) (by decide +kernel), List.mem_of_getElem? (i := 263) (by decide +kernel), List.mem_of_getElem? (i := 264) (by decide +kernel)⟩
theorem lw_p5 : lw_okq (⟨"SwitchLevelSimulator", "advance", "(LSwitchLevelSimulator$Circuit;)I"⟩, 4) := ⟨⟨by decide +kernel, by decide +kernel⟩, List.mem_of_getElem? (i := 9) (by decide +kernel), List.mem_of_getElem? (i := 301) (by decide +kernel), List.mem_of_getElem? (i := 302) (by decide +kernel)⟩
theorem lw_p6 : lw_okq (⟨"SwitchLevelSimulator", "settleWithin", "(LSwitchLevelSimulator$Circuit;I)I"⟩, 4) := ⟨⟨by decide +kernel, by decide +kernel⟩, List.mem_of_getElem? (i := 9) (by decide +kernel), List.mem_of_getElem? (i := 332) (by decide +kernel), List.mem_of_getElem? (i := 333) (by decide +kernel)⟩
theorem lw_p7 : lw_okq (⟨"SwitchLevelSimulator", "settledTrialValue", "(II)I"⟩, 4) := ⟨⟨by decide +kernel, by decide +kernel⟩, List.mem_of_getElem? (i := 9) (by decide +kernel), List.mem_of_getElem? (i := 369) (by decide +kernel), List.mem_of_getElem? (i := 370) (by decide +kernel)⟩
theorem lw_p8 : lw_okq (⟨"SwitchLevelSimulatorModel", "nodes", "()I"⟩, 8) := ⟨⟨by decide +kernel, by decide +kernel⟩, List.mem_of_getElem? (i := 393) (by decide +kernel), List.mem_of_getElem? (i := 429) (by decide +kernel), List.mem_of_getElem? (i := 430) (by decide +kernel)⟩
theorem lw_p9 : lw_okq (⟨"SwitchLevelSimulatorModel", "addNode", "(I)I"⟩, 8) := ⟨⟨by decide +kernel, by decide +kernel⟩, List.mem_of_getElem? (i := 393) (by decide +kernel), List.mem_of_getElem? (i := 433) (by decide +kernel), List.mem_of_getElem? (i := 434) (by decide +kernel)⟩
theorem lw_p10 : lw_okq (⟨"SwitchLevelSimulatorModel", "isNode", "(I)Z"⟩, 8) := ⟨⟨by decide +kernel, by decide +kernel⟩, List.mem_of_getElem? (i := 393) (by decide +kernel), List.mem_of_getElem? (i := 448) (by decide +kernel), List.mem_of_getElem? (i := 449) (by decide +kernel)⟩
theorem lw_p11 : lw_okq (⟨"SwitchLevelSimulatorModel", "many", "()I"⟩, 8) := ⟨⟨by decide +kernel, by decide +kernel⟩, List.mem_of_getElem? (i := 393) (by decide +kernel), List.mem_of_getElem? (i := 452) (by decide +kernel), List.mem_of_getElem? (i := 453) (by decide +kernel)⟩
theorem lw_p12 : lw_okq (⟨"SwitchLevelSimulatorModel", "isInput", "(I)Z"⟩, 8) := ⟨⟨by decide +kernel, by decide +kernel⟩, List.mem_of_getElem? (i := 393) (by decide +kernel), List.mem_of_getElem? (i := 468) (by decide +kernel), List.mem_of_getElem? (i := 469) (by decide +kernel)⟩
theorem lw_p13 : lw_okq (⟨"SwitchLevelSimulatorModel", "set", "(II)I"⟩, 8) := ⟨⟨by decide +kernel, by decide +kernel⟩, List.mem_of_getElem? (i := 393) (by decide +kernel), List.mem_of_getElem? (i := 476) (by decide +kernel), List.mem_of_getElem? (i := 477) (by decide +kernel)⟩
theorem lw_p14 : lw_okq (⟨"SwitchLevelSimulatorModel", "isTransistor", "(I)Z"⟩, 8) := ⟨⟨by decide +kernel, by decide +kernel⟩, List.mem_of_getElem? (i := 393) (by decide +kernel), List.mem_of_getElem? (i := 500) (by decide +kernel), List.mem_of_getElem? (i := 501) (by decide +kernel)⟩
theorem lw_p15 : lw_okq (⟨"SwitchLevelSimulatorModel", "stateOf", "(I)I"⟩, 8) := ⟨⟨by decide +kernel, by decide +kernel⟩, List.mem_of_getElem? (i := 393) (by decide +kernel), List.mem_of_getElem? (i := 504) (by decide +kernel), List.mem_of_getElem? (i := 505) (by decide +kernel)⟩
def lw_privs_1 : List (MethodName × Nat) := [(⟨"SwitchLevelSimulator$Circuit", "appendUnknownNode", "()I"⟩, 13), (⟨"SwitchLevelSimulator", "replaceValue", "(IIZ)I"⟩, 4), (⟨"SwitchLevelSimulator$SteadyState", "findNeighbors", "(LSwitchLevelSimulator$Circuit;)V"⟩, 5), (⟨"SwitchLevelSimulator$SteadyState", "findDefinite", "(LSwitchLevelSimulator$Circuit;)V"⟩, 5), (⟨"SwitchLevelSimulator$SteadyState", "findSide", "([IILSwitchLevelSimulator$Circuit;)V"⟩, 5), (⟨"SwitchLevelSimulator", "advance", "(LSwitchLevelSimulator$Circuit;)I"⟩, 4), (⟨"SwitchLevelSimulator", "settleWithin", "(LSwitchLevelSimulator$Circuit;I)I"⟩, 4), (⟨"SwitchLevelSimulator", "settledTrialValue", "(II)I"⟩, 4), (⟨"SwitchLevelSimulatorModel", "nodes", "()I"⟩, 8), (⟨"SwitchLevelSimulatorModel", "addNode", "(I)I"⟩, 8), (⟨"SwitchLevelSimulatorModel", "isNode", "(I)Z"⟩, 8), (⟨"SwitchLevelSimulatorModel", "many", "()I"⟩, 8), (⟨"SwitchLevelSimulatorModel", "isInput", "(I)Z"⟩, 8), (⟨"SwitchLevelSimulatorModel", "set", "(II)I"⟩, 8), (⟨"SwitchLevelSimulatorModel", "isTransistor", "(I)Z"⟩, 8), (⟨"SwitchLevelSimulatorModel", "stateOf", "(I)I"⟩, 8)]
theorem lw_r1 : ∀ q ∈ lw_privs_1, lw_okq q := List.forall_mem_cons.mpr ⟨lw_p0, List.forall_mem_cons.mpr ⟨lw_p1, List.forall_mem_cons.mpr ⟨lw_p2, List.forall_mem_cons.mpr ⟨lw_p3, List.forall_mem_cons.mpr ⟨lw_p4, List.forall_mem_cons.mpr ⟨lw_p5, List.forall_mem_cons.mpr ⟨lw_p6, List.forall_mem_cons.mpr ⟨lw_p7, List.forall_mem_cons.mpr ⟨lw_p8, List.forall_mem_cons.mpr ⟨lw_p9, List.forall_mem_cons.mpr ⟨lw_p10, List.forall_mem_cons.mpr ⟨lw_p11, List.forall_mem_cons.mpr ⟨lw_p12, List.forall_mem_cons.mpr ⟨lw_p13, List.forall_mem_cons.mpr ⟨lw_p14, List.forall_mem_cons.mpr ⟨lw_p15, fun _ h => absurd h List.not_mem_nil⟩⟩⟩⟩⟩⟩⟩⟩⟩⟩⟩⟩⟩⟩⟩⟩
theorem lw_p16 : lw_okq (⟨"SwitchLevelSimulatorModel", "layAll", "()V"⟩, 8) := ⟨⟨by decide +kernel, by decide +kernel⟩, List.mem_of_getElem? (i := 393) (by decide +kernel), List.mem_of_getElem? (i := 512) (by decide +kernel), List.mem_of_getElem? (i := 513) (by decide +kernel)⟩
theorem lw_p17 : lw_okq (⟨"SwitchLevelSimulatorModel", "layDefinite", "()V"⟩, 8) := ⟨⟨by decide +kernel, by decide +kernel⟩, List.mem_of_getElem? (i := 393) (by decide +kernel), List.mem_of_getElem? (i := 516) (by decide +kernel), List.mem_of_getElem? (i := 517) (by decide +kernel)⟩
theorem lw_p18 : lw_okq (⟨"SwitchLevelSimulatorModel", "growDefinite", "(III)Z"⟩, 8) := ⟨⟨by decide +kernel, by decide +kernel⟩, List.mem_of_getElem? (i := 393) (by decide +kernel), List.mem_of_getElem? (i := 520) (by decide +kernel), List.mem_of_getElem? (i := 521) (by decide +kernel)⟩
theorem lw_p19 : lw_okq (⟨"SwitchLevelSimulatorModel", "signal", "(I)I"⟩, 8) := ⟨⟨by decide +kernel, by decide +kernel⟩, List.mem_of_getElem? (i := 393) (by decide +kernel), List.mem_of_getElem? (i := 524) (by decide +kernel), List.mem_of_getElem? (i := 525) (by decide +kernel)⟩
theorem lw_p20 : lw_okq (⟨"SwitchLevelSimulatorModel", "layStrength", "([II)V"⟩, 8) := ⟨⟨by decide +kernel, by decide +kernel⟩, List.mem_of_getElem? (i := 393) (by decide +kernel), List.mem_of_getElem? (i := 531) (by decide +kernel), List.mem_of_getElem? (i := 532) (by decide +kernel)⟩
theorem lw_p21 : lw_okq (⟨"SwitchLevelSimulatorModel", "grow", "([IIII)Z"⟩, 8) := ⟨⟨by decide +kernel, by decide +kernel⟩, List.mem_of_getElem? (i := 393) (by decide +kernel), List.mem_of_getElem? (i := 535) (by decide +kernel), List.mem_of_getElem? (i := 536) (by decide +kernel)⟩
theorem lw_p22 : lw_okq (⟨"SwitchLevelSimulatorModel", "steady", "(I)I"⟩, 8) := ⟨⟨by decide +kernel, by decide +kernel⟩, List.mem_of_getElem? (i := 393) (by decide +kernel), List.mem_of_getElem? (i := 551) (by decide +kernel), List.mem_of_getElem? (i := 552) (by decide +kernel)⟩
theorem lw_p23 : lw_okq (⟨"SwitchLevelSimulatorModel", "stepNow", "()I"⟩, 8) := ⟨⟨by decide +kernel, by decide +kernel⟩, List.mem_of_getElem? (i := 393) (by decide +kernel), List.mem_of_getElem? (i := 563) (by decide +kernel), List.mem_of_getElem? (i := 564) (by decide +kernel)⟩
theorem lw_p24 : lw_okq (⟨"SwitchLevelSimulatorModel", "activeNow", "()I"⟩, 8) := ⟨⟨by decide +kernel, by decide +kernel⟩, List.mem_of_getElem? (i := 393) (by decide +kernel), List.mem_of_getElem? (i := 567) (by decide +kernel), List.mem_of_getElem? (i := 568) (by decide +kernel)⟩
theorem lw_p25 : lw_okq (⟨"SwitchLevelSimulatorModel", "settleNow", "(I)I"⟩, 8) := ⟨⟨by decide +kernel, by decide +kernel⟩, List.mem_of_getElem? (i := 393) (by decide +kernel), List.mem_of_getElem? (i := 578) (by decide +kernel), List.mem_of_getElem? (i := 579) (by decide +kernel)⟩
theorem lw_p26 : lw_okq (⟨"SwitchLevelSimulatorModel", "keep", "()V"⟩, 8) := ⟨⟨by decide +kernel, by decide +kernel⟩, List.mem_of_getElem? (i := 393) (by decide +kernel), List.mem_of_getElem? (i := 590) (by decide +kernel), List.mem_of_getElem? (i := 591) (by decide +kernel)⟩
theorem lw_p27 : lw_okq (⟨"SwitchLevelSimulatorModel", "putBack", "()V"⟩, 8) := ⟨⟨by decide +kernel, by decide +kernel⟩, List.mem_of_getElem? (i := 393) (by decide +kernel), List.mem_of_getElem? (i := 594) (by decide +kernel), List.mem_of_getElem? (i := 595) (by decide +kernel)⟩
theorem lw_p28 : lw_okq (⟨"SwitchLevelSimulatorModel", "settledValue", "(II)I"⟩, 8) := ⟨⟨by decide +kernel, by decide +kernel⟩, List.mem_of_getElem? (i := 393) (by decide +kernel), List.mem_of_getElem? (i := 610) (by decide +kernel), List.mem_of_getElem? (i := 611) (by decide +kernel)⟩
theorem lw_p29 : lw_okq (⟨"SwitchLevelSimulatorModel", "isDetected", "(IIIII)Z"⟩, 8) := ⟨⟨by decide +kernel, by decide +kernel⟩, List.mem_of_getElem? (i := 393) (by decide +kernel), List.mem_of_getElem? (i := 614) (by decide +kernel), List.mem_of_getElem? (i := 615) (by decide +kernel)⟩
def lw_privs_2 : List (MethodName × Nat) := [(⟨"SwitchLevelSimulatorModel", "layAll", "()V"⟩, 8), (⟨"SwitchLevelSimulatorModel", "layDefinite", "()V"⟩, 8), (⟨"SwitchLevelSimulatorModel", "growDefinite", "(III)Z"⟩, 8), (⟨"SwitchLevelSimulatorModel", "signal", "(I)I"⟩, 8), (⟨"SwitchLevelSimulatorModel", "layStrength", "([II)V"⟩, 8), (⟨"SwitchLevelSimulatorModel", "grow", "([IIII)Z"⟩, 8), (⟨"SwitchLevelSimulatorModel", "steady", "(I)I"⟩, 8), (⟨"SwitchLevelSimulatorModel", "stepNow", "()I"⟩, 8), (⟨"SwitchLevelSimulatorModel", "activeNow", "()I"⟩, 8), (⟨"SwitchLevelSimulatorModel", "settleNow", "(I)I"⟩, 8), (⟨"SwitchLevelSimulatorModel", "keep", "()V"⟩, 8), (⟨"SwitchLevelSimulatorModel", "putBack", "()V"⟩, 8), (⟨"SwitchLevelSimulatorModel", "settledValue", "(II)I"⟩, 8), (⟨"SwitchLevelSimulatorModel", "isDetected", "(IIIII)Z"⟩, 8)]
theorem lw_r2 : ∀ q ∈ lw_privs_2, lw_okq q := List.forall_mem_cons.mpr ⟨lw_p16, List.forall_mem_cons.mpr ⟨lw_p17, List.forall_mem_cons.mpr ⟨lw_p18, List.forall_mem_cons.mpr ⟨lw_p19, List.forall_mem_cons.mpr ⟨lw_p20, List.forall_mem_cons.mpr ⟨lw_p21, List.forall_mem_cons.mpr ⟨lw_p22, List.forall_mem_cons.mpr ⟨lw_p23, List.forall_mem_cons.mpr ⟨lw_p24, List.forall_mem_cons.mpr ⟨lw_p25, List.forall_mem_cons.mpr ⟨lw_p26, List.forall_mem_cons.mpr ⟨lw_p27, List.forall_mem_cons.mpr ⟨lw_p28, List.forall_mem_cons.mpr ⟨lw_p29, fun _ h => absurd h List.not_mem_nil⟩⟩⟩⟩⟩⟩⟩⟩⟩⟩⟩⟩⟩⟩
def lw_privs : List (MethodName × Nat) := lw_privs_1 ++ (lw_privs_2)
def lw_tbl : List Cond := k2_sels lw_privs ++ tables_1
theorem lw_privs_ok : ∀ q ∈ lw_privs, lw_okq q := by
  show ∀ q ∈ lw_privs_1 ++ (lw_privs_2), lw_okq q
  exact List.forall_mem_append.mpr ⟨lw_r1, lw_r2⟩
-- ===== end of PART A; then your names; then what follows =====
end
section
/-! ===== BEGIN words of one list among another's, by their places ===== -/
theorem goodIn_r {big : List Cond} (ws : List Cond) (ps : List Nat) (hp : ws = ps.filterMap (fun i => big[i]?)) (h : ws.all goodWord = true) : GoodIn big ws := by
  intro w hw
  have h1 := List.all_eq_true.mp h w hw
  rw [hp] at hw
  obtain ⟨i, -, hi⟩ := List.mem_filterMap.mp hw
  have hm : w ∈ big := by first | exact List.mem_of_getElem? hi | exact List.getElem?_mem hi
  exact ⟨hm, good_of_word h1⟩
theorem goodIn_app {big a b : List Cond} (ha : GoodIn big a) (hb : GoodIn big b) : GoodIn big (a ++ b) := fun w h => (List.mem_append.mp h).elim (ha w) (hb w)
theorem goodIn_ca {big a b : List Cond} {c : Cond} (ha : GoodIn big (c :: a)) (hb : GoodIn big b) : GoodIn big (c :: (a ++ b)) := fun w h => (List.mem_cons.mp h).elim (fun e => ha w (List.mem_cons.mpr (Or.inl e))) (fun h => (List.mem_append.mp h).elim (fun h => ha w (List.mem_cons.mpr (Or.inr h))) (hb w))
theorem goodIn_sub {big ws : List Cond} (hm : ∀ w ∈ ws, w ∈ big) (h : ws.all goodWord = true) : GoodIn big ws := fun w hw => ⟨hm w hw, good_of_word (List.all_eq_true.mp h w hw)⟩
/-! ===== END ===== -/

/-! ===== BEGIN printed: names, fields, word lists, decode rows ===== -/
def RX0 : String := "SwitchLevelSimulator$Circuit"
def TX0 : u_T := fun k => match k with
  | 0 => ("SwitchLevelSimulator$Circuit", "nodeTotal", "I", false)
  | 1 => ("SwitchLevelSimulator$Circuit", "inputNodes", "I", false)
  | 2 => ("SwitchLevelSimulator$Circuit", "storageNodes", "I", false)
  | 3 => ("SwitchLevelSimulator$Circuit", "sizedAtLeast", "[I", true)
  | 4 => ("SwitchLevelSimulator$Circuit", "mayBeZero", "I", false)
  | 5 => ("SwitchLevelSimulator$Circuit", "mayBeOne", "I", false)
  | 6 => ("SwitchLevelSimulator$Circuit", "transistorTotal", "I", false)
  | 7 => ("SwitchLevelSimulator$Circuit", "types", "[I", true)
  | 8 => ("SwitchLevelSimulator$Circuit", "strengths", "[I", true)
  | 9 => ("SwitchLevelSimulator$Circuit", "gates", "[I", true)
  | 10 => ("SwitchLevelSimulator$Circuit", "ones", "[I", true)
  | 11 => ("SwitchLevelSimulator$Circuit", "others", "[I", true)
  | _ => ("SwitchLevelSimulator$Circuit", "faults", "[I", true)
def tyX0 : Nat → FieldType := fun k => match k with
  | 0 => .int
  | 1 => .int
  | 2 => .int
  | 3 => .array .int
  | 4 => .int
  | 5 => .int
  | 6 => .int
  | 7 => .array .int
  | 8 => .array .int
  | 9 => .array .int
  | 10 => .array .int
  | 11 => .array .int
  | _ => .array .int
abbrev wsX00 : List Cond := u_ws RX0 TX0 13
theorem nmX0 : ∀ a, a < 13 → ∀ b, b < 13 → a ≠ b → (TX0 a).2.1 ≠ (TX0 b).2.1 := by decide +kernel
theorem tyX0_ok : ∀ k, k < 13 → parseFieldDescriptor (TX0 k).2.2.1 = some (tyX0 k) := by decide +kernel
abbrev cX0_init : ByteArray := prog_2_method_1_code
def yX0_init : MethodName := ⟨RX0, "<init>", "()V"⟩
abbrev cX0_hasNode : ByteArray := prog_2_method_2_code
def yX0_hasNode : MethodName := ⟨RX0, "hasNode", "(I)Z"⟩
abbrev cX0_hasTransistor : ByteArray := prog_2_method_3_code
def yX0_hasTransistor : MethodName := ⟨RX0, "hasTransistor", "(I)Z"⟩
abbrev cX0_isInput : ByteArray := prog_2_method_4_code
def yX0_isInput : MethodName := ⟨RX0, "isInput", "(I)Z"⟩
abbrev cX0_appendInput : ByteArray := prog_2_method_5_code
def yX0_appendInput : MethodName := ⟨RX0, "appendInput", "()I"⟩
abbrev cX0_appendStorage : ByteArray := prog_2_method_6_code
def yX0_appendStorage : MethodName := ⟨RX0, "appendStorage", "(I)I"⟩
abbrev cX0_appendUnknownNode : ByteArray := prog_2_method_7_code
def yX0_appendUnknownNode : MethodName := ⟨RX0, "appendUnknownNode", "()I"⟩
abbrev cX0_appendTransistor : ByteArray := prog_2_method_8_code
def yX0_appendTransistor : MethodName := ⟨RX0, "appendTransistor", "(IIIII)I"⟩
abbrev cX0_valueOf : ByteArray := prog_2_method_9_code
def yX0_valueOf : MethodName := ⟨RX0, "valueOf", "(I)I"⟩
abbrev cX0_putValue : ByteArray := prog_2_method_10_code
def yX0_putValue : MethodName := ⟨RX0, "putValue", "(II)V"⟩
abbrev cX0_nodesOfValue : ByteArray := prog_2_method_11_code
def yX0_nodesOfValue : MethodName := ⟨RX0, "nodesOfValue", "(I)I"⟩
abbrev cX0_hasValuesOf : ByteArray := prog_2_method_12_code
def yX0_hasValuesOf : MethodName := ⟨RX0, "hasValuesOf", "(LSwitchLevelSimulator$Circuit;)Z"⟩
abbrev cX0_forgetCharges : ByteArray := prog_2_method_13_code
def yX0_forgetCharges : MethodName := ⟨RX0, "forgetCharges", "()I"⟩
abbrev cX0_stateOf : ByteArray := prog_2_method_14_code
def yX0_stateOf : MethodName := ⟨RX0, "stateOf", "(I)I"⟩
abbrev cX0_replaceFault : ByteArray := prog_2_method_15_code
def yX0_replaceFault : MethodName := ⟨RX0, "replaceFault", "(II)I"⟩
abbrev cX0_removeFaults : ByteArray := prog_2_method_16_code
def yX0_removeFaults : MethodName := ⟨RX0, "removeFaults", "()I"⟩
abbrev cX0_copyWithFault : ByteArray := prog_2_method_17_code
def yX0_copyWithFault : MethodName := ⟨RX0, "copyWithFault", "(LSwitchLevelSimulator$Circuit;II)V"⟩
abbrev cX0_copyFrom : ByteArray := prog_2_method_18_code
def yX0_copyFrom : MethodName := ⟨RX0, "copyFrom", "(LSwitchLevelSimulator$Circuit;)V"⟩
def RX1 : String := "SwitchLevelSimulator$SteadyState"
def TX1 : u_T := fun k => match k with
  | 0 => ("SwitchLevelSimulator$SteadyState", "definite", "[I", true)
  | 1 => ("SwitchLevelSimulator$SteadyState", "up", "[I", true)
  | 2 => ("SwitchLevelSimulator$SteadyState", "down", "[I", true)
  | 3 => ("SwitchLevelSimulator$SteadyState", "byClosed", "[[I", true)
  | _ => ("SwitchLevelSimulator$SteadyState", "byNotOpen", "[[I", true)
def tyX1 : Nat → FieldType := fun k => match k with
  | 0 => .array .int
  | 1 => .array .int
  | 2 => .array .int
  | 3 => .array (.array .int)
  | _ => .array (.array .int)
abbrev wsX10 : List Cond := u_ws RX1 TX1 5
theorem nmX1 : ∀ a, a < 5 → ∀ b, b < 5 → a ≠ b → (TX1 a).2.1 ≠ (TX1 b).2.1 := by decide +kernel
theorem tyX1_ok : ∀ k, k < 5 → parseFieldDescriptor (TX1 k).2.2.1 = some (tyX1 k) := by decide +kernel
abbrev cX1_init : ByteArray := prog_3_method_1_code
def yX1_init : MethodName := ⟨RX1, "<init>", "()V"⟩
abbrev cX1_find : ByteArray := prog_3_method_2_code
def yX1_find : MethodName := ⟨RX1, "find", "(LSwitchLevelSimulator$Circuit;)V"⟩
abbrev cX1_definiteLevel : ByteArray := prog_3_method_3_code
def yX1_definiteLevel : MethodName := ⟨RX1, "definiteLevel", "(I)I"⟩
abbrev cX1_upLevel : ByteArray := prog_3_method_4_code
def yX1_upLevel : MethodName := ⟨RX1, "upLevel", "(I)I"⟩
abbrev cX1_downLevel : ByteArray := prog_3_method_5_code
def yX1_downLevel : MethodName := ⟨RX1, "downLevel", "(I)I"⟩
abbrev cX1_changesOf : ByteArray := prog_3_method_6_code
def yX1_changesOf : MethodName := ⟨RX1, "changesOf", "(LSwitchLevelSimulator$Circuit;)I"⟩
abbrev cX1_putInto : ByteArray := prog_3_method_7_code
def yX1_putInto : MethodName := ⟨RX1, "putInto", "(LSwitchLevelSimulator$Circuit;)V"⟩
abbrev cX1_storageAround : ByteArray := prog_3_method_8_code
def yX1_storageAround : MethodName := ⟨RX1, "storageAround", "(ILSwitchLevelSimulator$Circuit;)I"⟩
abbrev cX1_findDefinite : ByteArray := prog_3_method_9_code
def yX1_findDefinite : MethodName := ⟨RX1, "findDefinite", "(LSwitchLevelSimulator$Circuit;)V"⟩
abbrev cX1_findSide : ByteArray := prog_3_method_10_code
def yX1_findSide : MethodName := ⟨RX1, "findSide", "([IILSwitchLevelSimulator$Circuit;)V"⟩
abbrev cX1_strengthPassing : ByteArray := prog_3_method_11_code
def yX1_strengthPassing : MethodName := ⟨RX1, "strengthPassing", "(I)I"⟩
abbrev cX1_findNeighbors : ByteArray := prog_3_method_12_code
def yX1_findNeighbors : MethodName := ⟨RX1, "findNeighbors", "(LSwitchLevelSimulator$Circuit;)V"⟩
abbrev cX1_connect : ByteArray := prog_3_method_13_code
def yX1_connect : MethodName := ⟨RX1, "connect", "([[ILSwitchLevelSimulator$Circuit;I)V"⟩
abbrev cX1_reach : ByteArray := prog_3_method_14_code
def yX1_reach : MethodName := ⟨RX1, "reach", "(I[II)I"⟩
abbrev cX1_levelIn : ByteArray := prog_3_method_15_code
def yX1_levelIn : MethodName := ⟨RX1, "levelIn", "([II)I"⟩
def RX2 : String := "SwitchLevelSimulator"
def TX2 : u_T := fun k => match k with
  | 0 => ("SwitchLevelSimulator", "circuit", "LSwitchLevelSimulator$Circuit;", true)
  | 1 => ("SwitchLevelSimulator", "trial", "LSwitchLevelSimulator$Circuit;", true)
  | 2 => ("SwitchLevelSimulator", "slots", "[LSwitchLevelSimulator$Circuit;", true)
  | _ => ("SwitchLevelSimulator", "steady", "LSwitchLevelSimulator$SteadyState;", true)
def tyX2 : Nat → FieldType := fun k => match k with
  | 0 => .object "SwitchLevelSimulator$Circuit"
  | 1 => .object "SwitchLevelSimulator$Circuit"
  | 2 => .array (.object "SwitchLevelSimulator$Circuit")
  | _ => .object "SwitchLevelSimulator$SteadyState"
abbrev wsX20 : List Cond := u_ws RX2 TX2 4
theorem nmX2 : ∀ a, a < 4 → ∀ b, b < 4 → a ≠ b → (TX2 a).2.1 ≠ (TX2 b).2.1 := by decide +kernel
theorem tyX2_ok : ∀ k, k < 4 → parseFieldDescriptor (TX2 k).2.2.1 = some (tyX2 k) := by decide +kernel
abbrev cX2_init : ByteArray := prog_1_method_1_code
def yX2_init : MethodName := ⟨RX2, "<init>", "()V"⟩
abbrev cX2_addInput : ByteArray := prog_1_method_2_code
def yX2_addInput : MethodName := ⟨RX2, "addInput", "()I"⟩
abbrev cX2_addStorage : ByteArray := prog_1_method_3_code
def yX2_addStorage : MethodName := ⟨RX2, "addStorage", "(I)I"⟩
abbrev cX2_addTransistor : ByteArray := prog_1_method_4_code
def yX2_addTransistor : MethodName := ⟨RX2, "addTransistor", "(IIIII)I"⟩
abbrev cX2_nodeCount : ByteArray := prog_1_method_5_code
def yX2_nodeCount : MethodName := ⟨RX2, "nodeCount", "()I"⟩
abbrev cX2_transistorCount : ByteArray := prog_1_method_6_code
def yX2_transistorCount : MethodName := ⟨RX2, "transistorCount", "()I"⟩
abbrev cX2_inputs : ByteArray := prog_1_method_7_code
def yX2_inputs : MethodName := ⟨RX2, "inputs", "()I"⟩
abbrev cX2_setInput : ByteArray := prog_1_method_8_code
def yX2_setInput : MethodName := ⟨RX2, "setInput", "(II)I"⟩
abbrev cX2_setCharge : ByteArray := prog_1_method_9_code
def yX2_setCharge : MethodName := ⟨RX2, "setCharge", "(II)I"⟩
abbrev cX2_forget : ByteArray := prog_1_method_10_code
def yX2_forget : MethodName := ⟨RX2, "forget", "()I"⟩
abbrev cX2_value : ByteArray := prog_1_method_11_code
def yX2_value : MethodName := ⟨RX2, "value", "(I)I"⟩
abbrev cX2_nodesWith : ByteArray := prog_1_method_12_code
def yX2_nodesWith : MethodName := ⟨RX2, "nodesWith", "(I)I"⟩
abbrev cX2_switchState : ByteArray := prog_1_method_13_code
def yX2_switchState : MethodName := ⟨RX2, "switchState", "(I)I"⟩
abbrev cX2_definiteStrength : ByteArray := prog_1_method_14_code
def yX2_definiteStrength : MethodName := ⟨RX2, "definiteStrength", "(I)I"⟩
abbrev cX2_upStrength : ByteArray := prog_1_method_15_code
def yX2_upStrength : MethodName := ⟨RX2, "upStrength", "(I)I"⟩
abbrev cX2_downStrength : ByteArray := prog_1_method_16_code
def yX2_downStrength : MethodName := ⟨RX2, "downStrength", "(I)I"⟩
abbrev cX2_steadyValue : ByteArray := prog_1_method_17_code
def yX2_steadyValue : MethodName := ⟨RX2, "steadyValue", "(I)I"⟩
abbrev cX2_vicinity : ByteArray := prog_1_method_18_code
def yX2_vicinity : MethodName := ⟨RX2, "vicinity", "(I)I"⟩
abbrev cX2_step : ByteArray := prog_1_method_19_code
def yX2_step : MethodName := ⟨RX2, "step", "()I"⟩
abbrev cX2_settle : ByteArray := prog_1_method_20_code
def yX2_settle : MethodName := ⟨RX2, "settle", "(I)I"⟩
abbrev cX2_active : ByteArray := prog_1_method_21_code
def yX2_active : MethodName := ⟨RX2, "active", "()I"⟩
abbrev cX2_period : ByteArray := prog_1_method_22_code
def yX2_period : MethodName := ⟨RX2, "period", "(I)I"⟩
abbrev cX2_setFault : ByteArray := prog_1_method_23_code
def yX2_setFault : MethodName := ⟨RX2, "setFault", "(II)I"⟩
abbrev cX2_clearFaults : ByteArray := prog_1_method_24_code
def yX2_clearFaults : MethodName := ⟨RX2, "clearFaults", "()I"⟩
abbrev cX2_detects : ByteArray := prog_1_method_25_code
def yX2_detects : MethodName := ⟨RX2, "detects", "(IIII)I"⟩
abbrev cX2_detectedFaults : ByteArray := prog_1_method_26_code
def yX2_detectedFaults : MethodName := ⟨RX2, "detectedFaults", "(II)I"⟩
abbrev cX2_save : ByteArray := prog_1_method_27_code
def yX2_save : MethodName := ⟨RX2, "save", "(I)I"⟩
abbrev cX2_restore : ByteArray := prog_1_method_28_code
def yX2_restore : MethodName := ⟨RX2, "restore", "(I)I"⟩
abbrev cX2_replaceValue : ByteArray := prog_1_method_29_code
def yX2_replaceValue : MethodName := ⟨RX2, "replaceValue", "(IIZ)I"⟩
abbrev cX2_advance : ByteArray := prog_1_method_30_code
def yX2_advance : MethodName := ⟨RX2, "advance", "(LSwitchLevelSimulator$Circuit;)I"⟩
abbrev cX2_settleWithin : ByteArray := prog_1_method_31_code
def yX2_settleWithin : MethodName := ⟨RX2, "settleWithin", "(LSwitchLevelSimulator$Circuit;I)I"⟩
abbrev cX2_settledTrialValue : ByteArray := prog_1_method_32_code
def yX2_settledTrialValue : MethodName := ⟨RX2, "settledTrialValue", "(II)I"⟩
abbrev cX2_areOpposite : ByteArray := prog_1_method_33_code
def yX2_areOpposite : MethodName := ⟨RX2, "areOpposite", "(II)Z"⟩
abbrev cX2_isValue : ByteArray := prog_1_method_34_code
def yX2_isValue : MethodName := ⟨RX2, "isValue", "(I)Z"⟩
abbrev cX2_isLimit : ByteArray := prog_1_method_35_code
def yX2_isLimit : MethodName := ⟨RX2, "isLimit", "(I)Z"⟩
abbrev cX2_isWithin : ByteArray := prog_1_method_36_code
def yX2_isWithin : MethodName := ⟨RX2, "isWithin", "(III)Z"⟩
def RX3 : String := "SwitchLevelSimulatorModel"
def TX3 : u_T := fun k => match k with
  | 0 => ("SwitchLevelSimulatorModel", "state", "[I", true)
  | 1 => ("SwitchLevelSimulatorModel", "slots", "[I", true)
  | 2 => ("SwitchLevelSimulatorModel", "isSaved", "[Z", true)
  | 3 => ("SwitchLevelSimulatorModel", "definite", "[I", true)
  | 4 => ("SwitchLevelSimulatorModel", "up", "[I", true)
  | 5 => ("SwitchLevelSimulatorModel", "down", "[I", true)
  | 6 => ("SwitchLevelSimulatorModel", "states", "[I", true)
  | _ => ("SwitchLevelSimulatorModel", "before", "[I", true)
def tyX3 : Nat → FieldType := fun k => match k with
  | 0 => .array .int
  | 1 => .array .int
  | 2 => .array .boolean
  | 3 => .array .int
  | 4 => .array .int
  | 5 => .array .int
  | 6 => .array .int
  | _ => .array .int
abbrev wsX30 : List Cond := u_ws RX3 TX3 8
theorem nmX3 : ∀ a, a < 8 → ∀ b, b < 8 → a ≠ b → (TX3 a).2.1 ≠ (TX3 b).2.1 := by decide +kernel
theorem tyX3_ok : ∀ k, k < 8 → parseFieldDescriptor (TX3 k).2.2.1 = some (tyX3 k) := by decide +kernel
abbrev cX3_init : ByteArray := prog_5_method_1_code
def yX3_init : MethodName := ⟨RX3, "<init>", "()V"⟩
abbrev cX3_in : ByteArray := prog_5_method_2_code
def yX3_in : MethodName := ⟨RX3, "in", "(III)Z"⟩
abbrev cX3_nodes : ByteArray := prog_5_method_3_code
def yX3_nodes : MethodName := ⟨RX3, "nodes", "()I"⟩
abbrev cX3_many : ByteArray := prog_5_method_4_code
def yX3_many : MethodName := ⟨RX3, "many", "()I"⟩
abbrev cX3_isNode : ByteArray := prog_5_method_5_code
def yX3_isNode : MethodName := ⟨RX3, "isNode", "(I)Z"⟩
abbrev cX3_isTransistor : ByteArray := prog_5_method_6_code
def yX3_isTransistor : MethodName := ⟨RX3, "isTransistor", "(I)Z"⟩
abbrev cX3_isInput : ByteArray := prog_5_method_7_code
def yX3_isInput : MethodName := ⟨RX3, "isInput", "(I)Z"⟩
abbrev cX3_set : ByteArray := prog_5_method_8_code
def yX3_set : MethodName := ⟨RX3, "set", "(II)I"⟩
abbrev cX3_addNode : ByteArray := prog_5_method_9_code
def yX3_addNode : MethodName := ⟨RX3, "addNode", "(I)I"⟩
abbrev cX3_addInput : ByteArray := prog_5_method_10_code
def yX3_addInput : MethodName := ⟨RX3, "addInput", "()I"⟩
abbrev cX3_addStorage : ByteArray := prog_5_method_11_code
def yX3_addStorage : MethodName := ⟨RX3, "addStorage", "(I)I"⟩
abbrev cX3_addTransistor : ByteArray := prog_5_method_12_code
def yX3_addTransistor : MethodName := ⟨RX3, "addTransistor", "(IIIII)I"⟩
abbrev cX3_nodeCount : ByteArray := prog_5_method_13_code
def yX3_nodeCount : MethodName := ⟨RX3, "nodeCount", "()I"⟩
abbrev cX3_transistorCount : ByteArray := prog_5_method_14_code
def yX3_transistorCount : MethodName := ⟨RX3, "transistorCount", "()I"⟩
abbrev cX3_inputs : ByteArray := prog_5_method_15_code
def yX3_inputs : MethodName := ⟨RX3, "inputs", "()I"⟩
abbrev cX3_setInput : ByteArray := prog_5_method_16_code
def yX3_setInput : MethodName := ⟨RX3, "setInput", "(II)I"⟩
abbrev cX3_setCharge : ByteArray := prog_5_method_17_code
def yX3_setCharge : MethodName := ⟨RX3, "setCharge", "(II)I"⟩
abbrev cX3_forget : ByteArray := prog_5_method_18_code
def yX3_forget : MethodName := ⟨RX3, "forget", "()I"⟩
abbrev cX3_value : ByteArray := prog_5_method_19_code
def yX3_value : MethodName := ⟨RX3, "value", "(I)I"⟩
abbrev cX3_nodesWith : ByteArray := prog_5_method_20_code
def yX3_nodesWith : MethodName := ⟨RX3, "nodesWith", "(I)I"⟩
abbrev cX3_stateOf : ByteArray := prog_5_method_21_code
def yX3_stateOf : MethodName := ⟨RX3, "stateOf", "(I)I"⟩
abbrev cX3_switchState : ByteArray := prog_5_method_22_code
def yX3_switchState : MethodName := ⟨RX3, "switchState", "(I)I"⟩
abbrev cX3_lesser : ByteArray := prog_5_method_23_code
def yX3_lesser : MethodName := ⟨RX3, "lesser", "(II)I"⟩
abbrev cX3_signal : ByteArray := prog_5_method_24_code
def yX3_signal : MethodName := ⟨RX3, "signal", "(I)I"⟩
abbrev cX3_growDefinite : ByteArray := prog_5_method_25_code
def yX3_growDefinite : MethodName := ⟨RX3, "growDefinite", "(III)Z"⟩
abbrev cX3_layDefinite : ByteArray := prog_5_method_26_code
def yX3_layDefinite : MethodName := ⟨RX3, "layDefinite", "()V"⟩
abbrev cX3_grow : ByteArray := prog_5_method_27_code
def yX3_grow : MethodName := ⟨RX3, "grow", "([IIII)Z"⟩
abbrev cX3_layStrength : ByteArray := prog_5_method_28_code
def yX3_layStrength : MethodName := ⟨RX3, "layStrength", "([II)V"⟩
abbrev cX3_layAll : ByteArray := prog_5_method_29_code
def yX3_layAll : MethodName := ⟨RX3, "layAll", "()V"⟩
abbrev cX3_definiteStrength : ByteArray := prog_5_method_30_code
def yX3_definiteStrength : MethodName := ⟨RX3, "definiteStrength", "(I)I"⟩
abbrev cX3_upStrength : ByteArray := prog_5_method_31_code
def yX3_upStrength : MethodName := ⟨RX3, "upStrength", "(I)I"⟩
abbrev cX3_downStrength : ByteArray := prog_5_method_32_code
def yX3_downStrength : MethodName := ⟨RX3, "downStrength", "(I)I"⟩
abbrev cX3_steady : ByteArray := prog_5_method_33_code
def yX3_steady : MethodName := ⟨RX3, "steady", "(I)I"⟩
abbrev cX3_steadyValue : ByteArray := prog_5_method_34_code
def yX3_steadyValue : MethodName := ⟨RX3, "steadyValue", "(I)I"⟩
abbrev cX3_vicinity : ByteArray := prog_5_method_35_code
def yX3_vicinity : MethodName := ⟨RX3, "vicinity", "(I)I"⟩
abbrev cX3_activeNow : ByteArray := prog_5_method_36_code
def yX3_activeNow : MethodName := ⟨RX3, "activeNow", "()I"⟩
abbrev cX3_stepNow : ByteArray := prog_5_method_37_code
def yX3_stepNow : MethodName := ⟨RX3, "stepNow", "()I"⟩
abbrev cX3_step : ByteArray := prog_5_method_38_code
def yX3_step : MethodName := ⟨RX3, "step", "()I"⟩
abbrev cX3_isLimit : ByteArray := prog_5_method_39_code
def yX3_isLimit : MethodName := ⟨RX3, "isLimit", "(I)Z"⟩
abbrev cX3_settleNow : ByteArray := prog_5_method_40_code
def yX3_settleNow : MethodName := ⟨RX3, "settleNow", "(I)I"⟩
abbrev cX3_settle : ByteArray := prog_5_method_41_code
def yX3_settle : MethodName := ⟨RX3, "settle", "(I)I"⟩
abbrev cX3_active : ByteArray := prog_5_method_42_code
def yX3_active : MethodName := ⟨RX3, "active", "()I"⟩
abbrev cX3_keep : ByteArray := prog_5_method_43_code
def yX3_keep : MethodName := ⟨RX3, "keep", "()V"⟩
abbrev cX3_putBack : ByteArray := prog_5_method_44_code
def yX3_putBack : MethodName := ⟨RX3, "putBack", "()V"⟩
abbrev cX3_period : ByteArray := prog_5_method_45_code
def yX3_period : MethodName := ⟨RX3, "period", "(I)I"⟩
abbrev cX3_setFault : ByteArray := prog_5_method_46_code
def yX3_setFault : MethodName := ⟨RX3, "setFault", "(II)I"⟩
abbrev cX3_clearFaults : ByteArray := prog_5_method_47_code
def yX3_clearFaults : MethodName := ⟨RX3, "clearFaults", "()I"⟩
abbrev cX3_settledValue : ByteArray := prog_5_method_48_code
def yX3_settledValue : MethodName := ⟨RX3, "settledValue", "(II)I"⟩
abbrev cX3_isDetected : ByteArray := prog_5_method_49_code
def yX3_isDetected : MethodName := ⟨RX3, "isDetected", "(IIIII)Z"⟩
abbrev cX3_detects : ByteArray := prog_5_method_50_code
def yX3_detects : MethodName := ⟨RX3, "detects", "(IIII)I"⟩
abbrev cX3_detectedFaults : ByteArray := prog_5_method_51_code
def yX3_detectedFaults : MethodName := ⟨RX3, "detectedFaults", "(II)I"⟩
abbrev cX3_save : ByteArray := prog_5_method_52_code
def yX3_save : MethodName := ⟨RX3, "save", "(I)I"⟩
abbrev cX3_restore : ByteArray := prog_5_method_53_code
def yX3_restore : MethodName := ⟨RX3, "restore", "(I)I"⟩
def RJ6 : String := "java/lang/Integer"
def TJ6 : u_T := fun k => match k with
  | _ => ("", "", "", false)
def tyJ6 : Nat → FieldType := fun k => match k with
  | _ => .int
abbrev wsJ60 : List Cond := u_ws RJ6 TJ6 0
theorem nmJ6 : ∀ a, a < 0 → ∀ b, b < 0 → a ≠ b → (TJ6 a).2.1 ≠ (TJ6 b).2.1 := by decide +kernel
theorem tyJ6_ok : ∀ k, k < 0 → parseFieldDescriptor (TJ6 k).2.2.1 = some (tyJ6 k) := by decide +kernel
abbrev cJ6_numberOfTrailingZeros_0f7a4 : ByteArray := prog_6_method_48_code
def yJ6_numberOfTrailingZeros_0f7a4 : MethodName := ⟨RJ6, "numberOfTrailingZeros", "(I)I"⟩
abbrev cJ6_bitCount_0f7a4 : ByteArray := prog_6_method_49_code
def yJ6_bitCount_0f7a4 : MethodName := ⟨RJ6, "bitCount", "(I)I"⟩
def RJ9 : String := "java/lang/Math"
def TJ9 : u_T := fun k => match k with
  | _ => ("", "", "", false)
def tyJ9 : Nat → FieldType := fun k => match k with
  | _ => .int
abbrev wsJ90 : List Cond := u_ws RJ9 TJ9 0
theorem nmJ9 : ∀ a, a < 0 → ∀ b, b < 0 → a ≠ b → (TJ9 a).2.1 ≠ (TJ9 b).2.1 := by decide +kernel
theorem tyJ9_ok : ∀ k, k < 0 → parseFieldDescriptor (TJ9 k).2.2.1 = some (tyJ9 k) := by decide +kernel
abbrev cJ9_max_7cf53 : ByteArray := prog_7_method_65_code
def yJ9_max_7cf53 : MethodName := ⟨RJ9, "max", "(II)I"⟩
def RJ10 : String := "java/lang/System"
def TJ10 : u_T := fun k => match k with
  | _ => ("", "", "", false)
def tyJ10 : Nat → FieldType := fun k => match k with
  | _ => .int
abbrev wsJ100 : List Cond := u_ws RJ10 TJ10 0
theorem nmJ10 : ∀ a, a < 0 → ∀ b, b < 0 → a ≠ b → (TJ10 a).2.1 ≠ (TJ10 b).2.1 := by decide +kernel
theorem tyJ10_ok : ∀ k, k < 0 → parseFieldDescriptor (TJ10 k).2.2.1 = some (tyJ10 k) := by decide +kernel
def RL : String := "SwitchLevelSimulatorLaw"
abbrev cL_law : ByteArray := code
def yL_law : MethodName := ⟨RL, "law", "([I)Z"⟩
def wsX0_init : List Cond := .code yX0_init cX0_init 1 none :: ([.methodLink RX0 3 objectInit, .instanceMethod objectInit, .code objectInit ⟨#[0xb1]⟩ 1 none, .arrayClass .int, .fieldLink RX0 9 "SwitchLevelSimulator$Circuit" "sizedAtLeast" "[I", .fieldLink RX0 15 "SwitchLevelSimulator$Circuit" "types" "[I", .fieldLink RX0 18 "SwitchLevelSimulator$Circuit" "strengths" "[I", .fieldLink RX0 21 "SwitchLevelSimulator$Circuit" "gates" "[I", .fieldLink RX0 24 "SwitchLevelSimulator$Circuit" "ones" "[I", .fieldLink RX0 27 "SwitchLevelSimulator$Circuit" "others" "[I", .fieldLink RX0 30 "SwitchLevelSimulator$Circuit" "faults" "[I"] ++ wsX00)
def wsX0_hasNode : List Cond := .code yX0_hasNode cX0_hasNode 2 (some .boolean) :: ([.fieldLink RX0 33 "SwitchLevelSimulator$Circuit" "nodeTotal" "I"] ++ wsX00)
def wsX0_hasTransistor : List Cond := .code yX0_hasTransistor cX0_hasTransistor 2 (some .boolean) :: ([.fieldLink RX0 37 "SwitchLevelSimulator$Circuit" "transistorTotal" "I"] ++ wsX00)
def wsX0_isInput : List Cond := .code yX0_isInput cX0_isInput 2 (some .boolean) :: ([.fieldLink RX0 40 "SwitchLevelSimulator$Circuit" "inputNodes" "I"] ++ wsX00)
def wsX0_putValue : List Cond := .code yX0_putValue cX0_putValue 4 none :: ([.fieldLink RX0 54 "SwitchLevelSimulator$Circuit" "mayBeZero" "I", .fieldLink RX0 57 "SwitchLevelSimulator$Circuit" "mayBeOne" "I"] ++ wsX00)
def wsX0_appendUnknownNode : List Cond := .code yX0_appendUnknownNode cX0_appendUnknownNode 2 (some .int) :: ([.fieldLink RX0 33 "SwitchLevelSimulator$Circuit" "nodeTotal" "I", .methodLink RX0 50 yX0_putValue, .instanceMethod yX0_putValue, .selects RX0 yX0_putValue yX0_putValue, .initialized RX0, .code yX0_putValue cX0_putValue 4 none, .fieldLink RX0 54 "SwitchLevelSimulator$Circuit" "mayBeZero" "I", .fieldLink RX0 57 "SwitchLevelSimulator$Circuit" "mayBeOne" "I"] ++ wsX00)
def wsX0_appendInput : List Cond := .code yX0_appendInput cX0_appendInput 1 (some .int) :: ([.fieldLink RX0 40 "SwitchLevelSimulator$Circuit" "inputNodes" "I", .fieldLink RX0 33 "SwitchLevelSimulator$Circuit" "nodeTotal" "I", .methodLink RX0 43 yX0_appendUnknownNode, .instanceMethod yX0_appendUnknownNode, .selects RX0 yX0_appendUnknownNode yX0_appendUnknownNode, .initialized RX0, .code yX0_appendUnknownNode cX0_appendUnknownNode 2 (some .int), .methodLink RX0 50 yX0_putValue, .instanceMethod yX0_putValue, .selects RX0 yX0_putValue yX0_putValue, .code yX0_putValue cX0_putValue 4 none, .fieldLink RX0 54 "SwitchLevelSimulator$Circuit" "mayBeZero" "I", .fieldLink RX0 57 "SwitchLevelSimulator$Circuit" "mayBeOne" "I"] ++ wsX00)
def wsX0_appendStorage : List Cond := .code yX0_appendStorage cX0_appendStorage 3 (some .int) :: ([.fieldLink RX0 47 "SwitchLevelSimulator$Circuit" "storageNodes" "I", .fieldLink RX0 33 "SwitchLevelSimulator$Circuit" "nodeTotal" "I", .fieldLink RX0 9 "SwitchLevelSimulator$Circuit" "sizedAtLeast" "[I", .methodLink RX0 43 yX0_appendUnknownNode, .instanceMethod yX0_appendUnknownNode, .selects RX0 yX0_appendUnknownNode yX0_appendUnknownNode, .initialized RX0, .code yX0_appendUnknownNode cX0_appendUnknownNode 2 (some .int), .methodLink RX0 50 yX0_putValue, .instanceMethod yX0_putValue, .selects RX0 yX0_putValue yX0_putValue, .code yX0_putValue cX0_putValue 4 none, .fieldLink RX0 54 "SwitchLevelSimulator$Circuit" "mayBeZero" "I", .fieldLink RX0 57 "SwitchLevelSimulator$Circuit" "mayBeOne" "I"] ++ wsX00)
def wsX0_appendTransistor : List Cond := .code yX0_appendTransistor cX0_appendTransistor 7 (some .int) :: ([.fieldLink RX0 37 "SwitchLevelSimulator$Circuit" "transistorTotal" "I", .fieldLink RX0 15 "SwitchLevelSimulator$Circuit" "types" "[I", .fieldLink RX0 18 "SwitchLevelSimulator$Circuit" "strengths" "[I", .fieldLink RX0 21 "SwitchLevelSimulator$Circuit" "gates" "[I", .fieldLink RX0 24 "SwitchLevelSimulator$Circuit" "ones" "[I", .fieldLink RX0 27 "SwitchLevelSimulator$Circuit" "others" "[I", .fieldLink RX0 30 "SwitchLevelSimulator$Circuit" "faults" "[I"] ++ wsX00)
def wsX0_valueOf : List Cond := .code yX0_valueOf cX0_valueOf 4 (some .int) :: ([.fieldLink RX0 54 "SwitchLevelSimulator$Circuit" "mayBeZero" "I", .fieldLink RX0 57 "SwitchLevelSimulator$Circuit" "mayBeOne" "I"] ++ wsX00)
def wsX0_nodesOfValue : List Cond := .code yX0_nodesOfValue cX0_nodesOfValue 2 (some .int) :: ([.fieldLink RX0 54 "SwitchLevelSimulator$Circuit" "mayBeZero" "I", .fieldLink RX0 57 "SwitchLevelSimulator$Circuit" "mayBeOne" "I"] ++ wsX00)
def wsX0_hasValuesOf : List Cond := .code yX0_hasValuesOf cX0_hasValuesOf 2 (some .boolean) :: ([.fieldLink RX0 54 "SwitchLevelSimulator$Circuit" "mayBeZero" "I", .fieldLink RX0 57 "SwitchLevelSimulator$Circuit" "mayBeOne" "I"] ++ wsX00)
def wsJ6_bitCount_0f7a4 : List Cond := .code yJ6_bitCount_0f7a4 cJ6_bitCount_0f7a4 1 (some .int) :: ([.constant RJ6 265 (1431655765), .constant RJ6 266 (858993459), .constant RJ6 267 (252645135)])
def wsX0_forgetCharges : List Cond := .code yX0_forgetCharges cX0_forgetCharges 2 (some .int) :: ([.fieldLink RX0 47 "SwitchLevelSimulator$Circuit" "storageNodes" "I", .fieldLink RX0 54 "SwitchLevelSimulator$Circuit" "mayBeZero" "I", .fieldLink RX0 57 "SwitchLevelSimulator$Circuit" "mayBeOne" "I", .methodLink RX0 60 yX0_nodesOfValue, .instanceMethod yX0_nodesOfValue, .selects RX0 yX0_nodesOfValue yX0_nodesOfValue, .initialized RX0, .code yX0_nodesOfValue cX0_nodesOfValue 2 (some .int), .methodLink RX0 64 yJ6_bitCount_0f7a4, .static yJ6_bitCount_0f7a4, .initialized RJ6, .code yJ6_bitCount_0f7a4 cJ6_bitCount_0f7a4 1 (some .int), .constant RJ6 265 (1431655765), .constant RJ6 266 (858993459), .constant RJ6 267 (252645135)] ++ wsX00)
def wsX0_stateOf : List Cond := .code yX0_stateOf cX0_stateOf 4 (some .int) :: ([.fieldLink RX0 30 "SwitchLevelSimulator$Circuit" "faults" "[I", .fieldLink RX0 15 "SwitchLevelSimulator$Circuit" "types" "[I", .fieldLink RX0 21 "SwitchLevelSimulator$Circuit" "gates" "[I", .methodLink RX0 69 yX0_valueOf, .instanceMethod yX0_valueOf, .selects RX0 yX0_valueOf yX0_valueOf, .initialized RX0, .code yX0_valueOf cX0_valueOf 4 (some .int), .fieldLink RX0 54 "SwitchLevelSimulator$Circuit" "mayBeZero" "I", .fieldLink RX0 57 "SwitchLevelSimulator$Circuit" "mayBeOne" "I"] ++ wsX00)
def wsX0_replaceFault : List Cond := .code yX0_replaceFault cX0_replaceFault 4 (some .int) :: ([.fieldLink RX0 30 "SwitchLevelSimulator$Circuit" "faults" "[I"] ++ wsX00)
def wsX0_removeFaults : List Cond := .code yX0_removeFaults cX0_removeFaults 3 (some .int) :: ([.fieldLink RX0 37 "SwitchLevelSimulator$Circuit" "transistorTotal" "I", .methodLink RX0 72 yX0_replaceFault, .instanceMethod yX0_replaceFault, .selects RX0 yX0_replaceFault yX0_replaceFault, .initialized RX0, .code yX0_replaceFault cX0_replaceFault 4 (some .int), .fieldLink RX0 30 "SwitchLevelSimulator$Circuit" "faults" "[I"] ++ wsX00)
def wsX0_copyFrom : List Cond := .code yX0_copyFrom cX0_copyFrom 2 none :: ([.fieldLink RX0 33 "SwitchLevelSimulator$Circuit" "nodeTotal" "I", .fieldLink RX0 40 "SwitchLevelSimulator$Circuit" "inputNodes" "I", .fieldLink RX0 47 "SwitchLevelSimulator$Circuit" "storageNodes" "I", .fieldLink RX0 9 "SwitchLevelSimulator$Circuit" "sizedAtLeast" "[I", .methodLink RX0 80 arraycopyName, .native arraycopyName, .static arraycopyName, .initialized "java/lang/System", .fieldLink RX0 54 "SwitchLevelSimulator$Circuit" "mayBeZero" "I", .fieldLink RX0 57 "SwitchLevelSimulator$Circuit" "mayBeOne" "I", .fieldLink RX0 37 "SwitchLevelSimulator$Circuit" "transistorTotal" "I", .fieldLink RX0 15 "SwitchLevelSimulator$Circuit" "types" "[I", .fieldLink RX0 18 "SwitchLevelSimulator$Circuit" "strengths" "[I", .fieldLink RX0 21 "SwitchLevelSimulator$Circuit" "gates" "[I", .fieldLink RX0 24 "SwitchLevelSimulator$Circuit" "ones" "[I", .fieldLink RX0 27 "SwitchLevelSimulator$Circuit" "others" "[I", .fieldLink RX0 30 "SwitchLevelSimulator$Circuit" "faults" "[I"] ++ wsX00)
def wsX0_copyWithFault : List Cond := .code yX0_copyWithFault cX0_copyWithFault 4 none :: ([.fieldLink RX0 30 "SwitchLevelSimulator$Circuit" "faults" "[I", .methodLink RX0 76 yX0_copyFrom, .instanceMethod yX0_copyFrom, .selects RX0 yX0_copyFrom yX0_copyFrom, .initialized RX0, .code yX0_copyFrom cX0_copyFrom 2 none, .fieldLink RX0 33 "SwitchLevelSimulator$Circuit" "nodeTotal" "I", .fieldLink RX0 40 "SwitchLevelSimulator$Circuit" "inputNodes" "I", .fieldLink RX0 47 "SwitchLevelSimulator$Circuit" "storageNodes" "I", .fieldLink RX0 9 "SwitchLevelSimulator$Circuit" "sizedAtLeast" "[I", .methodLink RX0 80 arraycopyName, .native arraycopyName, .static arraycopyName, .initialized "java/lang/System", .fieldLink RX0 54 "SwitchLevelSimulator$Circuit" "mayBeZero" "I", .fieldLink RX0 57 "SwitchLevelSimulator$Circuit" "mayBeOne" "I", .fieldLink RX0 37 "SwitchLevelSimulator$Circuit" "transistorTotal" "I", .fieldLink RX0 15 "SwitchLevelSimulator$Circuit" "types" "[I", .fieldLink RX0 18 "SwitchLevelSimulator$Circuit" "strengths" "[I", .fieldLink RX0 21 "SwitchLevelSimulator$Circuit" "gates" "[I", .fieldLink RX0 24 "SwitchLevelSimulator$Circuit" "ones" "[I", .fieldLink RX0 27 "SwitchLevelSimulator$Circuit" "others" "[I"] ++ wsX00)
def wsX1_init : List Cond := .code yX1_init cX1_init 1 none :: ([.methodLink RX1 3 objectInit, .instanceMethod objectInit, .code objectInit ⟨#[0xb1]⟩ 1 none, .arrayClass .int, .fieldLink RX1 9 "SwitchLevelSimulator$SteadyState" "definite" "[I", .fieldLink RX1 15 "SwitchLevelSimulator$SteadyState" "up" "[I", .fieldLink RX1 18 "SwitchLevelSimulator$SteadyState" "down" "[I", .classLink RX1 21 "[[I", .fieldLink RX1 23 "SwitchLevelSimulator$SteadyState" "byClosed" "[[I", .fieldLink RX1 26 "SwitchLevelSimulator$SteadyState" "byNotOpen" "[[I"] ++ wsX10)
def wsX1_connect : List Cond := .code yX1_connect cX1_connect 6 none :: ([.fieldLink RX1 89 "SwitchLevelSimulator$Circuit" "ones" "[I", .fieldLink RX1 92 "SwitchLevelSimulator$Circuit" "others" "[I", .fieldLink RX1 95 "SwitchLevelSimulator$Circuit" "strengths" "[I"] ++ wsX00)
def wsX1_findNeighbors_r1 : List Cond := [Cond.fieldLink RX1 76 "SwitchLevelSimulator$Circuit" "nodeTotal" "I", Cond.fieldLink RX1 23 "SwitchLevelSimulator$SteadyState" "byClosed" "[[I", Cond.fieldLink RX1 26 "SwitchLevelSimulator$SteadyState" "byNotOpen" "[[I", Cond.fieldLink RX1 79 "SwitchLevelSimulator$Circuit" "transistorTotal" "I", Cond.methodLink RX1 82 yX0_stateOf, Cond.instanceMethod yX0_stateOf, Cond.selects RX0 yX0_stateOf yX0_stateOf, Cond.initialized RX0, Cond.code yX0_stateOf cX0_stateOf 4 (some .int), Cond.fieldLink RX0 30 "SwitchLevelSimulator$Circuit" "faults" "[I", Cond.fieldLink RX0 15 "SwitchLevelSimulator$Circuit" "types" "[I", Cond.fieldLink RX0 21 "SwitchLevelSimulator$Circuit" "gates" "[I", Cond.methodLink RX0 69 yX0_valueOf, Cond.instanceMethod yX0_valueOf, Cond.selects RX0 yX0_valueOf yX0_valueOf, Cond.code yX0_valueOf cX0_valueOf 4 (some .int), Cond.fieldLink RX0 54 "SwitchLevelSimulator$Circuit" "mayBeZero" "I", Cond.fieldLink RX0 57 "SwitchLevelSimulator$Circuit" "mayBeOne" "I", Cond.methodLink RX1 85 yX1_connect, Cond.static yX1_connect, Cond.initialized RX1, Cond.code yX1_connect cX1_connect 6 none, Cond.fieldLink RX1 89 "SwitchLevelSimulator$Circuit" "ones" "[I", Cond.fieldLink RX1 92 "SwitchLevelSimulator$Circuit" "others" "[I"]
def wsX1_findNeighbors_r2 : List Cond := [Cond.fieldLink RX1 95 "SwitchLevelSimulator$Circuit" "strengths" "[I"]
def wsX1_findNeighbors : List Cond := .code yX1_findNeighbors cX1_findNeighbors 4 none :: ((wsX1_findNeighbors_r1 ++ wsX1_findNeighbors_r2) ++ wsX00 ++ wsX10)
def wsX1_strengthPassing : List Cond := .code yX1_strengthPassing cX1_strengthPassing 1 (some .int) :: ([.methodLink RX1 70 Lib.Math.max.name, .static Lib.Math.max.name, .initialized "java/lang/Math", .code Lib.Math.max.name Lib.Math.max.code 2 (some .int)])
def wsJ6_numberOfTrailingZeros_0f7a4 : List Cond := .code yJ6_numberOfTrailingZeros_0f7a4 cJ6_numberOfTrailingZeros_0f7a4 2 (some .int) :: ([.constant RJ6 264 (65536)])
def wsX1_reach : List Cond := .code yX1_reach cX1_reach 8 (some .int) :: ([.methodLink RX1 98 yJ6_numberOfTrailingZeros_0f7a4, .static yJ6_numberOfTrailingZeros_0f7a4, .initialized RJ6, .code yJ6_numberOfTrailingZeros_0f7a4 cJ6_numberOfTrailingZeros_0f7a4 2 (some .int), .constant RJ6 264 (65536)])
def wsX1_findDefinite : List Cond := .code yX1_findDefinite cX1_findDefinite 4 none :: ([.fieldLink RX1 9 "SwitchLevelSimulator$SteadyState" "definite" "[I", .fieldLink RX1 60 "SwitchLevelSimulator$Circuit" "inputNodes" "I", .fieldLink RX1 63 "SwitchLevelSimulator$Circuit" "sizedAtLeast" "[I", .fieldLink RX1 23 "SwitchLevelSimulator$SteadyState" "byClosed" "[[I", .fieldLink RX1 53 "SwitchLevelSimulator$Circuit" "storageNodes" "I", .methodLink RX1 66 yX1_strengthPassing, .static yX1_strengthPassing, .initialized RX1, .code yX1_strengthPassing cX1_strengthPassing 1 (some .int), .methodLink RX1 70 Lib.Math.max.name, .static Lib.Math.max.name, .initialized "java/lang/Math", .code Lib.Math.max.name Lib.Math.max.code 2 (some .int), .methodLink RX1 56 yX1_reach, .static yX1_reach, .code yX1_reach cX1_reach 8 (some .int), .methodLink RX1 98 yJ6_numberOfTrailingZeros_0f7a4, .static yJ6_numberOfTrailingZeros_0f7a4, .initialized RJ6, .code yJ6_numberOfTrailingZeros_0f7a4 cJ6_numberOfTrailingZeros_0f7a4 2 (some .int), .constant RJ6 264 (65536)] ++ wsX10 ++ wsX00)
def wsX1_findSide : List Cond := .code yX1_findSide cX1_findSide 7 none :: ([.fieldLink RX1 60 "SwitchLevelSimulator$Circuit" "inputNodes" "I", .fieldLink RX1 53 "SwitchLevelSimulator$Circuit" "storageNodes" "I", .fieldLink RX1 9 "SwitchLevelSimulator$SteadyState" "definite" "[I", .fieldLink RX1 63 "SwitchLevelSimulator$Circuit" "sizedAtLeast" "[I", .fieldLink RX1 26 "SwitchLevelSimulator$SteadyState" "byNotOpen" "[[I", .methodLink RX1 66 yX1_strengthPassing, .static yX1_strengthPassing, .initialized RX1, .code yX1_strengthPassing cX1_strengthPassing 1 (some .int), .methodLink RX1 70 Lib.Math.max.name, .static Lib.Math.max.name, .initialized "java/lang/Math", .code Lib.Math.max.name Lib.Math.max.code 2 (some .int), .methodLink RX1 56 yX1_reach, .static yX1_reach, .code yX1_reach cX1_reach 8 (some .int), .methodLink RX1 98 yJ6_numberOfTrailingZeros_0f7a4, .static yJ6_numberOfTrailingZeros_0f7a4, .initialized RJ6, .code yJ6_numberOfTrailingZeros_0f7a4 cJ6_numberOfTrailingZeros_0f7a4 2 (some .int), .constant RJ6 264 (65536)] ++ wsX00 ++ wsX10)
def wsX1_find_r1 : List Cond := [Cond.fieldLink RX1 15 "SwitchLevelSimulator$SteadyState" "up" "[I", Cond.fieldLink RX1 36 "SwitchLevelSimulator$Circuit" "mayBeOne" "I", Cond.fieldLink RX1 18 "SwitchLevelSimulator$SteadyState" "down" "[I", Cond.fieldLink RX1 46 "SwitchLevelSimulator$Circuit" "mayBeZero" "I", Cond.methodLink RX1 29 yX1_findNeighbors, Cond.instanceMethod yX1_findNeighbors, Cond.selects RX1 yX1_findNeighbors yX1_findNeighbors, Cond.initialized RX1, Cond.code yX1_findNeighbors cX1_findNeighbors 4 none, Cond.fieldLink RX1 76 "SwitchLevelSimulator$Circuit" "nodeTotal" "I", Cond.fieldLink RX1 23 "SwitchLevelSimulator$SteadyState" "byClosed" "[[I", Cond.fieldLink RX1 26 "SwitchLevelSimulator$SteadyState" "byNotOpen" "[[I", Cond.fieldLink RX1 79 "SwitchLevelSimulator$Circuit" "transistorTotal" "I", Cond.methodLink RX1 82 yX0_stateOf, Cond.instanceMethod yX0_stateOf, Cond.selects RX0 yX0_stateOf yX0_stateOf, Cond.initialized RX0, Cond.code yX0_stateOf cX0_stateOf 4 (some .int), Cond.fieldLink RX0 30 "SwitchLevelSimulator$Circuit" "faults" "[I", Cond.fieldLink RX0 15 "SwitchLevelSimulator$Circuit" "types" "[I", Cond.fieldLink RX0 21 "SwitchLevelSimulator$Circuit" "gates" "[I", Cond.methodLink RX0 69 yX0_valueOf, Cond.instanceMethod yX0_valueOf, Cond.selects RX0 yX0_valueOf yX0_valueOf]
def wsX1_find_r2 : List Cond := [Cond.code yX0_valueOf cX0_valueOf 4 (some .int), Cond.fieldLink RX0 54 "SwitchLevelSimulator$Circuit" "mayBeZero" "I", Cond.fieldLink RX0 57 "SwitchLevelSimulator$Circuit" "mayBeOne" "I", Cond.methodLink RX1 85 yX1_connect, Cond.static yX1_connect, Cond.code yX1_connect cX1_connect 6 none, Cond.fieldLink RX1 89 "SwitchLevelSimulator$Circuit" "ones" "[I", Cond.fieldLink RX1 92 "SwitchLevelSimulator$Circuit" "others" "[I", Cond.fieldLink RX1 95 "SwitchLevelSimulator$Circuit" "strengths" "[I", Cond.methodLink RX1 33 yX1_findDefinite, Cond.instanceMethod yX1_findDefinite, Cond.selects RX1 yX1_findDefinite yX1_findDefinite, Cond.code yX1_findDefinite cX1_findDefinite 4 none, Cond.fieldLink RX1 9 "SwitchLevelSimulator$SteadyState" "definite" "[I", Cond.fieldLink RX1 60 "SwitchLevelSimulator$Circuit" "inputNodes" "I", Cond.fieldLink RX1 63 "SwitchLevelSimulator$Circuit" "sizedAtLeast" "[I", Cond.fieldLink RX1 53 "SwitchLevelSimulator$Circuit" "storageNodes" "I", Cond.methodLink RX1 66 yX1_strengthPassing, Cond.static yX1_strengthPassing, Cond.code yX1_strengthPassing cX1_strengthPassing 1 (some .int), Cond.methodLink RX1 70 Lib.Math.max.name, Cond.static Lib.Math.max.name, Cond.initialized "java/lang/Math", Cond.code Lib.Math.max.name Lib.Math.max.code 2 (some .int)]
def wsX1_find_r3 : List Cond := [Cond.methodLink RX1 56 yX1_reach, Cond.static yX1_reach, Cond.code yX1_reach cX1_reach 8 (some .int), Cond.methodLink RX1 98 yJ6_numberOfTrailingZeros_0f7a4, Cond.static yJ6_numberOfTrailingZeros_0f7a4, Cond.initialized RJ6, Cond.code yJ6_numberOfTrailingZeros_0f7a4 cJ6_numberOfTrailingZeros_0f7a4 2 (some .int), Cond.constant RJ6 264 (65536), Cond.methodLink RX1 42 yX1_findSide, Cond.instanceMethod yX1_findSide, Cond.selects RX1 yX1_findSide yX1_findSide, Cond.code yX1_findSide cX1_findSide 7 none]
def wsX1_find : List Cond := .code yX1_find cX1_find 2 none :: ((wsX1_find_r1 ++ (wsX1_find_r2 ++ wsX1_find_r3)) ++ wsX10 ++ wsX00)
def wsX1_levelIn : List Cond := .code yX1_levelIn cX1_levelIn 3 (some .int) :: ([])
def wsX1_definiteLevel : List Cond := .code yX1_definiteLevel cX1_definiteLevel 2 (some .int) :: ([.fieldLink RX1 9 "SwitchLevelSimulator$SteadyState" "definite" "[I", .methodLink RX1 49 yX1_levelIn, .static yX1_levelIn, .initialized RX1, .code yX1_levelIn cX1_levelIn 3 (some .int)] ++ wsX10)
def wsX1_upLevel : List Cond := .code yX1_upLevel cX1_upLevel 2 (some .int) :: ([.fieldLink RX1 15 "SwitchLevelSimulator$SteadyState" "up" "[I", .methodLink RX1 49 yX1_levelIn, .static yX1_levelIn, .initialized RX1, .code yX1_levelIn cX1_levelIn 3 (some .int)] ++ wsX10)
def wsX1_downLevel : List Cond := .code yX1_downLevel cX1_downLevel 2 (some .int) :: ([.fieldLink RX1 18 "SwitchLevelSimulator$SteadyState" "down" "[I", .methodLink RX1 49 yX1_levelIn, .static yX1_levelIn, .initialized RX1, .code yX1_levelIn cX1_levelIn 3 (some .int)] ++ wsX10)
def wsX1_changesOf : List Cond := .code yX1_changesOf cX1_changesOf 2 (some .int) :: ([.fieldLink RX1 15 "SwitchLevelSimulator$SteadyState" "up" "[I", .fieldLink RX1 36 "SwitchLevelSimulator$Circuit" "mayBeOne" "I", .fieldLink RX1 18 "SwitchLevelSimulator$SteadyState" "down" "[I", .fieldLink RX1 46 "SwitchLevelSimulator$Circuit" "mayBeZero" "I"] ++ wsX10 ++ wsX00)
def wsX1_putInto : List Cond := .code yX1_putInto cX1_putInto 2 none :: ([.fieldLink RX1 15 "SwitchLevelSimulator$SteadyState" "up" "[I", .fieldLink RX1 36 "SwitchLevelSimulator$Circuit" "mayBeOne" "I", .fieldLink RX1 18 "SwitchLevelSimulator$SteadyState" "down" "[I", .fieldLink RX1 46 "SwitchLevelSimulator$Circuit" "mayBeZero" "I"] ++ wsX10 ++ wsX00)
def wsX1_storageAround_r1 : List Cond := [Cond.fieldLink RX1 26 "SwitchLevelSimulator$SteadyState" "byNotOpen" "[[I", Cond.fieldLink RX1 53 "SwitchLevelSimulator$Circuit" "storageNodes" "I", Cond.methodLink RX1 29 yX1_findNeighbors, Cond.instanceMethod yX1_findNeighbors, Cond.selects RX1 yX1_findNeighbors yX1_findNeighbors, Cond.initialized RX1, Cond.code yX1_findNeighbors cX1_findNeighbors 4 none, Cond.fieldLink RX1 76 "SwitchLevelSimulator$Circuit" "nodeTotal" "I", Cond.fieldLink RX1 23 "SwitchLevelSimulator$SteadyState" "byClosed" "[[I", Cond.fieldLink RX1 79 "SwitchLevelSimulator$Circuit" "transistorTotal" "I", Cond.methodLink RX1 82 yX0_stateOf, Cond.instanceMethod yX0_stateOf, Cond.selects RX0 yX0_stateOf yX0_stateOf, Cond.initialized RX0, Cond.code yX0_stateOf cX0_stateOf 4 (some .int), Cond.fieldLink RX0 30 "SwitchLevelSimulator$Circuit" "faults" "[I", Cond.fieldLink RX0 15 "SwitchLevelSimulator$Circuit" "types" "[I", Cond.fieldLink RX0 21 "SwitchLevelSimulator$Circuit" "gates" "[I", Cond.methodLink RX0 69 yX0_valueOf, Cond.instanceMethod yX0_valueOf, Cond.selects RX0 yX0_valueOf yX0_valueOf, Cond.code yX0_valueOf cX0_valueOf 4 (some .int), Cond.fieldLink RX0 54 "SwitchLevelSimulator$Circuit" "mayBeZero" "I", Cond.fieldLink RX0 57 "SwitchLevelSimulator$Circuit" "mayBeOne" "I"]
def wsX1_storageAround_r2 : List Cond := [Cond.methodLink RX1 85 yX1_connect, Cond.static yX1_connect, Cond.code yX1_connect cX1_connect 6 none, Cond.fieldLink RX1 89 "SwitchLevelSimulator$Circuit" "ones" "[I", Cond.fieldLink RX1 92 "SwitchLevelSimulator$Circuit" "others" "[I", Cond.fieldLink RX1 95 "SwitchLevelSimulator$Circuit" "strengths" "[I", Cond.methodLink RX1 56 yX1_reach, Cond.static yX1_reach, Cond.code yX1_reach cX1_reach 8 (some .int), Cond.methodLink RX1 98 yJ6_numberOfTrailingZeros_0f7a4, Cond.static yJ6_numberOfTrailingZeros_0f7a4, Cond.initialized RJ6, Cond.code yJ6_numberOfTrailingZeros_0f7a4 cJ6_numberOfTrailingZeros_0f7a4 2 (some .int), Cond.constant RJ6 264 (65536)]
def wsX1_storageAround : List Cond := .code yX1_storageAround cX1_storageAround 3 (some .int) :: ((wsX1_storageAround_r1 ++ wsX1_storageAround_r2) ++ wsX10 ++ wsX00)
def wsX2_init_r1 : List Cond := [Cond.methodLink RX2 1 objectInit, Cond.instanceMethod objectInit, Cond.code objectInit ⟨#[0xb1]⟩ 1 none, Cond.classLink RX2 7 RX0, Cond.instantiable RX0 13, Cond.initialized RX0, Cond.fieldLink RX2 10 "SwitchLevelSimulator" "circuit" "LSwitchLevelSimulator$Circuit;", Cond.fieldLink RX2 16 "SwitchLevelSimulator" "trial" "LSwitchLevelSimulator$Circuit;", Cond.fieldLink RX2 19 "SwitchLevelSimulator" "slots" "[LSwitchLevelSimulator$Circuit;", Cond.classLink RX2 23 RX1, Cond.instantiable RX1 5, Cond.initialized RX1, Cond.fieldLink RX2 26 "SwitchLevelSimulator" "steady" "LSwitchLevelSimulator$SteadyState;", Cond.instanceMethod yX0_init, Cond.code yX0_init cX0_init 1 none, Cond.methodLink RX0 3 objectInit, Cond.arrayClass .int, Cond.fieldLink RX0 9 "SwitchLevelSimulator$Circuit" "sizedAtLeast" "[I", Cond.fieldLink RX0 15 "SwitchLevelSimulator$Circuit" "types" "[I", Cond.fieldLink RX0 18 "SwitchLevelSimulator$Circuit" "strengths" "[I", Cond.fieldLink RX0 21 "SwitchLevelSimulator$Circuit" "gates" "[I", Cond.fieldLink RX0 24 "SwitchLevelSimulator$Circuit" "ones" "[I", Cond.fieldLink RX0 27 "SwitchLevelSimulator$Circuit" "others" "[I", Cond.fieldLink RX0 30 "SwitchLevelSimulator$Circuit" "faults" "[I"]
def wsX2_init_r2 : List Cond := [Cond.instanceMethod yX1_init, Cond.code yX1_init cX1_init 1 none, Cond.methodLink RX1 3 objectInit, Cond.fieldLink RX1 9 "SwitchLevelSimulator$SteadyState" "definite" "[I", Cond.fieldLink RX1 15 "SwitchLevelSimulator$SteadyState" "up" "[I", Cond.fieldLink RX1 18 "SwitchLevelSimulator$SteadyState" "down" "[I", Cond.classLink RX1 21 "[[I", Cond.fieldLink RX1 23 "SwitchLevelSimulator$SteadyState" "byClosed" "[[I", Cond.fieldLink RX1 26 "SwitchLevelSimulator$SteadyState" "byNotOpen" "[[I"]
def wsX2_init : List Cond := .code yX2_init cX2_init 1 none :: ((wsX2_init_r1 ++ wsX2_init_r2) ++ wsX00 ++ wsX20 ++ wsX10)
def wsX2_addInput : List Cond := .code yX2_addInput cX2_addInput 1 (some .int) :: ([.fieldLink RX2 10 "SwitchLevelSimulator" "circuit" "LSwitchLevelSimulator$Circuit;", .fieldLink RX2 30 "SwitchLevelSimulator$Circuit" "nodeTotal" "I", .methodLink RX2 34 yX0_appendInput, .instanceMethod yX0_appendInput, .selects RX0 yX0_appendInput yX0_appendInput, .initialized RX0, .code yX0_appendInput cX0_appendInput 1 (some .int), .fieldLink RX0 40 "SwitchLevelSimulator$Circuit" "inputNodes" "I", .fieldLink RX0 33 "SwitchLevelSimulator$Circuit" "nodeTotal" "I", .methodLink RX0 43 yX0_appendUnknownNode, .instanceMethod yX0_appendUnknownNode, .selects RX0 yX0_appendUnknownNode yX0_appendUnknownNode, .code yX0_appendUnknownNode cX0_appendUnknownNode 2 (some .int), .methodLink RX0 50 yX0_putValue, .instanceMethod yX0_putValue, .selects RX0 yX0_putValue yX0_putValue, .code yX0_putValue cX0_putValue 4 none, .fieldLink RX0 54 "SwitchLevelSimulator$Circuit" "mayBeZero" "I", .fieldLink RX0 57 "SwitchLevelSimulator$Circuit" "mayBeOne" "I"] ++ wsX20 ++ wsX00)
def wsX2_isWithin : List Cond := .code yX2_isWithin cX2_isWithin 3 (some .boolean) :: ([])
def wsX2_addStorage : List Cond := .code yX2_addStorage cX2_addStorage 2 (some .int) :: ([.fieldLink RX2 10 "SwitchLevelSimulator" "circuit" "LSwitchLevelSimulator$Circuit;", .fieldLink RX2 30 "SwitchLevelSimulator$Circuit" "nodeTotal" "I", .methodLink RX2 38 yX2_isWithin, .static yX2_isWithin, .initialized RX2, .code yX2_isWithin cX2_isWithin 3 (some .boolean), .methodLink RX2 42 yX0_appendStorage, .instanceMethod yX0_appendStorage, .selects RX0 yX0_appendStorage yX0_appendStorage, .initialized RX0, .code yX0_appendStorage cX0_appendStorage 3 (some .int), .fieldLink RX0 47 "SwitchLevelSimulator$Circuit" "storageNodes" "I", .fieldLink RX0 33 "SwitchLevelSimulator$Circuit" "nodeTotal" "I", .fieldLink RX0 9 "SwitchLevelSimulator$Circuit" "sizedAtLeast" "[I", .methodLink RX0 43 yX0_appendUnknownNode, .instanceMethod yX0_appendUnknownNode, .selects RX0 yX0_appendUnknownNode yX0_appendUnknownNode, .code yX0_appendUnknownNode cX0_appendUnknownNode 2 (some .int), .methodLink RX0 50 yX0_putValue, .instanceMethod yX0_putValue, .selects RX0 yX0_putValue yX0_putValue, .code yX0_putValue cX0_putValue 4 none, .fieldLink RX0 54 "SwitchLevelSimulator$Circuit" "mayBeZero" "I", .fieldLink RX0 57 "SwitchLevelSimulator$Circuit" "mayBeOne" "I"] ++ wsX20 ++ wsX00)
def wsX2_addTransistor : List Cond := .code yX2_addTransistor cX2_addTransistor 6 (some .int) :: ([.fieldLink RX2 10 "SwitchLevelSimulator" "circuit" "LSwitchLevelSimulator$Circuit;", .fieldLink RX2 50 "SwitchLevelSimulator$Circuit" "transistorTotal" "I", .methodLink RX2 46 yX0_hasNode, .instanceMethod yX0_hasNode, .selects RX0 yX0_hasNode yX0_hasNode, .initialized RX0, .code yX0_hasNode cX0_hasNode 2 (some .boolean), .fieldLink RX0 33 "SwitchLevelSimulator$Circuit" "nodeTotal" "I", .methodLink RX2 38 yX2_isWithin, .static yX2_isWithin, .initialized RX2, .code yX2_isWithin cX2_isWithin 3 (some .boolean), .methodLink RX2 53 yX0_appendTransistor, .instanceMethod yX0_appendTransistor, .selects RX0 yX0_appendTransistor yX0_appendTransistor, .code yX0_appendTransistor cX0_appendTransistor 7 (some .int), .fieldLink RX0 37 "SwitchLevelSimulator$Circuit" "transistorTotal" "I", .fieldLink RX0 15 "SwitchLevelSimulator$Circuit" "types" "[I", .fieldLink RX0 18 "SwitchLevelSimulator$Circuit" "strengths" "[I", .fieldLink RX0 21 "SwitchLevelSimulator$Circuit" "gates" "[I", .fieldLink RX0 24 "SwitchLevelSimulator$Circuit" "ones" "[I", .fieldLink RX0 27 "SwitchLevelSimulator$Circuit" "others" "[I", .fieldLink RX0 30 "SwitchLevelSimulator$Circuit" "faults" "[I"] ++ wsX20 ++ wsX00)
def wsX2_nodeCount : List Cond := .code yX2_nodeCount cX2_nodeCount 1 (some .int) :: ([.fieldLink RX2 10 "SwitchLevelSimulator" "circuit" "LSwitchLevelSimulator$Circuit;", .fieldLink RX2 30 "SwitchLevelSimulator$Circuit" "nodeTotal" "I"] ++ wsX20 ++ wsX00)
def wsX2_transistorCount : List Cond := .code yX2_transistorCount cX2_transistorCount 1 (some .int) :: ([.fieldLink RX2 10 "SwitchLevelSimulator" "circuit" "LSwitchLevelSimulator$Circuit;", .fieldLink RX2 50 "SwitchLevelSimulator$Circuit" "transistorTotal" "I"] ++ wsX20 ++ wsX00)
def wsX2_inputs : List Cond := .code yX2_inputs cX2_inputs 1 (some .int) :: ([.fieldLink RX2 10 "SwitchLevelSimulator" "circuit" "LSwitchLevelSimulator$Circuit;", .fieldLink RX2 57 "SwitchLevelSimulator$Circuit" "inputNodes" "I"] ++ wsX20 ++ wsX00)
def wsX2_isValue : List Cond := .code yX2_isValue cX2_isValue 1 (some .boolean) :: ([.methodLink RX2 38 yX2_isWithin, .static yX2_isWithin, .initialized RX2, .code yX2_isWithin cX2_isWithin 3 (some .boolean)])
def wsX2_replaceValue_r1 : List Cond := [Cond.fieldLink RX2 10 "SwitchLevelSimulator" "circuit" "LSwitchLevelSimulator$Circuit;", Cond.methodLink RX2 46 yX0_hasNode, Cond.instanceMethod yX0_hasNode, Cond.selects RX0 yX0_hasNode yX0_hasNode, Cond.initialized RX0, Cond.code yX0_hasNode cX0_hasNode 2 (some .boolean), Cond.fieldLink RX0 33 "SwitchLevelSimulator$Circuit" "nodeTotal" "I", Cond.methodLink RX2 102 yX0_isInput, Cond.instanceMethod yX0_isInput, Cond.selects RX0 yX0_isInput yX0_isInput, Cond.code yX0_isInput cX0_isInput 2 (some .boolean), Cond.fieldLink RX0 40 "SwitchLevelSimulator$Circuit" "inputNodes" "I", Cond.methodLink RX2 70 yX2_isValue, Cond.static yX2_isValue, Cond.initialized RX2, Cond.code yX2_isValue cX2_isValue 1 (some .boolean), Cond.methodLink RX2 38 yX2_isWithin, Cond.static yX2_isWithin, Cond.code yX2_isWithin cX2_isWithin 3 (some .boolean), Cond.methodLink RX2 67 yX0_valueOf, Cond.instanceMethod yX0_valueOf, Cond.selects RX0 yX0_valueOf yX0_valueOf, Cond.code yX0_valueOf cX0_valueOf 4 (some .int), Cond.fieldLink RX0 54 "SwitchLevelSimulator$Circuit" "mayBeZero" "I"]
def wsX2_replaceValue_r2 : List Cond := [Cond.fieldLink RX0 57 "SwitchLevelSimulator$Circuit" "mayBeOne" "I", Cond.methodLink RX2 141 yX0_putValue, Cond.instanceMethod yX0_putValue, Cond.selects RX0 yX0_putValue yX0_putValue, Cond.code yX0_putValue cX0_putValue 4 none]
def wsX2_replaceValue : List Cond := .code yX2_replaceValue cX2_replaceValue 5 (some .int) :: ((wsX2_replaceValue_r1 ++ wsX2_replaceValue_r2) ++ wsX20 ++ wsX00)
def wsX2_setInput_r1 : List Cond := [Cond.methodLink RX2 60 yX2_replaceValue, Cond.instanceMethod yX2_replaceValue, Cond.selects RX2 yX2_replaceValue yX2_replaceValue, Cond.initialized RX2, Cond.code yX2_replaceValue cX2_replaceValue 5 (some .int), Cond.fieldLink RX2 10 "SwitchLevelSimulator" "circuit" "LSwitchLevelSimulator$Circuit;", Cond.methodLink RX2 46 yX0_hasNode, Cond.instanceMethod yX0_hasNode, Cond.selects RX0 yX0_hasNode yX0_hasNode, Cond.initialized RX0, Cond.code yX0_hasNode cX0_hasNode 2 (some .boolean), Cond.fieldLink RX0 33 "SwitchLevelSimulator$Circuit" "nodeTotal" "I", Cond.methodLink RX2 102 yX0_isInput, Cond.instanceMethod yX0_isInput, Cond.selects RX0 yX0_isInput yX0_isInput, Cond.code yX0_isInput cX0_isInput 2 (some .boolean), Cond.fieldLink RX0 40 "SwitchLevelSimulator$Circuit" "inputNodes" "I", Cond.methodLink RX2 70 yX2_isValue, Cond.static yX2_isValue, Cond.code yX2_isValue cX2_isValue 1 (some .boolean), Cond.methodLink RX2 38 yX2_isWithin, Cond.static yX2_isWithin, Cond.code yX2_isWithin cX2_isWithin 3 (some .boolean), Cond.methodLink RX2 67 yX0_valueOf]
def wsX2_setInput_r2 : List Cond := [Cond.instanceMethod yX0_valueOf, Cond.selects RX0 yX0_valueOf yX0_valueOf, Cond.code yX0_valueOf cX0_valueOf 4 (some .int), Cond.fieldLink RX0 54 "SwitchLevelSimulator$Circuit" "mayBeZero" "I", Cond.fieldLink RX0 57 "SwitchLevelSimulator$Circuit" "mayBeOne" "I", Cond.methodLink RX2 141 yX0_putValue, Cond.instanceMethod yX0_putValue, Cond.selects RX0 yX0_putValue yX0_putValue, Cond.code yX0_putValue cX0_putValue 4 none]
def wsX2_setInput : List Cond := .code yX2_setInput cX2_setInput 3 (some .int) :: ((wsX2_setInput_r1 ++ wsX2_setInput_r2) ++ wsX20 ++ wsX00)
def wsX2_setCharge_r1 : List Cond := [Cond.methodLink RX2 60 yX2_replaceValue, Cond.instanceMethod yX2_replaceValue, Cond.selects RX2 yX2_replaceValue yX2_replaceValue, Cond.initialized RX2, Cond.code yX2_replaceValue cX2_replaceValue 5 (some .int), Cond.fieldLink RX2 10 "SwitchLevelSimulator" "circuit" "LSwitchLevelSimulator$Circuit;", Cond.methodLink RX2 46 yX0_hasNode, Cond.instanceMethod yX0_hasNode, Cond.selects RX0 yX0_hasNode yX0_hasNode, Cond.initialized RX0, Cond.code yX0_hasNode cX0_hasNode 2 (some .boolean), Cond.fieldLink RX0 33 "SwitchLevelSimulator$Circuit" "nodeTotal" "I", Cond.methodLink RX2 102 yX0_isInput, Cond.instanceMethod yX0_isInput, Cond.selects RX0 yX0_isInput yX0_isInput, Cond.code yX0_isInput cX0_isInput 2 (some .boolean), Cond.fieldLink RX0 40 "SwitchLevelSimulator$Circuit" "inputNodes" "I", Cond.methodLink RX2 70 yX2_isValue, Cond.static yX2_isValue, Cond.code yX2_isValue cX2_isValue 1 (some .boolean), Cond.methodLink RX2 38 yX2_isWithin, Cond.static yX2_isWithin, Cond.code yX2_isWithin cX2_isWithin 3 (some .boolean), Cond.methodLink RX2 67 yX0_valueOf]
def wsX2_setCharge_r2 : List Cond := [Cond.instanceMethod yX0_valueOf, Cond.selects RX0 yX0_valueOf yX0_valueOf, Cond.code yX0_valueOf cX0_valueOf 4 (some .int), Cond.fieldLink RX0 54 "SwitchLevelSimulator$Circuit" "mayBeZero" "I", Cond.fieldLink RX0 57 "SwitchLevelSimulator$Circuit" "mayBeOne" "I", Cond.methodLink RX2 141 yX0_putValue, Cond.instanceMethod yX0_putValue, Cond.selects RX0 yX0_putValue yX0_putValue, Cond.code yX0_putValue cX0_putValue 4 none]
def wsX2_setCharge : List Cond := .code yX2_setCharge cX2_setCharge 3 (some .int) :: ((wsX2_setCharge_r1 ++ wsX2_setCharge_r2) ++ wsX20 ++ wsX00)
def wsX2_forget : List Cond := .code yX2_forget cX2_forget 1 (some .int) :: ([.fieldLink RX2 10 "SwitchLevelSimulator" "circuit" "LSwitchLevelSimulator$Circuit;", .methodLink RX2 64 yX0_forgetCharges, .instanceMethod yX0_forgetCharges, .selects RX0 yX0_forgetCharges yX0_forgetCharges, .initialized RX0, .code yX0_forgetCharges cX0_forgetCharges 2 (some .int), .fieldLink RX0 47 "SwitchLevelSimulator$Circuit" "storageNodes" "I", .fieldLink RX0 54 "SwitchLevelSimulator$Circuit" "mayBeZero" "I", .fieldLink RX0 57 "SwitchLevelSimulator$Circuit" "mayBeOne" "I", .methodLink RX0 60 yX0_nodesOfValue, .instanceMethod yX0_nodesOfValue, .selects RX0 yX0_nodesOfValue yX0_nodesOfValue, .code yX0_nodesOfValue cX0_nodesOfValue 2 (some .int), .methodLink RX0 64 yJ6_bitCount_0f7a4, .static yJ6_bitCount_0f7a4, .initialized RJ6, .code yJ6_bitCount_0f7a4 cJ6_bitCount_0f7a4 1 (some .int), .constant RJ6 265 (1431655765), .constant RJ6 266 (858993459), .constant RJ6 267 (252645135)] ++ wsX20 ++ wsX00)
def wsX2_value : List Cond := .code yX2_value cX2_value 2 (some .int) :: ([.fieldLink RX2 10 "SwitchLevelSimulator" "circuit" "LSwitchLevelSimulator$Circuit;", .methodLink RX2 46 yX0_hasNode, .instanceMethod yX0_hasNode, .selects RX0 yX0_hasNode yX0_hasNode, .initialized RX0, .code yX0_hasNode cX0_hasNode 2 (some .boolean), .fieldLink RX0 33 "SwitchLevelSimulator$Circuit" "nodeTotal" "I", .methodLink RX2 67 yX0_valueOf, .instanceMethod yX0_valueOf, .selects RX0 yX0_valueOf yX0_valueOf, .code yX0_valueOf cX0_valueOf 4 (some .int), .fieldLink RX0 54 "SwitchLevelSimulator$Circuit" "mayBeZero" "I", .fieldLink RX0 57 "SwitchLevelSimulator$Circuit" "mayBeOne" "I"] ++ wsX20 ++ wsX00)
def wsX2_nodesWith : List Cond := .code yX2_nodesWith cX2_nodesWith 2 (some .int) :: ([.fieldLink RX2 10 "SwitchLevelSimulator" "circuit" "LSwitchLevelSimulator$Circuit;", .methodLink RX2 70 yX2_isValue, .static yX2_isValue, .initialized RX2, .code yX2_isValue cX2_isValue 1 (some .boolean), .methodLink RX2 38 yX2_isWithin, .static yX2_isWithin, .code yX2_isWithin cX2_isWithin 3 (some .boolean), .methodLink RX2 73 yX0_nodesOfValue, .instanceMethod yX0_nodesOfValue, .selects RX0 yX0_nodesOfValue yX0_nodesOfValue, .initialized RX0, .code yX0_nodesOfValue cX0_nodesOfValue 2 (some .int), .fieldLink RX0 54 "SwitchLevelSimulator$Circuit" "mayBeZero" "I", .fieldLink RX0 57 "SwitchLevelSimulator$Circuit" "mayBeOne" "I"] ++ wsX20 ++ wsX00)
def wsX2_switchState : List Cond := .code yX2_switchState cX2_switchState 2 (some .int) :: ([.fieldLink RX2 10 "SwitchLevelSimulator" "circuit" "LSwitchLevelSimulator$Circuit;", .methodLink RX2 76 yX0_hasTransistor, .instanceMethod yX0_hasTransistor, .selects RX0 yX0_hasTransistor yX0_hasTransistor, .initialized RX0, .code yX0_hasTransistor cX0_hasTransistor 2 (some .boolean), .fieldLink RX0 37 "SwitchLevelSimulator$Circuit" "transistorTotal" "I", .methodLink RX2 79 yX0_stateOf, .instanceMethod yX0_stateOf, .selects RX0 yX0_stateOf yX0_stateOf, .code yX0_stateOf cX0_stateOf 4 (some .int), .fieldLink RX0 30 "SwitchLevelSimulator$Circuit" "faults" "[I", .fieldLink RX0 15 "SwitchLevelSimulator$Circuit" "types" "[I", .fieldLink RX0 21 "SwitchLevelSimulator$Circuit" "gates" "[I", .methodLink RX0 69 yX0_valueOf, .instanceMethod yX0_valueOf, .selects RX0 yX0_valueOf yX0_valueOf, .code yX0_valueOf cX0_valueOf 4 (some .int), .fieldLink RX0 54 "SwitchLevelSimulator$Circuit" "mayBeZero" "I", .fieldLink RX0 57 "SwitchLevelSimulator$Circuit" "mayBeOne" "I"] ++ wsX20 ++ wsX00)
def wsX2_definiteStrength_r1 : List Cond := [Cond.fieldLink RX2 10 "SwitchLevelSimulator" "circuit" "LSwitchLevelSimulator$Circuit;", Cond.fieldLink RX2 26 "SwitchLevelSimulator" "steady" "LSwitchLevelSimulator$SteadyState;", Cond.methodLink RX2 46 yX0_hasNode, Cond.instanceMethod yX0_hasNode, Cond.selects RX0 yX0_hasNode yX0_hasNode, Cond.initialized RX0, Cond.code yX0_hasNode cX0_hasNode 2 (some .boolean), Cond.fieldLink RX0 33 "SwitchLevelSimulator$Circuit" "nodeTotal" "I", Cond.methodLink RX2 82 yX1_find, Cond.instanceMethod yX1_find, Cond.selects RX1 yX1_find yX1_find, Cond.initialized RX1, Cond.code yX1_find cX1_find 2 none, Cond.fieldLink RX1 15 "SwitchLevelSimulator$SteadyState" "up" "[I", Cond.fieldLink RX1 36 "SwitchLevelSimulator$Circuit" "mayBeOne" "I", Cond.fieldLink RX1 18 "SwitchLevelSimulator$SteadyState" "down" "[I", Cond.fieldLink RX1 46 "SwitchLevelSimulator$Circuit" "mayBeZero" "I", Cond.methodLink RX1 29 yX1_findNeighbors, Cond.instanceMethod yX1_findNeighbors, Cond.selects RX1 yX1_findNeighbors yX1_findNeighbors, Cond.code yX1_findNeighbors cX1_findNeighbors 4 none, Cond.fieldLink RX1 76 "SwitchLevelSimulator$Circuit" "nodeTotal" "I", Cond.fieldLink RX1 23 "SwitchLevelSimulator$SteadyState" "byClosed" "[[I", Cond.fieldLink RX1 26 "SwitchLevelSimulator$SteadyState" "byNotOpen" "[[I"]
def wsX2_definiteStrength_r2 : List Cond := [Cond.fieldLink RX1 79 "SwitchLevelSimulator$Circuit" "transistorTotal" "I", Cond.methodLink RX1 82 yX0_stateOf, Cond.instanceMethod yX0_stateOf, Cond.selects RX0 yX0_stateOf yX0_stateOf, Cond.code yX0_stateOf cX0_stateOf 4 (some .int), Cond.fieldLink RX0 30 "SwitchLevelSimulator$Circuit" "faults" "[I", Cond.fieldLink RX0 15 "SwitchLevelSimulator$Circuit" "types" "[I", Cond.fieldLink RX0 21 "SwitchLevelSimulator$Circuit" "gates" "[I", Cond.methodLink RX0 69 yX0_valueOf, Cond.instanceMethod yX0_valueOf, Cond.selects RX0 yX0_valueOf yX0_valueOf, Cond.code yX0_valueOf cX0_valueOf 4 (some .int), Cond.fieldLink RX0 54 "SwitchLevelSimulator$Circuit" "mayBeZero" "I", Cond.fieldLink RX0 57 "SwitchLevelSimulator$Circuit" "mayBeOne" "I", Cond.methodLink RX1 85 yX1_connect, Cond.static yX1_connect, Cond.code yX1_connect cX1_connect 6 none, Cond.fieldLink RX1 89 "SwitchLevelSimulator$Circuit" "ones" "[I", Cond.fieldLink RX1 92 "SwitchLevelSimulator$Circuit" "others" "[I", Cond.fieldLink RX1 95 "SwitchLevelSimulator$Circuit" "strengths" "[I", Cond.methodLink RX1 33 yX1_findDefinite, Cond.instanceMethod yX1_findDefinite, Cond.selects RX1 yX1_findDefinite yX1_findDefinite, Cond.code yX1_findDefinite cX1_findDefinite 4 none]
def wsX2_definiteStrength_r3 : List Cond := [Cond.fieldLink RX1 9 "SwitchLevelSimulator$SteadyState" "definite" "[I", Cond.fieldLink RX1 60 "SwitchLevelSimulator$Circuit" "inputNodes" "I", Cond.fieldLink RX1 63 "SwitchLevelSimulator$Circuit" "sizedAtLeast" "[I", Cond.fieldLink RX1 53 "SwitchLevelSimulator$Circuit" "storageNodes" "I", Cond.methodLink RX1 66 yX1_strengthPassing, Cond.static yX1_strengthPassing, Cond.code yX1_strengthPassing cX1_strengthPassing 1 (some .int), Cond.methodLink RX1 70 Lib.Math.max.name, Cond.static Lib.Math.max.name, Cond.initialized "java/lang/Math", Cond.code Lib.Math.max.name Lib.Math.max.code 2 (some .int), Cond.methodLink RX1 56 yX1_reach, Cond.static yX1_reach, Cond.code yX1_reach cX1_reach 8 (some .int), Cond.methodLink RX1 98 yJ6_numberOfTrailingZeros_0f7a4, Cond.static yJ6_numberOfTrailingZeros_0f7a4, Cond.initialized RJ6, Cond.code yJ6_numberOfTrailingZeros_0f7a4 cJ6_numberOfTrailingZeros_0f7a4 2 (some .int), Cond.constant RJ6 264 (65536), Cond.methodLink RX1 42 yX1_findSide, Cond.instanceMethod yX1_findSide, Cond.selects RX1 yX1_findSide yX1_findSide, Cond.code yX1_findSide cX1_findSide 7 none, Cond.methodLink RX2 86 yX1_definiteLevel]
def wsX2_definiteStrength_r4 : List Cond := [Cond.instanceMethod yX1_definiteLevel, Cond.selects RX1 yX1_definiteLevel yX1_definiteLevel, Cond.code yX1_definiteLevel cX1_definiteLevel 2 (some .int), Cond.methodLink RX1 49 yX1_levelIn, Cond.static yX1_levelIn, Cond.code yX1_levelIn cX1_levelIn 3 (some .int)]
def wsX2_definiteStrength : List Cond := .code yX2_definiteStrength cX2_definiteStrength 2 (some .int) :: ((wsX2_definiteStrength_r1 ++ (wsX2_definiteStrength_r2 ++ (wsX2_definiteStrength_r3 ++ wsX2_definiteStrength_r4))) ++ wsX20 ++ wsX00 ++ wsX10)
def wsX2_upStrength_r1 : List Cond := [Cond.fieldLink RX2 10 "SwitchLevelSimulator" "circuit" "LSwitchLevelSimulator$Circuit;", Cond.fieldLink RX2 26 "SwitchLevelSimulator" "steady" "LSwitchLevelSimulator$SteadyState;", Cond.methodLink RX2 46 yX0_hasNode, Cond.instanceMethod yX0_hasNode, Cond.selects RX0 yX0_hasNode yX0_hasNode, Cond.initialized RX0, Cond.code yX0_hasNode cX0_hasNode 2 (some .boolean), Cond.fieldLink RX0 33 "SwitchLevelSimulator$Circuit" "nodeTotal" "I", Cond.methodLink RX2 82 yX1_find, Cond.instanceMethod yX1_find, Cond.selects RX1 yX1_find yX1_find, Cond.initialized RX1, Cond.code yX1_find cX1_find 2 none, Cond.fieldLink RX1 15 "SwitchLevelSimulator$SteadyState" "up" "[I", Cond.fieldLink RX1 36 "SwitchLevelSimulator$Circuit" "mayBeOne" "I", Cond.fieldLink RX1 18 "SwitchLevelSimulator$SteadyState" "down" "[I", Cond.fieldLink RX1 46 "SwitchLevelSimulator$Circuit" "mayBeZero" "I", Cond.methodLink RX1 29 yX1_findNeighbors, Cond.instanceMethod yX1_findNeighbors, Cond.selects RX1 yX1_findNeighbors yX1_findNeighbors, Cond.code yX1_findNeighbors cX1_findNeighbors 4 none, Cond.fieldLink RX1 76 "SwitchLevelSimulator$Circuit" "nodeTotal" "I", Cond.fieldLink RX1 23 "SwitchLevelSimulator$SteadyState" "byClosed" "[[I", Cond.fieldLink RX1 26 "SwitchLevelSimulator$SteadyState" "byNotOpen" "[[I"]
def wsX2_upStrength_r2 : List Cond := [Cond.fieldLink RX1 79 "SwitchLevelSimulator$Circuit" "transistorTotal" "I", Cond.methodLink RX1 82 yX0_stateOf, Cond.instanceMethod yX0_stateOf, Cond.selects RX0 yX0_stateOf yX0_stateOf, Cond.code yX0_stateOf cX0_stateOf 4 (some .int), Cond.fieldLink RX0 30 "SwitchLevelSimulator$Circuit" "faults" "[I", Cond.fieldLink RX0 15 "SwitchLevelSimulator$Circuit" "types" "[I", Cond.fieldLink RX0 21 "SwitchLevelSimulator$Circuit" "gates" "[I", Cond.methodLink RX0 69 yX0_valueOf, Cond.instanceMethod yX0_valueOf, Cond.selects RX0 yX0_valueOf yX0_valueOf, Cond.code yX0_valueOf cX0_valueOf 4 (some .int), Cond.fieldLink RX0 54 "SwitchLevelSimulator$Circuit" "mayBeZero" "I", Cond.fieldLink RX0 57 "SwitchLevelSimulator$Circuit" "mayBeOne" "I", Cond.methodLink RX1 85 yX1_connect, Cond.static yX1_connect, Cond.code yX1_connect cX1_connect 6 none, Cond.fieldLink RX1 89 "SwitchLevelSimulator$Circuit" "ones" "[I", Cond.fieldLink RX1 92 "SwitchLevelSimulator$Circuit" "others" "[I", Cond.fieldLink RX1 95 "SwitchLevelSimulator$Circuit" "strengths" "[I", Cond.methodLink RX1 33 yX1_findDefinite, Cond.instanceMethod yX1_findDefinite, Cond.selects RX1 yX1_findDefinite yX1_findDefinite, Cond.code yX1_findDefinite cX1_findDefinite 4 none]
def wsX2_upStrength_r3 : List Cond := [Cond.fieldLink RX1 9 "SwitchLevelSimulator$SteadyState" "definite" "[I", Cond.fieldLink RX1 60 "SwitchLevelSimulator$Circuit" "inputNodes" "I", Cond.fieldLink RX1 63 "SwitchLevelSimulator$Circuit" "sizedAtLeast" "[I", Cond.fieldLink RX1 53 "SwitchLevelSimulator$Circuit" "storageNodes" "I", Cond.methodLink RX1 66 yX1_strengthPassing, Cond.static yX1_strengthPassing, Cond.code yX1_strengthPassing cX1_strengthPassing 1 (some .int), Cond.methodLink RX1 70 Lib.Math.max.name, Cond.static Lib.Math.max.name, Cond.initialized "java/lang/Math", Cond.code Lib.Math.max.name Lib.Math.max.code 2 (some .int), Cond.methodLink RX1 56 yX1_reach, Cond.static yX1_reach, Cond.code yX1_reach cX1_reach 8 (some .int), Cond.methodLink RX1 98 yJ6_numberOfTrailingZeros_0f7a4, Cond.static yJ6_numberOfTrailingZeros_0f7a4, Cond.initialized RJ6, Cond.code yJ6_numberOfTrailingZeros_0f7a4 cJ6_numberOfTrailingZeros_0f7a4 2 (some .int), Cond.constant RJ6 264 (65536), Cond.methodLink RX1 42 yX1_findSide, Cond.instanceMethod yX1_findSide, Cond.selects RX1 yX1_findSide yX1_findSide, Cond.code yX1_findSide cX1_findSide 7 none, Cond.methodLink RX2 89 yX1_upLevel]
def wsX2_upStrength_r4 : List Cond := [Cond.instanceMethod yX1_upLevel, Cond.selects RX1 yX1_upLevel yX1_upLevel, Cond.code yX1_upLevel cX1_upLevel 2 (some .int), Cond.methodLink RX1 49 yX1_levelIn, Cond.static yX1_levelIn, Cond.code yX1_levelIn cX1_levelIn 3 (some .int)]
def wsX2_upStrength : List Cond := .code yX2_upStrength cX2_upStrength 2 (some .int) :: ((wsX2_upStrength_r1 ++ (wsX2_upStrength_r2 ++ (wsX2_upStrength_r3 ++ wsX2_upStrength_r4))) ++ wsX20 ++ wsX00 ++ wsX10)
def wsX2_downStrength_r1 : List Cond := [Cond.fieldLink RX2 10 "SwitchLevelSimulator" "circuit" "LSwitchLevelSimulator$Circuit;", Cond.fieldLink RX2 26 "SwitchLevelSimulator" "steady" "LSwitchLevelSimulator$SteadyState;", Cond.methodLink RX2 46 yX0_hasNode, Cond.instanceMethod yX0_hasNode, Cond.selects RX0 yX0_hasNode yX0_hasNode, Cond.initialized RX0, Cond.code yX0_hasNode cX0_hasNode 2 (some .boolean), Cond.fieldLink RX0 33 "SwitchLevelSimulator$Circuit" "nodeTotal" "I", Cond.methodLink RX2 82 yX1_find, Cond.instanceMethod yX1_find, Cond.selects RX1 yX1_find yX1_find, Cond.initialized RX1, Cond.code yX1_find cX1_find 2 none, Cond.fieldLink RX1 15 "SwitchLevelSimulator$SteadyState" "up" "[I", Cond.fieldLink RX1 36 "SwitchLevelSimulator$Circuit" "mayBeOne" "I", Cond.fieldLink RX1 18 "SwitchLevelSimulator$SteadyState" "down" "[I", Cond.fieldLink RX1 46 "SwitchLevelSimulator$Circuit" "mayBeZero" "I", Cond.methodLink RX1 29 yX1_findNeighbors, Cond.instanceMethod yX1_findNeighbors, Cond.selects RX1 yX1_findNeighbors yX1_findNeighbors, Cond.code yX1_findNeighbors cX1_findNeighbors 4 none, Cond.fieldLink RX1 76 "SwitchLevelSimulator$Circuit" "nodeTotal" "I", Cond.fieldLink RX1 23 "SwitchLevelSimulator$SteadyState" "byClosed" "[[I", Cond.fieldLink RX1 26 "SwitchLevelSimulator$SteadyState" "byNotOpen" "[[I"]
def wsX2_downStrength_r2 : List Cond := [Cond.fieldLink RX1 79 "SwitchLevelSimulator$Circuit" "transistorTotal" "I", Cond.methodLink RX1 82 yX0_stateOf, Cond.instanceMethod yX0_stateOf, Cond.selects RX0 yX0_stateOf yX0_stateOf, Cond.code yX0_stateOf cX0_stateOf 4 (some .int), Cond.fieldLink RX0 30 "SwitchLevelSimulator$Circuit" "faults" "[I", Cond.fieldLink RX0 15 "SwitchLevelSimulator$Circuit" "types" "[I", Cond.fieldLink RX0 21 "SwitchLevelSimulator$Circuit" "gates" "[I", Cond.methodLink RX0 69 yX0_valueOf, Cond.instanceMethod yX0_valueOf, Cond.selects RX0 yX0_valueOf yX0_valueOf, Cond.code yX0_valueOf cX0_valueOf 4 (some .int), Cond.fieldLink RX0 54 "SwitchLevelSimulator$Circuit" "mayBeZero" "I", Cond.fieldLink RX0 57 "SwitchLevelSimulator$Circuit" "mayBeOne" "I", Cond.methodLink RX1 85 yX1_connect, Cond.static yX1_connect, Cond.code yX1_connect cX1_connect 6 none, Cond.fieldLink RX1 89 "SwitchLevelSimulator$Circuit" "ones" "[I", Cond.fieldLink RX1 92 "SwitchLevelSimulator$Circuit" "others" "[I", Cond.fieldLink RX1 95 "SwitchLevelSimulator$Circuit" "strengths" "[I", Cond.methodLink RX1 33 yX1_findDefinite, Cond.instanceMethod yX1_findDefinite, Cond.selects RX1 yX1_findDefinite yX1_findDefinite, Cond.code yX1_findDefinite cX1_findDefinite 4 none]
def wsX2_downStrength_r3 : List Cond := [Cond.fieldLink RX1 9 "SwitchLevelSimulator$SteadyState" "definite" "[I", Cond.fieldLink RX1 60 "SwitchLevelSimulator$Circuit" "inputNodes" "I", Cond.fieldLink RX1 63 "SwitchLevelSimulator$Circuit" "sizedAtLeast" "[I", Cond.fieldLink RX1 53 "SwitchLevelSimulator$Circuit" "storageNodes" "I", Cond.methodLink RX1 66 yX1_strengthPassing, Cond.static yX1_strengthPassing, Cond.code yX1_strengthPassing cX1_strengthPassing 1 (some .int), Cond.methodLink RX1 70 Lib.Math.max.name, Cond.static Lib.Math.max.name, Cond.initialized "java/lang/Math", Cond.code Lib.Math.max.name Lib.Math.max.code 2 (some .int), Cond.methodLink RX1 56 yX1_reach, Cond.static yX1_reach, Cond.code yX1_reach cX1_reach 8 (some .int), Cond.methodLink RX1 98 yJ6_numberOfTrailingZeros_0f7a4, Cond.static yJ6_numberOfTrailingZeros_0f7a4, Cond.initialized RJ6, Cond.code yJ6_numberOfTrailingZeros_0f7a4 cJ6_numberOfTrailingZeros_0f7a4 2 (some .int), Cond.constant RJ6 264 (65536), Cond.methodLink RX1 42 yX1_findSide, Cond.instanceMethod yX1_findSide, Cond.selects RX1 yX1_findSide yX1_findSide, Cond.code yX1_findSide cX1_findSide 7 none, Cond.methodLink RX2 92 yX1_downLevel]
def wsX2_downStrength_r4 : List Cond := [Cond.instanceMethod yX1_downLevel, Cond.selects RX1 yX1_downLevel yX1_downLevel, Cond.code yX1_downLevel cX1_downLevel 2 (some .int), Cond.methodLink RX1 49 yX1_levelIn, Cond.static yX1_levelIn, Cond.code yX1_levelIn cX1_levelIn 3 (some .int)]
def wsX2_downStrength : List Cond := .code yX2_downStrength cX2_downStrength 2 (some .int) :: ((wsX2_downStrength_r1 ++ (wsX2_downStrength_r2 ++ (wsX2_downStrength_r3 ++ wsX2_downStrength_r4))) ++ wsX20 ++ wsX00 ++ wsX10)
def wsX2_advance_r1 : List Cond := [Cond.fieldLink RX2 26 "SwitchLevelSimulator" "steady" "LSwitchLevelSimulator$SteadyState;", Cond.methodLink RX2 82 yX1_find, Cond.instanceMethod yX1_find, Cond.selects RX1 yX1_find yX1_find, Cond.initialized RX1, Cond.code yX1_find cX1_find 2 none, Cond.fieldLink RX1 15 "SwitchLevelSimulator$SteadyState" "up" "[I", Cond.fieldLink RX1 36 "SwitchLevelSimulator$Circuit" "mayBeOne" "I", Cond.fieldLink RX1 18 "SwitchLevelSimulator$SteadyState" "down" "[I", Cond.fieldLink RX1 46 "SwitchLevelSimulator$Circuit" "mayBeZero" "I", Cond.methodLink RX1 29 yX1_findNeighbors, Cond.instanceMethod yX1_findNeighbors, Cond.selects RX1 yX1_findNeighbors yX1_findNeighbors, Cond.code yX1_findNeighbors cX1_findNeighbors 4 none, Cond.fieldLink RX1 76 "SwitchLevelSimulator$Circuit" "nodeTotal" "I", Cond.fieldLink RX1 23 "SwitchLevelSimulator$SteadyState" "byClosed" "[[I", Cond.fieldLink RX1 26 "SwitchLevelSimulator$SteadyState" "byNotOpen" "[[I", Cond.fieldLink RX1 79 "SwitchLevelSimulator$Circuit" "transistorTotal" "I", Cond.methodLink RX1 82 yX0_stateOf, Cond.instanceMethod yX0_stateOf, Cond.selects RX0 yX0_stateOf yX0_stateOf, Cond.initialized RX0, Cond.code yX0_stateOf cX0_stateOf 4 (some .int), Cond.fieldLink RX0 30 "SwitchLevelSimulator$Circuit" "faults" "[I"]
def wsX2_advance_r2 : List Cond := [Cond.fieldLink RX0 15 "SwitchLevelSimulator$Circuit" "types" "[I", Cond.fieldLink RX0 21 "SwitchLevelSimulator$Circuit" "gates" "[I", Cond.methodLink RX0 69 yX0_valueOf, Cond.instanceMethod yX0_valueOf, Cond.selects RX0 yX0_valueOf yX0_valueOf, Cond.code yX0_valueOf cX0_valueOf 4 (some .int), Cond.fieldLink RX0 54 "SwitchLevelSimulator$Circuit" "mayBeZero" "I", Cond.fieldLink RX0 57 "SwitchLevelSimulator$Circuit" "mayBeOne" "I", Cond.methodLink RX1 85 yX1_connect, Cond.static yX1_connect, Cond.code yX1_connect cX1_connect 6 none, Cond.fieldLink RX1 89 "SwitchLevelSimulator$Circuit" "ones" "[I", Cond.fieldLink RX1 92 "SwitchLevelSimulator$Circuit" "others" "[I", Cond.fieldLink RX1 95 "SwitchLevelSimulator$Circuit" "strengths" "[I", Cond.methodLink RX1 33 yX1_findDefinite, Cond.instanceMethod yX1_findDefinite, Cond.selects RX1 yX1_findDefinite yX1_findDefinite, Cond.code yX1_findDefinite cX1_findDefinite 4 none, Cond.fieldLink RX1 9 "SwitchLevelSimulator$SteadyState" "definite" "[I", Cond.fieldLink RX1 60 "SwitchLevelSimulator$Circuit" "inputNodes" "I", Cond.fieldLink RX1 63 "SwitchLevelSimulator$Circuit" "sizedAtLeast" "[I", Cond.fieldLink RX1 53 "SwitchLevelSimulator$Circuit" "storageNodes" "I", Cond.methodLink RX1 66 yX1_strengthPassing, Cond.static yX1_strengthPassing]
def wsX2_advance_r3 : List Cond := [Cond.code yX1_strengthPassing cX1_strengthPassing 1 (some .int), Cond.methodLink RX1 70 Lib.Math.max.name, Cond.static Lib.Math.max.name, Cond.initialized "java/lang/Math", Cond.code Lib.Math.max.name Lib.Math.max.code 2 (some .int), Cond.methodLink RX1 56 yX1_reach, Cond.static yX1_reach, Cond.code yX1_reach cX1_reach 8 (some .int), Cond.methodLink RX1 98 yJ6_numberOfTrailingZeros_0f7a4, Cond.static yJ6_numberOfTrailingZeros_0f7a4, Cond.initialized RJ6, Cond.code yJ6_numberOfTrailingZeros_0f7a4 cJ6_numberOfTrailingZeros_0f7a4 2 (some .int), Cond.constant RJ6 264 (65536), Cond.methodLink RX1 42 yX1_findSide, Cond.instanceMethod yX1_findSide, Cond.selects RX1 yX1_findSide yX1_findSide, Cond.code yX1_findSide cX1_findSide 7 none, Cond.methodLink RX2 116 yX1_changesOf, Cond.instanceMethod yX1_changesOf, Cond.selects RX1 yX1_changesOf yX1_changesOf, Cond.code yX1_changesOf cX1_changesOf 2 (some .int), Cond.methodLink RX2 145 yX1_putInto, Cond.instanceMethod yX1_putInto, Cond.selects RX1 yX1_putInto yX1_putInto]
def wsX2_advance_r4 : List Cond := [Cond.code yX1_putInto cX1_putInto 2 none]
def wsX2_advance : List Cond := .code yX2_advance cX2_advance 3 (some .int) :: ((wsX2_advance_r1 ++ (wsX2_advance_r2 ++ (wsX2_advance_r3 ++ wsX2_advance_r4))) ++ wsX20 ++ wsX10 ++ wsX00)
def wsX2_steadyValue_r1 : List Cond := [Cond.fieldLink RX2 10 "SwitchLevelSimulator" "circuit" "LSwitchLevelSimulator$Circuit;", Cond.fieldLink RX2 16 "SwitchLevelSimulator" "trial" "LSwitchLevelSimulator$Circuit;", Cond.methodLink RX2 46 yX0_hasNode, Cond.instanceMethod yX0_hasNode, Cond.selects RX0 yX0_hasNode yX0_hasNode, Cond.initialized RX0, Cond.code yX0_hasNode cX0_hasNode 2 (some .boolean), Cond.fieldLink RX0 33 "SwitchLevelSimulator$Circuit" "nodeTotal" "I", Cond.methodLink RX2 95 yX0_copyFrom, Cond.instanceMethod yX0_copyFrom, Cond.selects RX0 yX0_copyFrom yX0_copyFrom, Cond.code yX0_copyFrom cX0_copyFrom 2 none, Cond.fieldLink RX0 40 "SwitchLevelSimulator$Circuit" "inputNodes" "I", Cond.fieldLink RX0 47 "SwitchLevelSimulator$Circuit" "storageNodes" "I", Cond.fieldLink RX0 9 "SwitchLevelSimulator$Circuit" "sizedAtLeast" "[I", Cond.methodLink RX0 80 arraycopyName, Cond.native arraycopyName, Cond.static arraycopyName, Cond.initialized "java/lang/System", Cond.fieldLink RX0 54 "SwitchLevelSimulator$Circuit" "mayBeZero" "I", Cond.fieldLink RX0 57 "SwitchLevelSimulator$Circuit" "mayBeOne" "I", Cond.fieldLink RX0 37 "SwitchLevelSimulator$Circuit" "transistorTotal" "I", Cond.fieldLink RX0 15 "SwitchLevelSimulator$Circuit" "types" "[I", Cond.fieldLink RX0 18 "SwitchLevelSimulator$Circuit" "strengths" "[I"]
def wsX2_steadyValue_r2 : List Cond := [Cond.fieldLink RX0 21 "SwitchLevelSimulator$Circuit" "gates" "[I", Cond.fieldLink RX0 24 "SwitchLevelSimulator$Circuit" "ones" "[I", Cond.fieldLink RX0 27 "SwitchLevelSimulator$Circuit" "others" "[I", Cond.fieldLink RX0 30 "SwitchLevelSimulator$Circuit" "faults" "[I", Cond.methodLink RX2 98 yX2_advance, Cond.instanceMethod yX2_advance, Cond.selects RX2 yX2_advance yX2_advance, Cond.initialized RX2, Cond.code yX2_advance cX2_advance 3 (some .int), Cond.fieldLink RX2 26 "SwitchLevelSimulator" "steady" "LSwitchLevelSimulator$SteadyState;", Cond.methodLink RX2 82 yX1_find, Cond.instanceMethod yX1_find, Cond.selects RX1 yX1_find yX1_find, Cond.initialized RX1, Cond.code yX1_find cX1_find 2 none, Cond.fieldLink RX1 15 "SwitchLevelSimulator$SteadyState" "up" "[I", Cond.fieldLink RX1 36 "SwitchLevelSimulator$Circuit" "mayBeOne" "I", Cond.fieldLink RX1 18 "SwitchLevelSimulator$SteadyState" "down" "[I", Cond.fieldLink RX1 46 "SwitchLevelSimulator$Circuit" "mayBeZero" "I", Cond.methodLink RX1 29 yX1_findNeighbors, Cond.instanceMethod yX1_findNeighbors, Cond.selects RX1 yX1_findNeighbors yX1_findNeighbors, Cond.code yX1_findNeighbors cX1_findNeighbors 4 none, Cond.fieldLink RX1 76 "SwitchLevelSimulator$Circuit" "nodeTotal" "I"]
def wsX2_steadyValue_r3 : List Cond := [Cond.fieldLink RX1 23 "SwitchLevelSimulator$SteadyState" "byClosed" "[[I", Cond.fieldLink RX1 26 "SwitchLevelSimulator$SteadyState" "byNotOpen" "[[I", Cond.fieldLink RX1 79 "SwitchLevelSimulator$Circuit" "transistorTotal" "I", Cond.methodLink RX1 82 yX0_stateOf, Cond.instanceMethod yX0_stateOf, Cond.selects RX0 yX0_stateOf yX0_stateOf, Cond.code yX0_stateOf cX0_stateOf 4 (some .int), Cond.methodLink RX0 69 yX0_valueOf, Cond.instanceMethod yX0_valueOf, Cond.selects RX0 yX0_valueOf yX0_valueOf, Cond.code yX0_valueOf cX0_valueOf 4 (some .int), Cond.methodLink RX1 85 yX1_connect, Cond.static yX1_connect, Cond.code yX1_connect cX1_connect 6 none, Cond.fieldLink RX1 89 "SwitchLevelSimulator$Circuit" "ones" "[I", Cond.fieldLink RX1 92 "SwitchLevelSimulator$Circuit" "others" "[I", Cond.fieldLink RX1 95 "SwitchLevelSimulator$Circuit" "strengths" "[I", Cond.methodLink RX1 33 yX1_findDefinite, Cond.instanceMethod yX1_findDefinite, Cond.selects RX1 yX1_findDefinite yX1_findDefinite, Cond.code yX1_findDefinite cX1_findDefinite 4 none, Cond.fieldLink RX1 9 "SwitchLevelSimulator$SteadyState" "definite" "[I", Cond.fieldLink RX1 60 "SwitchLevelSimulator$Circuit" "inputNodes" "I", Cond.fieldLink RX1 63 "SwitchLevelSimulator$Circuit" "sizedAtLeast" "[I"]
def wsX2_steadyValue_r4 : List Cond := [Cond.fieldLink RX1 53 "SwitchLevelSimulator$Circuit" "storageNodes" "I", Cond.methodLink RX1 66 yX1_strengthPassing, Cond.static yX1_strengthPassing, Cond.code yX1_strengthPassing cX1_strengthPassing 1 (some .int), Cond.methodLink RX1 70 Lib.Math.max.name, Cond.static Lib.Math.max.name, Cond.initialized "java/lang/Math", Cond.code Lib.Math.max.name Lib.Math.max.code 2 (some .int), Cond.methodLink RX1 56 yX1_reach, Cond.static yX1_reach, Cond.code yX1_reach cX1_reach 8 (some .int), Cond.methodLink RX1 98 yJ6_numberOfTrailingZeros_0f7a4, Cond.static yJ6_numberOfTrailingZeros_0f7a4, Cond.initialized RJ6, Cond.code yJ6_numberOfTrailingZeros_0f7a4 cJ6_numberOfTrailingZeros_0f7a4 2 (some .int), Cond.constant RJ6 264 (65536), Cond.methodLink RX1 42 yX1_findSide, Cond.instanceMethod yX1_findSide, Cond.selects RX1 yX1_findSide yX1_findSide, Cond.code yX1_findSide cX1_findSide 7 none, Cond.methodLink RX2 116 yX1_changesOf, Cond.instanceMethod yX1_changesOf, Cond.selects RX1 yX1_changesOf yX1_changesOf, Cond.code yX1_changesOf cX1_changesOf 2 (some .int)]
def wsX2_steadyValue_r5 : List Cond := [Cond.methodLink RX2 145 yX1_putInto, Cond.instanceMethod yX1_putInto, Cond.selects RX1 yX1_putInto yX1_putInto, Cond.code yX1_putInto cX1_putInto 2 none, Cond.methodLink RX2 67 yX0_valueOf]
def wsX2_steadyValue : List Cond := .code yX2_steadyValue cX2_steadyValue 2 (some .int) :: ((wsX2_steadyValue_r1 ++ (wsX2_steadyValue_r2 ++ (wsX2_steadyValue_r3 ++ (wsX2_steadyValue_r4 ++ wsX2_steadyValue_r5)))) ++ wsX20 ++ wsX00 ++ wsX10)
def wsX2_vicinity_r1 : List Cond := [Cond.fieldLink RX2 10 "SwitchLevelSimulator" "circuit" "LSwitchLevelSimulator$Circuit;", Cond.fieldLink RX2 26 "SwitchLevelSimulator" "steady" "LSwitchLevelSimulator$SteadyState;", Cond.methodLink RX2 46 yX0_hasNode, Cond.instanceMethod yX0_hasNode, Cond.selects RX0 yX0_hasNode yX0_hasNode, Cond.initialized RX0, Cond.code yX0_hasNode cX0_hasNode 2 (some .boolean), Cond.fieldLink RX0 33 "SwitchLevelSimulator$Circuit" "nodeTotal" "I", Cond.methodLink RX2 102 yX0_isInput, Cond.instanceMethod yX0_isInput, Cond.selects RX0 yX0_isInput yX0_isInput, Cond.code yX0_isInput cX0_isInput 2 (some .boolean), Cond.fieldLink RX0 40 "SwitchLevelSimulator$Circuit" "inputNodes" "I", Cond.methodLink RX2 105 yX1_storageAround, Cond.instanceMethod yX1_storageAround, Cond.selects RX1 yX1_storageAround yX1_storageAround, Cond.initialized RX1, Cond.code yX1_storageAround cX1_storageAround 3 (some .int), Cond.fieldLink RX1 26 "SwitchLevelSimulator$SteadyState" "byNotOpen" "[[I", Cond.fieldLink RX1 53 "SwitchLevelSimulator$Circuit" "storageNodes" "I", Cond.methodLink RX1 29 yX1_findNeighbors, Cond.instanceMethod yX1_findNeighbors, Cond.selects RX1 yX1_findNeighbors yX1_findNeighbors, Cond.code yX1_findNeighbors cX1_findNeighbors 4 none]
def wsX2_vicinity_r2 : List Cond := [Cond.fieldLink RX1 76 "SwitchLevelSimulator$Circuit" "nodeTotal" "I", Cond.fieldLink RX1 23 "SwitchLevelSimulator$SteadyState" "byClosed" "[[I", Cond.fieldLink RX1 79 "SwitchLevelSimulator$Circuit" "transistorTotal" "I", Cond.methodLink RX1 82 yX0_stateOf, Cond.instanceMethod yX0_stateOf, Cond.selects RX0 yX0_stateOf yX0_stateOf, Cond.code yX0_stateOf cX0_stateOf 4 (some .int), Cond.fieldLink RX0 30 "SwitchLevelSimulator$Circuit" "faults" "[I", Cond.fieldLink RX0 15 "SwitchLevelSimulator$Circuit" "types" "[I", Cond.fieldLink RX0 21 "SwitchLevelSimulator$Circuit" "gates" "[I", Cond.methodLink RX0 69 yX0_valueOf, Cond.instanceMethod yX0_valueOf, Cond.selects RX0 yX0_valueOf yX0_valueOf, Cond.code yX0_valueOf cX0_valueOf 4 (some .int), Cond.fieldLink RX0 54 "SwitchLevelSimulator$Circuit" "mayBeZero" "I", Cond.fieldLink RX0 57 "SwitchLevelSimulator$Circuit" "mayBeOne" "I", Cond.methodLink RX1 85 yX1_connect, Cond.static yX1_connect, Cond.code yX1_connect cX1_connect 6 none, Cond.fieldLink RX1 89 "SwitchLevelSimulator$Circuit" "ones" "[I", Cond.fieldLink RX1 92 "SwitchLevelSimulator$Circuit" "others" "[I", Cond.fieldLink RX1 95 "SwitchLevelSimulator$Circuit" "strengths" "[I", Cond.methodLink RX1 56 yX1_reach, Cond.static yX1_reach]
def wsX2_vicinity_r3 : List Cond := [Cond.code yX1_reach cX1_reach 8 (some .int), Cond.methodLink RX1 98 yJ6_numberOfTrailingZeros_0f7a4, Cond.static yJ6_numberOfTrailingZeros_0f7a4, Cond.initialized RJ6, Cond.code yJ6_numberOfTrailingZeros_0f7a4 cJ6_numberOfTrailingZeros_0f7a4 2 (some .int), Cond.constant RJ6 264 (65536)]
def wsX2_vicinity : List Cond := .code yX2_vicinity cX2_vicinity 2 (some .int) :: ((wsX2_vicinity_r1 ++ (wsX2_vicinity_r2 ++ wsX2_vicinity_r3)) ++ wsX20 ++ wsX00 ++ wsX10)
def wsX2_step_r1 : List Cond := [Cond.fieldLink RX2 10 "SwitchLevelSimulator" "circuit" "LSwitchLevelSimulator$Circuit;", Cond.methodLink RX2 98 yX2_advance, Cond.instanceMethod yX2_advance, Cond.selects RX2 yX2_advance yX2_advance, Cond.initialized RX2, Cond.code yX2_advance cX2_advance 3 (some .int), Cond.fieldLink RX2 26 "SwitchLevelSimulator" "steady" "LSwitchLevelSimulator$SteadyState;", Cond.methodLink RX2 82 yX1_find, Cond.instanceMethod yX1_find, Cond.selects RX1 yX1_find yX1_find, Cond.initialized RX1, Cond.code yX1_find cX1_find 2 none, Cond.fieldLink RX1 15 "SwitchLevelSimulator$SteadyState" "up" "[I", Cond.fieldLink RX1 36 "SwitchLevelSimulator$Circuit" "mayBeOne" "I", Cond.fieldLink RX1 18 "SwitchLevelSimulator$SteadyState" "down" "[I", Cond.fieldLink RX1 46 "SwitchLevelSimulator$Circuit" "mayBeZero" "I", Cond.methodLink RX1 29 yX1_findNeighbors, Cond.instanceMethod yX1_findNeighbors, Cond.selects RX1 yX1_findNeighbors yX1_findNeighbors, Cond.code yX1_findNeighbors cX1_findNeighbors 4 none, Cond.fieldLink RX1 76 "SwitchLevelSimulator$Circuit" "nodeTotal" "I", Cond.fieldLink RX1 23 "SwitchLevelSimulator$SteadyState" "byClosed" "[[I", Cond.fieldLink RX1 26 "SwitchLevelSimulator$SteadyState" "byNotOpen" "[[I", Cond.fieldLink RX1 79 "SwitchLevelSimulator$Circuit" "transistorTotal" "I"]
def wsX2_step_r2 : List Cond := [Cond.methodLink RX1 82 yX0_stateOf, Cond.instanceMethod yX0_stateOf, Cond.selects RX0 yX0_stateOf yX0_stateOf, Cond.initialized RX0, Cond.code yX0_stateOf cX0_stateOf 4 (some .int), Cond.fieldLink RX0 30 "SwitchLevelSimulator$Circuit" "faults" "[I", Cond.fieldLink RX0 15 "SwitchLevelSimulator$Circuit" "types" "[I", Cond.fieldLink RX0 21 "SwitchLevelSimulator$Circuit" "gates" "[I", Cond.methodLink RX0 69 yX0_valueOf, Cond.instanceMethod yX0_valueOf, Cond.selects RX0 yX0_valueOf yX0_valueOf, Cond.code yX0_valueOf cX0_valueOf 4 (some .int), Cond.fieldLink RX0 54 "SwitchLevelSimulator$Circuit" "mayBeZero" "I", Cond.fieldLink RX0 57 "SwitchLevelSimulator$Circuit" "mayBeOne" "I", Cond.methodLink RX1 85 yX1_connect, Cond.static yX1_connect, Cond.code yX1_connect cX1_connect 6 none, Cond.fieldLink RX1 89 "SwitchLevelSimulator$Circuit" "ones" "[I", Cond.fieldLink RX1 92 "SwitchLevelSimulator$Circuit" "others" "[I", Cond.fieldLink RX1 95 "SwitchLevelSimulator$Circuit" "strengths" "[I", Cond.methodLink RX1 33 yX1_findDefinite, Cond.instanceMethod yX1_findDefinite, Cond.selects RX1 yX1_findDefinite yX1_findDefinite, Cond.code yX1_findDefinite cX1_findDefinite 4 none]
def wsX2_step_r3 : List Cond := [Cond.fieldLink RX1 9 "SwitchLevelSimulator$SteadyState" "definite" "[I", Cond.fieldLink RX1 60 "SwitchLevelSimulator$Circuit" "inputNodes" "I", Cond.fieldLink RX1 63 "SwitchLevelSimulator$Circuit" "sizedAtLeast" "[I", Cond.fieldLink RX1 53 "SwitchLevelSimulator$Circuit" "storageNodes" "I", Cond.methodLink RX1 66 yX1_strengthPassing, Cond.static yX1_strengthPassing, Cond.code yX1_strengthPassing cX1_strengthPassing 1 (some .int), Cond.methodLink RX1 70 Lib.Math.max.name, Cond.static Lib.Math.max.name, Cond.initialized "java/lang/Math", Cond.code Lib.Math.max.name Lib.Math.max.code 2 (some .int), Cond.methodLink RX1 56 yX1_reach, Cond.static yX1_reach, Cond.code yX1_reach cX1_reach 8 (some .int), Cond.methodLink RX1 98 yJ6_numberOfTrailingZeros_0f7a4, Cond.static yJ6_numberOfTrailingZeros_0f7a4, Cond.initialized RJ6, Cond.code yJ6_numberOfTrailingZeros_0f7a4 cJ6_numberOfTrailingZeros_0f7a4 2 (some .int), Cond.constant RJ6 264 (65536), Cond.methodLink RX1 42 yX1_findSide, Cond.instanceMethod yX1_findSide, Cond.selects RX1 yX1_findSide yX1_findSide, Cond.code yX1_findSide cX1_findSide 7 none, Cond.methodLink RX2 116 yX1_changesOf]
def wsX2_step_r4 : List Cond := [Cond.instanceMethod yX1_changesOf, Cond.selects RX1 yX1_changesOf yX1_changesOf, Cond.code yX1_changesOf cX1_changesOf 2 (some .int), Cond.methodLink RX2 145 yX1_putInto, Cond.instanceMethod yX1_putInto, Cond.selects RX1 yX1_putInto yX1_putInto, Cond.code yX1_putInto cX1_putInto 2 none]
def wsX2_step : List Cond := .code yX2_step cX2_step 1 (some .int) :: ((wsX2_step_r1 ++ (wsX2_step_r2 ++ (wsX2_step_r3 ++ wsX2_step_r4))) ++ wsX20 ++ wsX10 ++ wsX00)
def wsX2_isLimit : List Cond := .code yX2_isLimit cX2_isLimit 1 (some .boolean) :: ([.methodLink RX2 38 yX2_isWithin, .static yX2_isWithin, .initialized RX2, .code yX2_isWithin cX2_isWithin 3 (some .boolean)])
def wsX2_settleWithin_r1 : List Cond := [Cond.fieldLink RX2 26 "SwitchLevelSimulator" "steady" "LSwitchLevelSimulator$SteadyState;", Cond.methodLink RX2 82 yX1_find, Cond.instanceMethod yX1_find, Cond.selects RX1 yX1_find yX1_find, Cond.initialized RX1, Cond.code yX1_find cX1_find 2 none, Cond.fieldLink RX1 15 "SwitchLevelSimulator$SteadyState" "up" "[I", Cond.fieldLink RX1 36 "SwitchLevelSimulator$Circuit" "mayBeOne" "I", Cond.fieldLink RX1 18 "SwitchLevelSimulator$SteadyState" "down" "[I", Cond.fieldLink RX1 46 "SwitchLevelSimulator$Circuit" "mayBeZero" "I", Cond.methodLink RX1 29 yX1_findNeighbors, Cond.instanceMethod yX1_findNeighbors, Cond.selects RX1 yX1_findNeighbors yX1_findNeighbors, Cond.code yX1_findNeighbors cX1_findNeighbors 4 none, Cond.fieldLink RX1 76 "SwitchLevelSimulator$Circuit" "nodeTotal" "I", Cond.fieldLink RX1 23 "SwitchLevelSimulator$SteadyState" "byClosed" "[[I", Cond.fieldLink RX1 26 "SwitchLevelSimulator$SteadyState" "byNotOpen" "[[I", Cond.fieldLink RX1 79 "SwitchLevelSimulator$Circuit" "transistorTotal" "I", Cond.methodLink RX1 82 yX0_stateOf, Cond.instanceMethod yX0_stateOf, Cond.selects RX0 yX0_stateOf yX0_stateOf, Cond.initialized RX0, Cond.code yX0_stateOf cX0_stateOf 4 (some .int), Cond.fieldLink RX0 30 "SwitchLevelSimulator$Circuit" "faults" "[I"]
def wsX2_settleWithin_r2 : List Cond := [Cond.fieldLink RX0 15 "SwitchLevelSimulator$Circuit" "types" "[I", Cond.fieldLink RX0 21 "SwitchLevelSimulator$Circuit" "gates" "[I", Cond.methodLink RX0 69 yX0_valueOf, Cond.instanceMethod yX0_valueOf, Cond.selects RX0 yX0_valueOf yX0_valueOf, Cond.code yX0_valueOf cX0_valueOf 4 (some .int), Cond.fieldLink RX0 54 "SwitchLevelSimulator$Circuit" "mayBeZero" "I", Cond.fieldLink RX0 57 "SwitchLevelSimulator$Circuit" "mayBeOne" "I", Cond.methodLink RX1 85 yX1_connect, Cond.static yX1_connect, Cond.code yX1_connect cX1_connect 6 none, Cond.fieldLink RX1 89 "SwitchLevelSimulator$Circuit" "ones" "[I", Cond.fieldLink RX1 92 "SwitchLevelSimulator$Circuit" "others" "[I", Cond.fieldLink RX1 95 "SwitchLevelSimulator$Circuit" "strengths" "[I", Cond.methodLink RX1 33 yX1_findDefinite, Cond.instanceMethod yX1_findDefinite, Cond.selects RX1 yX1_findDefinite yX1_findDefinite, Cond.code yX1_findDefinite cX1_findDefinite 4 none, Cond.fieldLink RX1 9 "SwitchLevelSimulator$SteadyState" "definite" "[I", Cond.fieldLink RX1 60 "SwitchLevelSimulator$Circuit" "inputNodes" "I", Cond.fieldLink RX1 63 "SwitchLevelSimulator$Circuit" "sizedAtLeast" "[I", Cond.fieldLink RX1 53 "SwitchLevelSimulator$Circuit" "storageNodes" "I", Cond.methodLink RX1 66 yX1_strengthPassing, Cond.static yX1_strengthPassing]
def wsX2_settleWithin_r3 : List Cond := [Cond.code yX1_strengthPassing cX1_strengthPassing 1 (some .int), Cond.methodLink RX1 70 Lib.Math.max.name, Cond.static Lib.Math.max.name, Cond.initialized "java/lang/Math", Cond.code Lib.Math.max.name Lib.Math.max.code 2 (some .int), Cond.methodLink RX1 56 yX1_reach, Cond.static yX1_reach, Cond.code yX1_reach cX1_reach 8 (some .int), Cond.methodLink RX1 98 yJ6_numberOfTrailingZeros_0f7a4, Cond.static yJ6_numberOfTrailingZeros_0f7a4, Cond.initialized RJ6, Cond.code yJ6_numberOfTrailingZeros_0f7a4 cJ6_numberOfTrailingZeros_0f7a4 2 (some .int), Cond.constant RJ6 264 (65536), Cond.methodLink RX1 42 yX1_findSide, Cond.instanceMethod yX1_findSide, Cond.selects RX1 yX1_findSide yX1_findSide, Cond.code yX1_findSide cX1_findSide 7 none, Cond.methodLink RX2 116 yX1_changesOf, Cond.instanceMethod yX1_changesOf, Cond.selects RX1 yX1_changesOf yX1_changesOf, Cond.code yX1_changesOf cX1_changesOf 2 (some .int), Cond.methodLink RX2 145 yX1_putInto, Cond.instanceMethod yX1_putInto, Cond.selects RX1 yX1_putInto yX1_putInto]
def wsX2_settleWithin_r4 : List Cond := [Cond.code yX1_putInto cX1_putInto 2 none]
def wsX2_settleWithin : List Cond := .code yX2_settleWithin cX2_settleWithin 4 (some .int) :: ((wsX2_settleWithin_r1 ++ (wsX2_settleWithin_r2 ++ (wsX2_settleWithin_r3 ++ wsX2_settleWithin_r4))) ++ wsX20 ++ wsX10 ++ wsX00)
def wsX2_settle_r1 : List Cond := [Cond.fieldLink RX2 10 "SwitchLevelSimulator" "circuit" "LSwitchLevelSimulator$Circuit;", Cond.methodLink RX2 109 yX2_isLimit, Cond.static yX2_isLimit, Cond.initialized RX2, Cond.code yX2_isLimit cX2_isLimit 1 (some .boolean), Cond.methodLink RX2 38 yX2_isWithin, Cond.static yX2_isWithin, Cond.code yX2_isWithin cX2_isWithin 3 (some .boolean), Cond.methodLink RX2 112 yX2_settleWithin, Cond.instanceMethod yX2_settleWithin, Cond.selects RX2 yX2_settleWithin yX2_settleWithin, Cond.code yX2_settleWithin cX2_settleWithin 4 (some .int), Cond.fieldLink RX2 26 "SwitchLevelSimulator" "steady" "LSwitchLevelSimulator$SteadyState;", Cond.methodLink RX2 82 yX1_find, Cond.instanceMethod yX1_find, Cond.selects RX1 yX1_find yX1_find, Cond.initialized RX1, Cond.code yX1_find cX1_find 2 none, Cond.fieldLink RX1 15 "SwitchLevelSimulator$SteadyState" "up" "[I", Cond.fieldLink RX1 36 "SwitchLevelSimulator$Circuit" "mayBeOne" "I", Cond.fieldLink RX1 18 "SwitchLevelSimulator$SteadyState" "down" "[I", Cond.fieldLink RX1 46 "SwitchLevelSimulator$Circuit" "mayBeZero" "I", Cond.methodLink RX1 29 yX1_findNeighbors, Cond.instanceMethod yX1_findNeighbors]
def wsX2_settle_r2 : List Cond := [Cond.selects RX1 yX1_findNeighbors yX1_findNeighbors, Cond.code yX1_findNeighbors cX1_findNeighbors 4 none, Cond.fieldLink RX1 76 "SwitchLevelSimulator$Circuit" "nodeTotal" "I", Cond.fieldLink RX1 23 "SwitchLevelSimulator$SteadyState" "byClosed" "[[I", Cond.fieldLink RX1 26 "SwitchLevelSimulator$SteadyState" "byNotOpen" "[[I", Cond.fieldLink RX1 79 "SwitchLevelSimulator$Circuit" "transistorTotal" "I", Cond.methodLink RX1 82 yX0_stateOf, Cond.instanceMethod yX0_stateOf, Cond.selects RX0 yX0_stateOf yX0_stateOf, Cond.initialized RX0, Cond.code yX0_stateOf cX0_stateOf 4 (some .int), Cond.fieldLink RX0 30 "SwitchLevelSimulator$Circuit" "faults" "[I", Cond.fieldLink RX0 15 "SwitchLevelSimulator$Circuit" "types" "[I", Cond.fieldLink RX0 21 "SwitchLevelSimulator$Circuit" "gates" "[I", Cond.methodLink RX0 69 yX0_valueOf, Cond.instanceMethod yX0_valueOf, Cond.selects RX0 yX0_valueOf yX0_valueOf, Cond.code yX0_valueOf cX0_valueOf 4 (some .int), Cond.fieldLink RX0 54 "SwitchLevelSimulator$Circuit" "mayBeZero" "I", Cond.fieldLink RX0 57 "SwitchLevelSimulator$Circuit" "mayBeOne" "I", Cond.methodLink RX1 85 yX1_connect, Cond.static yX1_connect, Cond.code yX1_connect cX1_connect 6 none, Cond.fieldLink RX1 89 "SwitchLevelSimulator$Circuit" "ones" "[I"]
def wsX2_settle_r3 : List Cond := [Cond.fieldLink RX1 92 "SwitchLevelSimulator$Circuit" "others" "[I", Cond.fieldLink RX1 95 "SwitchLevelSimulator$Circuit" "strengths" "[I", Cond.methodLink RX1 33 yX1_findDefinite, Cond.instanceMethod yX1_findDefinite, Cond.selects RX1 yX1_findDefinite yX1_findDefinite, Cond.code yX1_findDefinite cX1_findDefinite 4 none, Cond.fieldLink RX1 9 "SwitchLevelSimulator$SteadyState" "definite" "[I", Cond.fieldLink RX1 60 "SwitchLevelSimulator$Circuit" "inputNodes" "I", Cond.fieldLink RX1 63 "SwitchLevelSimulator$Circuit" "sizedAtLeast" "[I", Cond.fieldLink RX1 53 "SwitchLevelSimulator$Circuit" "storageNodes" "I", Cond.methodLink RX1 66 yX1_strengthPassing, Cond.static yX1_strengthPassing, Cond.code yX1_strengthPassing cX1_strengthPassing 1 (some .int), Cond.methodLink RX1 70 Lib.Math.max.name, Cond.static Lib.Math.max.name, Cond.initialized "java/lang/Math", Cond.code Lib.Math.max.name Lib.Math.max.code 2 (some .int), Cond.methodLink RX1 56 yX1_reach, Cond.static yX1_reach, Cond.code yX1_reach cX1_reach 8 (some .int), Cond.methodLink RX1 98 yJ6_numberOfTrailingZeros_0f7a4, Cond.static yJ6_numberOfTrailingZeros_0f7a4, Cond.initialized RJ6, Cond.code yJ6_numberOfTrailingZeros_0f7a4 cJ6_numberOfTrailingZeros_0f7a4 2 (some .int)]
def wsX2_settle_r4 : List Cond := [Cond.constant RJ6 264 (65536), Cond.methodLink RX1 42 yX1_findSide, Cond.instanceMethod yX1_findSide, Cond.selects RX1 yX1_findSide yX1_findSide, Cond.code yX1_findSide cX1_findSide 7 none, Cond.methodLink RX2 116 yX1_changesOf, Cond.instanceMethod yX1_changesOf, Cond.selects RX1 yX1_changesOf yX1_changesOf, Cond.code yX1_changesOf cX1_changesOf 2 (some .int), Cond.methodLink RX2 145 yX1_putInto, Cond.instanceMethod yX1_putInto, Cond.selects RX1 yX1_putInto yX1_putInto, Cond.code yX1_putInto cX1_putInto 2 none]
def wsX2_settle : List Cond := .code yX2_settle cX2_settle 2 (some .int) :: ((wsX2_settle_r1 ++ (wsX2_settle_r2 ++ (wsX2_settle_r3 ++ wsX2_settle_r4))) ++ wsX20 ++ wsX10 ++ wsX00)
def wsX2_active_r1 : List Cond := [Cond.fieldLink RX2 26 "SwitchLevelSimulator" "steady" "LSwitchLevelSimulator$SteadyState;", Cond.fieldLink RX2 10 "SwitchLevelSimulator" "circuit" "LSwitchLevelSimulator$Circuit;", Cond.methodLink RX2 82 yX1_find, Cond.instanceMethod yX1_find, Cond.selects RX1 yX1_find yX1_find, Cond.initialized RX1, Cond.code yX1_find cX1_find 2 none, Cond.fieldLink RX1 15 "SwitchLevelSimulator$SteadyState" "up" "[I", Cond.fieldLink RX1 36 "SwitchLevelSimulator$Circuit" "mayBeOne" "I", Cond.fieldLink RX1 18 "SwitchLevelSimulator$SteadyState" "down" "[I", Cond.fieldLink RX1 46 "SwitchLevelSimulator$Circuit" "mayBeZero" "I", Cond.methodLink RX1 29 yX1_findNeighbors, Cond.instanceMethod yX1_findNeighbors, Cond.selects RX1 yX1_findNeighbors yX1_findNeighbors, Cond.code yX1_findNeighbors cX1_findNeighbors 4 none, Cond.fieldLink RX1 76 "SwitchLevelSimulator$Circuit" "nodeTotal" "I", Cond.fieldLink RX1 23 "SwitchLevelSimulator$SteadyState" "byClosed" "[[I", Cond.fieldLink RX1 26 "SwitchLevelSimulator$SteadyState" "byNotOpen" "[[I", Cond.fieldLink RX1 79 "SwitchLevelSimulator$Circuit" "transistorTotal" "I", Cond.methodLink RX1 82 yX0_stateOf, Cond.instanceMethod yX0_stateOf, Cond.selects RX0 yX0_stateOf yX0_stateOf, Cond.initialized RX0, Cond.code yX0_stateOf cX0_stateOf 4 (some .int)]
def wsX2_active_r2 : List Cond := [Cond.fieldLink RX0 30 "SwitchLevelSimulator$Circuit" "faults" "[I", Cond.fieldLink RX0 15 "SwitchLevelSimulator$Circuit" "types" "[I", Cond.fieldLink RX0 21 "SwitchLevelSimulator$Circuit" "gates" "[I", Cond.methodLink RX0 69 yX0_valueOf, Cond.instanceMethod yX0_valueOf, Cond.selects RX0 yX0_valueOf yX0_valueOf, Cond.code yX0_valueOf cX0_valueOf 4 (some .int), Cond.fieldLink RX0 54 "SwitchLevelSimulator$Circuit" "mayBeZero" "I", Cond.fieldLink RX0 57 "SwitchLevelSimulator$Circuit" "mayBeOne" "I", Cond.methodLink RX1 85 yX1_connect, Cond.static yX1_connect, Cond.code yX1_connect cX1_connect 6 none, Cond.fieldLink RX1 89 "SwitchLevelSimulator$Circuit" "ones" "[I", Cond.fieldLink RX1 92 "SwitchLevelSimulator$Circuit" "others" "[I", Cond.fieldLink RX1 95 "SwitchLevelSimulator$Circuit" "strengths" "[I", Cond.methodLink RX1 33 yX1_findDefinite, Cond.instanceMethod yX1_findDefinite, Cond.selects RX1 yX1_findDefinite yX1_findDefinite, Cond.code yX1_findDefinite cX1_findDefinite 4 none, Cond.fieldLink RX1 9 "SwitchLevelSimulator$SteadyState" "definite" "[I", Cond.fieldLink RX1 60 "SwitchLevelSimulator$Circuit" "inputNodes" "I", Cond.fieldLink RX1 63 "SwitchLevelSimulator$Circuit" "sizedAtLeast" "[I", Cond.fieldLink RX1 53 "SwitchLevelSimulator$Circuit" "storageNodes" "I", Cond.methodLink RX1 66 yX1_strengthPassing]
def wsX2_active_r3 : List Cond := [Cond.static yX1_strengthPassing, Cond.code yX1_strengthPassing cX1_strengthPassing 1 (some .int), Cond.methodLink RX1 70 Lib.Math.max.name, Cond.static Lib.Math.max.name, Cond.initialized "java/lang/Math", Cond.code Lib.Math.max.name Lib.Math.max.code 2 (some .int), Cond.methodLink RX1 56 yX1_reach, Cond.static yX1_reach, Cond.code yX1_reach cX1_reach 8 (some .int), Cond.methodLink RX1 98 yJ6_numberOfTrailingZeros_0f7a4, Cond.static yJ6_numberOfTrailingZeros_0f7a4, Cond.initialized RJ6, Cond.code yJ6_numberOfTrailingZeros_0f7a4 cJ6_numberOfTrailingZeros_0f7a4 2 (some .int), Cond.constant RJ6 264 (65536), Cond.methodLink RX1 42 yX1_findSide, Cond.instanceMethod yX1_findSide, Cond.selects RX1 yX1_findSide yX1_findSide, Cond.code yX1_findSide cX1_findSide 7 none, Cond.methodLink RX2 116 yX1_changesOf, Cond.instanceMethod yX1_changesOf, Cond.selects RX1 yX1_changesOf yX1_changesOf, Cond.code yX1_changesOf cX1_changesOf 2 (some .int)]
def wsX2_active : List Cond := .code yX2_active cX2_active 1 (some .int) :: ((wsX2_active_r1 ++ (wsX2_active_r2 ++ wsX2_active_r3)) ++ wsX20 ++ wsX10 ++ wsX00)
def wsX2_period_r1 : List Cond := [Cond.fieldLink RX2 16 "SwitchLevelSimulator" "trial" "LSwitchLevelSimulator$Circuit;", Cond.fieldLink RX2 10 "SwitchLevelSimulator" "circuit" "LSwitchLevelSimulator$Circuit;", Cond.methodLink RX2 109 yX2_isLimit, Cond.static yX2_isLimit, Cond.initialized RX2, Cond.code yX2_isLimit cX2_isLimit 1 (some .boolean), Cond.methodLink RX2 38 yX2_isWithin, Cond.static yX2_isWithin, Cond.code yX2_isWithin cX2_isWithin 3 (some .boolean), Cond.methodLink RX2 95 yX0_copyFrom, Cond.instanceMethod yX0_copyFrom, Cond.selects RX0 yX0_copyFrom yX0_copyFrom, Cond.initialized RX0, Cond.code yX0_copyFrom cX0_copyFrom 2 none, Cond.fieldLink RX0 33 "SwitchLevelSimulator$Circuit" "nodeTotal" "I", Cond.fieldLink RX0 40 "SwitchLevelSimulator$Circuit" "inputNodes" "I", Cond.fieldLink RX0 47 "SwitchLevelSimulator$Circuit" "storageNodes" "I", Cond.fieldLink RX0 9 "SwitchLevelSimulator$Circuit" "sizedAtLeast" "[I", Cond.methodLink RX0 80 arraycopyName, Cond.native arraycopyName, Cond.static arraycopyName, Cond.initialized "java/lang/System", Cond.fieldLink RX0 54 "SwitchLevelSimulator$Circuit" "mayBeZero" "I", Cond.fieldLink RX0 57 "SwitchLevelSimulator$Circuit" "mayBeOne" "I"]
def wsX2_period_r2 : List Cond := [Cond.fieldLink RX0 37 "SwitchLevelSimulator$Circuit" "transistorTotal" "I", Cond.fieldLink RX0 15 "SwitchLevelSimulator$Circuit" "types" "[I", Cond.fieldLink RX0 18 "SwitchLevelSimulator$Circuit" "strengths" "[I", Cond.fieldLink RX0 21 "SwitchLevelSimulator$Circuit" "gates" "[I", Cond.fieldLink RX0 24 "SwitchLevelSimulator$Circuit" "ones" "[I", Cond.fieldLink RX0 27 "SwitchLevelSimulator$Circuit" "others" "[I", Cond.fieldLink RX0 30 "SwitchLevelSimulator$Circuit" "faults" "[I", Cond.methodLink RX2 98 yX2_advance, Cond.instanceMethod yX2_advance, Cond.selects RX2 yX2_advance yX2_advance, Cond.code yX2_advance cX2_advance 3 (some .int), Cond.fieldLink RX2 26 "SwitchLevelSimulator" "steady" "LSwitchLevelSimulator$SteadyState;", Cond.methodLink RX2 82 yX1_find, Cond.instanceMethod yX1_find, Cond.selects RX1 yX1_find yX1_find, Cond.initialized RX1, Cond.code yX1_find cX1_find 2 none, Cond.fieldLink RX1 15 "SwitchLevelSimulator$SteadyState" "up" "[I", Cond.fieldLink RX1 36 "SwitchLevelSimulator$Circuit" "mayBeOne" "I", Cond.fieldLink RX1 18 "SwitchLevelSimulator$SteadyState" "down" "[I", Cond.fieldLink RX1 46 "SwitchLevelSimulator$Circuit" "mayBeZero" "I", Cond.methodLink RX1 29 yX1_findNeighbors, Cond.instanceMethod yX1_findNeighbors, Cond.selects RX1 yX1_findNeighbors yX1_findNeighbors]
def wsX2_period_r3 : List Cond := [Cond.code yX1_findNeighbors cX1_findNeighbors 4 none, Cond.fieldLink RX1 76 "SwitchLevelSimulator$Circuit" "nodeTotal" "I", Cond.fieldLink RX1 23 "SwitchLevelSimulator$SteadyState" "byClosed" "[[I", Cond.fieldLink RX1 26 "SwitchLevelSimulator$SteadyState" "byNotOpen" "[[I", Cond.fieldLink RX1 79 "SwitchLevelSimulator$Circuit" "transistorTotal" "I", Cond.methodLink RX1 82 yX0_stateOf, Cond.instanceMethod yX0_stateOf, Cond.selects RX0 yX0_stateOf yX0_stateOf, Cond.code yX0_stateOf cX0_stateOf 4 (some .int), Cond.methodLink RX0 69 yX0_valueOf, Cond.instanceMethod yX0_valueOf, Cond.selects RX0 yX0_valueOf yX0_valueOf, Cond.code yX0_valueOf cX0_valueOf 4 (some .int), Cond.methodLink RX1 85 yX1_connect, Cond.static yX1_connect, Cond.code yX1_connect cX1_connect 6 none, Cond.fieldLink RX1 89 "SwitchLevelSimulator$Circuit" "ones" "[I", Cond.fieldLink RX1 92 "SwitchLevelSimulator$Circuit" "others" "[I", Cond.fieldLink RX1 95 "SwitchLevelSimulator$Circuit" "strengths" "[I", Cond.methodLink RX1 33 yX1_findDefinite, Cond.instanceMethod yX1_findDefinite, Cond.selects RX1 yX1_findDefinite yX1_findDefinite, Cond.code yX1_findDefinite cX1_findDefinite 4 none, Cond.fieldLink RX1 9 "SwitchLevelSimulator$SteadyState" "definite" "[I"]
def wsX2_period_r4 : List Cond := [Cond.fieldLink RX1 60 "SwitchLevelSimulator$Circuit" "inputNodes" "I", Cond.fieldLink RX1 63 "SwitchLevelSimulator$Circuit" "sizedAtLeast" "[I", Cond.fieldLink RX1 53 "SwitchLevelSimulator$Circuit" "storageNodes" "I", Cond.methodLink RX1 66 yX1_strengthPassing, Cond.static yX1_strengthPassing, Cond.code yX1_strengthPassing cX1_strengthPassing 1 (some .int), Cond.methodLink RX1 70 Lib.Math.max.name, Cond.static Lib.Math.max.name, Cond.initialized "java/lang/Math", Cond.code Lib.Math.max.name Lib.Math.max.code 2 (some .int), Cond.methodLink RX1 56 yX1_reach, Cond.static yX1_reach, Cond.code yX1_reach cX1_reach 8 (some .int), Cond.methodLink RX1 98 yJ6_numberOfTrailingZeros_0f7a4, Cond.static yJ6_numberOfTrailingZeros_0f7a4, Cond.initialized RJ6, Cond.code yJ6_numberOfTrailingZeros_0f7a4 cJ6_numberOfTrailingZeros_0f7a4 2 (some .int), Cond.constant RJ6 264 (65536), Cond.methodLink RX1 42 yX1_findSide, Cond.instanceMethod yX1_findSide, Cond.selects RX1 yX1_findSide yX1_findSide, Cond.code yX1_findSide cX1_findSide 7 none, Cond.methodLink RX2 116 yX1_changesOf, Cond.instanceMethod yX1_changesOf]
def wsX2_period_r5 : List Cond := [Cond.selects RX1 yX1_changesOf yX1_changesOf, Cond.code yX1_changesOf cX1_changesOf 2 (some .int), Cond.methodLink RX2 145 yX1_putInto, Cond.instanceMethod yX1_putInto, Cond.selects RX1 yX1_putInto yX1_putInto, Cond.code yX1_putInto cX1_putInto 2 none, Cond.methodLink RX2 119 yX0_hasValuesOf, Cond.instanceMethod yX0_hasValuesOf, Cond.selects RX0 yX0_hasValuesOf yX0_hasValuesOf, Cond.code yX0_hasValuesOf cX0_hasValuesOf 2 (some .boolean)]
def wsX2_period : List Cond := .code yX2_period cX2_period 3 (some .int) :: ((wsX2_period_r1 ++ (wsX2_period_r2 ++ (wsX2_period_r3 ++ (wsX2_period_r4 ++ wsX2_period_r5)))) ++ wsX20 ++ wsX00 ++ wsX10)
def wsX2_setFault : List Cond := .code yX2_setFault cX2_setFault 3 (some .int) :: ([.fieldLink RX2 10 "SwitchLevelSimulator" "circuit" "LSwitchLevelSimulator$Circuit;", .methodLink RX2 76 yX0_hasTransistor, .instanceMethod yX0_hasTransistor, .selects RX0 yX0_hasTransistor yX0_hasTransistor, .initialized RX0, .code yX0_hasTransistor cX0_hasTransistor 2 (some .boolean), .fieldLink RX0 37 "SwitchLevelSimulator$Circuit" "transistorTotal" "I", .methodLink RX2 38 yX2_isWithin, .static yX2_isWithin, .initialized RX2, .code yX2_isWithin cX2_isWithin 3 (some .boolean), .methodLink RX2 123 yX0_replaceFault, .instanceMethod yX0_replaceFault, .selects RX0 yX0_replaceFault yX0_replaceFault, .code yX0_replaceFault cX0_replaceFault 4 (some .int), .fieldLink RX0 30 "SwitchLevelSimulator$Circuit" "faults" "[I"] ++ wsX20 ++ wsX00)
def wsX2_clearFaults : List Cond := .code yX2_clearFaults cX2_clearFaults 1 (some .int) :: ([.fieldLink RX2 10 "SwitchLevelSimulator" "circuit" "LSwitchLevelSimulator$Circuit;", .methodLink RX2 127 yX0_removeFaults, .instanceMethod yX0_removeFaults, .selects RX0 yX0_removeFaults yX0_removeFaults, .initialized RX0, .code yX0_removeFaults cX0_removeFaults 3 (some .int), .fieldLink RX0 37 "SwitchLevelSimulator$Circuit" "transistorTotal" "I", .methodLink RX0 72 yX0_replaceFault, .instanceMethod yX0_replaceFault, .selects RX0 yX0_replaceFault yX0_replaceFault, .code yX0_replaceFault cX0_replaceFault 4 (some .int), .fieldLink RX0 30 "SwitchLevelSimulator$Circuit" "faults" "[I"] ++ wsX20 ++ wsX00)
def wsX2_settledTrialValue_r1 : List Cond := [Cond.fieldLink RX2 16 "SwitchLevelSimulator" "trial" "LSwitchLevelSimulator$Circuit;", Cond.methodLink RX2 112 yX2_settleWithin, Cond.instanceMethod yX2_settleWithin, Cond.selects RX2 yX2_settleWithin yX2_settleWithin, Cond.initialized RX2, Cond.code yX2_settleWithin cX2_settleWithin 4 (some .int), Cond.fieldLink RX2 26 "SwitchLevelSimulator" "steady" "LSwitchLevelSimulator$SteadyState;", Cond.methodLink RX2 82 yX1_find, Cond.instanceMethod yX1_find, Cond.selects RX1 yX1_find yX1_find, Cond.initialized RX1, Cond.code yX1_find cX1_find 2 none, Cond.fieldLink RX1 15 "SwitchLevelSimulator$SteadyState" "up" "[I", Cond.fieldLink RX1 36 "SwitchLevelSimulator$Circuit" "mayBeOne" "I", Cond.fieldLink RX1 18 "SwitchLevelSimulator$SteadyState" "down" "[I", Cond.fieldLink RX1 46 "SwitchLevelSimulator$Circuit" "mayBeZero" "I", Cond.methodLink RX1 29 yX1_findNeighbors, Cond.instanceMethod yX1_findNeighbors, Cond.selects RX1 yX1_findNeighbors yX1_findNeighbors, Cond.code yX1_findNeighbors cX1_findNeighbors 4 none, Cond.fieldLink RX1 76 "SwitchLevelSimulator$Circuit" "nodeTotal" "I", Cond.fieldLink RX1 23 "SwitchLevelSimulator$SteadyState" "byClosed" "[[I", Cond.fieldLink RX1 26 "SwitchLevelSimulator$SteadyState" "byNotOpen" "[[I", Cond.fieldLink RX1 79 "SwitchLevelSimulator$Circuit" "transistorTotal" "I"]
def wsX2_settledTrialValue_r2 : List Cond := [Cond.methodLink RX1 82 yX0_stateOf, Cond.instanceMethod yX0_stateOf, Cond.selects RX0 yX0_stateOf yX0_stateOf, Cond.initialized RX0, Cond.code yX0_stateOf cX0_stateOf 4 (some .int), Cond.fieldLink RX0 30 "SwitchLevelSimulator$Circuit" "faults" "[I", Cond.fieldLink RX0 15 "SwitchLevelSimulator$Circuit" "types" "[I", Cond.fieldLink RX0 21 "SwitchLevelSimulator$Circuit" "gates" "[I", Cond.methodLink RX0 69 yX0_valueOf, Cond.instanceMethod yX0_valueOf, Cond.selects RX0 yX0_valueOf yX0_valueOf, Cond.code yX0_valueOf cX0_valueOf 4 (some .int), Cond.fieldLink RX0 54 "SwitchLevelSimulator$Circuit" "mayBeZero" "I", Cond.fieldLink RX0 57 "SwitchLevelSimulator$Circuit" "mayBeOne" "I", Cond.methodLink RX1 85 yX1_connect, Cond.static yX1_connect, Cond.code yX1_connect cX1_connect 6 none, Cond.fieldLink RX1 89 "SwitchLevelSimulator$Circuit" "ones" "[I", Cond.fieldLink RX1 92 "SwitchLevelSimulator$Circuit" "others" "[I", Cond.fieldLink RX1 95 "SwitchLevelSimulator$Circuit" "strengths" "[I", Cond.methodLink RX1 33 yX1_findDefinite, Cond.instanceMethod yX1_findDefinite, Cond.selects RX1 yX1_findDefinite yX1_findDefinite, Cond.code yX1_findDefinite cX1_findDefinite 4 none]
def wsX2_settledTrialValue_r3 : List Cond := [Cond.fieldLink RX1 9 "SwitchLevelSimulator$SteadyState" "definite" "[I", Cond.fieldLink RX1 60 "SwitchLevelSimulator$Circuit" "inputNodes" "I", Cond.fieldLink RX1 63 "SwitchLevelSimulator$Circuit" "sizedAtLeast" "[I", Cond.fieldLink RX1 53 "SwitchLevelSimulator$Circuit" "storageNodes" "I", Cond.methodLink RX1 66 yX1_strengthPassing, Cond.static yX1_strengthPassing, Cond.code yX1_strengthPassing cX1_strengthPassing 1 (some .int), Cond.methodLink RX1 70 Lib.Math.max.name, Cond.static Lib.Math.max.name, Cond.initialized "java/lang/Math", Cond.code Lib.Math.max.name Lib.Math.max.code 2 (some .int), Cond.methodLink RX1 56 yX1_reach, Cond.static yX1_reach, Cond.code yX1_reach cX1_reach 8 (some .int), Cond.methodLink RX1 98 yJ6_numberOfTrailingZeros_0f7a4, Cond.static yJ6_numberOfTrailingZeros_0f7a4, Cond.initialized RJ6, Cond.code yJ6_numberOfTrailingZeros_0f7a4 cJ6_numberOfTrailingZeros_0f7a4 2 (some .int), Cond.constant RJ6 264 (65536), Cond.methodLink RX1 42 yX1_findSide, Cond.instanceMethod yX1_findSide, Cond.selects RX1 yX1_findSide yX1_findSide, Cond.code yX1_findSide cX1_findSide 7 none, Cond.methodLink RX2 116 yX1_changesOf]
def wsX2_settledTrialValue_r4 : List Cond := [Cond.instanceMethod yX1_changesOf, Cond.selects RX1 yX1_changesOf yX1_changesOf, Cond.code yX1_changesOf cX1_changesOf 2 (some .int), Cond.methodLink RX2 145 yX1_putInto, Cond.instanceMethod yX1_putInto, Cond.selects RX1 yX1_putInto yX1_putInto, Cond.code yX1_putInto cX1_putInto 2 none, Cond.methodLink RX2 67 yX0_valueOf]
def wsX2_settledTrialValue : List Cond := .code yX2_settledTrialValue cX2_settledTrialValue 3 (some .int) :: ((wsX2_settledTrialValue_r1 ++ (wsX2_settledTrialValue_r2 ++ (wsX2_settledTrialValue_r3 ++ wsX2_settledTrialValue_r4))) ++ wsX20 ++ wsX10 ++ wsX00)
def wsX2_areOpposite : List Cond := .code yX2_areOpposite cX2_areOpposite 2 (some .boolean) :: ([])
def wsX2_detects_r1 : List Cond := [Cond.fieldLink RX2 10 "SwitchLevelSimulator" "circuit" "LSwitchLevelSimulator$Circuit;", Cond.fieldLink RX2 16 "SwitchLevelSimulator" "trial" "LSwitchLevelSimulator$Circuit;", Cond.methodLink RX2 76 yX0_hasTransistor, Cond.instanceMethod yX0_hasTransistor, Cond.selects RX0 yX0_hasTransistor yX0_hasTransistor, Cond.initialized RX0, Cond.code yX0_hasTransistor cX0_hasTransistor 2 (some .boolean), Cond.fieldLink RX0 37 "SwitchLevelSimulator$Circuit" "transistorTotal" "I", Cond.methodLink RX2 46 yX0_hasNode, Cond.instanceMethod yX0_hasNode, Cond.selects RX0 yX0_hasNode yX0_hasNode, Cond.code yX0_hasNode cX0_hasNode 2 (some .boolean), Cond.fieldLink RX0 33 "SwitchLevelSimulator$Circuit" "nodeTotal" "I", Cond.methodLink RX2 38 yX2_isWithin, Cond.static yX2_isWithin, Cond.initialized RX2, Cond.code yX2_isWithin cX2_isWithin 3 (some .boolean), Cond.methodLink RX2 109 yX2_isLimit, Cond.static yX2_isLimit, Cond.code yX2_isLimit cX2_isLimit 1 (some .boolean), Cond.methodLink RX2 95 yX0_copyFrom, Cond.instanceMethod yX0_copyFrom, Cond.selects RX0 yX0_copyFrom yX0_copyFrom, Cond.code yX0_copyFrom cX0_copyFrom 2 none]
def wsX2_detects_r2 : List Cond := [Cond.fieldLink RX0 40 "SwitchLevelSimulator$Circuit" "inputNodes" "I", Cond.fieldLink RX0 47 "SwitchLevelSimulator$Circuit" "storageNodes" "I", Cond.fieldLink RX0 9 "SwitchLevelSimulator$Circuit" "sizedAtLeast" "[I", Cond.methodLink RX0 80 arraycopyName, Cond.native arraycopyName, Cond.static arraycopyName, Cond.initialized "java/lang/System", Cond.fieldLink RX0 54 "SwitchLevelSimulator$Circuit" "mayBeZero" "I", Cond.fieldLink RX0 57 "SwitchLevelSimulator$Circuit" "mayBeOne" "I", Cond.fieldLink RX0 15 "SwitchLevelSimulator$Circuit" "types" "[I", Cond.fieldLink RX0 18 "SwitchLevelSimulator$Circuit" "strengths" "[I", Cond.fieldLink RX0 21 "SwitchLevelSimulator$Circuit" "gates" "[I", Cond.fieldLink RX0 24 "SwitchLevelSimulator$Circuit" "ones" "[I", Cond.fieldLink RX0 27 "SwitchLevelSimulator$Circuit" "others" "[I", Cond.fieldLink RX0 30 "SwitchLevelSimulator$Circuit" "faults" "[I", Cond.methodLink RX2 130 yX2_settledTrialValue, Cond.instanceMethod yX2_settledTrialValue, Cond.selects RX2 yX2_settledTrialValue yX2_settledTrialValue, Cond.code yX2_settledTrialValue cX2_settledTrialValue 3 (some .int), Cond.methodLink RX2 112 yX2_settleWithin, Cond.instanceMethod yX2_settleWithin, Cond.selects RX2 yX2_settleWithin yX2_settleWithin, Cond.code yX2_settleWithin cX2_settleWithin 4 (some .int), Cond.fieldLink RX2 26 "SwitchLevelSimulator" "steady" "LSwitchLevelSimulator$SteadyState;"]
def wsX2_detects_r3 : List Cond := [Cond.methodLink RX2 82 yX1_find, Cond.instanceMethod yX1_find, Cond.selects RX1 yX1_find yX1_find, Cond.initialized RX1, Cond.code yX1_find cX1_find 2 none, Cond.fieldLink RX1 15 "SwitchLevelSimulator$SteadyState" "up" "[I", Cond.fieldLink RX1 36 "SwitchLevelSimulator$Circuit" "mayBeOne" "I", Cond.fieldLink RX1 18 "SwitchLevelSimulator$SteadyState" "down" "[I", Cond.fieldLink RX1 46 "SwitchLevelSimulator$Circuit" "mayBeZero" "I", Cond.methodLink RX1 29 yX1_findNeighbors, Cond.instanceMethod yX1_findNeighbors, Cond.selects RX1 yX1_findNeighbors yX1_findNeighbors, Cond.code yX1_findNeighbors cX1_findNeighbors 4 none, Cond.fieldLink RX1 76 "SwitchLevelSimulator$Circuit" "nodeTotal" "I", Cond.fieldLink RX1 23 "SwitchLevelSimulator$SteadyState" "byClosed" "[[I", Cond.fieldLink RX1 26 "SwitchLevelSimulator$SteadyState" "byNotOpen" "[[I", Cond.fieldLink RX1 79 "SwitchLevelSimulator$Circuit" "transistorTotal" "I", Cond.methodLink RX1 82 yX0_stateOf, Cond.instanceMethod yX0_stateOf, Cond.selects RX0 yX0_stateOf yX0_stateOf, Cond.code yX0_stateOf cX0_stateOf 4 (some .int), Cond.methodLink RX0 69 yX0_valueOf, Cond.instanceMethod yX0_valueOf, Cond.selects RX0 yX0_valueOf yX0_valueOf]
def wsX2_detects_r4 : List Cond := [Cond.code yX0_valueOf cX0_valueOf 4 (some .int), Cond.methodLink RX1 85 yX1_connect, Cond.static yX1_connect, Cond.code yX1_connect cX1_connect 6 none, Cond.fieldLink RX1 89 "SwitchLevelSimulator$Circuit" "ones" "[I", Cond.fieldLink RX1 92 "SwitchLevelSimulator$Circuit" "others" "[I", Cond.fieldLink RX1 95 "SwitchLevelSimulator$Circuit" "strengths" "[I", Cond.methodLink RX1 33 yX1_findDefinite, Cond.instanceMethod yX1_findDefinite, Cond.selects RX1 yX1_findDefinite yX1_findDefinite, Cond.code yX1_findDefinite cX1_findDefinite 4 none, Cond.fieldLink RX1 9 "SwitchLevelSimulator$SteadyState" "definite" "[I", Cond.fieldLink RX1 60 "SwitchLevelSimulator$Circuit" "inputNodes" "I", Cond.fieldLink RX1 63 "SwitchLevelSimulator$Circuit" "sizedAtLeast" "[I", Cond.fieldLink RX1 53 "SwitchLevelSimulator$Circuit" "storageNodes" "I", Cond.methodLink RX1 66 yX1_strengthPassing, Cond.static yX1_strengthPassing, Cond.code yX1_strengthPassing cX1_strengthPassing 1 (some .int), Cond.methodLink RX1 70 Lib.Math.max.name, Cond.static Lib.Math.max.name, Cond.initialized "java/lang/Math", Cond.code Lib.Math.max.name Lib.Math.max.code 2 (some .int), Cond.methodLink RX1 56 yX1_reach, Cond.static yX1_reach]
def wsX2_detects_r5 : List Cond := [Cond.code yX1_reach cX1_reach 8 (some .int), Cond.methodLink RX1 98 yJ6_numberOfTrailingZeros_0f7a4, Cond.static yJ6_numberOfTrailingZeros_0f7a4, Cond.initialized RJ6, Cond.code yJ6_numberOfTrailingZeros_0f7a4 cJ6_numberOfTrailingZeros_0f7a4 2 (some .int), Cond.constant RJ6 264 (65536), Cond.methodLink RX1 42 yX1_findSide, Cond.instanceMethod yX1_findSide, Cond.selects RX1 yX1_findSide yX1_findSide, Cond.code yX1_findSide cX1_findSide 7 none, Cond.methodLink RX2 116 yX1_changesOf, Cond.instanceMethod yX1_changesOf, Cond.selects RX1 yX1_changesOf yX1_changesOf, Cond.code yX1_changesOf cX1_changesOf 2 (some .int), Cond.methodLink RX2 145 yX1_putInto, Cond.instanceMethod yX1_putInto, Cond.selects RX1 yX1_putInto yX1_putInto, Cond.code yX1_putInto cX1_putInto 2 none, Cond.methodLink RX2 67 yX0_valueOf, Cond.methodLink RX2 133 yX0_copyWithFault, Cond.instanceMethod yX0_copyWithFault, Cond.selects RX0 yX0_copyWithFault yX0_copyWithFault, Cond.code yX0_copyWithFault cX0_copyWithFault 4 none, Cond.methodLink RX0 76 yX0_copyFrom]
def wsX2_detects_r6 : List Cond := [Cond.methodLink RX2 137 yX2_areOpposite, Cond.static yX2_areOpposite, Cond.code yX2_areOpposite cX2_areOpposite 2 (some .boolean)]
def wsX2_detects : List Cond := .code yX2_detects cX2_detects 7 (some .int) :: ((wsX2_detects_r1 ++ (wsX2_detects_r2 ++ (wsX2_detects_r3 ++ (wsX2_detects_r4 ++ (wsX2_detects_r5 ++ wsX2_detects_r6))))) ++ wsX20 ++ wsX00 ++ wsX10)
def wsX2_detectedFaults_r1 : List Cond := [Cond.fieldLink RX2 10 "SwitchLevelSimulator" "circuit" "LSwitchLevelSimulator$Circuit;", Cond.fieldLink RX2 16 "SwitchLevelSimulator" "trial" "LSwitchLevelSimulator$Circuit;", Cond.fieldLink RX2 50 "SwitchLevelSimulator$Circuit" "transistorTotal" "I", Cond.methodLink RX2 46 yX0_hasNode, Cond.instanceMethod yX0_hasNode, Cond.selects RX0 yX0_hasNode yX0_hasNode, Cond.initialized RX0, Cond.code yX0_hasNode cX0_hasNode 2 (some .boolean), Cond.fieldLink RX0 33 "SwitchLevelSimulator$Circuit" "nodeTotal" "I", Cond.methodLink RX2 109 yX2_isLimit, Cond.static yX2_isLimit, Cond.initialized RX2, Cond.code yX2_isLimit cX2_isLimit 1 (some .boolean), Cond.methodLink RX2 38 yX2_isWithin, Cond.static yX2_isWithin, Cond.code yX2_isWithin cX2_isWithin 3 (some .boolean), Cond.methodLink RX2 95 yX0_copyFrom, Cond.instanceMethod yX0_copyFrom, Cond.selects RX0 yX0_copyFrom yX0_copyFrom, Cond.code yX0_copyFrom cX0_copyFrom 2 none, Cond.fieldLink RX0 40 "SwitchLevelSimulator$Circuit" "inputNodes" "I", Cond.fieldLink RX0 47 "SwitchLevelSimulator$Circuit" "storageNodes" "I", Cond.fieldLink RX0 9 "SwitchLevelSimulator$Circuit" "sizedAtLeast" "[I", Cond.methodLink RX0 80 arraycopyName]
def wsX2_detectedFaults_r2 : List Cond := [Cond.native arraycopyName, Cond.static arraycopyName, Cond.initialized "java/lang/System", Cond.fieldLink RX0 54 "SwitchLevelSimulator$Circuit" "mayBeZero" "I", Cond.fieldLink RX0 57 "SwitchLevelSimulator$Circuit" "mayBeOne" "I", Cond.fieldLink RX0 37 "SwitchLevelSimulator$Circuit" "transistorTotal" "I", Cond.fieldLink RX0 15 "SwitchLevelSimulator$Circuit" "types" "[I", Cond.fieldLink RX0 18 "SwitchLevelSimulator$Circuit" "strengths" "[I", Cond.fieldLink RX0 21 "SwitchLevelSimulator$Circuit" "gates" "[I", Cond.fieldLink RX0 24 "SwitchLevelSimulator$Circuit" "ones" "[I", Cond.fieldLink RX0 27 "SwitchLevelSimulator$Circuit" "others" "[I", Cond.fieldLink RX0 30 "SwitchLevelSimulator$Circuit" "faults" "[I", Cond.methodLink RX2 130 yX2_settledTrialValue, Cond.instanceMethod yX2_settledTrialValue, Cond.selects RX2 yX2_settledTrialValue yX2_settledTrialValue, Cond.code yX2_settledTrialValue cX2_settledTrialValue 3 (some .int), Cond.methodLink RX2 112 yX2_settleWithin, Cond.instanceMethod yX2_settleWithin, Cond.selects RX2 yX2_settleWithin yX2_settleWithin, Cond.code yX2_settleWithin cX2_settleWithin 4 (some .int), Cond.fieldLink RX2 26 "SwitchLevelSimulator" "steady" "LSwitchLevelSimulator$SteadyState;", Cond.methodLink RX2 82 yX1_find, Cond.instanceMethod yX1_find, Cond.selects RX1 yX1_find yX1_find]
def wsX2_detectedFaults_r3 : List Cond := [Cond.initialized RX1, Cond.code yX1_find cX1_find 2 none, Cond.fieldLink RX1 15 "SwitchLevelSimulator$SteadyState" "up" "[I", Cond.fieldLink RX1 36 "SwitchLevelSimulator$Circuit" "mayBeOne" "I", Cond.fieldLink RX1 18 "SwitchLevelSimulator$SteadyState" "down" "[I", Cond.fieldLink RX1 46 "SwitchLevelSimulator$Circuit" "mayBeZero" "I", Cond.methodLink RX1 29 yX1_findNeighbors, Cond.instanceMethod yX1_findNeighbors, Cond.selects RX1 yX1_findNeighbors yX1_findNeighbors, Cond.code yX1_findNeighbors cX1_findNeighbors 4 none, Cond.fieldLink RX1 76 "SwitchLevelSimulator$Circuit" "nodeTotal" "I", Cond.fieldLink RX1 23 "SwitchLevelSimulator$SteadyState" "byClosed" "[[I", Cond.fieldLink RX1 26 "SwitchLevelSimulator$SteadyState" "byNotOpen" "[[I", Cond.fieldLink RX1 79 "SwitchLevelSimulator$Circuit" "transistorTotal" "I", Cond.methodLink RX1 82 yX0_stateOf, Cond.instanceMethod yX0_stateOf, Cond.selects RX0 yX0_stateOf yX0_stateOf, Cond.code yX0_stateOf cX0_stateOf 4 (some .int), Cond.methodLink RX0 69 yX0_valueOf, Cond.instanceMethod yX0_valueOf, Cond.selects RX0 yX0_valueOf yX0_valueOf, Cond.code yX0_valueOf cX0_valueOf 4 (some .int), Cond.methodLink RX1 85 yX1_connect, Cond.static yX1_connect]
def wsX2_detectedFaults_r4 : List Cond := [Cond.code yX1_connect cX1_connect 6 none, Cond.fieldLink RX1 89 "SwitchLevelSimulator$Circuit" "ones" "[I", Cond.fieldLink RX1 92 "SwitchLevelSimulator$Circuit" "others" "[I", Cond.fieldLink RX1 95 "SwitchLevelSimulator$Circuit" "strengths" "[I", Cond.methodLink RX1 33 yX1_findDefinite, Cond.instanceMethod yX1_findDefinite, Cond.selects RX1 yX1_findDefinite yX1_findDefinite, Cond.code yX1_findDefinite cX1_findDefinite 4 none, Cond.fieldLink RX1 9 "SwitchLevelSimulator$SteadyState" "definite" "[I", Cond.fieldLink RX1 60 "SwitchLevelSimulator$Circuit" "inputNodes" "I", Cond.fieldLink RX1 63 "SwitchLevelSimulator$Circuit" "sizedAtLeast" "[I", Cond.fieldLink RX1 53 "SwitchLevelSimulator$Circuit" "storageNodes" "I", Cond.methodLink RX1 66 yX1_strengthPassing, Cond.static yX1_strengthPassing, Cond.code yX1_strengthPassing cX1_strengthPassing 1 (some .int), Cond.methodLink RX1 70 Lib.Math.max.name, Cond.static Lib.Math.max.name, Cond.initialized "java/lang/Math", Cond.code Lib.Math.max.name Lib.Math.max.code 2 (some .int), Cond.methodLink RX1 56 yX1_reach, Cond.static yX1_reach, Cond.code yX1_reach cX1_reach 8 (some .int), Cond.methodLink RX1 98 yJ6_numberOfTrailingZeros_0f7a4, Cond.static yJ6_numberOfTrailingZeros_0f7a4]
def wsX2_detectedFaults_r5 : List Cond := [Cond.initialized RJ6, Cond.code yJ6_numberOfTrailingZeros_0f7a4 cJ6_numberOfTrailingZeros_0f7a4 2 (some .int), Cond.constant RJ6 264 (65536), Cond.methodLink RX1 42 yX1_findSide, Cond.instanceMethod yX1_findSide, Cond.selects RX1 yX1_findSide yX1_findSide, Cond.code yX1_findSide cX1_findSide 7 none, Cond.methodLink RX2 116 yX1_changesOf, Cond.instanceMethod yX1_changesOf, Cond.selects RX1 yX1_changesOf yX1_changesOf, Cond.code yX1_changesOf cX1_changesOf 2 (some .int), Cond.methodLink RX2 145 yX1_putInto, Cond.instanceMethod yX1_putInto, Cond.selects RX1 yX1_putInto yX1_putInto, Cond.code yX1_putInto cX1_putInto 2 none, Cond.methodLink RX2 67 yX0_valueOf, Cond.methodLink RX2 133 yX0_copyWithFault, Cond.instanceMethod yX0_copyWithFault, Cond.selects RX0 yX0_copyWithFault yX0_copyWithFault, Cond.code yX0_copyWithFault cX0_copyWithFault 4 none, Cond.methodLink RX0 76 yX0_copyFrom, Cond.methodLink RX2 137 yX2_areOpposite, Cond.static yX2_areOpposite, Cond.code yX2_areOpposite cX2_areOpposite 2 (some .boolean)]
def wsX2_detectedFaults : List Cond := .code yX2_detectedFaults cX2_detectedFaults 7 (some .int) :: ((wsX2_detectedFaults_r1 ++ (wsX2_detectedFaults_r2 ++ (wsX2_detectedFaults_r3 ++ (wsX2_detectedFaults_r4 ++ wsX2_detectedFaults_r5)))) ++ wsX20 ++ wsX00 ++ wsX10)
def wsX2_save_r1 : List Cond := [Cond.fieldLink RX2 19 "SwitchLevelSimulator" "slots" "[LSwitchLevelSimulator$Circuit;", Cond.classLink RX2 7 RX0, Cond.instantiable RX0 13, Cond.initialized RX0, Cond.fieldLink RX2 10 "SwitchLevelSimulator" "circuit" "LSwitchLevelSimulator$Circuit;", Cond.fieldLink RX2 30 "SwitchLevelSimulator$Circuit" "nodeTotal" "I", Cond.methodLink RX2 38 yX2_isWithin, Cond.static yX2_isWithin, Cond.initialized RX2, Cond.code yX2_isWithin cX2_isWithin 3 (some .boolean), Cond.instanceMethod yX0_init, Cond.code yX0_init cX0_init 1 none, Cond.methodLink RX0 3 objectInit, Cond.instanceMethod objectInit, Cond.code objectInit ⟨#[0xb1]⟩ 1 none, Cond.arrayClass .int, Cond.fieldLink RX0 9 "SwitchLevelSimulator$Circuit" "sizedAtLeast" "[I", Cond.fieldLink RX0 15 "SwitchLevelSimulator$Circuit" "types" "[I", Cond.fieldLink RX0 18 "SwitchLevelSimulator$Circuit" "strengths" "[I", Cond.fieldLink RX0 21 "SwitchLevelSimulator$Circuit" "gates" "[I", Cond.fieldLink RX0 24 "SwitchLevelSimulator$Circuit" "ones" "[I", Cond.fieldLink RX0 27 "SwitchLevelSimulator$Circuit" "others" "[I", Cond.fieldLink RX0 30 "SwitchLevelSimulator$Circuit" "faults" "[I", Cond.methodLink RX2 95 yX0_copyFrom]
def wsX2_save_r2 : List Cond := [Cond.instanceMethod yX0_copyFrom, Cond.selects RX0 yX0_copyFrom yX0_copyFrom, Cond.code yX0_copyFrom cX0_copyFrom 2 none, Cond.fieldLink RX0 33 "SwitchLevelSimulator$Circuit" "nodeTotal" "I", Cond.fieldLink RX0 40 "SwitchLevelSimulator$Circuit" "inputNodes" "I", Cond.fieldLink RX0 47 "SwitchLevelSimulator$Circuit" "storageNodes" "I", Cond.methodLink RX0 80 arraycopyName, Cond.native arraycopyName, Cond.static arraycopyName, Cond.initialized "java/lang/System", Cond.fieldLink RX0 54 "SwitchLevelSimulator$Circuit" "mayBeZero" "I", Cond.fieldLink RX0 57 "SwitchLevelSimulator$Circuit" "mayBeOne" "I", Cond.fieldLink RX0 37 "SwitchLevelSimulator$Circuit" "transistorTotal" "I"]
def wsX2_save : List Cond := .code yX2_save cX2_save 3 (some .int) :: ((wsX2_save_r1 ++ wsX2_save_r2) ++ wsX20 ++ wsX00)
def wsX2_restore_r1 : List Cond := [Cond.fieldLink RX2 19 "SwitchLevelSimulator" "slots" "[LSwitchLevelSimulator$Circuit;", Cond.fieldLink RX2 10 "SwitchLevelSimulator" "circuit" "LSwitchLevelSimulator$Circuit;", Cond.fieldLink RX2 30 "SwitchLevelSimulator$Circuit" "nodeTotal" "I", Cond.methodLink RX2 38 yX2_isWithin, Cond.static yX2_isWithin, Cond.initialized RX2, Cond.code yX2_isWithin cX2_isWithin 3 (some .boolean), Cond.methodLink RX2 95 yX0_copyFrom, Cond.instanceMethod yX0_copyFrom, Cond.selects RX0 yX0_copyFrom yX0_copyFrom, Cond.initialized RX0, Cond.code yX0_copyFrom cX0_copyFrom 2 none, Cond.fieldLink RX0 33 "SwitchLevelSimulator$Circuit" "nodeTotal" "I", Cond.fieldLink RX0 40 "SwitchLevelSimulator$Circuit" "inputNodes" "I", Cond.fieldLink RX0 47 "SwitchLevelSimulator$Circuit" "storageNodes" "I", Cond.fieldLink RX0 9 "SwitchLevelSimulator$Circuit" "sizedAtLeast" "[I", Cond.methodLink RX0 80 arraycopyName, Cond.native arraycopyName, Cond.static arraycopyName, Cond.initialized "java/lang/System", Cond.fieldLink RX0 54 "SwitchLevelSimulator$Circuit" "mayBeZero" "I", Cond.fieldLink RX0 57 "SwitchLevelSimulator$Circuit" "mayBeOne" "I", Cond.fieldLink RX0 37 "SwitchLevelSimulator$Circuit" "transistorTotal" "I", Cond.fieldLink RX0 15 "SwitchLevelSimulator$Circuit" "types" "[I"]
def wsX2_restore_r2 : List Cond := [Cond.fieldLink RX0 18 "SwitchLevelSimulator$Circuit" "strengths" "[I", Cond.fieldLink RX0 21 "SwitchLevelSimulator$Circuit" "gates" "[I", Cond.fieldLink RX0 24 "SwitchLevelSimulator$Circuit" "ones" "[I", Cond.fieldLink RX0 27 "SwitchLevelSimulator$Circuit" "others" "[I", Cond.fieldLink RX0 30 "SwitchLevelSimulator$Circuit" "faults" "[I"]
def wsX2_restore : List Cond := .code yX2_restore cX2_restore 3 (some .int) :: ((wsX2_restore_r1 ++ wsX2_restore_r2) ++ wsX20 ++ wsX00)
def wsX3_init : List Cond := .code yX3_init cX3_init 1 none :: ([.methodLink RX3 1 objectInit, .instanceMethod objectInit, .code objectInit ⟨#[0xb1]⟩ 1 none, .arrayClass .int, .fieldLink RX3 7 "SwitchLevelSimulatorModel" "state" "[I", .fieldLink RX3 13 "SwitchLevelSimulatorModel" "slots" "[I", .arrayClass .boolean, .fieldLink RX3 16 "SwitchLevelSimulatorModel" "isSaved" "[Z", .fieldLink RX3 20 "SwitchLevelSimulatorModel" "definite" "[I", .fieldLink RX3 23 "SwitchLevelSimulatorModel" "up" "[I", .fieldLink RX3 26 "SwitchLevelSimulatorModel" "down" "[I", .fieldLink RX3 29 "SwitchLevelSimulatorModel" "states" "[I", .fieldLink RX3 32 "SwitchLevelSimulatorModel" "before" "[I"] ++ wsX30)
def wsX3_in : List Cond := .code yX3_in cX3_in 3 (some .boolean) :: ([])
def wsX3_nodes : List Cond := .code yX3_nodes cX3_nodes 1 (some .int) :: ([.fieldLink RX3 7 "SwitchLevelSimulatorModel" "state" "[I"] ++ wsX30)
def wsX3_many : List Cond := .code yX3_many cX3_many 1 (some .int) :: ([.fieldLink RX3 7 "SwitchLevelSimulatorModel" "state" "[I"] ++ wsX30)
def wsX3_isNode : List Cond := .code yX3_isNode cX3_isNode 2 (some .boolean) :: ([.methodLink RX3 35 yX3_nodes, .instanceMethod yX3_nodes, .selects RX3 yX3_nodes yX3_nodes, .initialized RX3, .code yX3_nodes cX3_nodes 1 (some .int), .fieldLink RX3 7 "SwitchLevelSimulatorModel" "state" "[I", .methodLink RX3 39 yX3_in, .static yX3_in, .code yX3_in cX3_in 3 (some .boolean)] ++ wsX30)
def wsX3_isTransistor : List Cond := .code yX3_isTransistor cX3_isTransistor 2 (some .boolean) :: ([.methodLink RX3 43 yX3_many, .instanceMethod yX3_many, .selects RX3 yX3_many yX3_many, .initialized RX3, .code yX3_many cX3_many 1 (some .int), .fieldLink RX3 7 "SwitchLevelSimulatorModel" "state" "[I", .methodLink RX3 39 yX3_in, .static yX3_in, .code yX3_in cX3_in 3 (some .boolean)] ++ wsX30)
def wsX3_isInput : List Cond := .code yX3_isInput cX3_isInput 2 (some .boolean) :: ([.fieldLink RX3 7 "SwitchLevelSimulatorModel" "state" "[I"] ++ wsX30)
def wsX3_set : List Cond := .code yX3_set cX3_set 4 (some .int) :: ([.fieldLink RX3 7 "SwitchLevelSimulatorModel" "state" "[I"] ++ wsX30)
def wsX3_addNode : List Cond := .code yX3_addNode cX3_addNode 3 (some .int) :: ([.fieldLink RX3 7 "SwitchLevelSimulatorModel" "state" "[I", .methodLink RX3 35 yX3_nodes, .instanceMethod yX3_nodes, .selects RX3 yX3_nodes yX3_nodes, .initialized RX3, .code yX3_nodes cX3_nodes 1 (some .int)] ++ wsX30)
def wsX3_addInput : List Cond := .code yX3_addInput cX3_addInput 1 (some .int) :: ([.methodLink RX3 35 yX3_nodes, .instanceMethod yX3_nodes, .selects RX3 yX3_nodes yX3_nodes, .initialized RX3, .code yX3_nodes cX3_nodes 1 (some .int), .fieldLink RX3 7 "SwitchLevelSimulatorModel" "state" "[I", .methodLink RX3 46 yX3_addNode, .instanceMethod yX3_addNode, .selects RX3 yX3_addNode yX3_addNode, .code yX3_addNode cX3_addNode 3 (some .int)] ++ wsX30)
def wsX3_addStorage : List Cond := .code yX3_addStorage cX3_addStorage 2 (some .int) :: ([.methodLink RX3 39 yX3_in, .static yX3_in, .initialized RX3, .code yX3_in cX3_in 3 (some .boolean), .methodLink RX3 35 yX3_nodes, .instanceMethod yX3_nodes, .selects RX3 yX3_nodes yX3_nodes, .code yX3_nodes cX3_nodes 1 (some .int), .fieldLink RX3 7 "SwitchLevelSimulatorModel" "state" "[I", .methodLink RX3 46 yX3_addNode, .instanceMethod yX3_addNode, .selects RX3 yX3_addNode yX3_addNode, .code yX3_addNode cX3_addNode 3 (some .int)] ++ wsX30)
def wsX3_addTransistor : List Cond := .code yX3_addTransistor cX3_addTransistor 7 (some .int) :: ([.fieldLink RX3 7 "SwitchLevelSimulatorModel" "state" "[I", .methodLink RX3 50 yX3_isNode, .instanceMethod yX3_isNode, .selects RX3 yX3_isNode yX3_isNode, .initialized RX3, .code yX3_isNode cX3_isNode 2 (some .boolean), .methodLink RX3 35 yX3_nodes, .instanceMethod yX3_nodes, .selects RX3 yX3_nodes yX3_nodes, .code yX3_nodes cX3_nodes 1 (some .int), .methodLink RX3 39 yX3_in, .static yX3_in, .code yX3_in cX3_in 3 (some .boolean), .methodLink RX3 43 yX3_many, .instanceMethod yX3_many, .selects RX3 yX3_many yX3_many, .code yX3_many cX3_many 1 (some .int)] ++ wsX30)
def wsX3_nodeCount : List Cond := .code yX3_nodeCount cX3_nodeCount 1 (some .int) :: ([.methodLink RX3 35 yX3_nodes, .instanceMethod yX3_nodes, .selects RX3 yX3_nodes yX3_nodes, .initialized RX3, .code yX3_nodes cX3_nodes 1 (some .int), .fieldLink RX3 7 "SwitchLevelSimulatorModel" "state" "[I"] ++ wsX30)
def wsX3_transistorCount : List Cond := .code yX3_transistorCount cX3_transistorCount 1 (some .int) :: ([.methodLink RX3 43 yX3_many, .instanceMethod yX3_many, .selects RX3 yX3_many yX3_many, .initialized RX3, .code yX3_many cX3_many 1 (some .int), .fieldLink RX3 7 "SwitchLevelSimulatorModel" "state" "[I"] ++ wsX30)
def wsX3_inputs : List Cond := .code yX3_inputs cX3_inputs 3 (some .int) :: ([.methodLink RX3 35 yX3_nodes, .instanceMethod yX3_nodes, .selects RX3 yX3_nodes yX3_nodes, .initialized RX3, .code yX3_nodes cX3_nodes 1 (some .int), .fieldLink RX3 7 "SwitchLevelSimulatorModel" "state" "[I", .methodLink RX3 54 yX3_isInput, .instanceMethod yX3_isInput, .selects RX3 yX3_isInput yX3_isInput, .code yX3_isInput cX3_isInput 2 (some .boolean)] ++ wsX30)
def wsX3_setInput : List Cond := .code yX3_setInput cX3_setInput 3 (some .int) :: ([.methodLink RX3 50 yX3_isNode, .instanceMethod yX3_isNode, .selects RX3 yX3_isNode yX3_isNode, .initialized RX3, .code yX3_isNode cX3_isNode 2 (some .boolean), .methodLink RX3 35 yX3_nodes, .instanceMethod yX3_nodes, .selects RX3 yX3_nodes yX3_nodes, .code yX3_nodes cX3_nodes 1 (some .int), .fieldLink RX3 7 "SwitchLevelSimulatorModel" "state" "[I", .methodLink RX3 39 yX3_in, .static yX3_in, .code yX3_in cX3_in 3 (some .boolean), .methodLink RX3 54 yX3_isInput, .instanceMethod yX3_isInput, .selects RX3 yX3_isInput yX3_isInput, .code yX3_isInput cX3_isInput 2 (some .boolean), .methodLink RX3 57 yX3_set, .instanceMethod yX3_set, .selects RX3 yX3_set yX3_set, .code yX3_set cX3_set 4 (some .int)] ++ wsX30)
def wsX3_setCharge : List Cond := .code yX3_setCharge cX3_setCharge 3 (some .int) :: ([.methodLink RX3 50 yX3_isNode, .instanceMethod yX3_isNode, .selects RX3 yX3_isNode yX3_isNode, .initialized RX3, .code yX3_isNode cX3_isNode 2 (some .boolean), .methodLink RX3 35 yX3_nodes, .instanceMethod yX3_nodes, .selects RX3 yX3_nodes yX3_nodes, .code yX3_nodes cX3_nodes 1 (some .int), .fieldLink RX3 7 "SwitchLevelSimulatorModel" "state" "[I", .methodLink RX3 39 yX3_in, .static yX3_in, .code yX3_in cX3_in 3 (some .boolean), .methodLink RX3 54 yX3_isInput, .instanceMethod yX3_isInput, .selects RX3 yX3_isInput yX3_isInput, .code yX3_isInput cX3_isInput 2 (some .boolean), .methodLink RX3 57 yX3_set, .instanceMethod yX3_set, .selects RX3 yX3_set yX3_set, .code yX3_set cX3_set 4 (some .int)] ++ wsX30)
def wsX3_forget : List Cond := .code yX3_forget cX3_forget 3 (some .int) :: ([.fieldLink RX3 7 "SwitchLevelSimulatorModel" "state" "[I", .methodLink RX3 35 yX3_nodes, .instanceMethod yX3_nodes, .selects RX3 yX3_nodes yX3_nodes, .initialized RX3, .code yX3_nodes cX3_nodes 1 (some .int), .methodLink RX3 54 yX3_isInput, .instanceMethod yX3_isInput, .selects RX3 yX3_isInput yX3_isInput, .code yX3_isInput cX3_isInput 2 (some .boolean)] ++ wsX30)
def wsX3_value : List Cond := .code yX3_value cX3_value 2 (some .int) :: ([.fieldLink RX3 7 "SwitchLevelSimulatorModel" "state" "[I", .methodLink RX3 50 yX3_isNode, .instanceMethod yX3_isNode, .selects RX3 yX3_isNode yX3_isNode, .initialized RX3, .code yX3_isNode cX3_isNode 2 (some .boolean), .methodLink RX3 35 yX3_nodes, .instanceMethod yX3_nodes, .selects RX3 yX3_nodes yX3_nodes, .code yX3_nodes cX3_nodes 1 (some .int), .methodLink RX3 39 yX3_in, .static yX3_in, .code yX3_in cX3_in 3 (some .boolean)] ++ wsX30)
def wsX3_nodesWith : List Cond := .code yX3_nodesWith cX3_nodesWith 4 (some .int) :: ([.fieldLink RX3 7 "SwitchLevelSimulatorModel" "state" "[I", .methodLink RX3 39 yX3_in, .static yX3_in, .initialized RX3, .code yX3_in cX3_in 3 (some .boolean), .methodLink RX3 35 yX3_nodes, .instanceMethod yX3_nodes, .selects RX3 yX3_nodes yX3_nodes, .code yX3_nodes cX3_nodes 1 (some .int)] ++ wsX30)
def wsX3_stateOf : List Cond := .code yX3_stateOf cX3_stateOf 4 (some .int) :: ([.fieldLink RX3 7 "SwitchLevelSimulatorModel" "state" "[I"] ++ wsX30)
def wsX3_switchState : List Cond := .code yX3_switchState cX3_switchState 2 (some .int) :: ([.methodLink RX3 61 yX3_isTransistor, .instanceMethod yX3_isTransistor, .selects RX3 yX3_isTransistor yX3_isTransistor, .initialized RX3, .code yX3_isTransistor cX3_isTransistor 2 (some .boolean), .methodLink RX3 43 yX3_many, .instanceMethod yX3_many, .selects RX3 yX3_many yX3_many, .code yX3_many cX3_many 1 (some .int), .fieldLink RX3 7 "SwitchLevelSimulatorModel" "state" "[I", .methodLink RX3 39 yX3_in, .static yX3_in, .code yX3_in cX3_in 3 (some .boolean), .methodLink RX3 64 yX3_stateOf, .instanceMethod yX3_stateOf, .selects RX3 yX3_stateOf yX3_stateOf, .code yX3_stateOf cX3_stateOf 4 (some .int)] ++ wsX30)
def wsX3_lesser : List Cond := .code yX3_lesser cX3_lesser 2 (some .int) :: ([])
def wsX3_signal : List Cond := .code yX3_signal cX3_signal 2 (some .int) :: ([.fieldLink RX3 7 "SwitchLevelSimulatorModel" "state" "[I"] ++ wsX30)
def wsX3_growDefinite : List Cond := .code yX3_growDefinite cX3_growDefinite 6 (some .boolean) :: ([.fieldLink RX3 20 "SwitchLevelSimulatorModel" "definite" "[I", .methodLink RX3 67 yX3_signal, .instanceMethod yX3_signal, .selects RX3 yX3_signal yX3_signal, .initialized RX3, .code yX3_signal cX3_signal 2 (some .int), .fieldLink RX3 7 "SwitchLevelSimulatorModel" "state" "[I", .methodLink RX3 70 yX3_lesser, .static yX3_lesser, .code yX3_lesser cX3_lesser 2 (some .int), .methodLink RX3 54 yX3_isInput, .instanceMethod yX3_isInput, .selects RX3 yX3_isInput yX3_isInput, .code yX3_isInput cX3_isInput 2 (some .boolean)] ++ wsX30)
def wsX3_layDefinite_r1 : List Cond := [Cond.fieldLink RX3 20 "SwitchLevelSimulatorModel" "definite" "[I", Cond.fieldLink RX3 7 "SwitchLevelSimulatorModel" "state" "[I", Cond.fieldLink RX3 29 "SwitchLevelSimulatorModel" "states" "[I", Cond.methodLink RX3 35 yX3_nodes, Cond.instanceMethod yX3_nodes, Cond.selects RX3 yX3_nodes yX3_nodes, Cond.initialized RX3, Cond.code yX3_nodes cX3_nodes 1 (some .int), Cond.methodLink RX3 54 yX3_isInput, Cond.instanceMethod yX3_isInput, Cond.selects RX3 yX3_isInput yX3_isInput, Cond.code yX3_isInput cX3_isInput 2 (some .boolean), Cond.methodLink RX3 43 yX3_many, Cond.instanceMethod yX3_many, Cond.selects RX3 yX3_many yX3_many, Cond.code yX3_many cX3_many 1 (some .int), Cond.methodLink RX3 73 yX3_growDefinite, Cond.instanceMethod yX3_growDefinite, Cond.selects RX3 yX3_growDefinite yX3_growDefinite, Cond.code yX3_growDefinite cX3_growDefinite 6 (some .boolean), Cond.methodLink RX3 67 yX3_signal, Cond.instanceMethod yX3_signal, Cond.selects RX3 yX3_signal yX3_signal, Cond.code yX3_signal cX3_signal 2 (some .int)]
def wsX3_layDefinite_r2 : List Cond := [Cond.methodLink RX3 70 yX3_lesser, Cond.static yX3_lesser, Cond.code yX3_lesser cX3_lesser 2 (some .int)]
def wsX3_layDefinite : List Cond := .code yX3_layDefinite cX3_layDefinite 3 none :: ((wsX3_layDefinite_r1 ++ wsX3_layDefinite_r2) ++ wsX30)
def wsX3_grow : List Cond := .code yX3_grow cX3_grow 7 (some .boolean) :: ([.fieldLink RX3 20 "SwitchLevelSimulatorModel" "definite" "[I", .methodLink RX3 67 yX3_signal, .instanceMethod yX3_signal, .selects RX3 yX3_signal yX3_signal, .initialized RX3, .code yX3_signal cX3_signal 2 (some .int), .fieldLink RX3 7 "SwitchLevelSimulatorModel" "state" "[I", .methodLink RX3 70 yX3_lesser, .static yX3_lesser, .code yX3_lesser cX3_lesser 2 (some .int), .methodLink RX3 54 yX3_isInput, .instanceMethod yX3_isInput, .selects RX3 yX3_isInput yX3_isInput, .code yX3_isInput cX3_isInput 2 (some .boolean)] ++ wsX30)
def wsX3_layStrength_r1 : List Cond := [Cond.fieldLink RX3 7 "SwitchLevelSimulatorModel" "state" "[I", Cond.fieldLink RX3 20 "SwitchLevelSimulatorModel" "definite" "[I", Cond.fieldLink RX3 29 "SwitchLevelSimulatorModel" "states" "[I", Cond.methodLink RX3 35 yX3_nodes, Cond.instanceMethod yX3_nodes, Cond.selects RX3 yX3_nodes yX3_nodes, Cond.initialized RX3, Cond.code yX3_nodes cX3_nodes 1 (some .int), Cond.methodLink RX3 54 yX3_isInput, Cond.instanceMethod yX3_isInput, Cond.selects RX3 yX3_isInput yX3_isInput, Cond.code yX3_isInput cX3_isInput 2 (some .boolean), Cond.methodLink RX3 43 yX3_many, Cond.instanceMethod yX3_many, Cond.selects RX3 yX3_many yX3_many, Cond.code yX3_many cX3_many 1 (some .int), Cond.methodLink RX3 76 yX3_grow, Cond.instanceMethod yX3_grow, Cond.selects RX3 yX3_grow yX3_grow, Cond.code yX3_grow cX3_grow 7 (some .boolean), Cond.methodLink RX3 67 yX3_signal, Cond.instanceMethod yX3_signal, Cond.selects RX3 yX3_signal yX3_signal, Cond.code yX3_signal cX3_signal 2 (some .int)]
def wsX3_layStrength_r2 : List Cond := [Cond.methodLink RX3 70 yX3_lesser, Cond.static yX3_lesser, Cond.code yX3_lesser cX3_lesser 2 (some .int)]
def wsX3_layStrength : List Cond := .code yX3_layStrength cX3_layStrength 6 none :: ((wsX3_layStrength_r1 ++ wsX3_layStrength_r2) ++ wsX30)
def wsX3_layAll_r1 : List Cond := [Cond.fieldLink RX3 29 "SwitchLevelSimulatorModel" "states" "[I", Cond.fieldLink RX3 23 "SwitchLevelSimulatorModel" "up" "[I", Cond.fieldLink RX3 26 "SwitchLevelSimulatorModel" "down" "[I", Cond.methodLink RX3 43 yX3_many, Cond.instanceMethod yX3_many, Cond.selects RX3 yX3_many yX3_many, Cond.initialized RX3, Cond.code yX3_many cX3_many 1 (some .int), Cond.fieldLink RX3 7 "SwitchLevelSimulatorModel" "state" "[I", Cond.methodLink RX3 64 yX3_stateOf, Cond.instanceMethod yX3_stateOf, Cond.selects RX3 yX3_stateOf yX3_stateOf, Cond.code yX3_stateOf cX3_stateOf 4 (some .int), Cond.methodLink RX3 80 yX3_layDefinite, Cond.instanceMethod yX3_layDefinite, Cond.selects RX3 yX3_layDefinite yX3_layDefinite, Cond.code yX3_layDefinite cX3_layDefinite 3 none, Cond.fieldLink RX3 20 "SwitchLevelSimulatorModel" "definite" "[I", Cond.methodLink RX3 35 yX3_nodes, Cond.instanceMethod yX3_nodes, Cond.selects RX3 yX3_nodes yX3_nodes, Cond.code yX3_nodes cX3_nodes 1 (some .int), Cond.methodLink RX3 54 yX3_isInput, Cond.instanceMethod yX3_isInput]
def wsX3_layAll_r2 : List Cond := [Cond.selects RX3 yX3_isInput yX3_isInput, Cond.code yX3_isInput cX3_isInput 2 (some .boolean), Cond.methodLink RX3 73 yX3_growDefinite, Cond.instanceMethod yX3_growDefinite, Cond.selects RX3 yX3_growDefinite yX3_growDefinite, Cond.code yX3_growDefinite cX3_growDefinite 6 (some .boolean), Cond.methodLink RX3 67 yX3_signal, Cond.instanceMethod yX3_signal, Cond.selects RX3 yX3_signal yX3_signal, Cond.code yX3_signal cX3_signal 2 (some .int), Cond.methodLink RX3 70 yX3_lesser, Cond.static yX3_lesser, Cond.code yX3_lesser cX3_lesser 2 (some .int), Cond.methodLink RX3 83 yX3_layStrength, Cond.instanceMethod yX3_layStrength, Cond.selects RX3 yX3_layStrength yX3_layStrength, Cond.code yX3_layStrength cX3_layStrength 6 none, Cond.methodLink RX3 76 yX3_grow, Cond.instanceMethod yX3_grow, Cond.selects RX3 yX3_grow yX3_grow, Cond.code yX3_grow cX3_grow 7 (some .boolean)]
def wsX3_layAll : List Cond := .code yX3_layAll cX3_layAll 2 none :: ((wsX3_layAll_r1 ++ wsX3_layAll_r2) ++ wsX30)
def wsX3_definiteStrength_r1 : List Cond := [Cond.fieldLink RX3 20 "SwitchLevelSimulatorModel" "definite" "[I", Cond.methodLink RX3 50 yX3_isNode, Cond.instanceMethod yX3_isNode, Cond.selects RX3 yX3_isNode yX3_isNode, Cond.initialized RX3, Cond.code yX3_isNode cX3_isNode 2 (some .boolean), Cond.methodLink RX3 35 yX3_nodes, Cond.instanceMethod yX3_nodes, Cond.selects RX3 yX3_nodes yX3_nodes, Cond.code yX3_nodes cX3_nodes 1 (some .int), Cond.fieldLink RX3 7 "SwitchLevelSimulatorModel" "state" "[I", Cond.methodLink RX3 39 yX3_in, Cond.static yX3_in, Cond.code yX3_in cX3_in 3 (some .boolean), Cond.methodLink RX3 87 yX3_layAll, Cond.instanceMethod yX3_layAll, Cond.selects RX3 yX3_layAll yX3_layAll, Cond.code yX3_layAll cX3_layAll 2 none, Cond.fieldLink RX3 29 "SwitchLevelSimulatorModel" "states" "[I", Cond.fieldLink RX3 23 "SwitchLevelSimulatorModel" "up" "[I", Cond.fieldLink RX3 26 "SwitchLevelSimulatorModel" "down" "[I", Cond.methodLink RX3 43 yX3_many, Cond.instanceMethod yX3_many, Cond.selects RX3 yX3_many yX3_many]
def wsX3_definiteStrength_r2 : List Cond := [Cond.code yX3_many cX3_many 1 (some .int), Cond.methodLink RX3 64 yX3_stateOf, Cond.instanceMethod yX3_stateOf, Cond.selects RX3 yX3_stateOf yX3_stateOf, Cond.code yX3_stateOf cX3_stateOf 4 (some .int), Cond.methodLink RX3 80 yX3_layDefinite, Cond.instanceMethod yX3_layDefinite, Cond.selects RX3 yX3_layDefinite yX3_layDefinite, Cond.code yX3_layDefinite cX3_layDefinite 3 none, Cond.methodLink RX3 54 yX3_isInput, Cond.instanceMethod yX3_isInput, Cond.selects RX3 yX3_isInput yX3_isInput, Cond.code yX3_isInput cX3_isInput 2 (some .boolean), Cond.methodLink RX3 73 yX3_growDefinite, Cond.instanceMethod yX3_growDefinite, Cond.selects RX3 yX3_growDefinite yX3_growDefinite, Cond.code yX3_growDefinite cX3_growDefinite 6 (some .boolean), Cond.methodLink RX3 67 yX3_signal, Cond.instanceMethod yX3_signal, Cond.selects RX3 yX3_signal yX3_signal, Cond.code yX3_signal cX3_signal 2 (some .int), Cond.methodLink RX3 70 yX3_lesser, Cond.static yX3_lesser, Cond.code yX3_lesser cX3_lesser 2 (some .int)]
def wsX3_definiteStrength_r3 : List Cond := [Cond.methodLink RX3 83 yX3_layStrength, Cond.instanceMethod yX3_layStrength, Cond.selects RX3 yX3_layStrength yX3_layStrength, Cond.code yX3_layStrength cX3_layStrength 6 none, Cond.methodLink RX3 76 yX3_grow, Cond.instanceMethod yX3_grow, Cond.selects RX3 yX3_grow yX3_grow, Cond.code yX3_grow cX3_grow 7 (some .boolean)]
def wsX3_definiteStrength : List Cond := .code yX3_definiteStrength cX3_definiteStrength 2 (some .int) :: ((wsX3_definiteStrength_r1 ++ (wsX3_definiteStrength_r2 ++ wsX3_definiteStrength_r3)) ++ wsX30)
def wsX3_upStrength_r1 : List Cond := [Cond.fieldLink RX3 23 "SwitchLevelSimulatorModel" "up" "[I", Cond.methodLink RX3 50 yX3_isNode, Cond.instanceMethod yX3_isNode, Cond.selects RX3 yX3_isNode yX3_isNode, Cond.initialized RX3, Cond.code yX3_isNode cX3_isNode 2 (some .boolean), Cond.methodLink RX3 35 yX3_nodes, Cond.instanceMethod yX3_nodes, Cond.selects RX3 yX3_nodes yX3_nodes, Cond.code yX3_nodes cX3_nodes 1 (some .int), Cond.fieldLink RX3 7 "SwitchLevelSimulatorModel" "state" "[I", Cond.methodLink RX3 39 yX3_in, Cond.static yX3_in, Cond.code yX3_in cX3_in 3 (some .boolean), Cond.methodLink RX3 87 yX3_layAll, Cond.instanceMethod yX3_layAll, Cond.selects RX3 yX3_layAll yX3_layAll, Cond.code yX3_layAll cX3_layAll 2 none, Cond.fieldLink RX3 29 "SwitchLevelSimulatorModel" "states" "[I", Cond.fieldLink RX3 26 "SwitchLevelSimulatorModel" "down" "[I", Cond.methodLink RX3 43 yX3_many, Cond.instanceMethod yX3_many, Cond.selects RX3 yX3_many yX3_many, Cond.code yX3_many cX3_many 1 (some .int)]
def wsX3_upStrength_r2 : List Cond := [Cond.methodLink RX3 64 yX3_stateOf, Cond.instanceMethod yX3_stateOf, Cond.selects RX3 yX3_stateOf yX3_stateOf, Cond.code yX3_stateOf cX3_stateOf 4 (some .int), Cond.methodLink RX3 80 yX3_layDefinite, Cond.instanceMethod yX3_layDefinite, Cond.selects RX3 yX3_layDefinite yX3_layDefinite, Cond.code yX3_layDefinite cX3_layDefinite 3 none, Cond.fieldLink RX3 20 "SwitchLevelSimulatorModel" "definite" "[I", Cond.methodLink RX3 54 yX3_isInput, Cond.instanceMethod yX3_isInput, Cond.selects RX3 yX3_isInput yX3_isInput, Cond.code yX3_isInput cX3_isInput 2 (some .boolean), Cond.methodLink RX3 73 yX3_growDefinite, Cond.instanceMethod yX3_growDefinite, Cond.selects RX3 yX3_growDefinite yX3_growDefinite, Cond.code yX3_growDefinite cX3_growDefinite 6 (some .boolean), Cond.methodLink RX3 67 yX3_signal, Cond.instanceMethod yX3_signal, Cond.selects RX3 yX3_signal yX3_signal, Cond.code yX3_signal cX3_signal 2 (some .int), Cond.methodLink RX3 70 yX3_lesser, Cond.static yX3_lesser, Cond.code yX3_lesser cX3_lesser 2 (some .int)]
def wsX3_upStrength_r3 : List Cond := [Cond.methodLink RX3 83 yX3_layStrength, Cond.instanceMethod yX3_layStrength, Cond.selects RX3 yX3_layStrength yX3_layStrength, Cond.code yX3_layStrength cX3_layStrength 6 none, Cond.methodLink RX3 76 yX3_grow, Cond.instanceMethod yX3_grow, Cond.selects RX3 yX3_grow yX3_grow, Cond.code yX3_grow cX3_grow 7 (some .boolean)]
def wsX3_upStrength : List Cond := .code yX3_upStrength cX3_upStrength 2 (some .int) :: ((wsX3_upStrength_r1 ++ (wsX3_upStrength_r2 ++ wsX3_upStrength_r3)) ++ wsX30)
def wsX3_downStrength_r1 : List Cond := [Cond.fieldLink RX3 26 "SwitchLevelSimulatorModel" "down" "[I", Cond.methodLink RX3 50 yX3_isNode, Cond.instanceMethod yX3_isNode, Cond.selects RX3 yX3_isNode yX3_isNode, Cond.initialized RX3, Cond.code yX3_isNode cX3_isNode 2 (some .boolean), Cond.methodLink RX3 35 yX3_nodes, Cond.instanceMethod yX3_nodes, Cond.selects RX3 yX3_nodes yX3_nodes, Cond.code yX3_nodes cX3_nodes 1 (some .int), Cond.fieldLink RX3 7 "SwitchLevelSimulatorModel" "state" "[I", Cond.methodLink RX3 39 yX3_in, Cond.static yX3_in, Cond.code yX3_in cX3_in 3 (some .boolean), Cond.methodLink RX3 87 yX3_layAll, Cond.instanceMethod yX3_layAll, Cond.selects RX3 yX3_layAll yX3_layAll, Cond.code yX3_layAll cX3_layAll 2 none, Cond.fieldLink RX3 29 "SwitchLevelSimulatorModel" "states" "[I", Cond.fieldLink RX3 23 "SwitchLevelSimulatorModel" "up" "[I", Cond.methodLink RX3 43 yX3_many, Cond.instanceMethod yX3_many, Cond.selects RX3 yX3_many yX3_many, Cond.code yX3_many cX3_many 1 (some .int)]
def wsX3_downStrength_r2 : List Cond := [Cond.methodLink RX3 64 yX3_stateOf, Cond.instanceMethod yX3_stateOf, Cond.selects RX3 yX3_stateOf yX3_stateOf, Cond.code yX3_stateOf cX3_stateOf 4 (some .int), Cond.methodLink RX3 80 yX3_layDefinite, Cond.instanceMethod yX3_layDefinite, Cond.selects RX3 yX3_layDefinite yX3_layDefinite, Cond.code yX3_layDefinite cX3_layDefinite 3 none, Cond.fieldLink RX3 20 "SwitchLevelSimulatorModel" "definite" "[I", Cond.methodLink RX3 54 yX3_isInput, Cond.instanceMethod yX3_isInput, Cond.selects RX3 yX3_isInput yX3_isInput, Cond.code yX3_isInput cX3_isInput 2 (some .boolean), Cond.methodLink RX3 73 yX3_growDefinite, Cond.instanceMethod yX3_growDefinite, Cond.selects RX3 yX3_growDefinite yX3_growDefinite, Cond.code yX3_growDefinite cX3_growDefinite 6 (some .boolean), Cond.methodLink RX3 67 yX3_signal, Cond.instanceMethod yX3_signal, Cond.selects RX3 yX3_signal yX3_signal, Cond.code yX3_signal cX3_signal 2 (some .int), Cond.methodLink RX3 70 yX3_lesser, Cond.static yX3_lesser, Cond.code yX3_lesser cX3_lesser 2 (some .int)]
def wsX3_downStrength_r3 : List Cond := [Cond.methodLink RX3 83 yX3_layStrength, Cond.instanceMethod yX3_layStrength, Cond.selects RX3 yX3_layStrength yX3_layStrength, Cond.code yX3_layStrength cX3_layStrength 6 none, Cond.methodLink RX3 76 yX3_grow, Cond.instanceMethod yX3_grow, Cond.selects RX3 yX3_grow yX3_grow, Cond.code yX3_grow cX3_grow 7 (some .boolean)]
def wsX3_downStrength : List Cond := .code yX3_downStrength cX3_downStrength 2 (some .int) :: ((wsX3_downStrength_r1 ++ (wsX3_downStrength_r2 ++ wsX3_downStrength_r3)) ++ wsX30)
def wsX3_steady : List Cond := .code yX3_steady cX3_steady 2 (some .int) :: ([.fieldLink RX3 7 "SwitchLevelSimulatorModel" "state" "[I", .fieldLink RX3 26 "SwitchLevelSimulatorModel" "down" "[I", .fieldLink RX3 23 "SwitchLevelSimulatorModel" "up" "[I", .methodLink RX3 54 yX3_isInput, .instanceMethod yX3_isInput, .selects RX3 yX3_isInput yX3_isInput, .initialized RX3, .code yX3_isInput cX3_isInput 2 (some .boolean)] ++ wsX30)
def wsX3_steadyValue_r1 : List Cond := [Cond.methodLink RX3 50 yX3_isNode, Cond.instanceMethod yX3_isNode, Cond.selects RX3 yX3_isNode yX3_isNode, Cond.initialized RX3, Cond.code yX3_isNode cX3_isNode 2 (some .boolean), Cond.methodLink RX3 35 yX3_nodes, Cond.instanceMethod yX3_nodes, Cond.selects RX3 yX3_nodes yX3_nodes, Cond.code yX3_nodes cX3_nodes 1 (some .int), Cond.fieldLink RX3 7 "SwitchLevelSimulatorModel" "state" "[I", Cond.methodLink RX3 39 yX3_in, Cond.static yX3_in, Cond.code yX3_in cX3_in 3 (some .boolean), Cond.methodLink RX3 87 yX3_layAll, Cond.instanceMethod yX3_layAll, Cond.selects RX3 yX3_layAll yX3_layAll, Cond.code yX3_layAll cX3_layAll 2 none, Cond.fieldLink RX3 29 "SwitchLevelSimulatorModel" "states" "[I", Cond.fieldLink RX3 23 "SwitchLevelSimulatorModel" "up" "[I", Cond.fieldLink RX3 26 "SwitchLevelSimulatorModel" "down" "[I", Cond.methodLink RX3 43 yX3_many, Cond.instanceMethod yX3_many, Cond.selects RX3 yX3_many yX3_many, Cond.code yX3_many cX3_many 1 (some .int)]
def wsX3_steadyValue_r2 : List Cond := [Cond.methodLink RX3 64 yX3_stateOf, Cond.instanceMethod yX3_stateOf, Cond.selects RX3 yX3_stateOf yX3_stateOf, Cond.code yX3_stateOf cX3_stateOf 4 (some .int), Cond.methodLink RX3 80 yX3_layDefinite, Cond.instanceMethod yX3_layDefinite, Cond.selects RX3 yX3_layDefinite yX3_layDefinite, Cond.code yX3_layDefinite cX3_layDefinite 3 none, Cond.fieldLink RX3 20 "SwitchLevelSimulatorModel" "definite" "[I", Cond.methodLink RX3 54 yX3_isInput, Cond.instanceMethod yX3_isInput, Cond.selects RX3 yX3_isInput yX3_isInput, Cond.code yX3_isInput cX3_isInput 2 (some .boolean), Cond.methodLink RX3 73 yX3_growDefinite, Cond.instanceMethod yX3_growDefinite, Cond.selects RX3 yX3_growDefinite yX3_growDefinite, Cond.code yX3_growDefinite cX3_growDefinite 6 (some .boolean), Cond.methodLink RX3 67 yX3_signal, Cond.instanceMethod yX3_signal, Cond.selects RX3 yX3_signal yX3_signal, Cond.code yX3_signal cX3_signal 2 (some .int), Cond.methodLink RX3 70 yX3_lesser, Cond.static yX3_lesser, Cond.code yX3_lesser cX3_lesser 2 (some .int)]
def wsX3_steadyValue_r3 : List Cond := [Cond.methodLink RX3 83 yX3_layStrength, Cond.instanceMethod yX3_layStrength, Cond.selects RX3 yX3_layStrength yX3_layStrength, Cond.code yX3_layStrength cX3_layStrength 6 none, Cond.methodLink RX3 76 yX3_grow, Cond.instanceMethod yX3_grow, Cond.selects RX3 yX3_grow yX3_grow, Cond.code yX3_grow cX3_grow 7 (some .boolean), Cond.methodLink RX3 90 yX3_steady, Cond.instanceMethod yX3_steady, Cond.selects RX3 yX3_steady yX3_steady, Cond.code yX3_steady cX3_steady 2 (some .int)]
def wsX3_steadyValue : List Cond := .code yX3_steadyValue cX3_steadyValue 2 (some .int) :: ((wsX3_steadyValue_r1 ++ (wsX3_steadyValue_r2 ++ wsX3_steadyValue_r3)) ++ wsX30)
def wsX3_vicinity_r1 : List Cond := [Cond.fieldLink RX3 7 "SwitchLevelSimulatorModel" "state" "[I", Cond.methodLink RX3 50 yX3_isNode, Cond.instanceMethod yX3_isNode, Cond.selects RX3 yX3_isNode yX3_isNode, Cond.initialized RX3, Cond.code yX3_isNode cX3_isNode 2 (some .boolean), Cond.methodLink RX3 35 yX3_nodes, Cond.instanceMethod yX3_nodes, Cond.selects RX3 yX3_nodes yX3_nodes, Cond.code yX3_nodes cX3_nodes 1 (some .int), Cond.methodLink RX3 39 yX3_in, Cond.static yX3_in, Cond.code yX3_in cX3_in 3 (some .boolean), Cond.methodLink RX3 54 yX3_isInput, Cond.instanceMethod yX3_isInput, Cond.selects RX3 yX3_isInput yX3_isInput, Cond.code yX3_isInput cX3_isInput 2 (some .boolean), Cond.methodLink RX3 43 yX3_many, Cond.instanceMethod yX3_many, Cond.selects RX3 yX3_many yX3_many, Cond.code yX3_many cX3_many 1 (some .int), Cond.methodLink RX3 64 yX3_stateOf, Cond.instanceMethod yX3_stateOf, Cond.selects RX3 yX3_stateOf yX3_stateOf]
def wsX3_vicinity_r2 : List Cond := [Cond.code yX3_stateOf cX3_stateOf 4 (some .int)]
def wsX3_vicinity : List Cond := .code yX3_vicinity cX3_vicinity 8 (some .int) :: ((wsX3_vicinity_r1 ++ wsX3_vicinity_r2) ++ wsX30)
def wsX3_activeNow_r1 : List Cond := [Cond.fieldLink RX3 7 "SwitchLevelSimulatorModel" "state" "[I", Cond.methodLink RX3 87 yX3_layAll, Cond.instanceMethod yX3_layAll, Cond.selects RX3 yX3_layAll yX3_layAll, Cond.initialized RX3, Cond.code yX3_layAll cX3_layAll 2 none, Cond.fieldLink RX3 29 "SwitchLevelSimulatorModel" "states" "[I", Cond.fieldLink RX3 23 "SwitchLevelSimulatorModel" "up" "[I", Cond.fieldLink RX3 26 "SwitchLevelSimulatorModel" "down" "[I", Cond.methodLink RX3 43 yX3_many, Cond.instanceMethod yX3_many, Cond.selects RX3 yX3_many yX3_many, Cond.code yX3_many cX3_many 1 (some .int), Cond.methodLink RX3 64 yX3_stateOf, Cond.instanceMethod yX3_stateOf, Cond.selects RX3 yX3_stateOf yX3_stateOf, Cond.code yX3_stateOf cX3_stateOf 4 (some .int), Cond.methodLink RX3 80 yX3_layDefinite, Cond.instanceMethod yX3_layDefinite, Cond.selects RX3 yX3_layDefinite yX3_layDefinite, Cond.code yX3_layDefinite cX3_layDefinite 3 none, Cond.fieldLink RX3 20 "SwitchLevelSimulatorModel" "definite" "[I", Cond.methodLink RX3 35 yX3_nodes, Cond.instanceMethod yX3_nodes]
def wsX3_activeNow_r2 : List Cond := [Cond.selects RX3 yX3_nodes yX3_nodes, Cond.code yX3_nodes cX3_nodes 1 (some .int), Cond.methodLink RX3 54 yX3_isInput, Cond.instanceMethod yX3_isInput, Cond.selects RX3 yX3_isInput yX3_isInput, Cond.code yX3_isInput cX3_isInput 2 (some .boolean), Cond.methodLink RX3 73 yX3_growDefinite, Cond.instanceMethod yX3_growDefinite, Cond.selects RX3 yX3_growDefinite yX3_growDefinite, Cond.code yX3_growDefinite cX3_growDefinite 6 (some .boolean), Cond.methodLink RX3 67 yX3_signal, Cond.instanceMethod yX3_signal, Cond.selects RX3 yX3_signal yX3_signal, Cond.code yX3_signal cX3_signal 2 (some .int), Cond.methodLink RX3 70 yX3_lesser, Cond.static yX3_lesser, Cond.code yX3_lesser cX3_lesser 2 (some .int), Cond.methodLink RX3 83 yX3_layStrength, Cond.instanceMethod yX3_layStrength, Cond.selects RX3 yX3_layStrength yX3_layStrength, Cond.code yX3_layStrength cX3_layStrength 6 none, Cond.methodLink RX3 76 yX3_grow, Cond.instanceMethod yX3_grow, Cond.selects RX3 yX3_grow yX3_grow]
def wsX3_activeNow_r3 : List Cond := [Cond.code yX3_grow cX3_grow 7 (some .boolean), Cond.methodLink RX3 90 yX3_steady, Cond.instanceMethod yX3_steady, Cond.selects RX3 yX3_steady yX3_steady, Cond.code yX3_steady cX3_steady 2 (some .int)]
def wsX3_activeNow : List Cond := .code yX3_activeNow cX3_activeNow 3 (some .int) :: ((wsX3_activeNow_r1 ++ (wsX3_activeNow_r2 ++ wsX3_activeNow_r3)) ++ wsX30)
def wsX3_stepNow_r1 : List Cond := [Cond.fieldLink RX3 7 "SwitchLevelSimulatorModel" "state" "[I", Cond.methodLink RX3 93 yX3_activeNow, Cond.instanceMethod yX3_activeNow, Cond.selects RX3 yX3_activeNow yX3_activeNow, Cond.initialized RX3, Cond.code yX3_activeNow cX3_activeNow 3 (some .int), Cond.methodLink RX3 87 yX3_layAll, Cond.instanceMethod yX3_layAll, Cond.selects RX3 yX3_layAll yX3_layAll, Cond.code yX3_layAll cX3_layAll 2 none, Cond.fieldLink RX3 29 "SwitchLevelSimulatorModel" "states" "[I", Cond.fieldLink RX3 23 "SwitchLevelSimulatorModel" "up" "[I", Cond.fieldLink RX3 26 "SwitchLevelSimulatorModel" "down" "[I", Cond.methodLink RX3 43 yX3_many, Cond.instanceMethod yX3_many, Cond.selects RX3 yX3_many yX3_many, Cond.code yX3_many cX3_many 1 (some .int), Cond.methodLink RX3 64 yX3_stateOf, Cond.instanceMethod yX3_stateOf, Cond.selects RX3 yX3_stateOf yX3_stateOf, Cond.code yX3_stateOf cX3_stateOf 4 (some .int), Cond.methodLink RX3 80 yX3_layDefinite, Cond.instanceMethod yX3_layDefinite, Cond.selects RX3 yX3_layDefinite yX3_layDefinite]
def wsX3_stepNow_r2 : List Cond := [Cond.code yX3_layDefinite cX3_layDefinite 3 none, Cond.fieldLink RX3 20 "SwitchLevelSimulatorModel" "definite" "[I", Cond.methodLink RX3 35 yX3_nodes, Cond.instanceMethod yX3_nodes, Cond.selects RX3 yX3_nodes yX3_nodes, Cond.code yX3_nodes cX3_nodes 1 (some .int), Cond.methodLink RX3 54 yX3_isInput, Cond.instanceMethod yX3_isInput, Cond.selects RX3 yX3_isInput yX3_isInput, Cond.code yX3_isInput cX3_isInput 2 (some .boolean), Cond.methodLink RX3 73 yX3_growDefinite, Cond.instanceMethod yX3_growDefinite, Cond.selects RX3 yX3_growDefinite yX3_growDefinite, Cond.code yX3_growDefinite cX3_growDefinite 6 (some .boolean), Cond.methodLink RX3 67 yX3_signal, Cond.instanceMethod yX3_signal, Cond.selects RX3 yX3_signal yX3_signal, Cond.code yX3_signal cX3_signal 2 (some .int), Cond.methodLink RX3 70 yX3_lesser, Cond.static yX3_lesser, Cond.code yX3_lesser cX3_lesser 2 (some .int), Cond.methodLink RX3 83 yX3_layStrength, Cond.instanceMethod yX3_layStrength, Cond.selects RX3 yX3_layStrength yX3_layStrength]
def wsX3_stepNow_r3 : List Cond := [Cond.code yX3_layStrength cX3_layStrength 6 none, Cond.methodLink RX3 76 yX3_grow, Cond.instanceMethod yX3_grow, Cond.selects RX3 yX3_grow yX3_grow, Cond.code yX3_grow cX3_grow 7 (some .boolean), Cond.methodLink RX3 90 yX3_steady, Cond.instanceMethod yX3_steady, Cond.selects RX3 yX3_steady yX3_steady, Cond.code yX3_steady cX3_steady 2 (some .int)]
def wsX3_stepNow : List Cond := .code yX3_stepNow cX3_stepNow 3 (some .int) :: ((wsX3_stepNow_r1 ++ (wsX3_stepNow_r2 ++ wsX3_stepNow_r3)) ++ wsX30)
def wsX3_step_r1 : List Cond := [Cond.methodLink RX3 96 yX3_stepNow, Cond.instanceMethod yX3_stepNow, Cond.selects RX3 yX3_stepNow yX3_stepNow, Cond.initialized RX3, Cond.code yX3_stepNow cX3_stepNow 3 (some .int), Cond.fieldLink RX3 7 "SwitchLevelSimulatorModel" "state" "[I", Cond.methodLink RX3 93 yX3_activeNow, Cond.instanceMethod yX3_activeNow, Cond.selects RX3 yX3_activeNow yX3_activeNow, Cond.code yX3_activeNow cX3_activeNow 3 (some .int), Cond.methodLink RX3 87 yX3_layAll, Cond.instanceMethod yX3_layAll, Cond.selects RX3 yX3_layAll yX3_layAll, Cond.code yX3_layAll cX3_layAll 2 none, Cond.fieldLink RX3 29 "SwitchLevelSimulatorModel" "states" "[I", Cond.fieldLink RX3 23 "SwitchLevelSimulatorModel" "up" "[I", Cond.fieldLink RX3 26 "SwitchLevelSimulatorModel" "down" "[I", Cond.methodLink RX3 43 yX3_many, Cond.instanceMethod yX3_many, Cond.selects RX3 yX3_many yX3_many, Cond.code yX3_many cX3_many 1 (some .int), Cond.methodLink RX3 64 yX3_stateOf, Cond.instanceMethod yX3_stateOf, Cond.selects RX3 yX3_stateOf yX3_stateOf]
def wsX3_step_r2 : List Cond := [Cond.code yX3_stateOf cX3_stateOf 4 (some .int), Cond.methodLink RX3 80 yX3_layDefinite, Cond.instanceMethod yX3_layDefinite, Cond.selects RX3 yX3_layDefinite yX3_layDefinite, Cond.code yX3_layDefinite cX3_layDefinite 3 none, Cond.fieldLink RX3 20 "SwitchLevelSimulatorModel" "definite" "[I", Cond.methodLink RX3 35 yX3_nodes, Cond.instanceMethod yX3_nodes, Cond.selects RX3 yX3_nodes yX3_nodes, Cond.code yX3_nodes cX3_nodes 1 (some .int), Cond.methodLink RX3 54 yX3_isInput, Cond.instanceMethod yX3_isInput, Cond.selects RX3 yX3_isInput yX3_isInput, Cond.code yX3_isInput cX3_isInput 2 (some .boolean), Cond.methodLink RX3 73 yX3_growDefinite, Cond.instanceMethod yX3_growDefinite, Cond.selects RX3 yX3_growDefinite yX3_growDefinite, Cond.code yX3_growDefinite cX3_growDefinite 6 (some .boolean), Cond.methodLink RX3 67 yX3_signal, Cond.instanceMethod yX3_signal, Cond.selects RX3 yX3_signal yX3_signal, Cond.code yX3_signal cX3_signal 2 (some .int), Cond.methodLink RX3 70 yX3_lesser, Cond.static yX3_lesser]
def wsX3_step_r3 : List Cond := [Cond.code yX3_lesser cX3_lesser 2 (some .int), Cond.methodLink RX3 83 yX3_layStrength, Cond.instanceMethod yX3_layStrength, Cond.selects RX3 yX3_layStrength yX3_layStrength, Cond.code yX3_layStrength cX3_layStrength 6 none, Cond.methodLink RX3 76 yX3_grow, Cond.instanceMethod yX3_grow, Cond.selects RX3 yX3_grow yX3_grow, Cond.code yX3_grow cX3_grow 7 (some .boolean), Cond.methodLink RX3 90 yX3_steady, Cond.instanceMethod yX3_steady, Cond.selects RX3 yX3_steady yX3_steady, Cond.code yX3_steady cX3_steady 2 (some .int)]
def wsX3_step : List Cond := .code yX3_step cX3_step 1 (some .int) :: ((wsX3_step_r1 ++ (wsX3_step_r2 ++ wsX3_step_r3)) ++ wsX30)
def wsX3_isLimit : List Cond := .code yX3_isLimit cX3_isLimit 1 (some .boolean) :: ([.methodLink RX3 39 yX3_in, .static yX3_in, .initialized RX3, .code yX3_in cX3_in 3 (some .boolean)])
def wsX3_settleNow_r1 : List Cond := [Cond.methodLink RX3 96 yX3_stepNow, Cond.instanceMethod yX3_stepNow, Cond.selects RX3 yX3_stepNow yX3_stepNow, Cond.initialized RX3, Cond.code yX3_stepNow cX3_stepNow 3 (some .int), Cond.fieldLink RX3 7 "SwitchLevelSimulatorModel" "state" "[I", Cond.methodLink RX3 93 yX3_activeNow, Cond.instanceMethod yX3_activeNow, Cond.selects RX3 yX3_activeNow yX3_activeNow, Cond.code yX3_activeNow cX3_activeNow 3 (some .int), Cond.methodLink RX3 87 yX3_layAll, Cond.instanceMethod yX3_layAll, Cond.selects RX3 yX3_layAll yX3_layAll, Cond.code yX3_layAll cX3_layAll 2 none, Cond.fieldLink RX3 29 "SwitchLevelSimulatorModel" "states" "[I", Cond.fieldLink RX3 23 "SwitchLevelSimulatorModel" "up" "[I", Cond.fieldLink RX3 26 "SwitchLevelSimulatorModel" "down" "[I", Cond.methodLink RX3 43 yX3_many, Cond.instanceMethod yX3_many, Cond.selects RX3 yX3_many yX3_many, Cond.code yX3_many cX3_many 1 (some .int), Cond.methodLink RX3 64 yX3_stateOf, Cond.instanceMethod yX3_stateOf, Cond.selects RX3 yX3_stateOf yX3_stateOf]
def wsX3_settleNow_r2 : List Cond := [Cond.code yX3_stateOf cX3_stateOf 4 (some .int), Cond.methodLink RX3 80 yX3_layDefinite, Cond.instanceMethod yX3_layDefinite, Cond.selects RX3 yX3_layDefinite yX3_layDefinite, Cond.code yX3_layDefinite cX3_layDefinite 3 none, Cond.fieldLink RX3 20 "SwitchLevelSimulatorModel" "definite" "[I", Cond.methodLink RX3 35 yX3_nodes, Cond.instanceMethod yX3_nodes, Cond.selects RX3 yX3_nodes yX3_nodes, Cond.code yX3_nodes cX3_nodes 1 (some .int), Cond.methodLink RX3 54 yX3_isInput, Cond.instanceMethod yX3_isInput, Cond.selects RX3 yX3_isInput yX3_isInput, Cond.code yX3_isInput cX3_isInput 2 (some .boolean), Cond.methodLink RX3 73 yX3_growDefinite, Cond.instanceMethod yX3_growDefinite, Cond.selects RX3 yX3_growDefinite yX3_growDefinite, Cond.code yX3_growDefinite cX3_growDefinite 6 (some .boolean), Cond.methodLink RX3 67 yX3_signal, Cond.instanceMethod yX3_signal, Cond.selects RX3 yX3_signal yX3_signal, Cond.code yX3_signal cX3_signal 2 (some .int), Cond.methodLink RX3 70 yX3_lesser, Cond.static yX3_lesser]
def wsX3_settleNow_r3 : List Cond := [Cond.code yX3_lesser cX3_lesser 2 (some .int), Cond.methodLink RX3 83 yX3_layStrength, Cond.instanceMethod yX3_layStrength, Cond.selects RX3 yX3_layStrength yX3_layStrength, Cond.code yX3_layStrength cX3_layStrength 6 none, Cond.methodLink RX3 76 yX3_grow, Cond.instanceMethod yX3_grow, Cond.selects RX3 yX3_grow yX3_grow, Cond.code yX3_grow cX3_grow 7 (some .boolean), Cond.methodLink RX3 90 yX3_steady, Cond.instanceMethod yX3_steady, Cond.selects RX3 yX3_steady yX3_steady, Cond.code yX3_steady cX3_steady 2 (some .int)]
def wsX3_settleNow : List Cond := .code yX3_settleNow cX3_settleNow 3 (some .int) :: ((wsX3_settleNow_r1 ++ (wsX3_settleNow_r2 ++ wsX3_settleNow_r3)) ++ wsX30)
def wsX3_settle_r1 : List Cond := [Cond.methodLink RX3 99 yX3_isLimit, Cond.static yX3_isLimit, Cond.initialized RX3, Cond.code yX3_isLimit cX3_isLimit 1 (some .boolean), Cond.methodLink RX3 39 yX3_in, Cond.static yX3_in, Cond.code yX3_in cX3_in 3 (some .boolean), Cond.methodLink RX3 102 yX3_settleNow, Cond.instanceMethod yX3_settleNow, Cond.selects RX3 yX3_settleNow yX3_settleNow, Cond.code yX3_settleNow cX3_settleNow 3 (some .int), Cond.methodLink RX3 96 yX3_stepNow, Cond.instanceMethod yX3_stepNow, Cond.selects RX3 yX3_stepNow yX3_stepNow, Cond.code yX3_stepNow cX3_stepNow 3 (some .int), Cond.fieldLink RX3 7 "SwitchLevelSimulatorModel" "state" "[I", Cond.methodLink RX3 93 yX3_activeNow, Cond.instanceMethod yX3_activeNow, Cond.selects RX3 yX3_activeNow yX3_activeNow, Cond.code yX3_activeNow cX3_activeNow 3 (some .int), Cond.methodLink RX3 87 yX3_layAll, Cond.instanceMethod yX3_layAll, Cond.selects RX3 yX3_layAll yX3_layAll, Cond.code yX3_layAll cX3_layAll 2 none]
def wsX3_settle_r2 : List Cond := [Cond.fieldLink RX3 29 "SwitchLevelSimulatorModel" "states" "[I", Cond.fieldLink RX3 23 "SwitchLevelSimulatorModel" "up" "[I", Cond.fieldLink RX3 26 "SwitchLevelSimulatorModel" "down" "[I", Cond.methodLink RX3 43 yX3_many, Cond.instanceMethod yX3_many, Cond.selects RX3 yX3_many yX3_many, Cond.code yX3_many cX3_many 1 (some .int), Cond.methodLink RX3 64 yX3_stateOf, Cond.instanceMethod yX3_stateOf, Cond.selects RX3 yX3_stateOf yX3_stateOf, Cond.code yX3_stateOf cX3_stateOf 4 (some .int), Cond.methodLink RX3 80 yX3_layDefinite, Cond.instanceMethod yX3_layDefinite, Cond.selects RX3 yX3_layDefinite yX3_layDefinite, Cond.code yX3_layDefinite cX3_layDefinite 3 none, Cond.fieldLink RX3 20 "SwitchLevelSimulatorModel" "definite" "[I", Cond.methodLink RX3 35 yX3_nodes, Cond.instanceMethod yX3_nodes, Cond.selects RX3 yX3_nodes yX3_nodes, Cond.code yX3_nodes cX3_nodes 1 (some .int), Cond.methodLink RX3 54 yX3_isInput, Cond.instanceMethod yX3_isInput, Cond.selects RX3 yX3_isInput yX3_isInput, Cond.code yX3_isInput cX3_isInput 2 (some .boolean)]
def wsX3_settle_r3 : List Cond := [Cond.methodLink RX3 73 yX3_growDefinite, Cond.instanceMethod yX3_growDefinite, Cond.selects RX3 yX3_growDefinite yX3_growDefinite, Cond.code yX3_growDefinite cX3_growDefinite 6 (some .boolean), Cond.methodLink RX3 67 yX3_signal, Cond.instanceMethod yX3_signal, Cond.selects RX3 yX3_signal yX3_signal, Cond.code yX3_signal cX3_signal 2 (some .int), Cond.methodLink RX3 70 yX3_lesser, Cond.static yX3_lesser, Cond.code yX3_lesser cX3_lesser 2 (some .int), Cond.methodLink RX3 83 yX3_layStrength, Cond.instanceMethod yX3_layStrength, Cond.selects RX3 yX3_layStrength yX3_layStrength, Cond.code yX3_layStrength cX3_layStrength 6 none, Cond.methodLink RX3 76 yX3_grow, Cond.instanceMethod yX3_grow, Cond.selects RX3 yX3_grow yX3_grow, Cond.code yX3_grow cX3_grow 7 (some .boolean), Cond.methodLink RX3 90 yX3_steady, Cond.instanceMethod yX3_steady, Cond.selects RX3 yX3_steady yX3_steady, Cond.code yX3_steady cX3_steady 2 (some .int)]
def wsX3_settle : List Cond := .code yX3_settle cX3_settle 2 (some .int) :: ((wsX3_settle_r1 ++ (wsX3_settle_r2 ++ wsX3_settle_r3)) ++ wsX30)
def wsX3_active_r1 : List Cond := [Cond.methodLink RX3 93 yX3_activeNow, Cond.instanceMethod yX3_activeNow, Cond.selects RX3 yX3_activeNow yX3_activeNow, Cond.initialized RX3, Cond.code yX3_activeNow cX3_activeNow 3 (some .int), Cond.fieldLink RX3 7 "SwitchLevelSimulatorModel" "state" "[I", Cond.methodLink RX3 87 yX3_layAll, Cond.instanceMethod yX3_layAll, Cond.selects RX3 yX3_layAll yX3_layAll, Cond.code yX3_layAll cX3_layAll 2 none, Cond.fieldLink RX3 29 "SwitchLevelSimulatorModel" "states" "[I", Cond.fieldLink RX3 23 "SwitchLevelSimulatorModel" "up" "[I", Cond.fieldLink RX3 26 "SwitchLevelSimulatorModel" "down" "[I", Cond.methodLink RX3 43 yX3_many, Cond.instanceMethod yX3_many, Cond.selects RX3 yX3_many yX3_many, Cond.code yX3_many cX3_many 1 (some .int), Cond.methodLink RX3 64 yX3_stateOf, Cond.instanceMethod yX3_stateOf, Cond.selects RX3 yX3_stateOf yX3_stateOf, Cond.code yX3_stateOf cX3_stateOf 4 (some .int), Cond.methodLink RX3 80 yX3_layDefinite, Cond.instanceMethod yX3_layDefinite, Cond.selects RX3 yX3_layDefinite yX3_layDefinite]
def wsX3_active_r2 : List Cond := [Cond.code yX3_layDefinite cX3_layDefinite 3 none, Cond.fieldLink RX3 20 "SwitchLevelSimulatorModel" "definite" "[I", Cond.methodLink RX3 35 yX3_nodes, Cond.instanceMethod yX3_nodes, Cond.selects RX3 yX3_nodes yX3_nodes, Cond.code yX3_nodes cX3_nodes 1 (some .int), Cond.methodLink RX3 54 yX3_isInput, Cond.instanceMethod yX3_isInput, Cond.selects RX3 yX3_isInput yX3_isInput, Cond.code yX3_isInput cX3_isInput 2 (some .boolean), Cond.methodLink RX3 73 yX3_growDefinite, Cond.instanceMethod yX3_growDefinite, Cond.selects RX3 yX3_growDefinite yX3_growDefinite, Cond.code yX3_growDefinite cX3_growDefinite 6 (some .boolean), Cond.methodLink RX3 67 yX3_signal, Cond.instanceMethod yX3_signal, Cond.selects RX3 yX3_signal yX3_signal, Cond.code yX3_signal cX3_signal 2 (some .int), Cond.methodLink RX3 70 yX3_lesser, Cond.static yX3_lesser, Cond.code yX3_lesser cX3_lesser 2 (some .int), Cond.methodLink RX3 83 yX3_layStrength, Cond.instanceMethod yX3_layStrength, Cond.selects RX3 yX3_layStrength yX3_layStrength]
def wsX3_active_r3 : List Cond := [Cond.code yX3_layStrength cX3_layStrength 6 none, Cond.methodLink RX3 76 yX3_grow, Cond.instanceMethod yX3_grow, Cond.selects RX3 yX3_grow yX3_grow, Cond.code yX3_grow cX3_grow 7 (some .boolean), Cond.methodLink RX3 90 yX3_steady, Cond.instanceMethod yX3_steady, Cond.selects RX3 yX3_steady yX3_steady, Cond.code yX3_steady cX3_steady 2 (some .int)]
def wsX3_active : List Cond := .code yX3_active cX3_active 1 (some .int) :: ((wsX3_active_r1 ++ (wsX3_active_r2 ++ wsX3_active_r3)) ++ wsX30)
def wsX3_keep : List Cond := .code yX3_keep cX3_keep 2 none :: ([.fieldLink RX3 32 "SwitchLevelSimulatorModel" "before" "[I", .fieldLink RX3 7 "SwitchLevelSimulatorModel" "state" "[I"] ++ wsX30)
def wsX3_putBack : List Cond := .code yX3_putBack cX3_putBack 2 none :: ([.fieldLink RX3 7 "SwitchLevelSimulatorModel" "state" "[I", .fieldLink RX3 32 "SwitchLevelSimulatorModel" "before" "[I"] ++ wsX30)
def wsX3_period_r1 : List Cond := [Cond.fieldLink RX3 7 "SwitchLevelSimulatorModel" "state" "[I", Cond.fieldLink RX3 32 "SwitchLevelSimulatorModel" "before" "[I", Cond.methodLink RX3 99 yX3_isLimit, Cond.static yX3_isLimit, Cond.initialized RX3, Cond.code yX3_isLimit cX3_isLimit 1 (some .boolean), Cond.methodLink RX3 39 yX3_in, Cond.static yX3_in, Cond.code yX3_in cX3_in 3 (some .boolean), Cond.methodLink RX3 105 yX3_keep, Cond.instanceMethod yX3_keep, Cond.selects RX3 yX3_keep yX3_keep, Cond.code yX3_keep cX3_keep 2 none, Cond.methodLink RX3 96 yX3_stepNow, Cond.instanceMethod yX3_stepNow, Cond.selects RX3 yX3_stepNow yX3_stepNow, Cond.code yX3_stepNow cX3_stepNow 3 (some .int), Cond.methodLink RX3 93 yX3_activeNow, Cond.instanceMethod yX3_activeNow, Cond.selects RX3 yX3_activeNow yX3_activeNow, Cond.code yX3_activeNow cX3_activeNow 3 (some .int), Cond.methodLink RX3 87 yX3_layAll, Cond.instanceMethod yX3_layAll, Cond.selects RX3 yX3_layAll yX3_layAll]
def wsX3_period_r2 : List Cond := [Cond.code yX3_layAll cX3_layAll 2 none, Cond.fieldLink RX3 29 "SwitchLevelSimulatorModel" "states" "[I", Cond.fieldLink RX3 23 "SwitchLevelSimulatorModel" "up" "[I", Cond.fieldLink RX3 26 "SwitchLevelSimulatorModel" "down" "[I", Cond.methodLink RX3 43 yX3_many, Cond.instanceMethod yX3_many, Cond.selects RX3 yX3_many yX3_many, Cond.code yX3_many cX3_many 1 (some .int), Cond.methodLink RX3 64 yX3_stateOf, Cond.instanceMethod yX3_stateOf, Cond.selects RX3 yX3_stateOf yX3_stateOf, Cond.code yX3_stateOf cX3_stateOf 4 (some .int), Cond.methodLink RX3 80 yX3_layDefinite, Cond.instanceMethod yX3_layDefinite, Cond.selects RX3 yX3_layDefinite yX3_layDefinite, Cond.code yX3_layDefinite cX3_layDefinite 3 none, Cond.fieldLink RX3 20 "SwitchLevelSimulatorModel" "definite" "[I", Cond.methodLink RX3 35 yX3_nodes, Cond.instanceMethod yX3_nodes, Cond.selects RX3 yX3_nodes yX3_nodes, Cond.code yX3_nodes cX3_nodes 1 (some .int), Cond.methodLink RX3 54 yX3_isInput, Cond.instanceMethod yX3_isInput, Cond.selects RX3 yX3_isInput yX3_isInput]
def wsX3_period_r3 : List Cond := [Cond.code yX3_isInput cX3_isInput 2 (some .boolean), Cond.methodLink RX3 73 yX3_growDefinite, Cond.instanceMethod yX3_growDefinite, Cond.selects RX3 yX3_growDefinite yX3_growDefinite, Cond.code yX3_growDefinite cX3_growDefinite 6 (some .boolean), Cond.methodLink RX3 67 yX3_signal, Cond.instanceMethod yX3_signal, Cond.selects RX3 yX3_signal yX3_signal, Cond.code yX3_signal cX3_signal 2 (some .int), Cond.methodLink RX3 70 yX3_lesser, Cond.static yX3_lesser, Cond.code yX3_lesser cX3_lesser 2 (some .int), Cond.methodLink RX3 83 yX3_layStrength, Cond.instanceMethod yX3_layStrength, Cond.selects RX3 yX3_layStrength yX3_layStrength, Cond.code yX3_layStrength cX3_layStrength 6 none, Cond.methodLink RX3 76 yX3_grow, Cond.instanceMethod yX3_grow, Cond.selects RX3 yX3_grow yX3_grow, Cond.code yX3_grow cX3_grow 7 (some .boolean), Cond.methodLink RX3 90 yX3_steady, Cond.instanceMethod yX3_steady, Cond.selects RX3 yX3_steady yX3_steady, Cond.code yX3_steady cX3_steady 2 (some .int)]
def wsX3_period_r4 : List Cond := [Cond.methodLink RX3 108 yX3_putBack, Cond.instanceMethod yX3_putBack, Cond.selects RX3 yX3_putBack yX3_putBack, Cond.code yX3_putBack cX3_putBack 2 none]
def wsX3_period : List Cond := .code yX3_period cX3_period 6 (some .int) :: ((wsX3_period_r1 ++ (wsX3_period_r2 ++ (wsX3_period_r3 ++ wsX3_period_r4))) ++ wsX30)
def wsX3_setFault : List Cond := .code yX3_setFault cX3_setFault 3 (some .int) :: ([.methodLink RX3 61 yX3_isTransistor, .instanceMethod yX3_isTransistor, .selects RX3 yX3_isTransistor yX3_isTransistor, .initialized RX3, .code yX3_isTransistor cX3_isTransistor 2 (some .boolean), .methodLink RX3 43 yX3_many, .instanceMethod yX3_many, .selects RX3 yX3_many yX3_many, .code yX3_many cX3_many 1 (some .int), .fieldLink RX3 7 "SwitchLevelSimulatorModel" "state" "[I", .methodLink RX3 39 yX3_in, .static yX3_in, .code yX3_in cX3_in 3 (some .boolean), .methodLink RX3 57 yX3_set, .instanceMethod yX3_set, .selects RX3 yX3_set yX3_set, .code yX3_set cX3_set 4 (some .int)] ++ wsX30)
def wsX3_clearFaults : List Cond := .code yX3_clearFaults cX3_clearFaults 3 (some .int) :: ([.fieldLink RX3 7 "SwitchLevelSimulatorModel" "state" "[I", .methodLink RX3 43 yX3_many, .instanceMethod yX3_many, .selects RX3 yX3_many yX3_many, .initialized RX3, .code yX3_many cX3_many 1 (some .int)] ++ wsX30)
def wsX3_settledValue_r1 : List Cond := [Cond.fieldLink RX3 7 "SwitchLevelSimulatorModel" "state" "[I", Cond.methodLink RX3 102 yX3_settleNow, Cond.instanceMethod yX3_settleNow, Cond.selects RX3 yX3_settleNow yX3_settleNow, Cond.initialized RX3, Cond.code yX3_settleNow cX3_settleNow 3 (some .int), Cond.methodLink RX3 96 yX3_stepNow, Cond.instanceMethod yX3_stepNow, Cond.selects RX3 yX3_stepNow yX3_stepNow, Cond.code yX3_stepNow cX3_stepNow 3 (some .int), Cond.methodLink RX3 93 yX3_activeNow, Cond.instanceMethod yX3_activeNow, Cond.selects RX3 yX3_activeNow yX3_activeNow, Cond.code yX3_activeNow cX3_activeNow 3 (some .int), Cond.methodLink RX3 87 yX3_layAll, Cond.instanceMethod yX3_layAll, Cond.selects RX3 yX3_layAll yX3_layAll, Cond.code yX3_layAll cX3_layAll 2 none, Cond.fieldLink RX3 29 "SwitchLevelSimulatorModel" "states" "[I", Cond.fieldLink RX3 23 "SwitchLevelSimulatorModel" "up" "[I", Cond.fieldLink RX3 26 "SwitchLevelSimulatorModel" "down" "[I", Cond.methodLink RX3 43 yX3_many, Cond.instanceMethod yX3_many, Cond.selects RX3 yX3_many yX3_many]
def wsX3_settledValue_r2 : List Cond := [Cond.code yX3_many cX3_many 1 (some .int), Cond.methodLink RX3 64 yX3_stateOf, Cond.instanceMethod yX3_stateOf, Cond.selects RX3 yX3_stateOf yX3_stateOf, Cond.code yX3_stateOf cX3_stateOf 4 (some .int), Cond.methodLink RX3 80 yX3_layDefinite, Cond.instanceMethod yX3_layDefinite, Cond.selects RX3 yX3_layDefinite yX3_layDefinite, Cond.code yX3_layDefinite cX3_layDefinite 3 none, Cond.fieldLink RX3 20 "SwitchLevelSimulatorModel" "definite" "[I", Cond.methodLink RX3 35 yX3_nodes, Cond.instanceMethod yX3_nodes, Cond.selects RX3 yX3_nodes yX3_nodes, Cond.code yX3_nodes cX3_nodes 1 (some .int), Cond.methodLink RX3 54 yX3_isInput, Cond.instanceMethod yX3_isInput, Cond.selects RX3 yX3_isInput yX3_isInput, Cond.code yX3_isInput cX3_isInput 2 (some .boolean), Cond.methodLink RX3 73 yX3_growDefinite, Cond.instanceMethod yX3_growDefinite, Cond.selects RX3 yX3_growDefinite yX3_growDefinite, Cond.code yX3_growDefinite cX3_growDefinite 6 (some .boolean), Cond.methodLink RX3 67 yX3_signal, Cond.instanceMethod yX3_signal]
def wsX3_settledValue_r3 : List Cond := [Cond.selects RX3 yX3_signal yX3_signal, Cond.code yX3_signal cX3_signal 2 (some .int), Cond.methodLink RX3 70 yX3_lesser, Cond.static yX3_lesser, Cond.code yX3_lesser cX3_lesser 2 (some .int), Cond.methodLink RX3 83 yX3_layStrength, Cond.instanceMethod yX3_layStrength, Cond.selects RX3 yX3_layStrength yX3_layStrength, Cond.code yX3_layStrength cX3_layStrength 6 none, Cond.methodLink RX3 76 yX3_grow, Cond.instanceMethod yX3_grow, Cond.selects RX3 yX3_grow yX3_grow, Cond.code yX3_grow cX3_grow 7 (some .boolean), Cond.methodLink RX3 90 yX3_steady, Cond.instanceMethod yX3_steady, Cond.selects RX3 yX3_steady yX3_steady, Cond.code yX3_steady cX3_steady 2 (some .int), Cond.methodLink RX3 108 yX3_putBack, Cond.instanceMethod yX3_putBack, Cond.selects RX3 yX3_putBack yX3_putBack, Cond.code yX3_putBack cX3_putBack 2 none, Cond.fieldLink RX3 32 "SwitchLevelSimulatorModel" "before" "[I"]
def wsX3_settledValue : List Cond := .code yX3_settledValue cX3_settledValue 5 (some .int) :: ((wsX3_settledValue_r1 ++ (wsX3_settledValue_r2 ++ wsX3_settledValue_r3)) ++ wsX30)
def wsX3_isDetected_r1 : List Cond := [Cond.fieldLink RX3 7 "SwitchLevelSimulatorModel" "state" "[I", Cond.methodLink RX3 111 yX3_settledValue, Cond.instanceMethod yX3_settledValue, Cond.selects RX3 yX3_settledValue yX3_settledValue, Cond.initialized RX3, Cond.code yX3_settledValue cX3_settledValue 5 (some .int), Cond.methodLink RX3 102 yX3_settleNow, Cond.instanceMethod yX3_settleNow, Cond.selects RX3 yX3_settleNow yX3_settleNow, Cond.code yX3_settleNow cX3_settleNow 3 (some .int), Cond.methodLink RX3 96 yX3_stepNow, Cond.instanceMethod yX3_stepNow, Cond.selects RX3 yX3_stepNow yX3_stepNow, Cond.code yX3_stepNow cX3_stepNow 3 (some .int), Cond.methodLink RX3 93 yX3_activeNow, Cond.instanceMethod yX3_activeNow, Cond.selects RX3 yX3_activeNow yX3_activeNow, Cond.code yX3_activeNow cX3_activeNow 3 (some .int), Cond.methodLink RX3 87 yX3_layAll, Cond.instanceMethod yX3_layAll, Cond.selects RX3 yX3_layAll yX3_layAll, Cond.code yX3_layAll cX3_layAll 2 none, Cond.fieldLink RX3 29 "SwitchLevelSimulatorModel" "states" "[I", Cond.fieldLink RX3 23 "SwitchLevelSimulatorModel" "up" "[I"]
def wsX3_isDetected_r2 : List Cond := [Cond.fieldLink RX3 26 "SwitchLevelSimulatorModel" "down" "[I", Cond.methodLink RX3 43 yX3_many, Cond.instanceMethod yX3_many, Cond.selects RX3 yX3_many yX3_many, Cond.code yX3_many cX3_many 1 (some .int), Cond.methodLink RX3 64 yX3_stateOf, Cond.instanceMethod yX3_stateOf, Cond.selects RX3 yX3_stateOf yX3_stateOf, Cond.code yX3_stateOf cX3_stateOf 4 (some .int), Cond.methodLink RX3 80 yX3_layDefinite, Cond.instanceMethod yX3_layDefinite, Cond.selects RX3 yX3_layDefinite yX3_layDefinite, Cond.code yX3_layDefinite cX3_layDefinite 3 none, Cond.fieldLink RX3 20 "SwitchLevelSimulatorModel" "definite" "[I", Cond.methodLink RX3 35 yX3_nodes, Cond.instanceMethod yX3_nodes, Cond.selects RX3 yX3_nodes yX3_nodes, Cond.code yX3_nodes cX3_nodes 1 (some .int), Cond.methodLink RX3 54 yX3_isInput, Cond.instanceMethod yX3_isInput, Cond.selects RX3 yX3_isInput yX3_isInput, Cond.code yX3_isInput cX3_isInput 2 (some .boolean), Cond.methodLink RX3 73 yX3_growDefinite, Cond.instanceMethod yX3_growDefinite]
def wsX3_isDetected_r3 : List Cond := [Cond.selects RX3 yX3_growDefinite yX3_growDefinite, Cond.code yX3_growDefinite cX3_growDefinite 6 (some .boolean), Cond.methodLink RX3 67 yX3_signal, Cond.instanceMethod yX3_signal, Cond.selects RX3 yX3_signal yX3_signal, Cond.code yX3_signal cX3_signal 2 (some .int), Cond.methodLink RX3 70 yX3_lesser, Cond.static yX3_lesser, Cond.code yX3_lesser cX3_lesser 2 (some .int), Cond.methodLink RX3 83 yX3_layStrength, Cond.instanceMethod yX3_layStrength, Cond.selects RX3 yX3_layStrength yX3_layStrength, Cond.code yX3_layStrength cX3_layStrength 6 none, Cond.methodLink RX3 76 yX3_grow, Cond.instanceMethod yX3_grow, Cond.selects RX3 yX3_grow yX3_grow, Cond.code yX3_grow cX3_grow 7 (some .boolean), Cond.methodLink RX3 90 yX3_steady, Cond.instanceMethod yX3_steady, Cond.selects RX3 yX3_steady yX3_steady, Cond.code yX3_steady cX3_steady 2 (some .int), Cond.methodLink RX3 108 yX3_putBack, Cond.instanceMethod yX3_putBack, Cond.selects RX3 yX3_putBack yX3_putBack]
def wsX3_isDetected_r4 : List Cond := [Cond.code yX3_putBack cX3_putBack 2 none, Cond.fieldLink RX3 32 "SwitchLevelSimulatorModel" "before" "[I"]
def wsX3_isDetected : List Cond := .code yX3_isDetected cX3_isDetected 7 (some .boolean) :: ((wsX3_isDetected_r1 ++ (wsX3_isDetected_r2 ++ (wsX3_isDetected_r3 ++ wsX3_isDetected_r4))) ++ wsX30)
def wsX3_detects_r1 : List Cond := [Cond.methodLink RX3 61 yX3_isTransistor, Cond.instanceMethod yX3_isTransistor, Cond.selects RX3 yX3_isTransistor yX3_isTransistor, Cond.initialized RX3, Cond.code yX3_isTransistor cX3_isTransistor 2 (some .boolean), Cond.methodLink RX3 43 yX3_many, Cond.instanceMethod yX3_many, Cond.selects RX3 yX3_many yX3_many, Cond.code yX3_many cX3_many 1 (some .int), Cond.fieldLink RX3 7 "SwitchLevelSimulatorModel" "state" "[I", Cond.methodLink RX3 39 yX3_in, Cond.static yX3_in, Cond.code yX3_in cX3_in 3 (some .boolean), Cond.methodLink RX3 50 yX3_isNode, Cond.instanceMethod yX3_isNode, Cond.selects RX3 yX3_isNode yX3_isNode, Cond.code yX3_isNode cX3_isNode 2 (some .boolean), Cond.methodLink RX3 35 yX3_nodes, Cond.instanceMethod yX3_nodes, Cond.selects RX3 yX3_nodes yX3_nodes, Cond.code yX3_nodes cX3_nodes 1 (some .int), Cond.methodLink RX3 99 yX3_isLimit, Cond.static yX3_isLimit, Cond.code yX3_isLimit cX3_isLimit 1 (some .boolean)]
def wsX3_detects_r2 : List Cond := [Cond.methodLink RX3 105 yX3_keep, Cond.instanceMethod yX3_keep, Cond.selects RX3 yX3_keep yX3_keep, Cond.code yX3_keep cX3_keep 2 none, Cond.fieldLink RX3 32 "SwitchLevelSimulatorModel" "before" "[I", Cond.methodLink RX3 111 yX3_settledValue, Cond.instanceMethod yX3_settledValue, Cond.selects RX3 yX3_settledValue yX3_settledValue, Cond.code yX3_settledValue cX3_settledValue 5 (some .int), Cond.methodLink RX3 102 yX3_settleNow, Cond.instanceMethod yX3_settleNow, Cond.selects RX3 yX3_settleNow yX3_settleNow, Cond.code yX3_settleNow cX3_settleNow 3 (some .int), Cond.methodLink RX3 96 yX3_stepNow, Cond.instanceMethod yX3_stepNow, Cond.selects RX3 yX3_stepNow yX3_stepNow, Cond.code yX3_stepNow cX3_stepNow 3 (some .int), Cond.methodLink RX3 93 yX3_activeNow, Cond.instanceMethod yX3_activeNow, Cond.selects RX3 yX3_activeNow yX3_activeNow, Cond.code yX3_activeNow cX3_activeNow 3 (some .int), Cond.methodLink RX3 87 yX3_layAll, Cond.instanceMethod yX3_layAll, Cond.selects RX3 yX3_layAll yX3_layAll]
def wsX3_detects_r3 : List Cond := [Cond.code yX3_layAll cX3_layAll 2 none, Cond.fieldLink RX3 29 "SwitchLevelSimulatorModel" "states" "[I", Cond.fieldLink RX3 23 "SwitchLevelSimulatorModel" "up" "[I", Cond.fieldLink RX3 26 "SwitchLevelSimulatorModel" "down" "[I", Cond.methodLink RX3 64 yX3_stateOf, Cond.instanceMethod yX3_stateOf, Cond.selects RX3 yX3_stateOf yX3_stateOf, Cond.code yX3_stateOf cX3_stateOf 4 (some .int), Cond.methodLink RX3 80 yX3_layDefinite, Cond.instanceMethod yX3_layDefinite, Cond.selects RX3 yX3_layDefinite yX3_layDefinite, Cond.code yX3_layDefinite cX3_layDefinite 3 none, Cond.fieldLink RX3 20 "SwitchLevelSimulatorModel" "definite" "[I", Cond.methodLink RX3 54 yX3_isInput, Cond.instanceMethod yX3_isInput, Cond.selects RX3 yX3_isInput yX3_isInput, Cond.code yX3_isInput cX3_isInput 2 (some .boolean), Cond.methodLink RX3 73 yX3_growDefinite, Cond.instanceMethod yX3_growDefinite, Cond.selects RX3 yX3_growDefinite yX3_growDefinite, Cond.code yX3_growDefinite cX3_growDefinite 6 (some .boolean), Cond.methodLink RX3 67 yX3_signal, Cond.instanceMethod yX3_signal, Cond.selects RX3 yX3_signal yX3_signal]
def wsX3_detects_r4 : List Cond := [Cond.code yX3_signal cX3_signal 2 (some .int), Cond.methodLink RX3 70 yX3_lesser, Cond.static yX3_lesser, Cond.code yX3_lesser cX3_lesser 2 (some .int), Cond.methodLink RX3 83 yX3_layStrength, Cond.instanceMethod yX3_layStrength, Cond.selects RX3 yX3_layStrength yX3_layStrength, Cond.code yX3_layStrength cX3_layStrength 6 none, Cond.methodLink RX3 76 yX3_grow, Cond.instanceMethod yX3_grow, Cond.selects RX3 yX3_grow yX3_grow, Cond.code yX3_grow cX3_grow 7 (some .boolean), Cond.methodLink RX3 90 yX3_steady, Cond.instanceMethod yX3_steady, Cond.selects RX3 yX3_steady yX3_steady, Cond.code yX3_steady cX3_steady 2 (some .int), Cond.methodLink RX3 108 yX3_putBack, Cond.instanceMethod yX3_putBack, Cond.selects RX3 yX3_putBack yX3_putBack, Cond.code yX3_putBack cX3_putBack 2 none, Cond.methodLink RX3 114 yX3_isDetected, Cond.instanceMethod yX3_isDetected, Cond.selects RX3 yX3_isDetected yX3_isDetected, Cond.code yX3_isDetected cX3_isDetected 7 (some .boolean)]
def wsX3_detects : List Cond := .code yX3_detects cX3_detects 6 (some .int) :: ((wsX3_detects_r1 ++ (wsX3_detects_r2 ++ (wsX3_detects_r3 ++ wsX3_detects_r4))) ++ wsX30)
def wsX3_detectedFaults_r1 : List Cond := [Cond.methodLink RX3 50 yX3_isNode, Cond.instanceMethod yX3_isNode, Cond.selects RX3 yX3_isNode yX3_isNode, Cond.initialized RX3, Cond.code yX3_isNode cX3_isNode 2 (some .boolean), Cond.methodLink RX3 35 yX3_nodes, Cond.instanceMethod yX3_nodes, Cond.selects RX3 yX3_nodes yX3_nodes, Cond.code yX3_nodes cX3_nodes 1 (some .int), Cond.fieldLink RX3 7 "SwitchLevelSimulatorModel" "state" "[I", Cond.methodLink RX3 39 yX3_in, Cond.static yX3_in, Cond.code yX3_in cX3_in 3 (some .boolean), Cond.methodLink RX3 99 yX3_isLimit, Cond.static yX3_isLimit, Cond.code yX3_isLimit cX3_isLimit 1 (some .boolean), Cond.methodLink RX3 105 yX3_keep, Cond.instanceMethod yX3_keep, Cond.selects RX3 yX3_keep yX3_keep, Cond.code yX3_keep cX3_keep 2 none, Cond.fieldLink RX3 32 "SwitchLevelSimulatorModel" "before" "[I", Cond.methodLink RX3 111 yX3_settledValue, Cond.instanceMethod yX3_settledValue, Cond.selects RX3 yX3_settledValue yX3_settledValue]
def wsX3_detectedFaults_r2 : List Cond := [Cond.code yX3_settledValue cX3_settledValue 5 (some .int), Cond.methodLink RX3 102 yX3_settleNow, Cond.instanceMethod yX3_settleNow, Cond.selects RX3 yX3_settleNow yX3_settleNow, Cond.code yX3_settleNow cX3_settleNow 3 (some .int), Cond.methodLink RX3 96 yX3_stepNow, Cond.instanceMethod yX3_stepNow, Cond.selects RX3 yX3_stepNow yX3_stepNow, Cond.code yX3_stepNow cX3_stepNow 3 (some .int), Cond.methodLink RX3 93 yX3_activeNow, Cond.instanceMethod yX3_activeNow, Cond.selects RX3 yX3_activeNow yX3_activeNow, Cond.code yX3_activeNow cX3_activeNow 3 (some .int), Cond.methodLink RX3 87 yX3_layAll, Cond.instanceMethod yX3_layAll, Cond.selects RX3 yX3_layAll yX3_layAll, Cond.code yX3_layAll cX3_layAll 2 none, Cond.fieldLink RX3 29 "SwitchLevelSimulatorModel" "states" "[I", Cond.fieldLink RX3 23 "SwitchLevelSimulatorModel" "up" "[I", Cond.fieldLink RX3 26 "SwitchLevelSimulatorModel" "down" "[I", Cond.methodLink RX3 43 yX3_many, Cond.instanceMethod yX3_many, Cond.selects RX3 yX3_many yX3_many, Cond.code yX3_many cX3_many 1 (some .int)]
def wsX3_detectedFaults_r3 : List Cond := [Cond.methodLink RX3 64 yX3_stateOf, Cond.instanceMethod yX3_stateOf, Cond.selects RX3 yX3_stateOf yX3_stateOf, Cond.code yX3_stateOf cX3_stateOf 4 (some .int), Cond.methodLink RX3 80 yX3_layDefinite, Cond.instanceMethod yX3_layDefinite, Cond.selects RX3 yX3_layDefinite yX3_layDefinite, Cond.code yX3_layDefinite cX3_layDefinite 3 none, Cond.fieldLink RX3 20 "SwitchLevelSimulatorModel" "definite" "[I", Cond.methodLink RX3 54 yX3_isInput, Cond.instanceMethod yX3_isInput, Cond.selects RX3 yX3_isInput yX3_isInput, Cond.code yX3_isInput cX3_isInput 2 (some .boolean), Cond.methodLink RX3 73 yX3_growDefinite, Cond.instanceMethod yX3_growDefinite, Cond.selects RX3 yX3_growDefinite yX3_growDefinite, Cond.code yX3_growDefinite cX3_growDefinite 6 (some .boolean), Cond.methodLink RX3 67 yX3_signal, Cond.instanceMethod yX3_signal, Cond.selects RX3 yX3_signal yX3_signal, Cond.code yX3_signal cX3_signal 2 (some .int), Cond.methodLink RX3 70 yX3_lesser, Cond.static yX3_lesser, Cond.code yX3_lesser cX3_lesser 2 (some .int)]
def wsX3_detectedFaults_r4 : List Cond := [Cond.methodLink RX3 83 yX3_layStrength, Cond.instanceMethod yX3_layStrength, Cond.selects RX3 yX3_layStrength yX3_layStrength, Cond.code yX3_layStrength cX3_layStrength 6 none, Cond.methodLink RX3 76 yX3_grow, Cond.instanceMethod yX3_grow, Cond.selects RX3 yX3_grow yX3_grow, Cond.code yX3_grow cX3_grow 7 (some .boolean), Cond.methodLink RX3 90 yX3_steady, Cond.instanceMethod yX3_steady, Cond.selects RX3 yX3_steady yX3_steady, Cond.code yX3_steady cX3_steady 2 (some .int), Cond.methodLink RX3 108 yX3_putBack, Cond.instanceMethod yX3_putBack, Cond.selects RX3 yX3_putBack yX3_putBack, Cond.code yX3_putBack cX3_putBack 2 none, Cond.methodLink RX3 114 yX3_isDetected, Cond.instanceMethod yX3_isDetected, Cond.selects RX3 yX3_isDetected yX3_isDetected, Cond.code yX3_isDetected cX3_isDetected 7 (some .boolean)]
def wsX3_detectedFaults : List Cond := .code yX3_detectedFaults cX3_detectedFaults 6 (some .int) :: ((wsX3_detectedFaults_r1 ++ (wsX3_detectedFaults_r2 ++ (wsX3_detectedFaults_r3 ++ wsX3_detectedFaults_r4))) ++ wsX30)
def wsX3_save : List Cond := .code yX3_save cX3_save 3 (some .int) :: ([.fieldLink RX3 13 "SwitchLevelSimulatorModel" "slots" "[I", .fieldLink RX3 7 "SwitchLevelSimulatorModel" "state" "[I", .fieldLink RX3 16 "SwitchLevelSimulatorModel" "isSaved" "[Z", .methodLink RX3 39 yX3_in, .static yX3_in, .initialized RX3, .code yX3_in cX3_in 3 (some .boolean), .methodLink RX3 35 yX3_nodes, .instanceMethod yX3_nodes, .selects RX3 yX3_nodes yX3_nodes, .code yX3_nodes cX3_nodes 1 (some .int)] ++ wsX30)
def wsX3_restore : List Cond := .code yX3_restore cX3_restore 3 (some .int) :: ([.fieldLink RX3 16 "SwitchLevelSimulatorModel" "isSaved" "[Z", .fieldLink RX3 7 "SwitchLevelSimulatorModel" "state" "[I", .fieldLink RX3 13 "SwitchLevelSimulatorModel" "slots" "[I", .methodLink RX3 39 yX3_in, .static yX3_in, .initialized RX3, .code yX3_in cX3_in 3 (some .boolean), .methodLink RX3 35 yX3_nodes, .instanceMethod yX3_nodes, .selects RX3 yX3_nodes yX3_nodes, .code yX3_nodes cX3_nodes 1 (some .int)] ++ wsX30)
def wsJ9_max_7cf53 : List Cond := .code yJ9_max_7cf53 cJ9_max_7cf53 2 (some .int) :: ([])
def wsL_law_r1 : List Cond := [Cond.classLink RL 7 RX2, Cond.instantiable RX2 4, Cond.initialized RX2, Cond.classLink RL 10 RX3, Cond.instantiable RX3 8, Cond.initialized RX3, Cond.methodLink RL 9 yX2_init, Cond.instanceMethod yX2_init, Cond.code yX2_init cX2_init 1 none, Cond.methodLink RX2 1 objectInit, Cond.instanceMethod objectInit, Cond.code objectInit ⟨#[0xb1]⟩ 1 none, Cond.classLink RX2 7 RX0, Cond.instantiable RX0 13, Cond.initialized RX0, Cond.fieldLink RX2 10 "SwitchLevelSimulator" "circuit" "LSwitchLevelSimulator$Circuit;", Cond.fieldLink RX2 16 "SwitchLevelSimulator" "trial" "LSwitchLevelSimulator$Circuit;", Cond.fieldLink RX2 19 "SwitchLevelSimulator" "slots" "[LSwitchLevelSimulator$Circuit;", Cond.classLink RX2 23 RX1, Cond.instantiable RX1 5, Cond.initialized RX1, Cond.fieldLink RX2 26 "SwitchLevelSimulator" "steady" "LSwitchLevelSimulator$SteadyState;", Cond.instanceMethod yX0_init, Cond.code yX0_init cX0_init 1 none]
def wsL_law_r2 : List Cond := [Cond.methodLink RX0 3 objectInit, Cond.arrayClass .int, Cond.fieldLink RX0 9 "SwitchLevelSimulator$Circuit" "sizedAtLeast" "[I", Cond.fieldLink RX0 15 "SwitchLevelSimulator$Circuit" "types" "[I", Cond.fieldLink RX0 18 "SwitchLevelSimulator$Circuit" "strengths" "[I", Cond.fieldLink RX0 21 "SwitchLevelSimulator$Circuit" "gates" "[I", Cond.fieldLink RX0 24 "SwitchLevelSimulator$Circuit" "ones" "[I", Cond.fieldLink RX0 27 "SwitchLevelSimulator$Circuit" "others" "[I", Cond.fieldLink RX0 30 "SwitchLevelSimulator$Circuit" "faults" "[I", Cond.instanceMethod yX1_init, Cond.code yX1_init cX1_init 1 none, Cond.methodLink RX1 3 objectInit, Cond.fieldLink RX1 9 "SwitchLevelSimulator$SteadyState" "definite" "[I", Cond.fieldLink RX1 15 "SwitchLevelSimulator$SteadyState" "up" "[I", Cond.fieldLink RX1 18 "SwitchLevelSimulator$SteadyState" "down" "[I", Cond.classLink RX1 21 "[[I", Cond.fieldLink RX1 23 "SwitchLevelSimulator$SteadyState" "byClosed" "[[I", Cond.fieldLink RX1 26 "SwitchLevelSimulator$SteadyState" "byNotOpen" "[[I", Cond.methodLink RL 12 yX3_init, Cond.instanceMethod yX3_init, Cond.code yX3_init cX3_init 1 none, Cond.methodLink RX3 1 objectInit, Cond.fieldLink RX3 7 "SwitchLevelSimulatorModel" "state" "[I", Cond.fieldLink RX3 13 "SwitchLevelSimulatorModel" "slots" "[I"]
def wsL_law_r3 : List Cond := [Cond.arrayClass .boolean, Cond.fieldLink RX3 16 "SwitchLevelSimulatorModel" "isSaved" "[Z", Cond.fieldLink RX3 20 "SwitchLevelSimulatorModel" "definite" "[I", Cond.fieldLink RX3 23 "SwitchLevelSimulatorModel" "up" "[I", Cond.fieldLink RX3 26 "SwitchLevelSimulatorModel" "down" "[I", Cond.fieldLink RX3 29 "SwitchLevelSimulatorModel" "states" "[I", Cond.fieldLink RX3 32 "SwitchLevelSimulatorModel" "before" "[I", Cond.methodLink RL 13 yX2_addInput, Cond.instanceMethod yX2_addInput, Cond.selects RX2 yX2_addInput yX2_addInput, Cond.code yX2_addInput cX2_addInput 1 (some .int), Cond.fieldLink RX2 30 "SwitchLevelSimulator$Circuit" "nodeTotal" "I", Cond.methodLink RX2 34 yX0_appendInput, Cond.instanceMethod yX0_appendInput, Cond.selects RX0 yX0_appendInput yX0_appendInput, Cond.code yX0_appendInput cX0_appendInput 1 (some .int), Cond.fieldLink RX0 40 "SwitchLevelSimulator$Circuit" "inputNodes" "I", Cond.fieldLink RX0 33 "SwitchLevelSimulator$Circuit" "nodeTotal" "I", Cond.methodLink RX0 43 yX0_appendUnknownNode, Cond.instanceMethod yX0_appendUnknownNode, Cond.selects RX0 yX0_appendUnknownNode yX0_appendUnknownNode, Cond.code yX0_appendUnknownNode cX0_appendUnknownNode 2 (some .int), Cond.methodLink RX0 50 yX0_putValue, Cond.instanceMethod yX0_putValue]
def wsL_law_r4 : List Cond := [Cond.selects RX0 yX0_putValue yX0_putValue, Cond.code yX0_putValue cX0_putValue 4 none, Cond.fieldLink RX0 54 "SwitchLevelSimulator$Circuit" "mayBeZero" "I", Cond.fieldLink RX0 57 "SwitchLevelSimulator$Circuit" "mayBeOne" "I", Cond.methodLink RL 17 yX3_addInput, Cond.instanceMethod yX3_addInput, Cond.selects RX3 yX3_addInput yX3_addInput, Cond.code yX3_addInput cX3_addInput 1 (some .int), Cond.methodLink RX3 35 yX3_nodes, Cond.instanceMethod yX3_nodes, Cond.selects RX3 yX3_nodes yX3_nodes, Cond.code yX3_nodes cX3_nodes 1 (some .int), Cond.methodLink RX3 46 yX3_addNode, Cond.instanceMethod yX3_addNode, Cond.selects RX3 yX3_addNode yX3_addNode, Cond.code yX3_addNode cX3_addNode 3 (some .int), Cond.methodLink RL 18 yX2_addStorage, Cond.instanceMethod yX2_addStorage, Cond.selects RX2 yX2_addStorage yX2_addStorage, Cond.code yX2_addStorage cX2_addStorage 2 (some .int), Cond.methodLink RX2 38 yX2_isWithin, Cond.static yX2_isWithin, Cond.code yX2_isWithin cX2_isWithin 3 (some .boolean), Cond.methodLink RX2 42 yX0_appendStorage]
def wsL_law_r5 : List Cond := [Cond.instanceMethod yX0_appendStorage, Cond.selects RX0 yX0_appendStorage yX0_appendStorage, Cond.code yX0_appendStorage cX0_appendStorage 3 (some .int), Cond.fieldLink RX0 47 "SwitchLevelSimulator$Circuit" "storageNodes" "I", Cond.methodLink RL 22 yX3_addStorage, Cond.instanceMethod yX3_addStorage, Cond.selects RX3 yX3_addStorage yX3_addStorage, Cond.code yX3_addStorage cX3_addStorage 2 (some .int), Cond.methodLink RX3 39 yX3_in, Cond.static yX3_in, Cond.code yX3_in cX3_in 3 (some .boolean), Cond.methodLink RL 23 yX2_addTransistor, Cond.instanceMethod yX2_addTransistor, Cond.selects RX2 yX2_addTransistor yX2_addTransistor, Cond.code yX2_addTransistor cX2_addTransistor 6 (some .int), Cond.fieldLink RX2 50 "SwitchLevelSimulator$Circuit" "transistorTotal" "I", Cond.methodLink RX2 46 yX0_hasNode, Cond.instanceMethod yX0_hasNode, Cond.selects RX0 yX0_hasNode yX0_hasNode, Cond.code yX0_hasNode cX0_hasNode 2 (some .boolean), Cond.methodLink RX2 53 yX0_appendTransistor, Cond.instanceMethod yX0_appendTransistor, Cond.selects RX0 yX0_appendTransistor yX0_appendTransistor, Cond.code yX0_appendTransistor cX0_appendTransistor 7 (some .int)]
def wsL_law_r6 : List Cond := [Cond.fieldLink RX0 37 "SwitchLevelSimulator$Circuit" "transistorTotal" "I", Cond.methodLink RL 27 yX3_addTransistor, Cond.instanceMethod yX3_addTransistor, Cond.selects RX3 yX3_addTransistor yX3_addTransistor, Cond.code yX3_addTransistor cX3_addTransistor 7 (some .int), Cond.methodLink RX3 50 yX3_isNode, Cond.instanceMethod yX3_isNode, Cond.selects RX3 yX3_isNode yX3_isNode, Cond.code yX3_isNode cX3_isNode 2 (some .boolean), Cond.methodLink RX3 43 yX3_many, Cond.instanceMethod yX3_many, Cond.selects RX3 yX3_many yX3_many, Cond.code yX3_many cX3_many 1 (some .int), Cond.methodLink RL 28 yX2_nodeCount, Cond.instanceMethod yX2_nodeCount, Cond.selects RX2 yX2_nodeCount yX2_nodeCount, Cond.code yX2_nodeCount cX2_nodeCount 1 (some .int), Cond.methodLink RL 31 yX3_nodeCount, Cond.instanceMethod yX3_nodeCount, Cond.selects RX3 yX3_nodeCount yX3_nodeCount, Cond.code yX3_nodeCount cX3_nodeCount 1 (some .int), Cond.methodLink RL 32 yX2_transistorCount, Cond.instanceMethod yX2_transistorCount, Cond.selects RX2 yX2_transistorCount yX2_transistorCount]
def wsL_law_r7 : List Cond := [Cond.code yX2_transistorCount cX2_transistorCount 1 (some .int), Cond.methodLink RL 35 yX3_transistorCount, Cond.instanceMethod yX3_transistorCount, Cond.selects RX3 yX3_transistorCount yX3_transistorCount, Cond.code yX3_transistorCount cX3_transistorCount 1 (some .int), Cond.methodLink RL 36 yX2_inputs, Cond.instanceMethod yX2_inputs, Cond.selects RX2 yX2_inputs yX2_inputs, Cond.code yX2_inputs cX2_inputs 1 (some .int), Cond.fieldLink RX2 57 "SwitchLevelSimulator$Circuit" "inputNodes" "I", Cond.methodLink RL 39 yX3_inputs, Cond.instanceMethod yX3_inputs, Cond.selects RX3 yX3_inputs yX3_inputs, Cond.code yX3_inputs cX3_inputs 3 (some .int), Cond.methodLink RX3 54 yX3_isInput, Cond.instanceMethod yX3_isInput, Cond.selects RX3 yX3_isInput yX3_isInput, Cond.code yX3_isInput cX3_isInput 2 (some .boolean), Cond.methodLink RL 40 yX2_setInput, Cond.instanceMethod yX2_setInput, Cond.selects RX2 yX2_setInput yX2_setInput, Cond.code yX2_setInput cX2_setInput 3 (some .int), Cond.methodLink RX2 60 yX2_replaceValue, Cond.instanceMethod yX2_replaceValue]
def wsL_law_r8 : List Cond := [Cond.selects RX2 yX2_replaceValue yX2_replaceValue, Cond.code yX2_replaceValue cX2_replaceValue 5 (some .int), Cond.methodLink RX2 102 yX0_isInput, Cond.instanceMethod yX0_isInput, Cond.selects RX0 yX0_isInput yX0_isInput, Cond.code yX0_isInput cX0_isInput 2 (some .boolean), Cond.methodLink RX2 70 yX2_isValue, Cond.static yX2_isValue, Cond.code yX2_isValue cX2_isValue 1 (some .boolean), Cond.methodLink RX2 67 yX0_valueOf, Cond.instanceMethod yX0_valueOf, Cond.selects RX0 yX0_valueOf yX0_valueOf, Cond.code yX0_valueOf cX0_valueOf 4 (some .int), Cond.methodLink RX2 141 yX0_putValue, Cond.methodLink RL 44 yX3_setInput, Cond.instanceMethod yX3_setInput, Cond.selects RX3 yX3_setInput yX3_setInput, Cond.code yX3_setInput cX3_setInput 3 (some .int), Cond.methodLink RX3 57 yX3_set, Cond.instanceMethod yX3_set, Cond.selects RX3 yX3_set yX3_set, Cond.code yX3_set cX3_set 4 (some .int), Cond.methodLink RL 45 yX2_setCharge, Cond.instanceMethod yX2_setCharge]
def wsL_law_r9 : List Cond := [Cond.selects RX2 yX2_setCharge yX2_setCharge, Cond.code yX2_setCharge cX2_setCharge 3 (some .int), Cond.methodLink RL 48 yX3_setCharge, Cond.instanceMethod yX3_setCharge, Cond.selects RX3 yX3_setCharge yX3_setCharge, Cond.code yX3_setCharge cX3_setCharge 3 (some .int), Cond.methodLink RL 49 yX2_forget, Cond.instanceMethod yX2_forget, Cond.selects RX2 yX2_forget yX2_forget, Cond.code yX2_forget cX2_forget 1 (some .int), Cond.methodLink RX2 64 yX0_forgetCharges, Cond.instanceMethod yX0_forgetCharges, Cond.selects RX0 yX0_forgetCharges yX0_forgetCharges, Cond.code yX0_forgetCharges cX0_forgetCharges 2 (some .int), Cond.methodLink RX0 60 yX0_nodesOfValue, Cond.instanceMethod yX0_nodesOfValue, Cond.selects RX0 yX0_nodesOfValue yX0_nodesOfValue, Cond.code yX0_nodesOfValue cX0_nodesOfValue 2 (some .int), Cond.methodLink RX0 64 yJ6_bitCount_0f7a4, Cond.static yJ6_bitCount_0f7a4, Cond.initialized RJ6, Cond.code yJ6_bitCount_0f7a4 cJ6_bitCount_0f7a4 1 (some .int), Cond.constant RJ6 265 (1431655765), Cond.constant RJ6 266 (858993459)]
def wsL_law_r10 : List Cond := [Cond.constant RJ6 267 (252645135), Cond.methodLink RL 52 yX3_forget, Cond.instanceMethod yX3_forget, Cond.selects RX3 yX3_forget yX3_forget, Cond.code yX3_forget cX3_forget 3 (some .int), Cond.methodLink RL 53 yX2_value, Cond.instanceMethod yX2_value, Cond.selects RX2 yX2_value yX2_value, Cond.code yX2_value cX2_value 2 (some .int), Cond.methodLink RL 56 yX3_value, Cond.instanceMethod yX3_value, Cond.selects RX3 yX3_value yX3_value, Cond.code yX3_value cX3_value 2 (some .int), Cond.methodLink RL 57 yX2_nodesWith, Cond.instanceMethod yX2_nodesWith, Cond.selects RX2 yX2_nodesWith yX2_nodesWith, Cond.code yX2_nodesWith cX2_nodesWith 2 (some .int), Cond.methodLink RX2 73 yX0_nodesOfValue, Cond.methodLink RL 60 yX3_nodesWith, Cond.instanceMethod yX3_nodesWith, Cond.selects RX3 yX3_nodesWith yX3_nodesWith, Cond.code yX3_nodesWith cX3_nodesWith 4 (some .int), Cond.methodLink RL 61 yX2_switchState, Cond.instanceMethod yX2_switchState]
def wsL_law_r11 : List Cond := [Cond.selects RX2 yX2_switchState yX2_switchState, Cond.code yX2_switchState cX2_switchState 2 (some .int), Cond.methodLink RX2 76 yX0_hasTransistor, Cond.instanceMethod yX0_hasTransistor, Cond.selects RX0 yX0_hasTransistor yX0_hasTransistor, Cond.code yX0_hasTransistor cX0_hasTransistor 2 (some .boolean), Cond.methodLink RX2 79 yX0_stateOf, Cond.instanceMethod yX0_stateOf, Cond.selects RX0 yX0_stateOf yX0_stateOf, Cond.code yX0_stateOf cX0_stateOf 4 (some .int), Cond.methodLink RX0 69 yX0_valueOf, Cond.methodLink RL 64 yX3_switchState, Cond.instanceMethod yX3_switchState, Cond.selects RX3 yX3_switchState yX3_switchState, Cond.code yX3_switchState cX3_switchState 2 (some .int), Cond.methodLink RX3 61 yX3_isTransistor, Cond.instanceMethod yX3_isTransistor, Cond.selects RX3 yX3_isTransistor yX3_isTransistor, Cond.code yX3_isTransistor cX3_isTransistor 2 (some .boolean), Cond.methodLink RX3 64 yX3_stateOf, Cond.instanceMethod yX3_stateOf, Cond.selects RX3 yX3_stateOf yX3_stateOf, Cond.code yX3_stateOf cX3_stateOf 4 (some .int), Cond.methodLink RL 65 yX2_definiteStrength]
def wsL_law_r12 : List Cond := [Cond.instanceMethod yX2_definiteStrength, Cond.selects RX2 yX2_definiteStrength yX2_definiteStrength, Cond.code yX2_definiteStrength cX2_definiteStrength 2 (some .int), Cond.methodLink RX2 82 yX1_find, Cond.instanceMethod yX1_find, Cond.selects RX1 yX1_find yX1_find, Cond.code yX1_find cX1_find 2 none, Cond.fieldLink RX1 36 "SwitchLevelSimulator$Circuit" "mayBeOne" "I", Cond.fieldLink RX1 46 "SwitchLevelSimulator$Circuit" "mayBeZero" "I", Cond.methodLink RX1 29 yX1_findNeighbors, Cond.instanceMethod yX1_findNeighbors, Cond.selects RX1 yX1_findNeighbors yX1_findNeighbors, Cond.code yX1_findNeighbors cX1_findNeighbors 4 none, Cond.fieldLink RX1 76 "SwitchLevelSimulator$Circuit" "nodeTotal" "I", Cond.fieldLink RX1 79 "SwitchLevelSimulator$Circuit" "transistorTotal" "I", Cond.methodLink RX1 82 yX0_stateOf, Cond.methodLink RX1 85 yX1_connect, Cond.static yX1_connect, Cond.code yX1_connect cX1_connect 6 none, Cond.fieldLink RX1 89 "SwitchLevelSimulator$Circuit" "ones" "[I", Cond.fieldLink RX1 92 "SwitchLevelSimulator$Circuit" "others" "[I", Cond.fieldLink RX1 95 "SwitchLevelSimulator$Circuit" "strengths" "[I", Cond.methodLink RX1 33 yX1_findDefinite, Cond.instanceMethod yX1_findDefinite]
def wsL_law_r13 : List Cond := [Cond.selects RX1 yX1_findDefinite yX1_findDefinite, Cond.code yX1_findDefinite cX1_findDefinite 4 none, Cond.fieldLink RX1 60 "SwitchLevelSimulator$Circuit" "inputNodes" "I", Cond.fieldLink RX1 63 "SwitchLevelSimulator$Circuit" "sizedAtLeast" "[I", Cond.fieldLink RX1 53 "SwitchLevelSimulator$Circuit" "storageNodes" "I", Cond.methodLink RX1 66 yX1_strengthPassing, Cond.static yX1_strengthPassing, Cond.code yX1_strengthPassing cX1_strengthPassing 1 (some .int), Cond.methodLink RX1 70 Lib.Math.max.name, Cond.static Lib.Math.max.name, Cond.initialized "java/lang/Math", Cond.code Lib.Math.max.name Lib.Math.max.code 2 (some .int), Cond.methodLink RX1 56 yX1_reach, Cond.static yX1_reach, Cond.code yX1_reach cX1_reach 8 (some .int), Cond.methodLink RX1 98 yJ6_numberOfTrailingZeros_0f7a4, Cond.static yJ6_numberOfTrailingZeros_0f7a4, Cond.code yJ6_numberOfTrailingZeros_0f7a4 cJ6_numberOfTrailingZeros_0f7a4 2 (some .int), Cond.constant RJ6 264 (65536), Cond.methodLink RX1 42 yX1_findSide, Cond.instanceMethod yX1_findSide, Cond.selects RX1 yX1_findSide yX1_findSide, Cond.code yX1_findSide cX1_findSide 7 none, Cond.methodLink RX2 86 yX1_definiteLevel]
def wsL_law_r14 : List Cond := [Cond.instanceMethod yX1_definiteLevel, Cond.selects RX1 yX1_definiteLevel yX1_definiteLevel, Cond.code yX1_definiteLevel cX1_definiteLevel 2 (some .int), Cond.methodLink RX1 49 yX1_levelIn, Cond.static yX1_levelIn, Cond.code yX1_levelIn cX1_levelIn 3 (some .int), Cond.methodLink RL 68 yX3_definiteStrength, Cond.instanceMethod yX3_definiteStrength, Cond.selects RX3 yX3_definiteStrength yX3_definiteStrength, Cond.code yX3_definiteStrength cX3_definiteStrength 2 (some .int), Cond.methodLink RX3 87 yX3_layAll, Cond.instanceMethod yX3_layAll, Cond.selects RX3 yX3_layAll yX3_layAll, Cond.code yX3_layAll cX3_layAll 2 none, Cond.methodLink RX3 80 yX3_layDefinite, Cond.instanceMethod yX3_layDefinite, Cond.selects RX3 yX3_layDefinite yX3_layDefinite, Cond.code yX3_layDefinite cX3_layDefinite 3 none, Cond.methodLink RX3 73 yX3_growDefinite, Cond.instanceMethod yX3_growDefinite, Cond.selects RX3 yX3_growDefinite yX3_growDefinite, Cond.code yX3_growDefinite cX3_growDefinite 6 (some .boolean), Cond.methodLink RX3 67 yX3_signal, Cond.instanceMethod yX3_signal]
def wsL_law_r15 : List Cond := [Cond.selects RX3 yX3_signal yX3_signal, Cond.code yX3_signal cX3_signal 2 (some .int), Cond.methodLink RX3 70 yX3_lesser, Cond.static yX3_lesser, Cond.code yX3_lesser cX3_lesser 2 (some .int), Cond.methodLink RX3 83 yX3_layStrength, Cond.instanceMethod yX3_layStrength, Cond.selects RX3 yX3_layStrength yX3_layStrength, Cond.code yX3_layStrength cX3_layStrength 6 none, Cond.methodLink RX3 76 yX3_grow, Cond.instanceMethod yX3_grow, Cond.selects RX3 yX3_grow yX3_grow, Cond.code yX3_grow cX3_grow 7 (some .boolean), Cond.methodLink RL 69 yX2_upStrength, Cond.instanceMethod yX2_upStrength, Cond.selects RX2 yX2_upStrength yX2_upStrength, Cond.code yX2_upStrength cX2_upStrength 2 (some .int), Cond.methodLink RX2 89 yX1_upLevel, Cond.instanceMethod yX1_upLevel, Cond.selects RX1 yX1_upLevel yX1_upLevel, Cond.code yX1_upLevel cX1_upLevel 2 (some .int), Cond.methodLink RL 72 yX3_upStrength, Cond.instanceMethod yX3_upStrength, Cond.selects RX3 yX3_upStrength yX3_upStrength]
def wsL_law_r16 : List Cond := [Cond.code yX3_upStrength cX3_upStrength 2 (some .int), Cond.methodLink RL 73 yX2_downStrength, Cond.instanceMethod yX2_downStrength, Cond.selects RX2 yX2_downStrength yX2_downStrength, Cond.code yX2_downStrength cX2_downStrength 2 (some .int), Cond.methodLink RX2 92 yX1_downLevel, Cond.instanceMethod yX1_downLevel, Cond.selects RX1 yX1_downLevel yX1_downLevel, Cond.code yX1_downLevel cX1_downLevel 2 (some .int), Cond.methodLink RL 76 yX3_downStrength, Cond.instanceMethod yX3_downStrength, Cond.selects RX3 yX3_downStrength yX3_downStrength, Cond.code yX3_downStrength cX3_downStrength 2 (some .int), Cond.methodLink RL 77 yX2_steadyValue, Cond.instanceMethod yX2_steadyValue, Cond.selects RX2 yX2_steadyValue yX2_steadyValue, Cond.code yX2_steadyValue cX2_steadyValue 2 (some .int), Cond.methodLink RX2 95 yX0_copyFrom, Cond.instanceMethod yX0_copyFrom, Cond.selects RX0 yX0_copyFrom yX0_copyFrom, Cond.code yX0_copyFrom cX0_copyFrom 2 none, Cond.methodLink RX0 80 arraycopyName, Cond.native arraycopyName, Cond.static arraycopyName]
def wsL_law_r17 : List Cond := [Cond.initialized "java/lang/System", Cond.methodLink RX2 98 yX2_advance, Cond.instanceMethod yX2_advance, Cond.selects RX2 yX2_advance yX2_advance, Cond.code yX2_advance cX2_advance 3 (some .int), Cond.methodLink RX2 116 yX1_changesOf, Cond.instanceMethod yX1_changesOf, Cond.selects RX1 yX1_changesOf yX1_changesOf, Cond.code yX1_changesOf cX1_changesOf 2 (some .int), Cond.methodLink RX2 145 yX1_putInto, Cond.instanceMethod yX1_putInto, Cond.selects RX1 yX1_putInto yX1_putInto, Cond.code yX1_putInto cX1_putInto 2 none, Cond.methodLink RL 80 yX3_steadyValue, Cond.instanceMethod yX3_steadyValue, Cond.selects RX3 yX3_steadyValue yX3_steadyValue, Cond.code yX3_steadyValue cX3_steadyValue 2 (some .int), Cond.methodLink RX3 90 yX3_steady, Cond.instanceMethod yX3_steady, Cond.selects RX3 yX3_steady yX3_steady, Cond.code yX3_steady cX3_steady 2 (some .int), Cond.methodLink RL 81 yX2_vicinity, Cond.instanceMethod yX2_vicinity, Cond.selects RX2 yX2_vicinity yX2_vicinity]
def wsL_law_r18 : List Cond := [Cond.code yX2_vicinity cX2_vicinity 2 (some .int), Cond.methodLink RX2 105 yX1_storageAround, Cond.instanceMethod yX1_storageAround, Cond.selects RX1 yX1_storageAround yX1_storageAround, Cond.code yX1_storageAround cX1_storageAround 3 (some .int), Cond.methodLink RL 84 yX3_vicinity, Cond.instanceMethod yX3_vicinity, Cond.selects RX3 yX3_vicinity yX3_vicinity, Cond.code yX3_vicinity cX3_vicinity 8 (some .int), Cond.methodLink RL 85 yX2_step, Cond.instanceMethod yX2_step, Cond.selects RX2 yX2_step yX2_step, Cond.code yX2_step cX2_step 1 (some .int), Cond.methodLink RL 88 yX3_step, Cond.instanceMethod yX3_step, Cond.selects RX3 yX3_step yX3_step, Cond.code yX3_step cX3_step 1 (some .int), Cond.methodLink RX3 96 yX3_stepNow, Cond.instanceMethod yX3_stepNow, Cond.selects RX3 yX3_stepNow yX3_stepNow, Cond.code yX3_stepNow cX3_stepNow 3 (some .int), Cond.methodLink RX3 93 yX3_activeNow, Cond.instanceMethod yX3_activeNow, Cond.selects RX3 yX3_activeNow yX3_activeNow]
def wsL_law_r19 : List Cond := [Cond.code yX3_activeNow cX3_activeNow 3 (some .int), Cond.methodLink RL 89 yX2_settle, Cond.instanceMethod yX2_settle, Cond.selects RX2 yX2_settle yX2_settle, Cond.code yX2_settle cX2_settle 2 (some .int), Cond.methodLink RX2 109 yX2_isLimit, Cond.static yX2_isLimit, Cond.code yX2_isLimit cX2_isLimit 1 (some .boolean), Cond.methodLink RX2 112 yX2_settleWithin, Cond.instanceMethod yX2_settleWithin, Cond.selects RX2 yX2_settleWithin yX2_settleWithin, Cond.code yX2_settleWithin cX2_settleWithin 4 (some .int), Cond.methodLink RL 92 yX3_settle, Cond.instanceMethod yX3_settle, Cond.selects RX3 yX3_settle yX3_settle, Cond.code yX3_settle cX3_settle 2 (some .int), Cond.methodLink RX3 99 yX3_isLimit, Cond.static yX3_isLimit, Cond.code yX3_isLimit cX3_isLimit 1 (some .boolean), Cond.methodLink RX3 102 yX3_settleNow, Cond.instanceMethod yX3_settleNow, Cond.selects RX3 yX3_settleNow yX3_settleNow, Cond.code yX3_settleNow cX3_settleNow 3 (some .int), Cond.methodLink RL 93 yX2_active]
def wsL_law_r20 : List Cond := [Cond.instanceMethod yX2_active, Cond.selects RX2 yX2_active yX2_active, Cond.code yX2_active cX2_active 1 (some .int), Cond.methodLink RL 96 yX3_active, Cond.instanceMethod yX3_active, Cond.selects RX3 yX3_active yX3_active, Cond.code yX3_active cX3_active 1 (some .int), Cond.methodLink RL 97 yX2_period, Cond.instanceMethod yX2_period, Cond.selects RX2 yX2_period yX2_period, Cond.code yX2_period cX2_period 3 (some .int), Cond.methodLink RX2 119 yX0_hasValuesOf, Cond.instanceMethod yX0_hasValuesOf, Cond.selects RX0 yX0_hasValuesOf yX0_hasValuesOf, Cond.code yX0_hasValuesOf cX0_hasValuesOf 2 (some .boolean), Cond.methodLink RL 100 yX3_period, Cond.instanceMethod yX3_period, Cond.selects RX3 yX3_period yX3_period, Cond.code yX3_period cX3_period 6 (some .int), Cond.methodLink RX3 105 yX3_keep, Cond.instanceMethod yX3_keep, Cond.selects RX3 yX3_keep yX3_keep, Cond.code yX3_keep cX3_keep 2 none, Cond.methodLink RX3 108 yX3_putBack]
def wsL_law_r21 : List Cond := [Cond.instanceMethod yX3_putBack, Cond.selects RX3 yX3_putBack yX3_putBack, Cond.code yX3_putBack cX3_putBack 2 none, Cond.methodLink RL 101 yX2_setFault, Cond.instanceMethod yX2_setFault, Cond.selects RX2 yX2_setFault yX2_setFault, Cond.code yX2_setFault cX2_setFault 3 (some .int), Cond.methodLink RX2 123 yX0_replaceFault, Cond.instanceMethod yX0_replaceFault, Cond.selects RX0 yX0_replaceFault yX0_replaceFault, Cond.code yX0_replaceFault cX0_replaceFault 4 (some .int), Cond.methodLink RL 104 yX3_setFault, Cond.instanceMethod yX3_setFault, Cond.selects RX3 yX3_setFault yX3_setFault, Cond.code yX3_setFault cX3_setFault 3 (some .int), Cond.methodLink RL 105 yX2_clearFaults, Cond.instanceMethod yX2_clearFaults, Cond.selects RX2 yX2_clearFaults yX2_clearFaults, Cond.code yX2_clearFaults cX2_clearFaults 1 (some .int), Cond.methodLink RX2 127 yX0_removeFaults, Cond.instanceMethod yX0_removeFaults, Cond.selects RX0 yX0_removeFaults yX0_removeFaults, Cond.code yX0_removeFaults cX0_removeFaults 3 (some .int), Cond.methodLink RX0 72 yX0_replaceFault]
def wsL_law_r22 : List Cond := [Cond.methodLink RL 108 yX3_clearFaults, Cond.instanceMethod yX3_clearFaults, Cond.selects RX3 yX3_clearFaults yX3_clearFaults, Cond.code yX3_clearFaults cX3_clearFaults 3 (some .int), Cond.methodLink RL 109 yX2_detects, Cond.instanceMethod yX2_detects, Cond.selects RX2 yX2_detects yX2_detects, Cond.code yX2_detects cX2_detects 7 (some .int), Cond.methodLink RX2 130 yX2_settledTrialValue, Cond.instanceMethod yX2_settledTrialValue, Cond.selects RX2 yX2_settledTrialValue yX2_settledTrialValue, Cond.code yX2_settledTrialValue cX2_settledTrialValue 3 (some .int), Cond.methodLink RX2 133 yX0_copyWithFault, Cond.instanceMethod yX0_copyWithFault, Cond.selects RX0 yX0_copyWithFault yX0_copyWithFault, Cond.code yX0_copyWithFault cX0_copyWithFault 4 none, Cond.methodLink RX0 76 yX0_copyFrom, Cond.methodLink RX2 137 yX2_areOpposite, Cond.static yX2_areOpposite, Cond.code yX2_areOpposite cX2_areOpposite 2 (some .boolean), Cond.methodLink RL 113 yX3_detects, Cond.instanceMethod yX3_detects, Cond.selects RX3 yX3_detects yX3_detects, Cond.code yX3_detects cX3_detects 6 (some .int)]
def wsL_law_r23 : List Cond := [Cond.methodLink RX3 111 yX3_settledValue, Cond.instanceMethod yX3_settledValue, Cond.selects RX3 yX3_settledValue yX3_settledValue, Cond.code yX3_settledValue cX3_settledValue 5 (some .int), Cond.methodLink RX3 114 yX3_isDetected, Cond.instanceMethod yX3_isDetected, Cond.selects RX3 yX3_isDetected yX3_isDetected, Cond.code yX3_isDetected cX3_isDetected 7 (some .boolean), Cond.methodLink RL 114 yX2_detectedFaults, Cond.instanceMethod yX2_detectedFaults, Cond.selects RX2 yX2_detectedFaults yX2_detectedFaults, Cond.code yX2_detectedFaults cX2_detectedFaults 7 (some .int), Cond.methodLink RL 117 yX3_detectedFaults, Cond.instanceMethod yX3_detectedFaults, Cond.selects RX3 yX3_detectedFaults yX3_detectedFaults, Cond.code yX3_detectedFaults cX3_detectedFaults 6 (some .int), Cond.methodLink RL 118 yX2_save, Cond.instanceMethod yX2_save, Cond.selects RX2 yX2_save yX2_save, Cond.code yX2_save cX2_save 3 (some .int), Cond.methodLink RL 121 yX3_save, Cond.instanceMethod yX3_save, Cond.selects RX3 yX3_save yX3_save, Cond.code yX3_save cX3_save 3 (some .int)]
def wsL_law_r24 : List Cond := [Cond.methodLink RL 122 yX2_restore, Cond.instanceMethod yX2_restore, Cond.selects RX2 yX2_restore yX2_restore, Cond.code yX2_restore cX2_restore 3 (some .int), Cond.methodLink RL 125 yX3_restore, Cond.instanceMethod yX3_restore, Cond.selects RX3 yX3_restore yX3_restore, Cond.code yX3_restore cX3_restore 3 (some .int)]
def wsL_law : List Cond := (wsL_law_r1 ++ (wsL_law_r2 ++ (wsL_law_r3 ++ (wsL_law_r4 ++ (wsL_law_r5 ++ (wsL_law_r6 ++ (wsL_law_r7 ++ (wsL_law_r8 ++ (wsL_law_r9 ++ (wsL_law_r10 ++ (wsL_law_r11 ++ (wsL_law_r12 ++ (wsL_law_r13 ++ (wsL_law_r14 ++ (wsL_law_r15 ++ (wsL_law_r16 ++ (wsL_law_r17 ++ (wsL_law_r18 ++ (wsL_law_r19 ++ (wsL_law_r20 ++ (wsL_law_r21 ++ (wsL_law_r22 ++ (wsL_law_r23 ++ wsL_law_r24))))))))))))))))))))))) ++ wsX20 ++ wsX30 ++ wsX00 ++ wsX10 ++ ([] : List Cond)
end
section
theorem dX0_init_0 : decode cX0_init 0 = .ok (.aload_n 0, 1) := by decide +kernel
theorem dX0_init_1 : decode cX0_init 1 = .ok (.invokespecial 3, 3) := by decide +kernel
theorem dX0_init_4 : decode cX0_init 4 = .ok (.aload_n 0, 1) := by decide +kernel
theorem dX0_init_5 : decode cX0_init 5 = .ok (.bipush 8, 2) := by decide +kernel
theorem dX0_init_7 : decode cX0_init 7 = .ok (.newarray .int, 2) := by decide +kernel
theorem dX0_init_9 : decode cX0_init 9 = .ok (.putfield 9, 3) := by decide +kernel
theorem dX0_init_12 : decode cX0_init 12 = .ok (.aload_n 0, 1) := by decide +kernel
theorem dX0_init_13 : decode cX0_init 13 = .ok (.bipush 40, 2) := by decide +kernel
theorem dX0_init_15 : decode cX0_init 15 = .ok (.newarray .int, 2) := by decide +kernel
theorem dX0_init_17 : decode cX0_init 17 = .ok (.putfield 15, 3) := by decide +kernel
theorem dX0_init_20 : decode cX0_init 20 = .ok (.aload_n 0, 1) := by decide +kernel
theorem dX0_init_21 : decode cX0_init 21 = .ok (.bipush 40, 2) := by decide +kernel
theorem dX0_init_23 : decode cX0_init 23 = .ok (.newarray .int, 2) := by decide +kernel
theorem dX0_init_25 : decode cX0_init 25 = .ok (.putfield 18, 3) := by decide +kernel
theorem dX0_init_28 : decode cX0_init 28 = .ok (.aload_n 0, 1) := by decide +kernel
theorem dX0_init_29 : decode cX0_init 29 = .ok (.bipush 40, 2) := by decide +kernel
theorem dX0_init_31 : decode cX0_init 31 = .ok (.newarray .int, 2) := by decide +kernel
theorem dX0_init_33 : decode cX0_init 33 = .ok (.putfield 21, 3) := by decide +kernel
theorem dX0_init_36 : decode cX0_init 36 = .ok (.aload_n 0, 1) := by decide +kernel
theorem dX0_init_37 : decode cX0_init 37 = .ok (.bipush 40, 2) := by decide +kernel
theorem dX0_init_39 : decode cX0_init 39 = .ok (.newarray .int, 2) := by decide +kernel
theorem dX0_init_41 : decode cX0_init 41 = .ok (.putfield 24, 3) := by decide +kernel
theorem dX0_init_44 : decode cX0_init 44 = .ok (.aload_n 0, 1) := by decide +kernel
theorem dX0_init_45 : decode cX0_init 45 = .ok (.bipush 40, 2) := by decide +kernel
theorem dX0_init_47 : decode cX0_init 47 = .ok (.newarray .int, 2) := by decide +kernel
theorem dX0_init_49 : decode cX0_init 49 = .ok (.putfield 27, 3) := by decide +kernel
theorem dX0_init_52 : decode cX0_init 52 = .ok (.aload_n 0, 1) := by decide +kernel
theorem dX0_init_53 : decode cX0_init 53 = .ok (.bipush 40, 2) := by decide +kernel
theorem dX0_init_55 : decode cX0_init 55 = .ok (.newarray .int, 2) := by decide +kernel
theorem dX0_init_57 : decode cX0_init 57 = .ok (.putfield 30, 3) := by decide +kernel
theorem dX0_init_60 : decode cX0_init 60 = .ok (.return_, 1) := by decide +kernel
theorem dX0_hasNode_0 : decode cX0_hasNode 0 = .ok (.iload_n 1, 1) := by decide +kernel
theorem dX0_hasNode_1 : decode cX0_hasNode 1 = .ok (.ifCond .lt 15, 3) := by decide +kernel
theorem dX0_hasNode_4 : decode cX0_hasNode 4 = .ok (.iload_n 1, 1) := by decide +kernel
theorem dX0_hasNode_5 : decode cX0_hasNode 5 = .ok (.aload_n 0, 1) := by decide +kernel
theorem dX0_hasNode_6 : decode cX0_hasNode 6 = .ok (.getfield 33, 3) := by decide +kernel
theorem dX0_hasNode_9 : decode cX0_hasNode 9 = .ok (.if_icmp .ge 7, 3) := by decide +kernel
theorem dX0_hasNode_12 : decode cX0_hasNode 12 = .ok (.iconst 1, 1) := by decide +kernel
theorem dX0_hasNode_13 : decode cX0_hasNode 13 = .ok (.goto 4, 3) := by decide +kernel
theorem dX0_hasNode_16 : decode cX0_hasNode 16 = .ok (.iconst 0, 1) := by decide +kernel
theorem dX0_hasNode_17 : decode cX0_hasNode 17 = .ok (.ireturn, 1) := by decide +kernel
theorem dX0_hasTransistor_0 : decode cX0_hasTransistor 0 = .ok (.iload_n 1, 1) := by decide +kernel
theorem dX0_hasTransistor_1 : decode cX0_hasTransistor 1 = .ok (.ifCond .lt 15, 3) := by decide +kernel
theorem dX0_hasTransistor_4 : decode cX0_hasTransistor 4 = .ok (.iload_n 1, 1) := by decide +kernel
theorem dX0_hasTransistor_5 : decode cX0_hasTransistor 5 = .ok (.aload_n 0, 1) := by decide +kernel
theorem dX0_hasTransistor_6 : decode cX0_hasTransistor 6 = .ok (.getfield 37, 3) := by decide +kernel
theorem dX0_hasTransistor_9 : decode cX0_hasTransistor 9 = .ok (.if_icmp .ge 7, 3) := by decide +kernel
theorem dX0_hasTransistor_12 : decode cX0_hasTransistor 12 = .ok (.iconst 1, 1) := by decide +kernel
theorem dX0_hasTransistor_13 : decode cX0_hasTransistor 13 = .ok (.goto 4, 3) := by decide +kernel
theorem dX0_hasTransistor_16 : decode cX0_hasTransistor 16 = .ok (.iconst 0, 1) := by decide +kernel
theorem dX0_hasTransistor_17 : decode cX0_hasTransistor 17 = .ok (.ireturn, 1) := by decide +kernel
theorem dX0_isInput_0 : decode cX0_isInput 0 = .ok (.aload_n 0, 1) := by decide +kernel
theorem dX0_isInput_1 : decode cX0_isInput 1 = .ok (.getfield 40, 3) := by decide +kernel
theorem dX0_isInput_4 : decode cX0_isInput 4 = .ok (.iconst 1, 1) := by decide +kernel
theorem dX0_isInput_5 : decode cX0_isInput 5 = .ok (.iload_n 1, 1) := by decide +kernel
theorem dX0_isInput_6 : decode cX0_isInput 6 = .ok (.ishl, 1) := by decide +kernel
theorem dX0_isInput_7 : decode cX0_isInput 7 = .ok (.iand, 1) := by decide +kernel
theorem dX0_isInput_8 : decode cX0_isInput 8 = .ok (.ifCond .eq 7, 3) := by decide +kernel
theorem dX0_isInput_11 : decode cX0_isInput 11 = .ok (.iconst 1, 1) := by decide +kernel
theorem dX0_isInput_12 : decode cX0_isInput 12 = .ok (.goto 4, 3) := by decide +kernel
theorem dX0_isInput_15 : decode cX0_isInput 15 = .ok (.iconst 0, 1) := by decide +kernel
theorem dX0_isInput_16 : decode cX0_isInput 16 = .ok (.ireturn, 1) := by decide +kernel
set_option maxRecDepth 20000 in
theorem ggX0_appendInput_X0_appendUnknownNode : GoodIn wsX0_appendInput wsX0_appendUnknownNode := goodIn_r _ [7, 2, 8, 9, 10, 6, 11, 12, 13, 14, 15, 16, 17, 18, 19, 20, 21, 22, 23, 24, 25, 26] (by decide +kernel) (by decide +kernel)
set_option maxRecDepth 20000 in
theorem gX0_appendInput_X0_appendUnknownNode : GoodIn wsX0_appendInput (wsV RX0 43 RX0 yX0_appendUnknownNode wsX0_appendUnknownNode) := goodIn_app (goodIn_of _ (by decide +kernel)) ggX0_appendInput_X0_appendUnknownNode
theorem dX0_appendInput_0 : decode cX0_appendInput 0 = .ok (.aload_n 0, 1) := by decide +kernel
theorem dX0_appendInput_1 : decode cX0_appendInput 1 = .ok (.dup, 1) := by decide +kernel
theorem dX0_appendInput_2 : decode cX0_appendInput 2 = .ok (.getfield 40, 3) := by decide +kernel
theorem dX0_appendInput_5 : decode cX0_appendInput 5 = .ok (.iconst 1, 1) := by decide +kernel
theorem dX0_appendInput_6 : decode cX0_appendInput 6 = .ok (.aload_n 0, 1) := by decide +kernel
theorem dX0_appendInput_7 : decode cX0_appendInput 7 = .ok (.getfield 33, 3) := by decide +kernel
theorem dX0_appendInput_10 : decode cX0_appendInput 10 = .ok (.ishl, 1) := by decide +kernel
theorem dX0_appendInput_11 : decode cX0_appendInput 11 = .ok (.ior, 1) := by decide +kernel
theorem dX0_appendInput_12 : decode cX0_appendInput 12 = .ok (.putfield 40, 3) := by decide +kernel
theorem dX0_appendInput_15 : decode cX0_appendInput 15 = .ok (.aload_n 0, 1) := by decide +kernel
theorem dX0_appendInput_16 : decode cX0_appendInput 16 = .ok (.invokevirtual 43, 3) := by decide +kernel
theorem dX0_appendInput_19 : decode cX0_appendInput 19 = .ok (.ireturn, 1) := by decide +kernel
set_option maxRecDepth 20000 in
theorem ggX0_appendStorage_X0_appendUnknownNode : GoodIn wsX0_appendStorage wsX0_appendUnknownNode := goodIn_r _ [8, 2, 9, 10, 11, 7, 12, 13, 14, 15, 16, 17, 18, 19, 20, 21, 22, 23, 24, 25, 26, 27] (by decide +kernel) (by decide +kernel)
set_option maxRecDepth 20000 in
theorem gX0_appendStorage_X0_appendUnknownNode : GoodIn wsX0_appendStorage (wsV RX0 43 RX0 yX0_appendUnknownNode wsX0_appendUnknownNode) := goodIn_app (goodIn_of _ (by decide +kernel)) ggX0_appendStorage_X0_appendUnknownNode
theorem dX0_appendStorage_0 : decode cX0_appendStorage 0 = .ok (.aload_n 0, 1) := by decide +kernel
theorem dX0_appendStorage_1 : decode cX0_appendStorage 1 = .ok (.dup, 1) := by decide +kernel
theorem dX0_appendStorage_2 : decode cX0_appendStorage 2 = .ok (.getfield 47, 3) := by decide +kernel
theorem dX0_appendStorage_5 : decode cX0_appendStorage 5 = .ok (.iconst 1, 1) := by decide +kernel
theorem dX0_appendStorage_6 : decode cX0_appendStorage 6 = .ok (.aload_n 0, 1) := by decide +kernel
theorem dX0_appendStorage_7 : decode cX0_appendStorage 7 = .ok (.getfield 33, 3) := by decide +kernel
theorem dX0_appendStorage_10 : decode cX0_appendStorage 10 = .ok (.ishl, 1) := by decide +kernel
theorem dX0_appendStorage_11 : decode cX0_appendStorage 11 = .ok (.ior, 1) := by decide +kernel
theorem dX0_appendStorage_12 : decode cX0_appendStorage 12 = .ok (.putfield 47, 3) := by decide +kernel
theorem dX0_appendStorage_15 : decode cX0_appendStorage 15 = .ok (.iconst 1, 1) := by decide +kernel
theorem dX0_appendStorage_16 : decode cX0_appendStorage 16 = .ok (.istore_n 2, 1) := by decide +kernel
theorem dX0_appendStorage_17 : decode cX0_appendStorage 17 = .ok (.iload_n 2, 1) := by decide +kernel
theorem dX0_appendStorage_18 : decode cX0_appendStorage 18 = .ok (.iload_n 1, 1) := by decide +kernel
theorem dX0_appendStorage_19 : decode cX0_appendStorage 19 = .ok (.if_icmp .gt 24, 3) := by decide +kernel
theorem dX0_appendStorage_22 : decode cX0_appendStorage 22 = .ok (.aload_n 0, 1) := by decide +kernel
theorem dX0_appendStorage_23 : decode cX0_appendStorage 23 = .ok (.getfield 9, 3) := by decide +kernel
theorem dX0_appendStorage_26 : decode cX0_appendStorage 26 = .ok (.iload_n 2, 1) := by decide +kernel
theorem dX0_appendStorage_27 : decode cX0_appendStorage 27 = .ok (.dup2, 1) := by decide +kernel
theorem dX0_appendStorage_28 : decode cX0_appendStorage 28 = .ok (.iaload, 1) := by decide +kernel
theorem dX0_appendStorage_29 : decode cX0_appendStorage 29 = .ok (.iconst 1, 1) := by decide +kernel
theorem dX0_appendStorage_30 : decode cX0_appendStorage 30 = .ok (.aload_n 0, 1) := by decide +kernel
theorem dX0_appendStorage_31 : decode cX0_appendStorage 31 = .ok (.getfield 33, 3) := by decide +kernel
theorem dX0_appendStorage_34 : decode cX0_appendStorage 34 = .ok (.ishl, 1) := by decide +kernel
theorem dX0_appendStorage_35 : decode cX0_appendStorage 35 = .ok (.ior, 1) := by decide +kernel
theorem dX0_appendStorage_36 : decode cX0_appendStorage 36 = .ok (.iastore, 1) := by decide +kernel
theorem dX0_appendStorage_37 : decode cX0_appendStorage 37 = .ok (.iinc 2 1, 3) := by decide +kernel
theorem dX0_appendStorage_40 : decode cX0_appendStorage 40 = .ok (.goto (-23), 3) := by decide +kernel
theorem dX0_appendStorage_43 : decode cX0_appendStorage 43 = .ok (.aload_n 0, 1) := by decide +kernel
theorem dX0_appendStorage_44 : decode cX0_appendStorage 44 = .ok (.invokevirtual 43, 3) := by decide +kernel
theorem dX0_appendStorage_47 : decode cX0_appendStorage 47 = .ok (.ireturn, 1) := by decide +kernel
set_option maxRecDepth 20000 in
theorem ggX0_appendUnknownNode_X0_putValue : GoodIn wsX0_appendUnknownNode wsX0_putValue := goodIn_r _ [6, 7, 8, 9, 10, 11, 12, 13, 14, 15, 16, 17, 18, 19, 20, 21] (by decide +kernel) (by decide +kernel)
set_option maxRecDepth 20000 in
theorem gX0_appendUnknownNode_X0_putValue : GoodIn wsX0_appendUnknownNode (wsV RX0 50 RX0 yX0_putValue wsX0_putValue) := goodIn_app (goodIn_of _ (by decide +kernel)) ggX0_appendUnknownNode_X0_putValue
theorem dX0_appendUnknownNode_0 : decode cX0_appendUnknownNode 0 = .ok (.aload_n 0, 1) := by decide +kernel
theorem dX0_appendUnknownNode_1 : decode cX0_appendUnknownNode 1 = .ok (.getfield 33, 3) := by decide +kernel
theorem dX0_appendUnknownNode_4 : decode cX0_appendUnknownNode 4 = .ok (.istore_n 1, 1) := by decide +kernel
theorem dX0_appendUnknownNode_5 : decode cX0_appendUnknownNode 5 = .ok (.aload_n 0, 1) := by decide +kernel
theorem dX0_appendUnknownNode_6 : decode cX0_appendUnknownNode 6 = .ok (.dup, 1) := by decide +kernel
theorem dX0_appendUnknownNode_7 : decode cX0_appendUnknownNode 7 = .ok (.getfield 33, 3) := by decide +kernel
theorem dX0_appendUnknownNode_10 : decode cX0_appendUnknownNode 10 = .ok (.iconst 1, 1) := by decide +kernel
theorem dX0_appendUnknownNode_11 : decode cX0_appendUnknownNode 11 = .ok (.iadd, 1) := by decide +kernel
theorem dX0_appendUnknownNode_12 : decode cX0_appendUnknownNode 12 = .ok (.putfield 33, 3) := by decide +kernel
theorem dX0_appendUnknownNode_15 : decode cX0_appendUnknownNode 15 = .ok (.aload_n 0, 1) := by decide +kernel
theorem dX0_appendUnknownNode_16 : decode cX0_appendUnknownNode 16 = .ok (.iload_n 1, 1) := by decide +kernel
theorem dX0_appendUnknownNode_17 : decode cX0_appendUnknownNode 17 = .ok (.iconst 2, 1) := by decide +kernel
theorem dX0_appendUnknownNode_18 : decode cX0_appendUnknownNode 18 = .ok (.invokevirtual 50, 3) := by decide +kernel
theorem dX0_appendUnknownNode_21 : decode cX0_appendUnknownNode 21 = .ok (.iload_n 1, 1) := by decide +kernel
theorem dX0_appendUnknownNode_22 : decode cX0_appendUnknownNode 22 = .ok (.ireturn, 1) := by decide +kernel
theorem dX0_appendTransistor_0 : decode cX0_appendTransistor 0 = .ok (.aload_n 0, 1) := by decide +kernel
theorem dX0_appendTransistor_1 : decode cX0_appendTransistor 1 = .ok (.getfield 37, 3) := by decide +kernel
theorem dX0_appendTransistor_4 : decode cX0_appendTransistor 4 = .ok (.istore 6, 2) := by decide +kernel
theorem dX0_appendTransistor_6 : decode cX0_appendTransistor 6 = .ok (.aload_n 0, 1) := by decide +kernel
theorem dX0_appendTransistor_7 : decode cX0_appendTransistor 7 = .ok (.dup, 1) := by decide +kernel
theorem dX0_appendTransistor_8 : decode cX0_appendTransistor 8 = .ok (.getfield 37, 3) := by decide +kernel
theorem dX0_appendTransistor_11 : decode cX0_appendTransistor 11 = .ok (.iconst 1, 1) := by decide +kernel
theorem dX0_appendTransistor_12 : decode cX0_appendTransistor 12 = .ok (.iadd, 1) := by decide +kernel
theorem dX0_appendTransistor_13 : decode cX0_appendTransistor 13 = .ok (.putfield 37, 3) := by decide +kernel
theorem dX0_appendTransistor_16 : decode cX0_appendTransistor 16 = .ok (.aload_n 0, 1) := by decide +kernel
theorem dX0_appendTransistor_17 : decode cX0_appendTransistor 17 = .ok (.getfield 15, 3) := by decide +kernel
theorem dX0_appendTransistor_20 : decode cX0_appendTransistor 20 = .ok (.iload 6, 2) := by decide +kernel
theorem dX0_appendTransistor_22 : decode cX0_appendTransistor 22 = .ok (.iload_n 1, 1) := by decide +kernel
theorem dX0_appendTransistor_23 : decode cX0_appendTransistor 23 = .ok (.iastore, 1) := by decide +kernel
theorem dX0_appendTransistor_24 : decode cX0_appendTransistor 24 = .ok (.aload_n 0, 1) := by decide +kernel
theorem dX0_appendTransistor_25 : decode cX0_appendTransistor 25 = .ok (.getfield 18, 3) := by decide +kernel
theorem dX0_appendTransistor_28 : decode cX0_appendTransistor 28 = .ok (.iload 6, 2) := by decide +kernel
theorem dX0_appendTransistor_30 : decode cX0_appendTransistor 30 = .ok (.iload_n 2, 1) := by decide +kernel
theorem dX0_appendTransistor_31 : decode cX0_appendTransistor 31 = .ok (.iastore, 1) := by decide +kernel
theorem dX0_appendTransistor_32 : decode cX0_appendTransistor 32 = .ok (.aload_n 0, 1) := by decide +kernel
theorem dX0_appendTransistor_33 : decode cX0_appendTransistor 33 = .ok (.getfield 21, 3) := by decide +kernel
theorem dX0_appendTransistor_36 : decode cX0_appendTransistor 36 = .ok (.iload 6, 2) := by decide +kernel
theorem dX0_appendTransistor_38 : decode cX0_appendTransistor 38 = .ok (.iload_n 3, 1) := by decide +kernel
theorem dX0_appendTransistor_39 : decode cX0_appendTransistor 39 = .ok (.iastore, 1) := by decide +kernel
theorem dX0_appendTransistor_40 : decode cX0_appendTransistor 40 = .ok (.aload_n 0, 1) := by decide +kernel
theorem dX0_appendTransistor_41 : decode cX0_appendTransistor 41 = .ok (.getfield 24, 3) := by decide +kernel
theorem dX0_appendTransistor_44 : decode cX0_appendTransistor 44 = .ok (.iload 6, 2) := by decide +kernel
theorem dX0_appendTransistor_46 : decode cX0_appendTransistor 46 = .ok (.iload 4, 2) := by decide +kernel
theorem dX0_appendTransistor_48 : decode cX0_appendTransistor 48 = .ok (.iastore, 1) := by decide +kernel
theorem dX0_appendTransistor_49 : decode cX0_appendTransistor 49 = .ok (.aload_n 0, 1) := by decide +kernel
theorem dX0_appendTransistor_50 : decode cX0_appendTransistor 50 = .ok (.getfield 27, 3) := by decide +kernel
theorem dX0_appendTransistor_53 : decode cX0_appendTransistor 53 = .ok (.iload 6, 2) := by decide +kernel
theorem dX0_appendTransistor_55 : decode cX0_appendTransistor 55 = .ok (.iload 5, 2) := by decide +kernel
theorem dX0_appendTransistor_57 : decode cX0_appendTransistor 57 = .ok (.iastore, 1) := by decide +kernel
theorem dX0_appendTransistor_58 : decode cX0_appendTransistor 58 = .ok (.aload_n 0, 1) := by decide +kernel
theorem dX0_appendTransistor_59 : decode cX0_appendTransistor 59 = .ok (.getfield 30, 3) := by decide +kernel
theorem dX0_appendTransistor_62 : decode cX0_appendTransistor 62 = .ok (.iload 6, 2) := by decide +kernel
theorem dX0_appendTransistor_64 : decode cX0_appendTransistor 64 = .ok (.iconst 0, 1) := by decide +kernel
theorem dX0_appendTransistor_65 : decode cX0_appendTransistor 65 = .ok (.iastore, 1) := by decide +kernel
theorem dX0_appendTransistor_66 : decode cX0_appendTransistor 66 = .ok (.iload 6, 2) := by decide +kernel
theorem dX0_appendTransistor_68 : decode cX0_appendTransistor 68 = .ok (.ireturn, 1) := by decide +kernel
theorem dX0_valueOf_0 : decode cX0_valueOf 0 = .ok (.aload_n 0, 1) := by decide +kernel
theorem dX0_valueOf_1 : decode cX0_valueOf 1 = .ok (.getfield 54, 3) := by decide +kernel
theorem dX0_valueOf_4 : decode cX0_valueOf 4 = .ok (.iconst 1, 1) := by decide +kernel
theorem dX0_valueOf_5 : decode cX0_valueOf 5 = .ok (.iload_n 1, 1) := by decide +kernel
theorem dX0_valueOf_6 : decode cX0_valueOf 6 = .ok (.ishl, 1) := by decide +kernel
theorem dX0_valueOf_7 : decode cX0_valueOf 7 = .ok (.iand, 1) := by decide +kernel
theorem dX0_valueOf_8 : decode cX0_valueOf 8 = .ok (.ifCond .eq 7, 3) := by decide +kernel
theorem dX0_valueOf_11 : decode cX0_valueOf 11 = .ok (.iconst 1, 1) := by decide +kernel
theorem dX0_valueOf_12 : decode cX0_valueOf 12 = .ok (.goto 4, 3) := by decide +kernel
theorem dX0_valueOf_15 : decode cX0_valueOf 15 = .ok (.iconst 0, 1) := by decide +kernel
theorem dX0_valueOf_16 : decode cX0_valueOf 16 = .ok (.istore_n 2, 1) := by decide +kernel
theorem dX0_valueOf_17 : decode cX0_valueOf 17 = .ok (.aload_n 0, 1) := by decide +kernel
theorem dX0_valueOf_18 : decode cX0_valueOf 18 = .ok (.getfield 57, 3) := by decide +kernel
theorem dX0_valueOf_21 : decode cX0_valueOf 21 = .ok (.iconst 1, 1) := by decide +kernel
theorem dX0_valueOf_22 : decode cX0_valueOf 22 = .ok (.iload_n 1, 1) := by decide +kernel
theorem dX0_valueOf_23 : decode cX0_valueOf 23 = .ok (.ishl, 1) := by decide +kernel
theorem dX0_valueOf_24 : decode cX0_valueOf 24 = .ok (.iand, 1) := by decide +kernel
theorem dX0_valueOf_25 : decode cX0_valueOf 25 = .ok (.ifCond .eq 7, 3) := by decide +kernel
theorem dX0_valueOf_28 : decode cX0_valueOf 28 = .ok (.iconst 1, 1) := by decide +kernel
theorem dX0_valueOf_29 : decode cX0_valueOf 29 = .ok (.goto 4, 3) := by decide +kernel
theorem dX0_valueOf_32 : decode cX0_valueOf 32 = .ok (.iconst 0, 1) := by decide +kernel
theorem dX0_valueOf_33 : decode cX0_valueOf 33 = .ok (.istore_n 3, 1) := by decide +kernel
theorem dX0_valueOf_34 : decode cX0_valueOf 34 = .ok (.iload_n 2, 1) := by decide +kernel
theorem dX0_valueOf_35 : decode cX0_valueOf 35 = .ok (.ifCond .eq 9, 3) := by decide +kernel
theorem dX0_valueOf_38 : decode cX0_valueOf 38 = .ok (.iload_n 3, 1) := by decide +kernel
theorem dX0_valueOf_39 : decode cX0_valueOf 39 = .ok (.ifCond .eq 5, 3) := by decide +kernel
theorem dX0_valueOf_42 : decode cX0_valueOf 42 = .ok (.iconst 2, 1) := by decide +kernel
theorem dX0_valueOf_43 : decode cX0_valueOf 43 = .ok (.ireturn, 1) := by decide +kernel
theorem dX0_valueOf_44 : decode cX0_valueOf 44 = .ok (.iload_n 3, 1) := by decide +kernel
theorem dX0_valueOf_45 : decode cX0_valueOf 45 = .ok (.ifCond .eq 7, 3) := by decide +kernel
theorem dX0_valueOf_48 : decode cX0_valueOf 48 = .ok (.iconst 1, 1) := by decide +kernel
theorem dX0_valueOf_49 : decode cX0_valueOf 49 = .ok (.goto 4, 3) := by decide +kernel
theorem dX0_valueOf_52 : decode cX0_valueOf 52 = .ok (.iconst 0, 1) := by decide +kernel
theorem dX0_valueOf_53 : decode cX0_valueOf 53 = .ok (.ireturn, 1) := by decide +kernel
theorem dX0_putValue_0 : decode cX0_putValue 0 = .ok (.iconst 1, 1) := by decide +kernel
theorem dX0_putValue_1 : decode cX0_putValue 1 = .ok (.iload_n 1, 1) := by decide +kernel
theorem dX0_putValue_2 : decode cX0_putValue 2 = .ok (.ishl, 1) := by decide +kernel
theorem dX0_putValue_3 : decode cX0_putValue 3 = .ok (.istore_n 3, 1) := by decide +kernel
theorem dX0_putValue_4 : decode cX0_putValue 4 = .ok (.aload_n 0, 1) := by decide +kernel
theorem dX0_putValue_5 : decode cX0_putValue 5 = .ok (.iload_n 2, 1) := by decide +kernel
theorem dX0_putValue_6 : decode cX0_putValue 6 = .ok (.iconst 1, 1) := by decide +kernel
theorem dX0_putValue_7 : decode cX0_putValue 7 = .ok (.if_icmp .ne 14, 3) := by decide +kernel
theorem dX0_putValue_10 : decode cX0_putValue 10 = .ok (.aload_n 0, 1) := by decide +kernel
theorem dX0_putValue_11 : decode cX0_putValue 11 = .ok (.getfield 54, 3) := by decide +kernel
theorem dX0_putValue_14 : decode cX0_putValue 14 = .ok (.iload_n 3, 1) := by decide +kernel
theorem dX0_putValue_15 : decode cX0_putValue 15 = .ok (.iconst (-1), 1) := by decide +kernel
theorem dX0_putValue_16 : decode cX0_putValue 16 = .ok (.ixor, 1) := by decide +kernel
theorem dX0_putValue_17 : decode cX0_putValue 17 = .ok (.iand, 1) := by decide +kernel
theorem dX0_putValue_18 : decode cX0_putValue 18 = .ok (.goto 9, 3) := by decide +kernel
theorem dX0_putValue_21 : decode cX0_putValue 21 = .ok (.aload_n 0, 1) := by decide +kernel
theorem dX0_putValue_22 : decode cX0_putValue 22 = .ok (.getfield 54, 3) := by decide +kernel
theorem dX0_putValue_25 : decode cX0_putValue 25 = .ok (.iload_n 3, 1) := by decide +kernel
theorem dX0_putValue_26 : decode cX0_putValue 26 = .ok (.ior, 1) := by decide +kernel
theorem dX0_putValue_27 : decode cX0_putValue 27 = .ok (.putfield 54, 3) := by decide +kernel
theorem dX0_putValue_30 : decode cX0_putValue 30 = .ok (.aload_n 0, 1) := by decide +kernel
theorem dX0_putValue_31 : decode cX0_putValue 31 = .ok (.iload_n 2, 1) := by decide +kernel
theorem dX0_putValue_32 : decode cX0_putValue 32 = .ok (.ifCond .ne 14, 3) := by decide +kernel
theorem dX0_putValue_35 : decode cX0_putValue 35 = .ok (.aload_n 0, 1) := by decide +kernel
theorem dX0_putValue_36 : decode cX0_putValue 36 = .ok (.getfield 57, 3) := by decide +kernel
theorem dX0_putValue_39 : decode cX0_putValue 39 = .ok (.iload_n 3, 1) := by decide +kernel
theorem dX0_putValue_40 : decode cX0_putValue 40 = .ok (.iconst (-1), 1) := by decide +kernel
theorem dX0_putValue_41 : decode cX0_putValue 41 = .ok (.ixor, 1) := by decide +kernel
theorem dX0_putValue_42 : decode cX0_putValue 42 = .ok (.iand, 1) := by decide +kernel
theorem dX0_putValue_43 : decode cX0_putValue 43 = .ok (.goto 9, 3) := by decide +kernel
theorem dX0_putValue_46 : decode cX0_putValue 46 = .ok (.aload_n 0, 1) := by decide +kernel
theorem dX0_putValue_47 : decode cX0_putValue 47 = .ok (.getfield 57, 3) := by decide +kernel
theorem dX0_putValue_50 : decode cX0_putValue 50 = .ok (.iload_n 3, 1) := by decide +kernel
theorem dX0_putValue_51 : decode cX0_putValue 51 = .ok (.ior, 1) := by decide +kernel
theorem dX0_putValue_52 : decode cX0_putValue 52 = .ok (.putfield 57, 3) := by decide +kernel
theorem dX0_putValue_55 : decode cX0_putValue 55 = .ok (.return_, 1) := by decide +kernel
theorem dX0_nodesOfValue_0 : decode cX0_nodesOfValue 0 = .ok (.iload_n 1, 1) := by decide +kernel
theorem dX0_nodesOfValue_1 : decode cX0_nodesOfValue 1 = .ok (.iconst 2, 1) := by decide +kernel
theorem dX0_nodesOfValue_2 : decode cX0_nodesOfValue 2 = .ok (.if_icmp .ne 13, 3) := by decide +kernel
theorem dX0_nodesOfValue_5 : decode cX0_nodesOfValue 5 = .ok (.aload_n 0, 1) := by decide +kernel
theorem dX0_nodesOfValue_6 : decode cX0_nodesOfValue 6 = .ok (.getfield 54, 3) := by decide +kernel
theorem dX0_nodesOfValue_9 : decode cX0_nodesOfValue 9 = .ok (.aload_n 0, 1) := by decide +kernel
theorem dX0_nodesOfValue_10 : decode cX0_nodesOfValue 10 = .ok (.getfield 57, 3) := by decide +kernel
theorem dX0_nodesOfValue_13 : decode cX0_nodesOfValue 13 = .ok (.iand, 1) := by decide +kernel
theorem dX0_nodesOfValue_14 : decode cX0_nodesOfValue 14 = .ok (.ireturn, 1) := by decide +kernel
theorem dX0_nodesOfValue_15 : decode cX0_nodesOfValue 15 = .ok (.iload_n 1, 1) := by decide +kernel
theorem dX0_nodesOfValue_16 : decode cX0_nodesOfValue 16 = .ok (.iconst 1, 1) := by decide +kernel
theorem dX0_nodesOfValue_17 : decode cX0_nodesOfValue 17 = .ok (.if_icmp .ne 17, 3) := by decide +kernel
theorem dX0_nodesOfValue_20 : decode cX0_nodesOfValue 20 = .ok (.aload_n 0, 1) := by decide +kernel
theorem dX0_nodesOfValue_21 : decode cX0_nodesOfValue 21 = .ok (.getfield 57, 3) := by decide +kernel
theorem dX0_nodesOfValue_24 : decode cX0_nodesOfValue 24 = .ok (.aload_n 0, 1) := by decide +kernel
theorem dX0_nodesOfValue_25 : decode cX0_nodesOfValue 25 = .ok (.getfield 54, 3) := by decide +kernel
theorem dX0_nodesOfValue_28 : decode cX0_nodesOfValue 28 = .ok (.iconst (-1), 1) := by decide +kernel
theorem dX0_nodesOfValue_29 : decode cX0_nodesOfValue 29 = .ok (.ixor, 1) := by decide +kernel
theorem dX0_nodesOfValue_30 : decode cX0_nodesOfValue 30 = .ok (.iand, 1) := by decide +kernel
theorem dX0_nodesOfValue_31 : decode cX0_nodesOfValue 31 = .ok (.goto 14, 3) := by decide +kernel
theorem dX0_nodesOfValue_34 : decode cX0_nodesOfValue 34 = .ok (.aload_n 0, 1) := by decide +kernel
theorem dX0_nodesOfValue_35 : decode cX0_nodesOfValue 35 = .ok (.getfield 54, 3) := by decide +kernel
theorem dX0_nodesOfValue_38 : decode cX0_nodesOfValue 38 = .ok (.aload_n 0, 1) := by decide +kernel
theorem dX0_nodesOfValue_39 : decode cX0_nodesOfValue 39 = .ok (.getfield 57, 3) := by decide +kernel
theorem dX0_nodesOfValue_42 : decode cX0_nodesOfValue 42 = .ok (.iconst (-1), 1) := by decide +kernel
theorem dX0_nodesOfValue_43 : decode cX0_nodesOfValue 43 = .ok (.ixor, 1) := by decide +kernel
theorem dX0_nodesOfValue_44 : decode cX0_nodesOfValue 44 = .ok (.iand, 1) := by decide +kernel
theorem dX0_nodesOfValue_45 : decode cX0_nodesOfValue 45 = .ok (.ireturn, 1) := by decide +kernel
theorem dX0_hasValuesOf_0 : decode cX0_hasValuesOf 0 = .ok (.aload_n 0, 1) := by decide +kernel
theorem dX0_hasValuesOf_1 : decode cX0_hasValuesOf 1 = .ok (.getfield 54, 3) := by decide +kernel
theorem dX0_hasValuesOf_4 : decode cX0_hasValuesOf 4 = .ok (.aload_n 1, 1) := by decide +kernel
theorem dX0_hasValuesOf_5 : decode cX0_hasValuesOf 5 = .ok (.getfield 54, 3) := by decide +kernel
theorem dX0_hasValuesOf_8 : decode cX0_hasValuesOf 8 = .ok (.if_icmp .ne 18, 3) := by decide +kernel
theorem dX0_hasValuesOf_11 : decode cX0_hasValuesOf 11 = .ok (.aload_n 0, 1) := by decide +kernel
theorem dX0_hasValuesOf_12 : decode cX0_hasValuesOf 12 = .ok (.getfield 57, 3) := by decide +kernel
theorem dX0_hasValuesOf_15 : decode cX0_hasValuesOf 15 = .ok (.aload_n 1, 1) := by decide +kernel
theorem dX0_hasValuesOf_16 : decode cX0_hasValuesOf 16 = .ok (.getfield 57, 3) := by decide +kernel
theorem dX0_hasValuesOf_19 : decode cX0_hasValuesOf 19 = .ok (.if_icmp .ne 7, 3) := by decide +kernel
theorem dX0_hasValuesOf_22 : decode cX0_hasValuesOf 22 = .ok (.iconst 1, 1) := by decide +kernel
theorem dX0_hasValuesOf_23 : decode cX0_hasValuesOf 23 = .ok (.goto 4, 3) := by decide +kernel
theorem dX0_hasValuesOf_26 : decode cX0_hasValuesOf 26 = .ok (.iconst 0, 1) := by decide +kernel
theorem dX0_hasValuesOf_27 : decode cX0_hasValuesOf 27 = .ok (.ireturn, 1) := by decide +kernel
set_option maxRecDepth 20000 in
theorem ggX0_forgetCharges_X0_nodesOfValue : GoodIn wsX0_forgetCharges wsX0_nodesOfValue := goodIn_r _ [8, 2, 3, 16, 17, 18, 19, 20, 21, 22, 23, 24, 25, 26, 27, 28] (by decide +kernel) (by decide +kernel)
set_option maxRecDepth 20000 in
theorem gX0_forgetCharges_X0_nodesOfValue : GoodIn wsX0_forgetCharges (wsV RX0 60 RX0 yX0_nodesOfValue wsX0_nodesOfValue) := goodIn_app (goodIn_of _ (by decide +kernel)) ggX0_forgetCharges_X0_nodesOfValue
set_option maxRecDepth 20000 in
theorem ggX0_forgetCharges_J6_bitCount_0f7a4 : GoodIn wsX0_forgetCharges wsJ6_bitCount_0f7a4 := goodIn_r _ [12, 13, 14, 15] (by decide +kernel) (by decide +kernel)
set_option maxRecDepth 20000 in
theorem gX0_forgetCharges_J6_bitCount_0f7a4 : GoodIn wsX0_forgetCharges (va_wsS RX0 64 yJ6_bitCount_0f7a4 wsJ6_bitCount_0f7a4) := goodIn_app (goodIn_of _ (by decide +kernel)) ggX0_forgetCharges_J6_bitCount_0f7a4
theorem dX0_forgetCharges_0 : decode cX0_forgetCharges 0 = .ok (.aload_n 0, 1) := by decide +kernel
theorem dX0_forgetCharges_1 : decode cX0_forgetCharges 1 = .ok (.getfield 47, 3) := by decide +kernel
theorem dX0_forgetCharges_4 : decode cX0_forgetCharges 4 = .ok (.aload_n 0, 1) := by decide +kernel
theorem dX0_forgetCharges_5 : decode cX0_forgetCharges 5 = .ok (.iconst 2, 1) := by decide +kernel
theorem dX0_forgetCharges_6 : decode cX0_forgetCharges 6 = .ok (.invokevirtual 60, 3) := by decide +kernel
theorem dX0_forgetCharges_9 : decode cX0_forgetCharges 9 = .ok (.iconst (-1), 1) := by decide +kernel
theorem dX0_forgetCharges_10 : decode cX0_forgetCharges 10 = .ok (.ixor, 1) := by decide +kernel
theorem dX0_forgetCharges_11 : decode cX0_forgetCharges 11 = .ok (.iand, 1) := by decide +kernel
theorem dX0_forgetCharges_12 : decode cX0_forgetCharges 12 = .ok (.invokestatic 64, 3) := by decide +kernel
theorem dX0_forgetCharges_15 : decode cX0_forgetCharges 15 = .ok (.istore_n 1, 1) := by decide +kernel
theorem dX0_forgetCharges_16 : decode cX0_forgetCharges 16 = .ok (.aload_n 0, 1) := by decide +kernel
theorem dX0_forgetCharges_17 : decode cX0_forgetCharges 17 = .ok (.dup, 1) := by decide +kernel
theorem dX0_forgetCharges_18 : decode cX0_forgetCharges 18 = .ok (.getfield 54, 3) := by decide +kernel
theorem dX0_forgetCharges_21 : decode cX0_forgetCharges 21 = .ok (.aload_n 0, 1) := by decide +kernel
theorem dX0_forgetCharges_22 : decode cX0_forgetCharges 22 = .ok (.getfield 47, 3) := by decide +kernel
theorem dX0_forgetCharges_25 : decode cX0_forgetCharges 25 = .ok (.ior, 1) := by decide +kernel
theorem dX0_forgetCharges_26 : decode cX0_forgetCharges 26 = .ok (.putfield 54, 3) := by decide +kernel
theorem dX0_forgetCharges_29 : decode cX0_forgetCharges 29 = .ok (.aload_n 0, 1) := by decide +kernel
theorem dX0_forgetCharges_30 : decode cX0_forgetCharges 30 = .ok (.dup, 1) := by decide +kernel
theorem dX0_forgetCharges_31 : decode cX0_forgetCharges 31 = .ok (.getfield 57, 3) := by decide +kernel
theorem dX0_forgetCharges_34 : decode cX0_forgetCharges 34 = .ok (.aload_n 0, 1) := by decide +kernel
theorem dX0_forgetCharges_35 : decode cX0_forgetCharges 35 = .ok (.getfield 47, 3) := by decide +kernel
theorem dX0_forgetCharges_38 : decode cX0_forgetCharges 38 = .ok (.ior, 1) := by decide +kernel
theorem dX0_forgetCharges_39 : decode cX0_forgetCharges 39 = .ok (.putfield 57, 3) := by decide +kernel
theorem dX0_forgetCharges_42 : decode cX0_forgetCharges 42 = .ok (.iload_n 1, 1) := by decide +kernel
theorem dX0_forgetCharges_43 : decode cX0_forgetCharges 43 = .ok (.ireturn, 1) := by decide +kernel
set_option maxRecDepth 20000 in
theorem ggX0_stateOf_X0_valueOf : GoodIn wsX0_stateOf wsX0_valueOf := goodIn_r _ [8, 9, 10, 11, 12, 13, 14, 15, 16, 17, 18, 19, 20, 21, 22, 23] (by decide +kernel) (by decide +kernel)
set_option maxRecDepth 20000 in
theorem gX0_stateOf_X0_valueOf : GoodIn wsX0_stateOf (wsV RX0 69 RX0 yX0_valueOf wsX0_valueOf) := goodIn_app (goodIn_of _ (by decide +kernel)) ggX0_stateOf_X0_valueOf
theorem dX0_stateOf_0 : decode cX0_stateOf 0 = .ok (.aload_n 0, 1) := by decide +kernel
theorem dX0_stateOf_1 : decode cX0_stateOf 1 = .ok (.getfield 30, 3) := by decide +kernel
theorem dX0_stateOf_4 : decode cX0_stateOf 4 = .ok (.iload_n 1, 1) := by decide +kernel
theorem dX0_stateOf_5 : decode cX0_stateOf 5 = .ok (.iaload, 1) := by decide +kernel
theorem dX0_stateOf_6 : decode cX0_stateOf 6 = .ok (.iconst 1, 1) := by decide +kernel
theorem dX0_stateOf_7 : decode cX0_stateOf 7 = .ok (.if_icmp .ne 5, 3) := by decide +kernel
theorem dX0_stateOf_10 : decode cX0_stateOf 10 = .ok (.iconst 0, 1) := by decide +kernel
theorem dX0_stateOf_11 : decode cX0_stateOf 11 = .ok (.ireturn, 1) := by decide +kernel
theorem dX0_stateOf_12 : decode cX0_stateOf 12 = .ok (.aload_n 0, 1) := by decide +kernel
theorem dX0_stateOf_13 : decode cX0_stateOf 13 = .ok (.getfield 30, 3) := by decide +kernel
theorem dX0_stateOf_16 : decode cX0_stateOf 16 = .ok (.iload_n 1, 1) := by decide +kernel
theorem dX0_stateOf_17 : decode cX0_stateOf 17 = .ok (.iaload, 1) := by decide +kernel
theorem dX0_stateOf_18 : decode cX0_stateOf 18 = .ok (.iconst 2, 1) := by decide +kernel
theorem dX0_stateOf_19 : decode cX0_stateOf 19 = .ok (.if_icmp .eq 13, 3) := by decide +kernel
theorem dX0_stateOf_22 : decode cX0_stateOf 22 = .ok (.aload_n 0, 1) := by decide +kernel
theorem dX0_stateOf_23 : decode cX0_stateOf 23 = .ok (.getfield 15, 3) := by decide +kernel
theorem dX0_stateOf_26 : decode cX0_stateOf 26 = .ok (.iload_n 1, 1) := by decide +kernel
theorem dX0_stateOf_27 : decode cX0_stateOf 27 = .ok (.iaload, 1) := by decide +kernel
theorem dX0_stateOf_28 : decode cX0_stateOf 28 = .ok (.iconst 2, 1) := by decide +kernel
theorem dX0_stateOf_29 : decode cX0_stateOf 29 = .ok (.if_icmp .ne 5, 3) := by decide +kernel
theorem dX0_stateOf_32 : decode cX0_stateOf 32 = .ok (.iconst 1, 1) := by decide +kernel
theorem dX0_stateOf_33 : decode cX0_stateOf 33 = .ok (.ireturn, 1) := by decide +kernel
theorem dX0_stateOf_34 : decode cX0_stateOf 34 = .ok (.aload_n 0, 1) := by decide +kernel
theorem dX0_stateOf_35 : decode cX0_stateOf 35 = .ok (.aload_n 0, 1) := by decide +kernel
theorem dX0_stateOf_36 : decode cX0_stateOf 36 = .ok (.getfield 21, 3) := by decide +kernel
theorem dX0_stateOf_39 : decode cX0_stateOf 39 = .ok (.iload_n 1, 1) := by decide +kernel
theorem dX0_stateOf_40 : decode cX0_stateOf 40 = .ok (.iaload, 1) := by decide +kernel
theorem dX0_stateOf_41 : decode cX0_stateOf 41 = .ok (.invokevirtual 69, 3) := by decide +kernel
theorem dX0_stateOf_44 : decode cX0_stateOf 44 = .ok (.istore_n 2, 1) := by decide +kernel
theorem dX0_stateOf_45 : decode cX0_stateOf 45 = .ok (.iload_n 2, 1) := by decide +kernel
theorem dX0_stateOf_46 : decode cX0_stateOf 46 = .ok (.iconst 2, 1) := by decide +kernel
theorem dX0_stateOf_47 : decode cX0_stateOf 47 = .ok (.if_icmp .ne 5, 3) := by decide +kernel
theorem dX0_stateOf_50 : decode cX0_stateOf 50 = .ok (.iconst 2, 1) := by decide +kernel
theorem dX0_stateOf_51 : decode cX0_stateOf 51 = .ok (.ireturn, 1) := by decide +kernel
theorem dX0_stateOf_52 : decode cX0_stateOf 52 = .ok (.aload_n 0, 1) := by decide +kernel
theorem dX0_stateOf_53 : decode cX0_stateOf 53 = .ok (.getfield 15, 3) := by decide +kernel
theorem dX0_stateOf_56 : decode cX0_stateOf 56 = .ok (.iload_n 1, 1) := by decide +kernel
theorem dX0_stateOf_57 : decode cX0_stateOf 57 = .ok (.iaload, 1) := by decide +kernel
theorem dX0_stateOf_58 : decode cX0_stateOf 58 = .ok (.ifCond .ne 7, 3) := by decide +kernel
theorem dX0_stateOf_61 : decode cX0_stateOf 61 = .ok (.iconst 1, 1) := by decide +kernel
theorem dX0_stateOf_62 : decode cX0_stateOf 62 = .ok (.goto 4, 3) := by decide +kernel
theorem dX0_stateOf_65 : decode cX0_stateOf 65 = .ok (.iconst 0, 1) := by decide +kernel
theorem dX0_stateOf_66 : decode cX0_stateOf 66 = .ok (.istore_n 3, 1) := by decide +kernel
theorem dX0_stateOf_67 : decode cX0_stateOf 67 = .ok (.iload_n 2, 1) := by decide +kernel
theorem dX0_stateOf_68 : decode cX0_stateOf 68 = .ok (.iload_n 3, 1) := by decide +kernel
theorem dX0_stateOf_69 : decode cX0_stateOf 69 = .ok (.if_icmp .ne 7, 3) := by decide +kernel
theorem dX0_stateOf_72 : decode cX0_stateOf 72 = .ok (.iconst 1, 1) := by decide +kernel
theorem dX0_stateOf_73 : decode cX0_stateOf 73 = .ok (.goto 4, 3) := by decide +kernel
theorem dX0_stateOf_76 : decode cX0_stateOf 76 = .ok (.iconst 0, 1) := by decide +kernel
theorem dX0_stateOf_77 : decode cX0_stateOf 77 = .ok (.ireturn, 1) := by decide +kernel
theorem dX0_replaceFault_0 : decode cX0_replaceFault 0 = .ok (.aload_n 0, 1) := by decide +kernel
theorem dX0_replaceFault_1 : decode cX0_replaceFault 1 = .ok (.getfield 30, 3) := by decide +kernel
theorem dX0_replaceFault_4 : decode cX0_replaceFault 4 = .ok (.iload_n 1, 1) := by decide +kernel
theorem dX0_replaceFault_5 : decode cX0_replaceFault 5 = .ok (.iaload, 1) := by decide +kernel
theorem dX0_replaceFault_6 : decode cX0_replaceFault 6 = .ok (.istore_n 3, 1) := by decide +kernel
theorem dX0_replaceFault_7 : decode cX0_replaceFault 7 = .ok (.aload_n 0, 1) := by decide +kernel
theorem dX0_replaceFault_8 : decode cX0_replaceFault 8 = .ok (.getfield 30, 3) := by decide +kernel
theorem dX0_replaceFault_11 : decode cX0_replaceFault 11 = .ok (.iload_n 1, 1) := by decide +kernel
theorem dX0_replaceFault_12 : decode cX0_replaceFault 12 = .ok (.iload_n 2, 1) := by decide +kernel
theorem dX0_replaceFault_13 : decode cX0_replaceFault 13 = .ok (.iastore, 1) := by decide +kernel
theorem dX0_replaceFault_14 : decode cX0_replaceFault 14 = .ok (.iload_n 3, 1) := by decide +kernel
theorem dX0_replaceFault_15 : decode cX0_replaceFault 15 = .ok (.ireturn, 1) := by decide +kernel
set_option maxRecDepth 20000 in
theorem ggX0_removeFaults_X0_replaceFault : GoodIn wsX0_removeFaults wsX0_replaceFault := goodIn_r _ [6, 7, 8, 9, 10, 11, 12, 13, 14, 15, 16, 17, 18, 19, 20] (by decide +kernel) (by decide +kernel)
set_option maxRecDepth 20000 in
theorem gX0_removeFaults_X0_replaceFault : GoodIn wsX0_removeFaults (wsV RX0 72 RX0 yX0_replaceFault wsX0_replaceFault) := goodIn_app (goodIn_of _ (by decide +kernel)) ggX0_removeFaults_X0_replaceFault
theorem dX0_removeFaults_0 : decode cX0_removeFaults 0 = .ok (.iconst 0, 1) := by decide +kernel
theorem dX0_removeFaults_1 : decode cX0_removeFaults 1 = .ok (.istore_n 1, 1) := by decide +kernel
theorem dX0_removeFaults_2 : decode cX0_removeFaults 2 = .ok (.iconst 0, 1) := by decide +kernel
theorem dX0_removeFaults_3 : decode cX0_removeFaults 3 = .ok (.istore_n 2, 1) := by decide +kernel
theorem dX0_removeFaults_4 : decode cX0_removeFaults 4 = .ok (.iload_n 2, 1) := by decide +kernel
theorem dX0_removeFaults_5 : decode cX0_removeFaults 5 = .ok (.aload_n 0, 1) := by decide +kernel
theorem dX0_removeFaults_6 : decode cX0_removeFaults 6 = .ok (.getfield 37, 3) := by decide +kernel
theorem dX0_removeFaults_9 : decode cX0_removeFaults 9 = .ok (.if_icmp .ge 21, 3) := by decide +kernel
theorem dX0_removeFaults_12 : decode cX0_removeFaults 12 = .ok (.aload_n 0, 1) := by decide +kernel
theorem dX0_removeFaults_13 : decode cX0_removeFaults 13 = .ok (.iload_n 2, 1) := by decide +kernel
theorem dX0_removeFaults_14 : decode cX0_removeFaults 14 = .ok (.iconst 0, 1) := by decide +kernel
theorem dX0_removeFaults_15 : decode cX0_removeFaults 15 = .ok (.invokevirtual 72, 3) := by decide +kernel
theorem dX0_removeFaults_18 : decode cX0_removeFaults 18 = .ok (.ifCond .eq 6, 3) := by decide +kernel
theorem dX0_removeFaults_21 : decode cX0_removeFaults 21 = .ok (.iinc 1 1, 3) := by decide +kernel
theorem dX0_removeFaults_24 : decode cX0_removeFaults 24 = .ok (.iinc 2 1, 3) := by decide +kernel
theorem dX0_removeFaults_27 : decode cX0_removeFaults 27 = .ok (.goto (-23), 3) := by decide +kernel
theorem dX0_removeFaults_30 : decode cX0_removeFaults 30 = .ok (.iload_n 1, 1) := by decide +kernel
theorem dX0_removeFaults_31 : decode cX0_removeFaults 31 = .ok (.ireturn, 1) := by decide +kernel
set_option maxRecDepth 20000 in
theorem ggX0_copyWithFault_X0_copyFrom : GoodIn wsX0_copyWithFault wsX0_copyFrom := goodIn_r _ [6, 7, 8, 9, 10, 11, 12, 13, 14, 15, 16, 17, 18, 19, 20, 21, 22, 1, 23, 24, 25, 26, 27, 28, 29, 30, 31, 32, 33, 34, 35] (by decide +kernel) (by decide +kernel)
set_option maxRecDepth 20000 in
theorem gX0_copyWithFault_X0_copyFrom : GoodIn wsX0_copyWithFault (wsV RX0 76 RX0 yX0_copyFrom wsX0_copyFrom) := goodIn_app (goodIn_of _ (by decide +kernel)) ggX0_copyWithFault_X0_copyFrom
theorem dX0_copyWithFault_0 : decode cX0_copyWithFault 0 = .ok (.aload_n 0, 1) := by decide +kernel
theorem dX0_copyWithFault_1 : decode cX0_copyWithFault 1 = .ok (.aload_n 1, 1) := by decide +kernel
theorem dX0_copyWithFault_2 : decode cX0_copyWithFault 2 = .ok (.invokevirtual 76, 3) := by decide +kernel
theorem dX0_copyWithFault_5 : decode cX0_copyWithFault 5 = .ok (.aload_n 0, 1) := by decide +kernel
theorem dX0_copyWithFault_6 : decode cX0_copyWithFault 6 = .ok (.getfield 30, 3) := by decide +kernel
theorem dX0_copyWithFault_9 : decode cX0_copyWithFault 9 = .ok (.iload_n 2, 1) := by decide +kernel
theorem dX0_copyWithFault_10 : decode cX0_copyWithFault 10 = .ok (.iload_n 3, 1) := by decide +kernel
theorem dX0_copyWithFault_11 : decode cX0_copyWithFault 11 = .ok (.iastore, 1) := by decide +kernel
theorem dX0_copyWithFault_12 : decode cX0_copyWithFault 12 = .ok (.return_, 1) := by decide +kernel
theorem dX0_copyFrom_0 : decode cX0_copyFrom 0 = .ok (.aload_n 0, 1) := by decide +kernel
theorem dX0_copyFrom_1 : decode cX0_copyFrom 1 = .ok (.aload_n 1, 1) := by decide +kernel
theorem dX0_copyFrom_2 : decode cX0_copyFrom 2 = .ok (.getfield 33, 3) := by decide +kernel
theorem dX0_copyFrom_5 : decode cX0_copyFrom 5 = .ok (.putfield 33, 3) := by decide +kernel
theorem dX0_copyFrom_8 : decode cX0_copyFrom 8 = .ok (.aload_n 0, 1) := by decide +kernel
theorem dX0_copyFrom_9 : decode cX0_copyFrom 9 = .ok (.aload_n 1, 1) := by decide +kernel
theorem dX0_copyFrom_10 : decode cX0_copyFrom 10 = .ok (.getfield 40, 3) := by decide +kernel
theorem dX0_copyFrom_13 : decode cX0_copyFrom 13 = .ok (.putfield 40, 3) := by decide +kernel
theorem dX0_copyFrom_16 : decode cX0_copyFrom 16 = .ok (.aload_n 0, 1) := by decide +kernel
theorem dX0_copyFrom_17 : decode cX0_copyFrom 17 = .ok (.aload_n 1, 1) := by decide +kernel
theorem dX0_copyFrom_18 : decode cX0_copyFrom 18 = .ok (.getfield 47, 3) := by decide +kernel
theorem dX0_copyFrom_21 : decode cX0_copyFrom 21 = .ok (.putfield 47, 3) := by decide +kernel
theorem dX0_copyFrom_24 : decode cX0_copyFrom 24 = .ok (.aload_n 1, 1) := by decide +kernel
theorem dX0_copyFrom_25 : decode cX0_copyFrom 25 = .ok (.getfield 9, 3) := by decide +kernel
theorem dX0_copyFrom_28 : decode cX0_copyFrom 28 = .ok (.iconst 0, 1) := by decide +kernel
theorem dX0_copyFrom_29 : decode cX0_copyFrom 29 = .ok (.aload_n 0, 1) := by decide +kernel
theorem dX0_copyFrom_30 : decode cX0_copyFrom 30 = .ok (.getfield 9, 3) := by decide +kernel
theorem dX0_copyFrom_33 : decode cX0_copyFrom 33 = .ok (.iconst 0, 1) := by decide +kernel
theorem dX0_copyFrom_34 : decode cX0_copyFrom 34 = .ok (.aload_n 0, 1) := by decide +kernel
theorem dX0_copyFrom_35 : decode cX0_copyFrom 35 = .ok (.getfield 9, 3) := by decide +kernel
theorem dX0_copyFrom_38 : decode cX0_copyFrom 38 = .ok (.arraylength, 1) := by decide +kernel
theorem dX0_copyFrom_39 : decode cX0_copyFrom 39 = .ok (.invokestatic 80, 3) := by decide +kernel
theorem dX0_copyFrom_42 : decode cX0_copyFrom 42 = .ok (.aload_n 0, 1) := by decide +kernel
theorem dX0_copyFrom_43 : decode cX0_copyFrom 43 = .ok (.aload_n 1, 1) := by decide +kernel
theorem dX0_copyFrom_44 : decode cX0_copyFrom 44 = .ok (.getfield 54, 3) := by decide +kernel
theorem dX0_copyFrom_47 : decode cX0_copyFrom 47 = .ok (.putfield 54, 3) := by decide +kernel
theorem dX0_copyFrom_50 : decode cX0_copyFrom 50 = .ok (.aload_n 0, 1) := by decide +kernel
theorem dX0_copyFrom_51 : decode cX0_copyFrom 51 = .ok (.aload_n 1, 1) := by decide +kernel
theorem dX0_copyFrom_52 : decode cX0_copyFrom 52 = .ok (.getfield 57, 3) := by decide +kernel
theorem dX0_copyFrom_55 : decode cX0_copyFrom 55 = .ok (.putfield 57, 3) := by decide +kernel
theorem dX0_copyFrom_58 : decode cX0_copyFrom 58 = .ok (.aload_n 0, 1) := by decide +kernel
theorem dX0_copyFrom_59 : decode cX0_copyFrom 59 = .ok (.aload_n 1, 1) := by decide +kernel
theorem dX0_copyFrom_60 : decode cX0_copyFrom 60 = .ok (.getfield 37, 3) := by decide +kernel
theorem dX0_copyFrom_63 : decode cX0_copyFrom 63 = .ok (.putfield 37, 3) := by decide +kernel
theorem dX0_copyFrom_66 : decode cX0_copyFrom 66 = .ok (.aload_n 1, 1) := by decide +kernel
theorem dX0_copyFrom_67 : decode cX0_copyFrom 67 = .ok (.getfield 15, 3) := by decide +kernel
theorem dX0_copyFrom_70 : decode cX0_copyFrom 70 = .ok (.iconst 0, 1) := by decide +kernel
theorem dX0_copyFrom_71 : decode cX0_copyFrom 71 = .ok (.aload_n 0, 1) := by decide +kernel
theorem dX0_copyFrom_72 : decode cX0_copyFrom 72 = .ok (.getfield 15, 3) := by decide +kernel
theorem dX0_copyFrom_75 : decode cX0_copyFrom 75 = .ok (.iconst 0, 1) := by decide +kernel
theorem dX0_copyFrom_76 : decode cX0_copyFrom 76 = .ok (.aload_n 0, 1) := by decide +kernel
theorem dX0_copyFrom_77 : decode cX0_copyFrom 77 = .ok (.getfield 37, 3) := by decide +kernel
theorem dX0_copyFrom_80 : decode cX0_copyFrom 80 = .ok (.invokestatic 80, 3) := by decide +kernel
theorem dX0_copyFrom_83 : decode cX0_copyFrom 83 = .ok (.aload_n 1, 1) := by decide +kernel
theorem dX0_copyFrom_84 : decode cX0_copyFrom 84 = .ok (.getfield 18, 3) := by decide +kernel
theorem dX0_copyFrom_87 : decode cX0_copyFrom 87 = .ok (.iconst 0, 1) := by decide +kernel
theorem dX0_copyFrom_88 : decode cX0_copyFrom 88 = .ok (.aload_n 0, 1) := by decide +kernel
theorem dX0_copyFrom_89 : decode cX0_copyFrom 89 = .ok (.getfield 18, 3) := by decide +kernel
theorem dX0_copyFrom_92 : decode cX0_copyFrom 92 = .ok (.iconst 0, 1) := by decide +kernel
theorem dX0_copyFrom_93 : decode cX0_copyFrom 93 = .ok (.aload_n 0, 1) := by decide +kernel
theorem dX0_copyFrom_94 : decode cX0_copyFrom 94 = .ok (.getfield 37, 3) := by decide +kernel
theorem dX0_copyFrom_97 : decode cX0_copyFrom 97 = .ok (.invokestatic 80, 3) := by decide +kernel
theorem dX0_copyFrom_100 : decode cX0_copyFrom 100 = .ok (.aload_n 1, 1) := by decide +kernel
theorem dX0_copyFrom_101 : decode cX0_copyFrom 101 = .ok (.getfield 21, 3) := by decide +kernel
theorem dX0_copyFrom_104 : decode cX0_copyFrom 104 = .ok (.iconst 0, 1) := by decide +kernel
theorem dX0_copyFrom_105 : decode cX0_copyFrom 105 = .ok (.aload_n 0, 1) := by decide +kernel
theorem dX0_copyFrom_106 : decode cX0_copyFrom 106 = .ok (.getfield 21, 3) := by decide +kernel
theorem dX0_copyFrom_109 : decode cX0_copyFrom 109 = .ok (.iconst 0, 1) := by decide +kernel
theorem dX0_copyFrom_110 : decode cX0_copyFrom 110 = .ok (.aload_n 0, 1) := by decide +kernel
theorem dX0_copyFrom_111 : decode cX0_copyFrom 111 = .ok (.getfield 37, 3) := by decide +kernel
theorem dX0_copyFrom_114 : decode cX0_copyFrom 114 = .ok (.invokestatic 80, 3) := by decide +kernel
theorem dX0_copyFrom_117 : decode cX0_copyFrom 117 = .ok (.aload_n 1, 1) := by decide +kernel
theorem dX0_copyFrom_118 : decode cX0_copyFrom 118 = .ok (.getfield 24, 3) := by decide +kernel
theorem dX0_copyFrom_121 : decode cX0_copyFrom 121 = .ok (.iconst 0, 1) := by decide +kernel
theorem dX0_copyFrom_122 : decode cX0_copyFrom 122 = .ok (.aload_n 0, 1) := by decide +kernel
theorem dX0_copyFrom_123 : decode cX0_copyFrom 123 = .ok (.getfield 24, 3) := by decide +kernel
theorem dX0_copyFrom_126 : decode cX0_copyFrom 126 = .ok (.iconst 0, 1) := by decide +kernel
theorem dX0_copyFrom_127 : decode cX0_copyFrom 127 = .ok (.aload_n 0, 1) := by decide +kernel
theorem dX0_copyFrom_128 : decode cX0_copyFrom 128 = .ok (.getfield 37, 3) := by decide +kernel
theorem dX0_copyFrom_131 : decode cX0_copyFrom 131 = .ok (.invokestatic 80, 3) := by decide +kernel
theorem dX0_copyFrom_134 : decode cX0_copyFrom 134 = .ok (.aload_n 1, 1) := by decide +kernel
theorem dX0_copyFrom_135 : decode cX0_copyFrom 135 = .ok (.getfield 27, 3) := by decide +kernel
theorem dX0_copyFrom_138 : decode cX0_copyFrom 138 = .ok (.iconst 0, 1) := by decide +kernel
theorem dX0_copyFrom_139 : decode cX0_copyFrom 139 = .ok (.aload_n 0, 1) := by decide +kernel
theorem dX0_copyFrom_140 : decode cX0_copyFrom 140 = .ok (.getfield 27, 3) := by decide +kernel
theorem dX0_copyFrom_143 : decode cX0_copyFrom 143 = .ok (.iconst 0, 1) := by decide +kernel
theorem dX0_copyFrom_144 : decode cX0_copyFrom 144 = .ok (.aload_n 0, 1) := by decide +kernel
theorem dX0_copyFrom_145 : decode cX0_copyFrom 145 = .ok (.getfield 37, 3) := by decide +kernel
theorem dX0_copyFrom_148 : decode cX0_copyFrom 148 = .ok (.invokestatic 80, 3) := by decide +kernel
theorem dX0_copyFrom_151 : decode cX0_copyFrom 151 = .ok (.aload_n 1, 1) := by decide +kernel
theorem dX0_copyFrom_152 : decode cX0_copyFrom 152 = .ok (.getfield 30, 3) := by decide +kernel
theorem dX0_copyFrom_155 : decode cX0_copyFrom 155 = .ok (.iconst 0, 1) := by decide +kernel
theorem dX0_copyFrom_156 : decode cX0_copyFrom 156 = .ok (.aload_n 0, 1) := by decide +kernel
theorem dX0_copyFrom_157 : decode cX0_copyFrom 157 = .ok (.getfield 30, 3) := by decide +kernel
theorem dX0_copyFrom_160 : decode cX0_copyFrom 160 = .ok (.iconst 0, 1) := by decide +kernel
theorem dX0_copyFrom_161 : decode cX0_copyFrom 161 = .ok (.aload_n 0, 1) := by decide +kernel
theorem dX0_copyFrom_162 : decode cX0_copyFrom 162 = .ok (.getfield 37, 3) := by decide +kernel
theorem dX0_copyFrom_165 : decode cX0_copyFrom 165 = .ok (.invokestatic 80, 3) := by decide +kernel
theorem dX0_copyFrom_168 : decode cX0_copyFrom 168 = .ok (.return_, 1) := by decide +kernel
end
section
theorem dX1_init_0 : decode cX1_init 0 = .ok (.aload_n 0, 1) := by decide +kernel
theorem dX1_init_1 : decode cX1_init 1 = .ok (.invokespecial 3, 3) := by decide +kernel
theorem dX1_init_4 : decode cX1_init 4 = .ok (.aload_n 0, 1) := by decide +kernel
theorem dX1_init_5 : decode cX1_init 5 = .ok (.bipush 8, 2) := by decide +kernel
theorem dX1_init_7 : decode cX1_init 7 = .ok (.newarray .int, 2) := by decide +kernel
theorem dX1_init_9 : decode cX1_init 9 = .ok (.putfield 9, 3) := by decide +kernel
theorem dX1_init_12 : decode cX1_init 12 = .ok (.aload_n 0, 1) := by decide +kernel
theorem dX1_init_13 : decode cX1_init 13 = .ok (.bipush 8, 2) := by decide +kernel
theorem dX1_init_15 : decode cX1_init 15 = .ok (.newarray .int, 2) := by decide +kernel
theorem dX1_init_17 : decode cX1_init 17 = .ok (.putfield 15, 3) := by decide +kernel
theorem dX1_init_20 : decode cX1_init 20 = .ok (.aload_n 0, 1) := by decide +kernel
theorem dX1_init_21 : decode cX1_init 21 = .ok (.bipush 8, 2) := by decide +kernel
theorem dX1_init_23 : decode cX1_init 23 = .ok (.newarray .int, 2) := by decide +kernel
theorem dX1_init_25 : decode cX1_init 25 = .ok (.putfield 18, 3) := by decide +kernel
theorem dX1_init_28 : decode cX1_init 28 = .ok (.aload_n 0, 1) := by decide +kernel
theorem dX1_init_29 : decode cX1_init 29 = .ok (.iconst 4, 1) := by decide +kernel
theorem dX1_init_30 : decode cX1_init 30 = .ok (.bipush 24, 2) := by decide +kernel
theorem dX1_init_32 : decode cX1_init 32 = .ok (.multianewarray 21 2, 4) := by decide +kernel
theorem dX1_init_36 : decode cX1_init 36 = .ok (.putfield 23, 3) := by decide +kernel
theorem dX1_init_39 : decode cX1_init 39 = .ok (.aload_n 0, 1) := by decide +kernel
theorem dX1_init_40 : decode cX1_init 40 = .ok (.iconst 4, 1) := by decide +kernel
theorem dX1_init_41 : decode cX1_init 41 = .ok (.bipush 24, 2) := by decide +kernel
theorem dX1_init_43 : decode cX1_init 43 = .ok (.multianewarray 21 2, 4) := by decide +kernel
theorem dX1_init_47 : decode cX1_init 47 = .ok (.putfield 26, 3) := by decide +kernel
theorem dX1_init_50 : decode cX1_init 50 = .ok (.return_, 1) := by decide +kernel
set_option maxRecDepth 20000 in
theorem ggX1_find_X1_findNeighbors : GoodIn wsX1_find wsX1_findNeighbors := goodIn_r _ [9, 10, 11, 12, 13, 14, 15, 16, 17, 18, 19, 20, 21, 22, 23, 24, 25, 26, 27, 28, 29, 8, 30, 31, 32, 33, 66, 67, 68, 69, 70, 71, 72, 73, 74, 75, 76, 77, 78, 61, 62, 63, 64, 65] (by decide +kernel) (by decide +kernel)
set_option maxRecDepth 20000 in
theorem gX1_find_X1_findNeighbors : GoodIn wsX1_find (wsV RX1 29 RX1 yX1_findNeighbors wsX1_findNeighbors) := goodIn_app (goodIn_of _ (by decide +kernel)) ggX1_find_X1_findNeighbors
set_option maxRecDepth 20000 in
theorem ggX1_find_X1_findDefinite : GoodIn wsX1_find wsX1_findDefinite := goodIn_r _ [37, 38, 39, 40, 11, 41, 42, 43, 8, 44, 45, 46, 47, 48, 49, 50, 51, 52, 53, 54, 55, 56, 61, 62, 63, 64, 65, 66, 67, 68, 69, 70, 71, 72, 73, 74, 75, 76, 77, 78] (by decide +kernel) (by decide +kernel)
set_option maxRecDepth 20000 in
theorem gX1_find_X1_findDefinite : GoodIn wsX1_find (wsV RX1 33 RX1 yX1_findDefinite wsX1_findDefinite) := goodIn_app (goodIn_of _ (by decide +kernel)) ggX1_find_X1_findDefinite
set_option maxRecDepth 20000 in
theorem ggX1_find_X1_findSide : GoodIn wsX1_find wsX1_findSide := goodIn_r _ [60, 39, 41, 38, 40, 12, 42, 43, 8, 44, 45, 46, 47, 48, 49, 50, 51, 52, 53, 54, 55, 56, 66, 67, 68, 69, 70, 71, 72, 73, 74, 75, 76, 77, 78, 61, 62, 63, 64, 65] (by decide +kernel) (by decide +kernel)
set_option maxRecDepth 20000 in
theorem gX1_find_X1_findSide : GoodIn wsX1_find (wsV RX1 42 RX1 yX1_findSide wsX1_findSide) := goodIn_app (goodIn_of _ (by decide +kernel)) ggX1_find_X1_findSide
theorem dX1_find_0 : decode cX1_find 0 = .ok (.aload_n 0, 1) := by decide +kernel
theorem dX1_find_1 : decode cX1_find 1 = .ok (.aload_n 1, 1) := by decide +kernel
theorem dX1_find_2 : decode cX1_find 2 = .ok (.invokevirtual 29, 3) := by decide +kernel
theorem dX1_find_5 : decode cX1_find 5 = .ok (.aload_n 0, 1) := by decide +kernel
theorem dX1_find_6 : decode cX1_find 6 = .ok (.aload_n 1, 1) := by decide +kernel
theorem dX1_find_7 : decode cX1_find 7 = .ok (.invokevirtual 33, 3) := by decide +kernel
theorem dX1_find_10 : decode cX1_find 10 = .ok (.aload_n 0, 1) := by decide +kernel
theorem dX1_find_11 : decode cX1_find 11 = .ok (.aload_n 0, 1) := by decide +kernel
theorem dX1_find_12 : decode cX1_find 12 = .ok (.getfield 15, 3) := by decide +kernel
theorem dX1_find_15 : decode cX1_find 15 = .ok (.aload_n 1, 1) := by decide +kernel
theorem dX1_find_16 : decode cX1_find 16 = .ok (.getfield 36, 3) := by decide +kernel
theorem dX1_find_19 : decode cX1_find 19 = .ok (.aload_n 1, 1) := by decide +kernel
theorem dX1_find_20 : decode cX1_find 20 = .ok (.invokevirtual 42, 3) := by decide +kernel
theorem dX1_find_23 : decode cX1_find 23 = .ok (.aload_n 0, 1) := by decide +kernel
theorem dX1_find_24 : decode cX1_find 24 = .ok (.aload_n 0, 1) := by decide +kernel
theorem dX1_find_25 : decode cX1_find 25 = .ok (.getfield 18, 3) := by decide +kernel
theorem dX1_find_28 : decode cX1_find 28 = .ok (.aload_n 1, 1) := by decide +kernel
theorem dX1_find_29 : decode cX1_find 29 = .ok (.getfield 46, 3) := by decide +kernel
theorem dX1_find_32 : decode cX1_find 32 = .ok (.aload_n 1, 1) := by decide +kernel
theorem dX1_find_33 : decode cX1_find 33 = .ok (.invokevirtual 42, 3) := by decide +kernel
theorem dX1_find_36 : decode cX1_find 36 = .ok (.return_, 1) := by decide +kernel
set_option maxRecDepth 20000 in
theorem ggX1_definiteLevel_X1_levelIn : GoodIn wsX1_definiteLevel wsX1_levelIn := goodIn_r _ [5] (by decide +kernel) (by decide +kernel)
set_option maxRecDepth 20000 in
theorem gX1_definiteLevel_X1_levelIn : GoodIn wsX1_definiteLevel (va_wsS RX1 49 yX1_levelIn wsX1_levelIn) := goodIn_app (goodIn_of _ (by decide +kernel)) ggX1_definiteLevel_X1_levelIn
theorem dX1_definiteLevel_0 : decode cX1_definiteLevel 0 = .ok (.aload_n 0, 1) := by decide +kernel
theorem dX1_definiteLevel_1 : decode cX1_definiteLevel 1 = .ok (.getfield 9, 3) := by decide +kernel
theorem dX1_definiteLevel_4 : decode cX1_definiteLevel 4 = .ok (.iload_n 1, 1) := by decide +kernel
theorem dX1_definiteLevel_5 : decode cX1_definiteLevel 5 = .ok (.invokestatic 49, 3) := by decide +kernel
theorem dX1_definiteLevel_8 : decode cX1_definiteLevel 8 = .ok (.ireturn, 1) := by decide +kernel
set_option maxRecDepth 20000 in
theorem ggX1_upLevel_X1_levelIn : GoodIn wsX1_upLevel wsX1_levelIn := goodIn_r _ [5] (by decide +kernel) (by decide +kernel)
set_option maxRecDepth 20000 in
theorem gX1_upLevel_X1_levelIn : GoodIn wsX1_upLevel (va_wsS RX1 49 yX1_levelIn wsX1_levelIn) := goodIn_app (goodIn_of _ (by decide +kernel)) ggX1_upLevel_X1_levelIn
theorem dX1_upLevel_0 : decode cX1_upLevel 0 = .ok (.aload_n 0, 1) := by decide +kernel
theorem dX1_upLevel_1 : decode cX1_upLevel 1 = .ok (.getfield 15, 3) := by decide +kernel
theorem dX1_upLevel_4 : decode cX1_upLevel 4 = .ok (.iload_n 1, 1) := by decide +kernel
theorem dX1_upLevel_5 : decode cX1_upLevel 5 = .ok (.invokestatic 49, 3) := by decide +kernel
theorem dX1_upLevel_8 : decode cX1_upLevel 8 = .ok (.ireturn, 1) := by decide +kernel
set_option maxRecDepth 20000 in
theorem ggX1_downLevel_X1_levelIn : GoodIn wsX1_downLevel wsX1_levelIn := goodIn_r _ [5] (by decide +kernel) (by decide +kernel)
set_option maxRecDepth 20000 in
theorem gX1_downLevel_X1_levelIn : GoodIn wsX1_downLevel (va_wsS RX1 49 yX1_levelIn wsX1_levelIn) := goodIn_app (goodIn_of _ (by decide +kernel)) ggX1_downLevel_X1_levelIn
theorem dX1_downLevel_0 : decode cX1_downLevel 0 = .ok (.aload_n 0, 1) := by decide +kernel
theorem dX1_downLevel_1 : decode cX1_downLevel 1 = .ok (.getfield 18, 3) := by decide +kernel
theorem dX1_downLevel_4 : decode cX1_downLevel 4 = .ok (.iload_n 1, 1) := by decide +kernel
theorem dX1_downLevel_5 : decode cX1_downLevel 5 = .ok (.invokestatic 49, 3) := by decide +kernel
theorem dX1_downLevel_8 : decode cX1_downLevel 8 = .ok (.ireturn, 1) := by decide +kernel
theorem dX1_changesOf_0 : decode cX1_changesOf 0 = .ok (.aload_n 0, 1) := by decide +kernel
theorem dX1_changesOf_1 : decode cX1_changesOf 1 = .ok (.getfield 15, 3) := by decide +kernel
theorem dX1_changesOf_4 : decode cX1_changesOf 4 = .ok (.iconst 1, 1) := by decide +kernel
theorem dX1_changesOf_5 : decode cX1_changesOf 5 = .ok (.iaload, 1) := by decide +kernel
theorem dX1_changesOf_6 : decode cX1_changesOf 6 = .ok (.aload_n 1, 1) := by decide +kernel
theorem dX1_changesOf_7 : decode cX1_changesOf 7 = .ok (.getfield 36, 3) := by decide +kernel
theorem dX1_changesOf_10 : decode cX1_changesOf 10 = .ok (.ixor, 1) := by decide +kernel
theorem dX1_changesOf_11 : decode cX1_changesOf 11 = .ok (.aload_n 0, 1) := by decide +kernel
theorem dX1_changesOf_12 : decode cX1_changesOf 12 = .ok (.getfield 18, 3) := by decide +kernel
theorem dX1_changesOf_15 : decode cX1_changesOf 15 = .ok (.iconst 1, 1) := by decide +kernel
theorem dX1_changesOf_16 : decode cX1_changesOf 16 = .ok (.iaload, 1) := by decide +kernel
theorem dX1_changesOf_17 : decode cX1_changesOf 17 = .ok (.aload_n 1, 1) := by decide +kernel
theorem dX1_changesOf_18 : decode cX1_changesOf 18 = .ok (.getfield 46, 3) := by decide +kernel
theorem dX1_changesOf_21 : decode cX1_changesOf 21 = .ok (.ixor, 1) := by decide +kernel
theorem dX1_changesOf_22 : decode cX1_changesOf 22 = .ok (.ior, 1) := by decide +kernel
theorem dX1_changesOf_23 : decode cX1_changesOf 23 = .ok (.ireturn, 1) := by decide +kernel
theorem dX1_putInto_0 : decode cX1_putInto 0 = .ok (.aload_n 1, 1) := by decide +kernel
theorem dX1_putInto_1 : decode cX1_putInto 1 = .ok (.aload_n 0, 1) := by decide +kernel
theorem dX1_putInto_2 : decode cX1_putInto 2 = .ok (.getfield 15, 3) := by decide +kernel
theorem dX1_putInto_5 : decode cX1_putInto 5 = .ok (.iconst 1, 1) := by decide +kernel
theorem dX1_putInto_6 : decode cX1_putInto 6 = .ok (.iaload, 1) := by decide +kernel
theorem dX1_putInto_7 : decode cX1_putInto 7 = .ok (.putfield 36, 3) := by decide +kernel
theorem dX1_putInto_10 : decode cX1_putInto 10 = .ok (.aload_n 1, 1) := by decide +kernel
theorem dX1_putInto_11 : decode cX1_putInto 11 = .ok (.aload_n 0, 1) := by decide +kernel
theorem dX1_putInto_12 : decode cX1_putInto 12 = .ok (.getfield 18, 3) := by decide +kernel
theorem dX1_putInto_15 : decode cX1_putInto 15 = .ok (.iconst 1, 1) := by decide +kernel
theorem dX1_putInto_16 : decode cX1_putInto 16 = .ok (.iaload, 1) := by decide +kernel
theorem dX1_putInto_17 : decode cX1_putInto 17 = .ok (.putfield 46, 3) := by decide +kernel
theorem dX1_putInto_20 : decode cX1_putInto 20 = .ok (.return_, 1) := by decide +kernel
set_option maxRecDepth 20000 in
theorem ggX1_storageAround_X1_findNeighbors : GoodIn wsX1_storageAround wsX1_findNeighbors := goodIn_r _ [7, 8, 9, 1, 10, 11, 12, 13, 14, 15, 16, 17, 18, 19, 20, 21, 22, 23, 24, 25, 26, 6, 27, 28, 29, 30, 44, 45, 46, 47, 48, 49, 50, 51, 52, 53, 54, 55, 56, 39, 40, 41, 42, 43] (by decide +kernel) (by decide +kernel)
set_option maxRecDepth 20000 in
theorem gX1_storageAround_X1_findNeighbors : GoodIn wsX1_storageAround (wsV RX1 29 RX1 yX1_findNeighbors wsX1_findNeighbors) := goodIn_app (goodIn_of _ (by decide +kernel)) ggX1_storageAround_X1_findNeighbors
set_option maxRecDepth 20000 in
theorem ggX1_storageAround_X1_reach : GoodIn wsX1_storageAround wsX1_reach := goodIn_r _ [33, 34, 35, 36, 37, 38] (by decide +kernel) (by decide +kernel)
set_option maxRecDepth 20000 in
theorem gX1_storageAround_X1_reach : GoodIn wsX1_storageAround (va_wsS RX1 56 yX1_reach wsX1_reach) := goodIn_app (goodIn_of _ (by decide +kernel)) ggX1_storageAround_X1_reach
theorem dX1_storageAround_0 : decode cX1_storageAround 0 = .ok (.aload_n 0, 1) := by decide +kernel
theorem dX1_storageAround_1 : decode cX1_storageAround 1 = .ok (.aload_n 2, 1) := by decide +kernel
theorem dX1_storageAround_2 : decode cX1_storageAround 2 = .ok (.invokevirtual 29, 3) := by decide +kernel
theorem dX1_storageAround_5 : decode cX1_storageAround 5 = .ok (.iconst 1, 1) := by decide +kernel
theorem dX1_storageAround_6 : decode cX1_storageAround 6 = .ok (.iload_n 1, 1) := by decide +kernel
theorem dX1_storageAround_7 : decode cX1_storageAround 7 = .ok (.ishl, 1) := by decide +kernel
theorem dX1_storageAround_8 : decode cX1_storageAround 8 = .ok (.aload_n 0, 1) := by decide +kernel
theorem dX1_storageAround_9 : decode cX1_storageAround 9 = .ok (.getfield 26, 3) := by decide +kernel
theorem dX1_storageAround_12 : decode cX1_storageAround 12 = .ok (.iconst 1, 1) := by decide +kernel
theorem dX1_storageAround_13 : decode cX1_storageAround 13 = .ok (.aaload, 1) := by decide +kernel
theorem dX1_storageAround_14 : decode cX1_storageAround 14 = .ok (.aload_n 2, 1) := by decide +kernel
theorem dX1_storageAround_15 : decode cX1_storageAround 15 = .ok (.getfield 53, 3) := by decide +kernel
theorem dX1_storageAround_18 : decode cX1_storageAround 18 = .ok (.invokestatic 56, 3) := by decide +kernel
theorem dX1_storageAround_21 : decode cX1_storageAround 21 = .ok (.ireturn, 1) := by decide +kernel
set_option maxRecDepth 20000 in
theorem ggX1_findDefinite_X1_strengthPassing : GoodIn wsX1_findDefinite wsX1_strengthPassing := goodIn_r _ [9, 10, 11, 12, 13] (by decide +kernel) (by decide +kernel)
set_option maxRecDepth 20000 in
theorem gX1_findDefinite_X1_strengthPassing : GoodIn wsX1_findDefinite (va_wsS RX1 66 yX1_strengthPassing wsX1_strengthPassing) := goodIn_app (goodIn_of _ (by decide +kernel)) ggX1_findDefinite_X1_strengthPassing
set_option maxRecDepth 20000 in
theorem ggX1_findDefinite_X1_reach : GoodIn wsX1_findDefinite wsX1_reach := goodIn_r _ [16, 17, 18, 19, 20, 21] (by decide +kernel) (by decide +kernel)
set_option maxRecDepth 20000 in
theorem gX1_findDefinite_X1_reach : GoodIn wsX1_findDefinite (va_wsS RX1 56 yX1_reach wsX1_reach) := goodIn_app (goodIn_of _ (by decide +kernel)) ggX1_findDefinite_X1_reach
theorem dX1_findDefinite_0 : decode cX1_findDefinite 0 = .ok (.aload_n 0, 1) := by decide +kernel
theorem dX1_findDefinite_1 : decode cX1_findDefinite 1 = .ok (.getfield 9, 3) := by decide +kernel
theorem dX1_findDefinite_4 : decode cX1_findDefinite 4 = .ok (.bipush 7, 2) := by decide +kernel
theorem dX1_findDefinite_6 : decode cX1_findDefinite 6 = .ok (.aload_n 1, 1) := by decide +kernel
theorem dX1_findDefinite_7 : decode cX1_findDefinite 7 = .ok (.getfield 60, 3) := by decide +kernel
theorem dX1_findDefinite_10 : decode cX1_findDefinite 10 = .ok (.iastore, 1) := by decide +kernel
theorem dX1_findDefinite_11 : decode cX1_findDefinite 11 = .ok (.bipush 6, 2) := by decide +kernel
theorem dX1_findDefinite_13 : decode cX1_findDefinite 13 = .ok (.istore_n 2, 1) := by decide +kernel
theorem dX1_findDefinite_14 : decode cX1_findDefinite 14 = .ok (.iload_n 2, 1) := by decide +kernel
theorem dX1_findDefinite_15 : decode cX1_findDefinite 15 = .ok (.iconst 1, 1) := by decide +kernel
theorem dX1_findDefinite_16 : decode cX1_findDefinite 16 = .ok (.if_icmp .lt 48, 3) := by decide +kernel
theorem dX1_findDefinite_19 : decode cX1_findDefinite 19 = .ok (.aload_n 0, 1) := by decide +kernel
theorem dX1_findDefinite_20 : decode cX1_findDefinite 20 = .ok (.getfield 9, 3) := by decide +kernel
theorem dX1_findDefinite_23 : decode cX1_findDefinite 23 = .ok (.iload_n 2, 1) := by decide +kernel
theorem dX1_findDefinite_24 : decode cX1_findDefinite 24 = .ok (.iconst 1, 1) := by decide +kernel
theorem dX1_findDefinite_25 : decode cX1_findDefinite 25 = .ok (.iadd, 1) := by decide +kernel
theorem dX1_findDefinite_26 : decode cX1_findDefinite 26 = .ok (.iaload, 1) := by decide +kernel
theorem dX1_findDefinite_27 : decode cX1_findDefinite 27 = .ok (.aload_n 1, 1) := by decide +kernel
theorem dX1_findDefinite_28 : decode cX1_findDefinite 28 = .ok (.getfield 63, 3) := by decide +kernel
theorem dX1_findDefinite_31 : decode cX1_findDefinite 31 = .ok (.iload_n 2, 1) := by decide +kernel
theorem dX1_findDefinite_32 : decode cX1_findDefinite 32 = .ok (.iaload, 1) := by decide +kernel
theorem dX1_findDefinite_33 : decode cX1_findDefinite 33 = .ok (.ior, 1) := by decide +kernel
theorem dX1_findDefinite_34 : decode cX1_findDefinite 34 = .ok (.istore_n 3, 1) := by decide +kernel
theorem dX1_findDefinite_35 : decode cX1_findDefinite 35 = .ok (.aload_n 0, 1) := by decide +kernel
theorem dX1_findDefinite_36 : decode cX1_findDefinite 36 = .ok (.getfield 9, 3) := by decide +kernel
theorem dX1_findDefinite_39 : decode cX1_findDefinite 39 = .ok (.iload_n 2, 1) := by decide +kernel
theorem dX1_findDefinite_40 : decode cX1_findDefinite 40 = .ok (.iload_n 3, 1) := by decide +kernel
theorem dX1_findDefinite_41 : decode cX1_findDefinite 41 = .ok (.aload_n 0, 1) := by decide +kernel
theorem dX1_findDefinite_42 : decode cX1_findDefinite 42 = .ok (.getfield 23, 3) := by decide +kernel
theorem dX1_findDefinite_45 : decode cX1_findDefinite 45 = .ok (.iload_n 2, 1) := by decide +kernel
theorem dX1_findDefinite_46 : decode cX1_findDefinite 46 = .ok (.invokestatic 66, 3) := by decide +kernel
theorem dX1_findDefinite_49 : decode cX1_findDefinite 49 = .ok (.aaload, 1) := by decide +kernel
theorem dX1_findDefinite_50 : decode cX1_findDefinite 50 = .ok (.aload_n 1, 1) := by decide +kernel
theorem dX1_findDefinite_51 : decode cX1_findDefinite 51 = .ok (.getfield 53, 3) := by decide +kernel
theorem dX1_findDefinite_54 : decode cX1_findDefinite 54 = .ok (.invokestatic 56, 3) := by decide +kernel
theorem dX1_findDefinite_57 : decode cX1_findDefinite 57 = .ok (.iastore, 1) := by decide +kernel
theorem dX1_findDefinite_58 : decode cX1_findDefinite 58 = .ok (.iinc 2 (-1), 3) := by decide +kernel
theorem dX1_findDefinite_61 : decode cX1_findDefinite 61 = .ok (.goto (-47), 3) := by decide +kernel
theorem dX1_findDefinite_64 : decode cX1_findDefinite 64 = .ok (.return_, 1) := by decide +kernel
set_option maxRecDepth 20000 in
theorem ggX1_findSide_X1_strengthPassing : GoodIn wsX1_findSide wsX1_strengthPassing := goodIn_r _ [9, 10, 11, 12, 13] (by decide +kernel) (by decide +kernel)
set_option maxRecDepth 20000 in
theorem gX1_findSide_X1_strengthPassing : GoodIn wsX1_findSide (va_wsS RX1 66 yX1_strengthPassing wsX1_strengthPassing) := goodIn_app (goodIn_of _ (by decide +kernel)) ggX1_findSide_X1_strengthPassing
set_option maxRecDepth 20000 in
theorem ggX1_findSide_X1_reach : GoodIn wsX1_findSide wsX1_reach := goodIn_r _ [16, 17, 18, 19, 20, 21] (by decide +kernel) (by decide +kernel)
set_option maxRecDepth 20000 in
theorem gX1_findSide_X1_reach : GoodIn wsX1_findSide (va_wsS RX1 56 yX1_reach wsX1_reach) := goodIn_app (goodIn_of _ (by decide +kernel)) ggX1_findSide_X1_reach
theorem dX1_findSide_0 : decode cX1_findSide 0 = .ok (.aload_n 1, 1) := by decide +kernel
theorem dX1_findSide_1 : decode cX1_findSide 1 = .ok (.bipush 7, 2) := by decide +kernel
theorem dX1_findSide_3 : decode cX1_findSide 3 = .ok (.aload_n 3, 1) := by decide +kernel
theorem dX1_findSide_4 : decode cX1_findSide 4 = .ok (.getfield 60, 3) := by decide +kernel
theorem dX1_findSide_7 : decode cX1_findSide 7 = .ok (.iload_n 2, 1) := by decide +kernel
theorem dX1_findSide_8 : decode cX1_findSide 8 = .ok (.iand, 1) := by decide +kernel
theorem dX1_findSide_9 : decode cX1_findSide 9 = .ok (.iastore, 1) := by decide +kernel
theorem dX1_findSide_10 : decode cX1_findSide 10 = .ok (.bipush 6, 2) := by decide +kernel
theorem dX1_findSide_12 : decode cX1_findSide 12 = .ok (.istore 4, 2) := by decide +kernel
theorem dX1_findSide_14 : decode cX1_findSide 14 = .ok (.iload 4, 2) := by decide +kernel
theorem dX1_findSide_16 : decode cX1_findSide 16 = .ok (.iconst 1, 1) := by decide +kernel
theorem dX1_findSide_17 : decode cX1_findSide 17 = .ok (.if_icmp .lt 69, 3) := by decide +kernel
theorem dX1_findSide_20 : decode cX1_findSide 20 = .ok (.aload_n 3, 1) := by decide +kernel
theorem dX1_findSide_21 : decode cX1_findSide 21 = .ok (.getfield 53, 3) := by decide +kernel
theorem dX1_findSide_24 : decode cX1_findSide 24 = .ok (.aload_n 0, 1) := by decide +kernel
theorem dX1_findSide_25 : decode cX1_findSide 25 = .ok (.getfield 9, 3) := by decide +kernel
theorem dX1_findSide_28 : decode cX1_findSide 28 = .ok (.iload 4, 2) := by decide +kernel
theorem dX1_findSide_30 : decode cX1_findSide 30 = .ok (.iconst 1, 1) := by decide +kernel
theorem dX1_findSide_31 : decode cX1_findSide 31 = .ok (.iadd, 1) := by decide +kernel
theorem dX1_findSide_32 : decode cX1_findSide 32 = .ok (.iaload, 1) := by decide +kernel
theorem dX1_findSide_33 : decode cX1_findSide 33 = .ok (.iconst (-1), 1) := by decide +kernel
theorem dX1_findSide_34 : decode cX1_findSide 34 = .ok (.ixor, 1) := by decide +kernel
theorem dX1_findSide_35 : decode cX1_findSide 35 = .ok (.iand, 1) := by decide +kernel
theorem dX1_findSide_36 : decode cX1_findSide 36 = .ok (.istore 5, 2) := by decide +kernel
theorem dX1_findSide_38 : decode cX1_findSide 38 = .ok (.aload_n 1, 1) := by decide +kernel
theorem dX1_findSide_39 : decode cX1_findSide 39 = .ok (.iload 4, 2) := by decide +kernel
theorem dX1_findSide_41 : decode cX1_findSide 41 = .ok (.iconst 1, 1) := by decide +kernel
theorem dX1_findSide_42 : decode cX1_findSide 42 = .ok (.iadd, 1) := by decide +kernel
theorem dX1_findSide_43 : decode cX1_findSide 43 = .ok (.iaload, 1) := by decide +kernel
theorem dX1_findSide_44 : decode cX1_findSide 44 = .ok (.aload_n 3, 1) := by decide +kernel
theorem dX1_findSide_45 : decode cX1_findSide 45 = .ok (.getfield 63, 3) := by decide +kernel
theorem dX1_findSide_48 : decode cX1_findSide 48 = .ok (.iload 4, 2) := by decide +kernel
theorem dX1_findSide_50 : decode cX1_findSide 50 = .ok (.iaload, 1) := by decide +kernel
theorem dX1_findSide_51 : decode cX1_findSide 51 = .ok (.iload_n 2, 1) := by decide +kernel
theorem dX1_findSide_52 : decode cX1_findSide 52 = .ok (.iand, 1) := by decide +kernel
theorem dX1_findSide_53 : decode cX1_findSide 53 = .ok (.iload 5, 2) := by decide +kernel
theorem dX1_findSide_55 : decode cX1_findSide 55 = .ok (.iand, 1) := by decide +kernel
theorem dX1_findSide_56 : decode cX1_findSide 56 = .ok (.ior, 1) := by decide +kernel
theorem dX1_findSide_57 : decode cX1_findSide 57 = .ok (.istore 6, 2) := by decide +kernel
theorem dX1_findSide_59 : decode cX1_findSide 59 = .ok (.aload_n 1, 1) := by decide +kernel
theorem dX1_findSide_60 : decode cX1_findSide 60 = .ok (.iload 4, 2) := by decide +kernel
theorem dX1_findSide_62 : decode cX1_findSide 62 = .ok (.iload 6, 2) := by decide +kernel
theorem dX1_findSide_64 : decode cX1_findSide 64 = .ok (.aload_n 0, 1) := by decide +kernel
theorem dX1_findSide_65 : decode cX1_findSide 65 = .ok (.getfield 26, 3) := by decide +kernel
theorem dX1_findSide_68 : decode cX1_findSide 68 = .ok (.iload 4, 2) := by decide +kernel
theorem dX1_findSide_70 : decode cX1_findSide 70 = .ok (.invokestatic 66, 3) := by decide +kernel
theorem dX1_findSide_73 : decode cX1_findSide 73 = .ok (.aaload, 1) := by decide +kernel
theorem dX1_findSide_74 : decode cX1_findSide 74 = .ok (.iload 5, 2) := by decide +kernel
theorem dX1_findSide_76 : decode cX1_findSide 76 = .ok (.invokestatic 56, 3) := by decide +kernel
theorem dX1_findSide_79 : decode cX1_findSide 79 = .ok (.iastore, 1) := by decide +kernel
theorem dX1_findSide_80 : decode cX1_findSide 80 = .ok (.iinc 4 (-1), 3) := by decide +kernel
theorem dX1_findSide_83 : decode cX1_findSide 83 = .ok (.goto (-69), 3) := by decide +kernel
theorem dX1_findSide_86 : decode cX1_findSide 86 = .ok (.return_, 1) := by decide +kernel
theorem dX1_strengthPassing_0 : decode cX1_strengthPassing 0 = .ok (.iconst 1, 1) := by decide +kernel
theorem dX1_strengthPassing_1 : decode cX1_strengthPassing 1 = .ok (.iload_n 0, 1) := by decide +kernel
theorem dX1_strengthPassing_2 : decode cX1_strengthPassing 2 = .ok (.iconst 3, 1) := by decide +kernel
theorem dX1_strengthPassing_3 : decode cX1_strengthPassing 3 = .ok (.isub, 1) := by decide +kernel
theorem dX1_strengthPassing_4 : decode cX1_strengthPassing 4 = .ok (.invokestatic 70, 3) := by decide +kernel
theorem dX1_strengthPassing_7 : decode cX1_strengthPassing 7 = .ok (.ireturn, 1) := by decide +kernel
set_option maxRecDepth 20000 in
theorem ggX1_findNeighbors_X0_stateOf : GoodIn wsX1_findNeighbors wsX0_stateOf := goodIn_r _ [9, 10, 11, 12, 13, 14, 15, 8, 16, 17, 18, 26, 27, 28, 29, 30, 31, 32, 33, 34, 35, 36, 37, 38] (by decide +kernel) (by decide +kernel)
set_option maxRecDepth 20000 in
theorem gX1_findNeighbors_X0_stateOf : GoodIn wsX1_findNeighbors (wsV RX1 82 RX0 yX0_stateOf wsX0_stateOf) := goodIn_app (goodIn_of _ (by decide +kernel)) ggX1_findNeighbors_X0_stateOf
set_option maxRecDepth 20000 in
theorem ggX1_findNeighbors_X1_connect : GoodIn wsX1_findNeighbors wsX1_connect := goodIn_r _ [22, 23, 24, 25, 26, 27, 28, 29, 30, 31, 32, 33, 34, 35, 36, 37, 38] (by decide +kernel) (by decide +kernel)
set_option maxRecDepth 20000 in
theorem gX1_findNeighbors_X1_connect : GoodIn wsX1_findNeighbors (va_wsS RX1 85 yX1_connect wsX1_connect) := goodIn_app (goodIn_of _ (by decide +kernel)) ggX1_findNeighbors_X1_connect
theorem dX1_findNeighbors_0 : decode cX1_findNeighbors 0 = .ok (.iconst 1, 1) := by decide +kernel
theorem dX1_findNeighbors_1 : decode cX1_findNeighbors 1 = .ok (.istore_n 2, 1) := by decide +kernel
theorem dX1_findNeighbors_2 : decode cX1_findNeighbors 2 = .ok (.iload_n 2, 1) := by decide +kernel
theorem dX1_findNeighbors_3 : decode cX1_findNeighbors 3 = .ok (.iconst 3, 1) := by decide +kernel
theorem dX1_findNeighbors_4 : decode cX1_findNeighbors 4 = .ok (.if_icmp .gt 43, 3) := by decide +kernel
theorem dX1_findNeighbors_7 : decode cX1_findNeighbors 7 = .ok (.iconst 0, 1) := by decide +kernel
theorem dX1_findNeighbors_8 : decode cX1_findNeighbors 8 = .ok (.istore_n 3, 1) := by decide +kernel
theorem dX1_findNeighbors_9 : decode cX1_findNeighbors 9 = .ok (.iload_n 3, 1) := by decide +kernel
theorem dX1_findNeighbors_10 : decode cX1_findNeighbors 10 = .ok (.aload_n 1, 1) := by decide +kernel
theorem dX1_findNeighbors_11 : decode cX1_findNeighbors 11 = .ok (.getfield 76, 3) := by decide +kernel
theorem dX1_findNeighbors_14 : decode cX1_findNeighbors 14 = .ok (.if_icmp .ge 27, 3) := by decide +kernel
theorem dX1_findNeighbors_17 : decode cX1_findNeighbors 17 = .ok (.aload_n 0, 1) := by decide +kernel
theorem dX1_findNeighbors_18 : decode cX1_findNeighbors 18 = .ok (.getfield 23, 3) := by decide +kernel
theorem dX1_findNeighbors_21 : decode cX1_findNeighbors 21 = .ok (.iload_n 2, 1) := by decide +kernel
theorem dX1_findNeighbors_22 : decode cX1_findNeighbors 22 = .ok (.aaload, 1) := by decide +kernel
theorem dX1_findNeighbors_23 : decode cX1_findNeighbors 23 = .ok (.iload_n 3, 1) := by decide +kernel
theorem dX1_findNeighbors_24 : decode cX1_findNeighbors 24 = .ok (.iconst 0, 1) := by decide +kernel
theorem dX1_findNeighbors_25 : decode cX1_findNeighbors 25 = .ok (.iastore, 1) := by decide +kernel
theorem dX1_findNeighbors_26 : decode cX1_findNeighbors 26 = .ok (.aload_n 0, 1) := by decide +kernel
theorem dX1_findNeighbors_27 : decode cX1_findNeighbors 27 = .ok (.getfield 26, 3) := by decide +kernel
theorem dX1_findNeighbors_30 : decode cX1_findNeighbors 30 = .ok (.iload_n 2, 1) := by decide +kernel
theorem dX1_findNeighbors_31 : decode cX1_findNeighbors 31 = .ok (.aaload, 1) := by decide +kernel
theorem dX1_findNeighbors_32 : decode cX1_findNeighbors 32 = .ok (.iload_n 3, 1) := by decide +kernel
theorem dX1_findNeighbors_33 : decode cX1_findNeighbors 33 = .ok (.iconst 0, 1) := by decide +kernel
theorem dX1_findNeighbors_34 : decode cX1_findNeighbors 34 = .ok (.iastore, 1) := by decide +kernel
theorem dX1_findNeighbors_35 : decode cX1_findNeighbors 35 = .ok (.iinc 3 1, 3) := by decide +kernel
theorem dX1_findNeighbors_38 : decode cX1_findNeighbors 38 = .ok (.goto (-29), 3) := by decide +kernel
theorem dX1_findNeighbors_41 : decode cX1_findNeighbors 41 = .ok (.iinc 2 1, 3) := by decide +kernel
theorem dX1_findNeighbors_44 : decode cX1_findNeighbors 44 = .ok (.goto (-42), 3) := by decide +kernel
theorem dX1_findNeighbors_47 : decode cX1_findNeighbors 47 = .ok (.iconst 0, 1) := by decide +kernel
theorem dX1_findNeighbors_48 : decode cX1_findNeighbors 48 = .ok (.istore_n 2, 1) := by decide +kernel
theorem dX1_findNeighbors_49 : decode cX1_findNeighbors 49 = .ok (.iload_n 2, 1) := by decide +kernel
theorem dX1_findNeighbors_50 : decode cX1_findNeighbors 50 = .ok (.aload_n 1, 1) := by decide +kernel
theorem dX1_findNeighbors_51 : decode cX1_findNeighbors 51 = .ok (.getfield 79, 3) := by decide +kernel
theorem dX1_findNeighbors_54 : decode cX1_findNeighbors 54 = .ok (.if_icmp .ge 42, 3) := by decide +kernel
theorem dX1_findNeighbors_57 : decode cX1_findNeighbors 57 = .ok (.aload_n 1, 1) := by decide +kernel
theorem dX1_findNeighbors_58 : decode cX1_findNeighbors 58 = .ok (.iload_n 2, 1) := by decide +kernel
theorem dX1_findNeighbors_59 : decode cX1_findNeighbors 59 = .ok (.invokevirtual 82, 3) := by decide +kernel
theorem dX1_findNeighbors_62 : decode cX1_findNeighbors 62 = .ok (.istore_n 3, 1) := by decide +kernel
theorem dX1_findNeighbors_63 : decode cX1_findNeighbors 63 = .ok (.iload_n 3, 1) := by decide +kernel
theorem dX1_findNeighbors_64 : decode cX1_findNeighbors 64 = .ok (.ifCond .eq 12, 3) := by decide +kernel
theorem dX1_findNeighbors_67 : decode cX1_findNeighbors 67 = .ok (.aload_n 0, 1) := by decide +kernel
theorem dX1_findNeighbors_68 : decode cX1_findNeighbors 68 = .ok (.getfield 26, 3) := by decide +kernel
theorem dX1_findNeighbors_71 : decode cX1_findNeighbors 71 = .ok (.aload_n 1, 1) := by decide +kernel
theorem dX1_findNeighbors_72 : decode cX1_findNeighbors 72 = .ok (.iload_n 2, 1) := by decide +kernel
theorem dX1_findNeighbors_73 : decode cX1_findNeighbors 73 = .ok (.invokestatic 85, 3) := by decide +kernel
theorem dX1_findNeighbors_76 : decode cX1_findNeighbors 76 = .ok (.iload_n 3, 1) := by decide +kernel
theorem dX1_findNeighbors_77 : decode cX1_findNeighbors 77 = .ok (.iconst 1, 1) := by decide +kernel
theorem dX1_findNeighbors_78 : decode cX1_findNeighbors 78 = .ok (.if_icmp .ne 12, 3) := by decide +kernel
theorem dX1_findNeighbors_81 : decode cX1_findNeighbors 81 = .ok (.aload_n 0, 1) := by decide +kernel
theorem dX1_findNeighbors_82 : decode cX1_findNeighbors 82 = .ok (.getfield 23, 3) := by decide +kernel
theorem dX1_findNeighbors_85 : decode cX1_findNeighbors 85 = .ok (.aload_n 1, 1) := by decide +kernel
theorem dX1_findNeighbors_86 : decode cX1_findNeighbors 86 = .ok (.iload_n 2, 1) := by decide +kernel
theorem dX1_findNeighbors_87 : decode cX1_findNeighbors 87 = .ok (.invokestatic 85, 3) := by decide +kernel
theorem dX1_findNeighbors_90 : decode cX1_findNeighbors 90 = .ok (.iinc 2 1, 3) := by decide +kernel
theorem dX1_findNeighbors_93 : decode cX1_findNeighbors 93 = .ok (.goto (-44), 3) := by decide +kernel
theorem dX1_findNeighbors_96 : decode cX1_findNeighbors 96 = .ok (.return_, 1) := by decide +kernel
theorem dX1_connect_0 : decode cX1_connect 0 = .ok (.aload_n 1, 1) := by decide +kernel
theorem dX1_connect_1 : decode cX1_connect 1 = .ok (.getfield 89, 3) := by decide +kernel
theorem dX1_connect_4 : decode cX1_connect 4 = .ok (.iload_n 2, 1) := by decide +kernel
theorem dX1_connect_5 : decode cX1_connect 5 = .ok (.iaload, 1) := by decide +kernel
theorem dX1_connect_6 : decode cX1_connect 6 = .ok (.istore_n 3, 1) := by decide +kernel
theorem dX1_connect_7 : decode cX1_connect 7 = .ok (.aload_n 1, 1) := by decide +kernel
theorem dX1_connect_8 : decode cX1_connect 8 = .ok (.getfield 92, 3) := by decide +kernel
theorem dX1_connect_11 : decode cX1_connect 11 = .ok (.iload_n 2, 1) := by decide +kernel
theorem dX1_connect_12 : decode cX1_connect 12 = .ok (.iaload, 1) := by decide +kernel
theorem dX1_connect_13 : decode cX1_connect 13 = .ok (.istore 4, 2) := by decide +kernel
theorem dX1_connect_15 : decode cX1_connect 15 = .ok (.iconst 1, 1) := by decide +kernel
theorem dX1_connect_16 : decode cX1_connect 16 = .ok (.istore 5, 2) := by decide +kernel
theorem dX1_connect_18 : decode cX1_connect 18 = .ok (.iload 5, 2) := by decide +kernel
theorem dX1_connect_20 : decode cX1_connect 20 = .ok (.aload_n 1, 1) := by decide +kernel
theorem dX1_connect_21 : decode cX1_connect 21 = .ok (.getfield 95, 3) := by decide +kernel
theorem dX1_connect_24 : decode cX1_connect 24 = .ok (.iload_n 2, 1) := by decide +kernel
theorem dX1_connect_25 : decode cX1_connect 25 = .ok (.iaload, 1) := by decide +kernel
theorem dX1_connect_26 : decode cX1_connect 26 = .ok (.if_icmp .gt 35, 3) := by decide +kernel
theorem dX1_connect_29 : decode cX1_connect 29 = .ok (.aload_n 0, 1) := by decide +kernel
theorem dX1_connect_30 : decode cX1_connect 30 = .ok (.iload 5, 2) := by decide +kernel
theorem dX1_connect_32 : decode cX1_connect 32 = .ok (.aaload, 1) := by decide +kernel
theorem dX1_connect_33 : decode cX1_connect 33 = .ok (.iload_n 3, 1) := by decide +kernel
theorem dX1_connect_34 : decode cX1_connect 34 = .ok (.dup2, 1) := by decide +kernel
theorem dX1_connect_35 : decode cX1_connect 35 = .ok (.iaload, 1) := by decide +kernel
theorem dX1_connect_36 : decode cX1_connect 36 = .ok (.iconst 1, 1) := by decide +kernel
theorem dX1_connect_37 : decode cX1_connect 37 = .ok (.iload 4, 2) := by decide +kernel
theorem dX1_connect_39 : decode cX1_connect 39 = .ok (.ishl, 1) := by decide +kernel
theorem dX1_connect_40 : decode cX1_connect 40 = .ok (.ior, 1) := by decide +kernel
theorem dX1_connect_41 : decode cX1_connect 41 = .ok (.iastore, 1) := by decide +kernel
theorem dX1_connect_42 : decode cX1_connect 42 = .ok (.aload_n 0, 1) := by decide +kernel
theorem dX1_connect_43 : decode cX1_connect 43 = .ok (.iload 5, 2) := by decide +kernel
theorem dX1_connect_45 : decode cX1_connect 45 = .ok (.aaload, 1) := by decide +kernel
theorem dX1_connect_46 : decode cX1_connect 46 = .ok (.iload 4, 2) := by decide +kernel
theorem dX1_connect_48 : decode cX1_connect 48 = .ok (.dup2, 1) := by decide +kernel
theorem dX1_connect_49 : decode cX1_connect 49 = .ok (.iaload, 1) := by decide +kernel
theorem dX1_connect_50 : decode cX1_connect 50 = .ok (.iconst 1, 1) := by decide +kernel
theorem dX1_connect_51 : decode cX1_connect 51 = .ok (.iload_n 3, 1) := by decide +kernel
theorem dX1_connect_52 : decode cX1_connect 52 = .ok (.ishl, 1) := by decide +kernel
theorem dX1_connect_53 : decode cX1_connect 53 = .ok (.ior, 1) := by decide +kernel
theorem dX1_connect_54 : decode cX1_connect 54 = .ok (.iastore, 1) := by decide +kernel
theorem dX1_connect_55 : decode cX1_connect 55 = .ok (.iinc 5 1, 3) := by decide +kernel
theorem dX1_connect_58 : decode cX1_connect 58 = .ok (.goto (-40), 3) := by decide +kernel
theorem dX1_connect_61 : decode cX1_connect 61 = .ok (.return_, 1) := by decide +kernel
set_option maxRecDepth 20000 in
theorem ggX1_reach_J6_numberOfTrailingZeros_0f7a4 : GoodIn wsX1_reach wsJ6_numberOfTrailingZeros_0f7a4 := goodIn_r _ [4, 5] (by decide +kernel) (by decide +kernel)
set_option maxRecDepth 20000 in
theorem gX1_reach_J6_numberOfTrailingZeros_0f7a4 : GoodIn wsX1_reach (va_wsS RX1 98 yJ6_numberOfTrailingZeros_0f7a4 wsJ6_numberOfTrailingZeros_0f7a4) := goodIn_app (goodIn_of _ (by decide +kernel)) ggX1_reach_J6_numberOfTrailingZeros_0f7a4
theorem dX1_reach_0 : decode cX1_reach 0 = .ok (.iload_n 2, 1) := by decide +kernel
theorem dX1_reach_1 : decode cX1_reach 1 = .ok (.iload_n 0, 1) := by decide +kernel
theorem dX1_reach_2 : decode cX1_reach 2 = .ok (.iconst (-1), 1) := by decide +kernel
theorem dX1_reach_3 : decode cX1_reach 3 = .ok (.ixor, 1) := by decide +kernel
theorem dX1_reach_4 : decode cX1_reach 4 = .ok (.iand, 1) := by decide +kernel
theorem dX1_reach_5 : decode cX1_reach 5 = .ok (.istore_n 3, 1) := by decide +kernel
theorem dX1_reach_6 : decode cX1_reach 6 = .ok (.iload_n 0, 1) := by decide +kernel
theorem dX1_reach_7 : decode cX1_reach 7 = .ok (.istore 4, 2) := by decide +kernel
theorem dX1_reach_9 : decode cX1_reach 9 = .ok (.iconst 0, 1) := by decide +kernel
theorem dX1_reach_10 : decode cX1_reach 10 = .ok (.istore 5, 2) := by decide +kernel
theorem dX1_reach_12 : decode cX1_reach 12 = .ok (.iload 5, 2) := by decide +kernel
theorem dX1_reach_14 : decode cX1_reach 14 = .ok (.bipush 24, 2) := by decide +kernel
theorem dX1_reach_16 : decode cX1_reach 16 = .ok (.if_icmp .ge 57, 3) := by decide +kernel
theorem dX1_reach_19 : decode cX1_reach 19 = .ok (.iload_n 3, 1) := by decide +kernel
theorem dX1_reach_20 : decode cX1_reach 20 = .ok (.ifCond .eq 53, 3) := by decide +kernel
theorem dX1_reach_23 : decode cX1_reach 23 = .ok (.iload 4, 2) := by decide +kernel
theorem dX1_reach_25 : decode cX1_reach 25 = .ok (.invokestatic 98, 3) := by decide +kernel
theorem dX1_reach_28 : decode cX1_reach 28 = .ok (.istore 6, 2) := by decide +kernel
theorem dX1_reach_30 : decode cX1_reach 30 = .ok (.iload 6, 2) := by decide +kernel
theorem dX1_reach_32 : decode cX1_reach 32 = .ok (.aload_n 1, 1) := by decide +kernel
theorem dX1_reach_33 : decode cX1_reach 33 = .ok (.arraylength, 1) := by decide +kernel
theorem dX1_reach_34 : decode cX1_reach 34 = .ok (.if_icmp .lt 6, 3) := by decide +kernel
theorem dX1_reach_37 : decode cX1_reach 37 = .ok (.goto 36, 3) := by decide +kernel
theorem dX1_reach_40 : decode cX1_reach 40 = .ok (.aload_n 1, 1) := by decide +kernel
theorem dX1_reach_41 : decode cX1_reach 41 = .ok (.iload 6, 2) := by decide +kernel
theorem dX1_reach_43 : decode cX1_reach 43 = .ok (.iaload, 1) := by decide +kernel
theorem dX1_reach_44 : decode cX1_reach 44 = .ok (.iload_n 3, 1) := by decide +kernel
theorem dX1_reach_45 : decode cX1_reach 45 = .ok (.iand, 1) := by decide +kernel
theorem dX1_reach_46 : decode cX1_reach 46 = .ok (.istore 7, 2) := by decide +kernel
theorem dX1_reach_48 : decode cX1_reach 48 = .ok (.iload_n 3, 1) := by decide +kernel
theorem dX1_reach_49 : decode cX1_reach 49 = .ok (.iload 7, 2) := by decide +kernel
theorem dX1_reach_51 : decode cX1_reach 51 = .ok (.iconst (-1), 1) := by decide +kernel
theorem dX1_reach_52 : decode cX1_reach 52 = .ok (.ixor, 1) := by decide +kernel
theorem dX1_reach_53 : decode cX1_reach 53 = .ok (.iand, 1) := by decide +kernel
theorem dX1_reach_54 : decode cX1_reach 54 = .ok (.istore_n 3, 1) := by decide +kernel
theorem dX1_reach_55 : decode cX1_reach 55 = .ok (.iload 4, 2) := by decide +kernel
theorem dX1_reach_57 : decode cX1_reach 57 = .ok (.iload 4, 2) := by decide +kernel
theorem dX1_reach_59 : decode cX1_reach 59 = .ok (.iconst 1, 1) := by decide +kernel
theorem dX1_reach_60 : decode cX1_reach 60 = .ok (.isub, 1) := by decide +kernel
theorem dX1_reach_61 : decode cX1_reach 61 = .ok (.iand, 1) := by decide +kernel
theorem dX1_reach_62 : decode cX1_reach 62 = .ok (.iload 7, 2) := by decide +kernel
theorem dX1_reach_64 : decode cX1_reach 64 = .ok (.ior, 1) := by decide +kernel
theorem dX1_reach_65 : decode cX1_reach 65 = .ok (.istore 4, 2) := by decide +kernel
theorem dX1_reach_67 : decode cX1_reach 67 = .ok (.iinc 5 1, 3) := by decide +kernel
theorem dX1_reach_70 : decode cX1_reach 70 = .ok (.goto (-58), 3) := by decide +kernel
theorem dX1_reach_73 : decode cX1_reach 73 = .ok (.iload_n 0, 1) := by decide +kernel
theorem dX1_reach_74 : decode cX1_reach 74 = .ok (.iload_n 2, 1) := by decide +kernel
theorem dX1_reach_75 : decode cX1_reach 75 = .ok (.iload_n 3, 1) := by decide +kernel
theorem dX1_reach_76 : decode cX1_reach 76 = .ok (.iconst (-1), 1) := by decide +kernel
theorem dX1_reach_77 : decode cX1_reach 77 = .ok (.ixor, 1) := by decide +kernel
theorem dX1_reach_78 : decode cX1_reach 78 = .ok (.iand, 1) := by decide +kernel
theorem dX1_reach_79 : decode cX1_reach 79 = .ok (.ior, 1) := by decide +kernel
theorem dX1_reach_80 : decode cX1_reach 80 = .ok (.ireturn, 1) := by decide +kernel
theorem dX1_levelIn_0 : decode cX1_levelIn 0 = .ok (.iconst 0, 1) := by decide +kernel
theorem dX1_levelIn_1 : decode cX1_levelIn 1 = .ok (.istore_n 2, 1) := by decide +kernel
theorem dX1_levelIn_2 : decode cX1_levelIn 2 = .ok (.iload_n 2, 1) := by decide +kernel
theorem dX1_levelIn_3 : decode cX1_levelIn 3 = .ok (.bipush 7, 2) := by decide +kernel
theorem dX1_levelIn_5 : decode cX1_levelIn 5 = .ok (.if_icmp .ge 21, 3) := by decide +kernel
theorem dX1_levelIn_8 : decode cX1_levelIn 8 = .ok (.aload_n 0, 1) := by decide +kernel
theorem dX1_levelIn_9 : decode cX1_levelIn 9 = .ok (.iload_n 2, 1) := by decide +kernel
theorem dX1_levelIn_10 : decode cX1_levelIn 10 = .ok (.iconst 1, 1) := by decide +kernel
theorem dX1_levelIn_11 : decode cX1_levelIn 11 = .ok (.iadd, 1) := by decide +kernel
theorem dX1_levelIn_12 : decode cX1_levelIn 12 = .ok (.iaload, 1) := by decide +kernel
theorem dX1_levelIn_13 : decode cX1_levelIn 13 = .ok (.iconst 1, 1) := by decide +kernel
theorem dX1_levelIn_14 : decode cX1_levelIn 14 = .ok (.iload_n 1, 1) := by decide +kernel
theorem dX1_levelIn_15 : decode cX1_levelIn 15 = .ok (.ishl, 1) := by decide +kernel
theorem dX1_levelIn_16 : decode cX1_levelIn 16 = .ok (.iand, 1) := by decide +kernel
theorem dX1_levelIn_17 : decode cX1_levelIn 17 = .ok (.ifCond .eq 9, 3) := by decide +kernel
theorem dX1_levelIn_20 : decode cX1_levelIn 20 = .ok (.iinc 2 1, 3) := by decide +kernel
theorem dX1_levelIn_23 : decode cX1_levelIn 23 = .ok (.goto (-21), 3) := by decide +kernel
theorem dX1_levelIn_26 : decode cX1_levelIn 26 = .ok (.iload_n 2, 1) := by decide +kernel
theorem dX1_levelIn_27 : decode cX1_levelIn 27 = .ok (.ireturn, 1) := by decide +kernel
end
section
set_option maxRecDepth 20000 in
theorem ggX2_init_X0_init : GoodIn wsX2_init wsX0_init := goodIn_r _ [15, 16, 2, 3, 17, 18, 19, 20, 21, 22, 23, 24, 34, 35, 36, 37, 38, 39, 40, 41, 42, 43, 44, 45, 46] (by decide +kernel) (by decide +kernel)
set_option maxRecDepth 20000 in
theorem gX2_init_X0_init_n9 : GoodIn wsX2_init (wsX0_init) := ggX2_init_X0_init
set_option maxRecDepth 20000 in
theorem ggX2_init_X1_init : GoodIn wsX2_init wsX1_init := goodIn_r _ [26, 27, 2, 3, 17, 28, 29, 30, 31, 32, 33, 51, 52, 53, 54, 55] (by decide +kernel) (by decide +kernel)
set_option maxRecDepth 20000 in
theorem gX2_init_X1_init_n25 : GoodIn wsX2_init (wsX1_init) := ggX2_init_X1_init
theorem dX2_init_0 : decode cX2_init 0 = .ok (.aload_n 0, 1) := by decide +kernel
theorem dX2_init_1 : decode cX2_init 1 = .ok (.invokespecial 1, 3) := by decide +kernel
theorem dX2_init_4 : decode cX2_init 4 = .ok (.aload_n 0, 1) := by decide +kernel
theorem dX2_init_5 : decode cX2_init 5 = .ok (.new 7, 3) := by decide +kernel
theorem dX2_init_8 : decode cX2_init 8 = .ok (.dup, 1) := by decide +kernel
theorem dX2_init_9 : decode cX2_init 9 = .ok (.invokespecial 9, 3) := by decide +kernel
theorem dX2_init_12 : decode cX2_init 12 = .ok (.putfield 10, 3) := by decide +kernel
theorem dX2_init_15 : decode cX2_init 15 = .ok (.aload_n 0, 1) := by decide +kernel
theorem dX2_init_16 : decode cX2_init 16 = .ok (.new 7, 3) := by decide +kernel
theorem dX2_init_19 : decode cX2_init 19 = .ok (.dup, 1) := by decide +kernel
theorem dX2_init_20 : decode cX2_init 20 = .ok (.invokespecial 9, 3) := by decide +kernel
theorem dX2_init_23 : decode cX2_init 23 = .ok (.putfield 16, 3) := by decide +kernel
theorem dX2_init_26 : decode cX2_init 26 = .ok (.aload_n 0, 1) := by decide +kernel
theorem dX2_init_27 : decode cX2_init 27 = .ok (.iconst 2, 1) := by decide +kernel
theorem dX2_init_28 : decode cX2_init 28 = .ok (.anewarray 7, 3) := by decide +kernel
theorem dX2_init_31 : decode cX2_init 31 = .ok (.putfield 19, 3) := by decide +kernel
theorem dX2_init_34 : decode cX2_init 34 = .ok (.aload_n 0, 1) := by decide +kernel
theorem dX2_init_35 : decode cX2_init 35 = .ok (.new 23, 3) := by decide +kernel
theorem dX2_init_38 : decode cX2_init 38 = .ok (.dup, 1) := by decide +kernel
theorem dX2_init_39 : decode cX2_init 39 = .ok (.invokespecial 25, 3) := by decide +kernel
theorem dX2_init_42 : decode cX2_init 42 = .ok (.putfield 26, 3) := by decide +kernel
theorem dX2_init_45 : decode cX2_init 45 = .ok (.return_, 1) := by decide +kernel
set_option maxRecDepth 20000 in
theorem ggX2_addInput_X0_appendInput : GoodIn wsX2_addInput wsX0_appendInput := goodIn_r _ [7, 8, 9, 10, 11, 12, 6, 13, 14, 15, 16, 17, 18, 19, 24, 25, 26, 27, 28, 29, 30, 31, 32, 33, 34, 35, 36] (by decide +kernel) (by decide +kernel)
set_option maxRecDepth 20000 in
theorem gX2_addInput_X0_appendInput : GoodIn wsX2_addInput (wsV RX2 34 RX0 yX0_appendInput wsX0_appendInput) := goodIn_app (goodIn_of _ (by decide +kernel)) ggX2_addInput_X0_appendInput
theorem dX2_addInput_0 : decode cX2_addInput 0 = .ok (.aload_n 0, 1) := by decide +kernel
theorem dX2_addInput_1 : decode cX2_addInput 1 = .ok (.getfield 10, 3) := by decide +kernel
theorem dX2_addInput_4 : decode cX2_addInput 4 = .ok (.getfield 30, 3) := by decide +kernel
theorem dX2_addInput_7 : decode cX2_addInput 7 = .ok (.bipush 24, 2) := by decide +kernel
theorem dX2_addInput_9 : decode cX2_addInput 9 = .ok (.if_icmp .lt 6, 3) := by decide +kernel
theorem dX2_addInput_12 : decode cX2_addInput 12 = .ok (.bipush (-6), 2) := by decide +kernel
theorem dX2_addInput_14 : decode cX2_addInput 14 = .ok (.ireturn, 1) := by decide +kernel
theorem dX2_addInput_15 : decode cX2_addInput 15 = .ok (.aload_n 0, 1) := by decide +kernel
theorem dX2_addInput_16 : decode cX2_addInput 16 = .ok (.getfield 10, 3) := by decide +kernel
theorem dX2_addInput_19 : decode cX2_addInput 19 = .ok (.invokevirtual 34, 3) := by decide +kernel
theorem dX2_addInput_22 : decode cX2_addInput 22 = .ok (.ireturn, 1) := by decide +kernel
set_option maxRecDepth 20000 in
theorem ggX2_addStorage_X2_isWithin : GoodIn wsX2_addStorage wsX2_isWithin := goodIn_r _ [6] (by decide +kernel) (by decide +kernel)
set_option maxRecDepth 20000 in
theorem gX2_addStorage_X2_isWithin : GoodIn wsX2_addStorage (va_wsS RX2 38 yX2_isWithin wsX2_isWithin) := goodIn_app (goodIn_of _ (by decide +kernel)) ggX2_addStorage_X2_isWithin
set_option maxRecDepth 20000 in
theorem ggX2_addStorage_X0_appendStorage : GoodIn wsX2_addStorage wsX0_appendStorage := goodIn_r _ [11, 12, 13, 14, 15, 16, 17, 10, 18, 19, 20, 21, 22, 23, 24, 29, 30, 31, 32, 33, 34, 35, 36, 37, 38, 39, 40, 41] (by decide +kernel) (by decide +kernel)
set_option maxRecDepth 20000 in
theorem gX2_addStorage_X0_appendStorage : GoodIn wsX2_addStorage (wsV RX2 42 RX0 yX0_appendStorage wsX0_appendStorage) := goodIn_app (goodIn_of _ (by decide +kernel)) ggX2_addStorage_X0_appendStorage
theorem dX2_addStorage_0 : decode cX2_addStorage 0 = .ok (.iload_n 1, 1) := by decide +kernel
theorem dX2_addStorage_1 : decode cX2_addStorage 1 = .ok (.iconst 1, 1) := by decide +kernel
theorem dX2_addStorage_2 : decode cX2_addStorage 2 = .ok (.iconst 3, 1) := by decide +kernel
theorem dX2_addStorage_3 : decode cX2_addStorage 3 = .ok (.invokestatic 38, 3) := by decide +kernel
theorem dX2_addStorage_6 : decode cX2_addStorage 6 = .ok (.ifCond .ne 6, 3) := by decide +kernel
theorem dX2_addStorage_9 : decode cX2_addStorage 9 = .ok (.bipush (-3), 2) := by decide +kernel
theorem dX2_addStorage_11 : decode cX2_addStorage 11 = .ok (.ireturn, 1) := by decide +kernel
theorem dX2_addStorage_12 : decode cX2_addStorage 12 = .ok (.aload_n 0, 1) := by decide +kernel
theorem dX2_addStorage_13 : decode cX2_addStorage 13 = .ok (.getfield 10, 3) := by decide +kernel
theorem dX2_addStorage_16 : decode cX2_addStorage 16 = .ok (.getfield 30, 3) := by decide +kernel
theorem dX2_addStorage_19 : decode cX2_addStorage 19 = .ok (.bipush 24, 2) := by decide +kernel
theorem dX2_addStorage_21 : decode cX2_addStorage 21 = .ok (.if_icmp .lt 6, 3) := by decide +kernel
theorem dX2_addStorage_24 : decode cX2_addStorage 24 = .ok (.bipush (-6), 2) := by decide +kernel
theorem dX2_addStorage_26 : decode cX2_addStorage 26 = .ok (.ireturn, 1) := by decide +kernel
theorem dX2_addStorage_27 : decode cX2_addStorage 27 = .ok (.aload_n 0, 1) := by decide +kernel
theorem dX2_addStorage_28 : decode cX2_addStorage 28 = .ok (.getfield 10, 3) := by decide +kernel
theorem dX2_addStorage_31 : decode cX2_addStorage 31 = .ok (.iload_n 1, 1) := by decide +kernel
theorem dX2_addStorage_32 : decode cX2_addStorage 32 = .ok (.invokevirtual 42, 3) := by decide +kernel
theorem dX2_addStorage_35 : decode cX2_addStorage 35 = .ok (.ireturn, 1) := by decide +kernel
set_option maxRecDepth 20000 in
theorem ggX2_addTransistor_X0_hasNode : GoodIn wsX2_addTransistor wsX0_hasNode := goodIn_r _ [7, 8, 28, 29, 30, 31, 32, 33, 34, 35, 36, 37, 38, 39, 40] (by decide +kernel) (by decide +kernel)
set_option maxRecDepth 20000 in
theorem gX2_addTransistor_X0_hasNode : GoodIn wsX2_addTransistor (wsV RX2 46 RX0 yX0_hasNode wsX0_hasNode) := goodIn_app (goodIn_of _ (by decide +kernel)) ggX2_addTransistor_X0_hasNode
set_option maxRecDepth 20000 in
theorem ggX2_addTransistor_X2_isWithin : GoodIn wsX2_addTransistor wsX2_isWithin := goodIn_r _ [12] (by decide +kernel) (by decide +kernel)
set_option maxRecDepth 20000 in
theorem gX2_addTransistor_X2_isWithin : GoodIn wsX2_addTransistor (va_wsS RX2 38 yX2_isWithin wsX2_isWithin) := goodIn_app (goodIn_of _ (by decide +kernel)) ggX2_addTransistor_X2_isWithin
set_option maxRecDepth 20000 in
theorem ggX2_addTransistor_X0_appendTransistor : GoodIn wsX2_addTransistor wsX0_appendTransistor := goodIn_r _ [16, 17, 18, 19, 20, 21, 22, 23, 28, 29, 30, 31, 32, 33, 34, 35, 36, 37, 38, 39, 40] (by decide +kernel) (by decide +kernel)
set_option maxRecDepth 20000 in
theorem gX2_addTransistor_X0_appendTransistor : GoodIn wsX2_addTransistor (wsV RX2 53 RX0 yX0_appendTransistor wsX0_appendTransistor) := goodIn_app (goodIn_of _ (by decide +kernel)) ggX2_addTransistor_X0_appendTransistor
theorem dX2_addTransistor_0 : decode cX2_addTransistor 0 = .ok (.aload_n 0, 1) := by decide +kernel
theorem dX2_addTransistor_1 : decode cX2_addTransistor 1 = .ok (.getfield 10, 3) := by decide +kernel
theorem dX2_addTransistor_4 : decode cX2_addTransistor 4 = .ok (.iload_n 3, 1) := by decide +kernel
theorem dX2_addTransistor_5 : decode cX2_addTransistor 5 = .ok (.invokevirtual 46, 3) := by decide +kernel
theorem dX2_addTransistor_8 : decode cX2_addTransistor 8 = .ok (.ifCond .eq 27, 3) := by decide +kernel
theorem dX2_addTransistor_11 : decode cX2_addTransistor 11 = .ok (.aload_n 0, 1) := by decide +kernel
theorem dX2_addTransistor_12 : decode cX2_addTransistor 12 = .ok (.getfield 10, 3) := by decide +kernel
theorem dX2_addTransistor_15 : decode cX2_addTransistor 15 = .ok (.iload 4, 2) := by decide +kernel
theorem dX2_addTransistor_17 : decode cX2_addTransistor 17 = .ok (.invokevirtual 46, 3) := by decide +kernel
theorem dX2_addTransistor_20 : decode cX2_addTransistor 20 = .ok (.ifCond .eq 15, 3) := by decide +kernel
theorem dX2_addTransistor_23 : decode cX2_addTransistor 23 = .ok (.aload_n 0, 1) := by decide +kernel
theorem dX2_addTransistor_24 : decode cX2_addTransistor 24 = .ok (.getfield 10, 3) := by decide +kernel
theorem dX2_addTransistor_27 : decode cX2_addTransistor 27 = .ok (.iload 5, 2) := by decide +kernel
theorem dX2_addTransistor_29 : decode cX2_addTransistor 29 = .ok (.invokevirtual 46, 3) := by decide +kernel
theorem dX2_addTransistor_32 : decode cX2_addTransistor 32 = .ok (.ifCond .ne 5, 3) := by decide +kernel
theorem dX2_addTransistor_35 : decode cX2_addTransistor 35 = .ok (.iconst (-1), 1) := by decide +kernel
theorem dX2_addTransistor_36 : decode cX2_addTransistor 36 = .ok (.ireturn, 1) := by decide +kernel
theorem dX2_addTransistor_37 : decode cX2_addTransistor 37 = .ok (.iload 4, 2) := by decide +kernel
theorem dX2_addTransistor_39 : decode cX2_addTransistor 39 = .ok (.iload 5, 2) := by decide +kernel
theorem dX2_addTransistor_41 : decode cX2_addTransistor 41 = .ok (.if_icmp .ne 6, 3) := by decide +kernel
theorem dX2_addTransistor_44 : decode cX2_addTransistor 44 = .ok (.bipush (-4), 2) := by decide +kernel
theorem dX2_addTransistor_46 : decode cX2_addTransistor 46 = .ok (.ireturn, 1) := by decide +kernel
theorem dX2_addTransistor_47 : decode cX2_addTransistor 47 = .ok (.iload_n 1, 1) := by decide +kernel
theorem dX2_addTransistor_48 : decode cX2_addTransistor 48 = .ok (.iconst 0, 1) := by decide +kernel
theorem dX2_addTransistor_49 : decode cX2_addTransistor 49 = .ok (.iconst 2, 1) := by decide +kernel
theorem dX2_addTransistor_50 : decode cX2_addTransistor 50 = .ok (.invokestatic 38, 3) := by decide +kernel
theorem dX2_addTransistor_53 : decode cX2_addTransistor 53 = .ok (.ifCond .eq 12, 3) := by decide +kernel
theorem dX2_addTransistor_56 : decode cX2_addTransistor 56 = .ok (.iload_n 2, 1) := by decide +kernel
theorem dX2_addTransistor_57 : decode cX2_addTransistor 57 = .ok (.iconst 1, 1) := by decide +kernel
theorem dX2_addTransistor_58 : decode cX2_addTransistor 58 = .ok (.iconst 3, 1) := by decide +kernel
theorem dX2_addTransistor_59 : decode cX2_addTransistor 59 = .ok (.invokestatic 38, 3) := by decide +kernel
theorem dX2_addTransistor_62 : decode cX2_addTransistor 62 = .ok (.ifCond .ne 6, 3) := by decide +kernel
theorem dX2_addTransistor_65 : decode cX2_addTransistor 65 = .ok (.bipush (-3), 2) := by decide +kernel
theorem dX2_addTransistor_67 : decode cX2_addTransistor 67 = .ok (.ireturn, 1) := by decide +kernel
theorem dX2_addTransistor_68 : decode cX2_addTransistor 68 = .ok (.aload_n 0, 1) := by decide +kernel
theorem dX2_addTransistor_69 : decode cX2_addTransistor 69 = .ok (.getfield 10, 3) := by decide +kernel
theorem dX2_addTransistor_72 : decode cX2_addTransistor 72 = .ok (.getfield 50, 3) := by decide +kernel
theorem dX2_addTransistor_75 : decode cX2_addTransistor 75 = .ok (.bipush 40, 2) := by decide +kernel
theorem dX2_addTransistor_77 : decode cX2_addTransistor 77 = .ok (.if_icmp .lt 6, 3) := by decide +kernel
theorem dX2_addTransistor_80 : decode cX2_addTransistor 80 = .ok (.bipush (-6), 2) := by decide +kernel
theorem dX2_addTransistor_82 : decode cX2_addTransistor 82 = .ok (.ireturn, 1) := by decide +kernel
theorem dX2_addTransistor_83 : decode cX2_addTransistor 83 = .ok (.aload_n 0, 1) := by decide +kernel
theorem dX2_addTransistor_84 : decode cX2_addTransistor 84 = .ok (.getfield 10, 3) := by decide +kernel
theorem dX2_addTransistor_87 : decode cX2_addTransistor 87 = .ok (.iload_n 1, 1) := by decide +kernel
theorem dX2_addTransistor_88 : decode cX2_addTransistor 88 = .ok (.iload_n 2, 1) := by decide +kernel
theorem dX2_addTransistor_89 : decode cX2_addTransistor 89 = .ok (.iload_n 3, 1) := by decide +kernel
theorem dX2_addTransistor_90 : decode cX2_addTransistor 90 = .ok (.iload 4, 2) := by decide +kernel
theorem dX2_addTransistor_92 : decode cX2_addTransistor 92 = .ok (.iload 5, 2) := by decide +kernel
theorem dX2_addTransistor_94 : decode cX2_addTransistor 94 = .ok (.invokevirtual 53, 3) := by decide +kernel
theorem dX2_addTransistor_97 : decode cX2_addTransistor 97 = .ok (.ireturn, 1) := by decide +kernel
theorem dX2_nodeCount_0 : decode cX2_nodeCount 0 = .ok (.aload_n 0, 1) := by decide +kernel
theorem dX2_nodeCount_1 : decode cX2_nodeCount 1 = .ok (.getfield 10, 3) := by decide +kernel
theorem dX2_nodeCount_4 : decode cX2_nodeCount 4 = .ok (.getfield 30, 3) := by decide +kernel
theorem dX2_nodeCount_7 : decode cX2_nodeCount 7 = .ok (.ireturn, 1) := by decide +kernel
theorem dX2_transistorCount_0 : decode cX2_transistorCount 0 = .ok (.aload_n 0, 1) := by decide +kernel
theorem dX2_transistorCount_1 : decode cX2_transistorCount 1 = .ok (.getfield 10, 3) := by decide +kernel
theorem dX2_transistorCount_4 : decode cX2_transistorCount 4 = .ok (.getfield 50, 3) := by decide +kernel
theorem dX2_transistorCount_7 : decode cX2_transistorCount 7 = .ok (.ireturn, 1) := by decide +kernel
theorem dX2_inputs_0 : decode cX2_inputs 0 = .ok (.aload_n 0, 1) := by decide +kernel
theorem dX2_inputs_1 : decode cX2_inputs 1 = .ok (.getfield 10, 3) := by decide +kernel
theorem dX2_inputs_4 : decode cX2_inputs 4 = .ok (.getfield 57, 3) := by decide +kernel
theorem dX2_inputs_7 : decode cX2_inputs 7 = .ok (.ireturn, 1) := by decide +kernel
set_option maxRecDepth 20000 in
theorem ggX2_setInput_X2_replaceValue : GoodIn wsX2_setInput wsX2_replaceValue := goodIn_r _ [5, 6, 7, 8, 9, 10, 11, 12, 13, 14, 15, 16, 17, 18, 19, 4, 20, 21, 22, 23, 24, 25, 26, 27, 28, 29, 30, 31, 32, 33, 34, 35, 36, 37, 38, 39, 40, 41, 42, 43, 44, 45, 46, 47, 48, 49, 50] (by decide +kernel) (by decide +kernel)
set_option maxRecDepth 20000 in
theorem gX2_setInput_X2_replaceValue : GoodIn wsX2_setInput (wsV RX2 60 RX2 yX2_replaceValue wsX2_replaceValue) := goodIn_app (goodIn_of _ (by decide +kernel)) ggX2_setInput_X2_replaceValue
theorem dX2_setInput_0 : decode cX2_setInput 0 = .ok (.aload_n 0, 1) := by decide +kernel
theorem dX2_setInput_1 : decode cX2_setInput 1 = .ok (.iload_n 1, 1) := by decide +kernel
theorem dX2_setInput_2 : decode cX2_setInput 2 = .ok (.iload_n 2, 1) := by decide +kernel
theorem dX2_setInput_3 : decode cX2_setInput 3 = .ok (.iconst 1, 1) := by decide +kernel
theorem dX2_setInput_4 : decode cX2_setInput 4 = .ok (.invokevirtual 60, 3) := by decide +kernel
theorem dX2_setInput_7 : decode cX2_setInput 7 = .ok (.ireturn, 1) := by decide +kernel
set_option maxRecDepth 20000 in
theorem ggX2_setCharge_X2_replaceValue : GoodIn wsX2_setCharge wsX2_replaceValue := goodIn_r _ [5, 6, 7, 8, 9, 10, 11, 12, 13, 14, 15, 16, 17, 18, 19, 4, 20, 21, 22, 23, 24, 25, 26, 27, 28, 29, 30, 31, 32, 33, 34, 35, 36, 37, 38, 39, 40, 41, 42, 43, 44, 45, 46, 47, 48, 49, 50] (by decide +kernel) (by decide +kernel)
set_option maxRecDepth 20000 in
theorem gX2_setCharge_X2_replaceValue : GoodIn wsX2_setCharge (wsV RX2 60 RX2 yX2_replaceValue wsX2_replaceValue) := goodIn_app (goodIn_of _ (by decide +kernel)) ggX2_setCharge_X2_replaceValue
theorem dX2_setCharge_0 : decode cX2_setCharge 0 = .ok (.aload_n 0, 1) := by decide +kernel
theorem dX2_setCharge_1 : decode cX2_setCharge 1 = .ok (.iload_n 1, 1) := by decide +kernel
theorem dX2_setCharge_2 : decode cX2_setCharge 2 = .ok (.iload_n 2, 1) := by decide +kernel
theorem dX2_setCharge_3 : decode cX2_setCharge 3 = .ok (.iconst 0, 1) := by decide +kernel
theorem dX2_setCharge_4 : decode cX2_setCharge 4 = .ok (.invokevirtual 60, 3) := by decide +kernel
theorem dX2_setCharge_7 : decode cX2_setCharge 7 = .ok (.ireturn, 1) := by decide +kernel
set_option maxRecDepth 20000 in
theorem ggX2_forget_X0_forgetCharges : GoodIn wsX2_forget wsX0_forgetCharges := goodIn_r _ [6, 7, 8, 9, 10, 11, 12, 5, 13, 14, 15, 16, 17, 18, 19, 20, 25, 26, 27, 28, 29, 30, 31, 32, 33, 34, 35, 36, 37] (by decide +kernel) (by decide +kernel)
set_option maxRecDepth 20000 in
theorem gX2_forget_X0_forgetCharges : GoodIn wsX2_forget (wsV RX2 64 RX0 yX0_forgetCharges wsX0_forgetCharges) := goodIn_app (goodIn_of _ (by decide +kernel)) ggX2_forget_X0_forgetCharges
theorem dX2_forget_0 : decode cX2_forget 0 = .ok (.aload_n 0, 1) := by decide +kernel
theorem dX2_forget_1 : decode cX2_forget 1 = .ok (.getfield 10, 3) := by decide +kernel
theorem dX2_forget_4 : decode cX2_forget 4 = .ok (.invokevirtual 64, 3) := by decide +kernel
theorem dX2_forget_7 : decode cX2_forget 7 = .ok (.ireturn, 1) := by decide +kernel
set_option maxRecDepth 20000 in
theorem ggX2_value_X0_hasNode : GoodIn wsX2_value wsX0_hasNode := goodIn_r _ [6, 7, 18, 19, 20, 21, 22, 23, 24, 25, 26, 27, 28, 29, 30] (by decide +kernel) (by decide +kernel)
set_option maxRecDepth 20000 in
theorem gX2_value_X0_hasNode : GoodIn wsX2_value (wsV RX2 46 RX0 yX0_hasNode wsX0_hasNode) := goodIn_app (goodIn_of _ (by decide +kernel)) ggX2_value_X0_hasNode
set_option maxRecDepth 20000 in
theorem ggX2_value_X0_valueOf : GoodIn wsX2_value wsX0_valueOf := goodIn_r _ [11, 12, 13, 18, 19, 20, 21, 22, 23, 24, 25, 26, 27, 28, 29, 30] (by decide +kernel) (by decide +kernel)
set_option maxRecDepth 20000 in
theorem gX2_value_X0_valueOf : GoodIn wsX2_value (wsV RX2 67 RX0 yX0_valueOf wsX0_valueOf) := goodIn_app (goodIn_of _ (by decide +kernel)) ggX2_value_X0_valueOf
theorem dX2_value_0 : decode cX2_value 0 = .ok (.aload_n 0, 1) := by decide +kernel
theorem dX2_value_1 : decode cX2_value 1 = .ok (.getfield 10, 3) := by decide +kernel
theorem dX2_value_4 : decode cX2_value 4 = .ok (.iload_n 1, 1) := by decide +kernel
theorem dX2_value_5 : decode cX2_value 5 = .ok (.invokevirtual 46, 3) := by decide +kernel
theorem dX2_value_8 : decode cX2_value 8 = .ok (.ifCond .ne 5, 3) := by decide +kernel
theorem dX2_value_11 : decode cX2_value 11 = .ok (.iconst (-1), 1) := by decide +kernel
theorem dX2_value_12 : decode cX2_value 12 = .ok (.ireturn, 1) := by decide +kernel
theorem dX2_value_13 : decode cX2_value 13 = .ok (.aload_n 0, 1) := by decide +kernel
theorem dX2_value_14 : decode cX2_value 14 = .ok (.getfield 10, 3) := by decide +kernel
theorem dX2_value_17 : decode cX2_value 17 = .ok (.iload_n 1, 1) := by decide +kernel
theorem dX2_value_18 : decode cX2_value 18 = .ok (.invokevirtual 67, 3) := by decide +kernel
theorem dX2_value_21 : decode cX2_value 21 = .ok (.ireturn, 1) := by decide +kernel
set_option maxRecDepth 20000 in
theorem ggX2_nodesWith_X2_isValue : GoodIn wsX2_nodesWith wsX2_isValue := goodIn_r _ [5, 6, 7, 4, 8] (by decide +kernel) (by decide +kernel)
set_option maxRecDepth 20000 in
theorem gX2_nodesWith_X2_isValue : GoodIn wsX2_nodesWith (va_wsS RX2 70 yX2_isValue wsX2_isValue) := goodIn_app (goodIn_of _ (by decide +kernel)) ggX2_nodesWith_X2_isValue
set_option maxRecDepth 20000 in
theorem ggX2_nodesWith_X0_nodesOfValue : GoodIn wsX2_nodesWith wsX0_nodesOfValue := goodIn_r _ [13, 14, 15, 20, 21, 22, 23, 24, 25, 26, 27, 28, 29, 30, 31, 32] (by decide +kernel) (by decide +kernel)
set_option maxRecDepth 20000 in
theorem gX2_nodesWith_X0_nodesOfValue : GoodIn wsX2_nodesWith (wsV RX2 73 RX0 yX0_nodesOfValue wsX0_nodesOfValue) := goodIn_app (goodIn_of _ (by decide +kernel)) ggX2_nodesWith_X0_nodesOfValue
theorem dX2_nodesWith_0 : decode cX2_nodesWith 0 = .ok (.iload_n 1, 1) := by decide +kernel
theorem dX2_nodesWith_1 : decode cX2_nodesWith 1 = .ok (.invokestatic 70, 3) := by decide +kernel
theorem dX2_nodesWith_4 : decode cX2_nodesWith 4 = .ok (.ifCond .ne 6, 3) := by decide +kernel
theorem dX2_nodesWith_7 : decode cX2_nodesWith 7 = .ok (.bipush (-3), 2) := by decide +kernel
theorem dX2_nodesWith_9 : decode cX2_nodesWith 9 = .ok (.ireturn, 1) := by decide +kernel
theorem dX2_nodesWith_10 : decode cX2_nodesWith 10 = .ok (.aload_n 0, 1) := by decide +kernel
theorem dX2_nodesWith_11 : decode cX2_nodesWith 11 = .ok (.getfield 10, 3) := by decide +kernel
theorem dX2_nodesWith_14 : decode cX2_nodesWith 14 = .ok (.iload_n 1, 1) := by decide +kernel
theorem dX2_nodesWith_15 : decode cX2_nodesWith 15 = .ok (.invokevirtual 73, 3) := by decide +kernel
theorem dX2_nodesWith_18 : decode cX2_nodesWith 18 = .ok (.ireturn, 1) := by decide +kernel
set_option maxRecDepth 20000 in
theorem ggX2_switchState_X0_hasTransistor : GoodIn wsX2_switchState wsX0_hasTransistor := goodIn_r _ [6, 7, 25, 26, 27, 28, 29, 30, 31, 32, 33, 34, 35, 36, 37] (by decide +kernel) (by decide +kernel)
set_option maxRecDepth 20000 in
theorem gX2_switchState_X0_hasTransistor : GoodIn wsX2_switchState (wsV RX2 76 RX0 yX0_hasTransistor wsX0_hasTransistor) := goodIn_app (goodIn_of _ (by decide +kernel)) ggX2_switchState_X0_hasTransistor
set_option maxRecDepth 20000 in
theorem ggX2_switchState_X0_stateOf : GoodIn wsX2_switchState wsX0_stateOf := goodIn_r _ [11, 12, 13, 14, 15, 16, 17, 5, 18, 19, 20, 25, 26, 27, 28, 29, 30, 31, 32, 33, 34, 35, 36, 37] (by decide +kernel) (by decide +kernel)
set_option maxRecDepth 20000 in
theorem gX2_switchState_X0_stateOf : GoodIn wsX2_switchState (wsV RX2 79 RX0 yX0_stateOf wsX0_stateOf) := goodIn_app (goodIn_of _ (by decide +kernel)) ggX2_switchState_X0_stateOf
theorem dX2_switchState_0 : decode cX2_switchState 0 = .ok (.aload_n 0, 1) := by decide +kernel
theorem dX2_switchState_1 : decode cX2_switchState 1 = .ok (.getfield 10, 3) := by decide +kernel
theorem dX2_switchState_4 : decode cX2_switchState 4 = .ok (.iload_n 1, 1) := by decide +kernel
theorem dX2_switchState_5 : decode cX2_switchState 5 = .ok (.invokevirtual 76, 3) := by decide +kernel
theorem dX2_switchState_8 : decode cX2_switchState 8 = .ok (.ifCond .ne 6, 3) := by decide +kernel
theorem dX2_switchState_11 : decode cX2_switchState 11 = .ok (.bipush (-2), 2) := by decide +kernel
theorem dX2_switchState_13 : decode cX2_switchState 13 = .ok (.ireturn, 1) := by decide +kernel
theorem dX2_switchState_14 : decode cX2_switchState 14 = .ok (.aload_n 0, 1) := by decide +kernel
theorem dX2_switchState_15 : decode cX2_switchState 15 = .ok (.getfield 10, 3) := by decide +kernel
theorem dX2_switchState_18 : decode cX2_switchState 18 = .ok (.iload_n 1, 1) := by decide +kernel
theorem dX2_switchState_19 : decode cX2_switchState 19 = .ok (.invokevirtual 79, 3) := by decide +kernel
theorem dX2_switchState_22 : decode cX2_switchState 22 = .ok (.ireturn, 1) := by decide +kernel
set_option maxRecDepth 20000 in
theorem ggX2_definiteStrength_X0_hasNode : GoodIn wsX2_definiteStrength wsX0_hasNode := goodIn_r _ [7, 8, 83, 84, 85, 86, 87, 88, 89, 90, 91, 92, 93, 94, 95] (by decide +kernel) (by decide +kernel)
set_option maxRecDepth 20000 in
theorem gX2_definiteStrength_X0_hasNode : GoodIn wsX2_definiteStrength (wsV RX2 46 RX0 yX0_hasNode wsX0_hasNode) := goodIn_app (goodIn_of _ (by decide +kernel)) ggX2_definiteStrength_X0_hasNode
set_option maxRecDepth 20000 in
theorem ggX2_definiteStrength_X1_find : GoodIn wsX2_definiteStrength wsX1_find := goodIn_r _ [13, 14, 15, 16, 17, 18, 19, 20, 12, 21, 22, 23, 24, 25, 26, 27, 28, 6, 29, 30, 31, 32, 33, 34, 35, 36, 37, 38, 39, 40, 41, 42, 43, 44, 45, 46, 47, 48, 49, 50, 51, 52, 53, 54, 55, 56, 57, 58, 59, 60, 61, 62, 63, 64, 65, 66, 67, 68, 69, 70, 71, 96, 97, 98, 99, 100, 83, 84, 85, 86, 87, 88, 89, 90, 91, 92, 93, 94, 95] (by decide +kernel) (by decide +kernel)
set_option maxRecDepth 20000 in
theorem gX2_definiteStrength_X1_find : GoodIn wsX2_definiteStrength (wsV RX2 82 RX1 yX1_find wsX1_find) := goodIn_app (goodIn_of _ (by decide +kernel)) ggX2_definiteStrength_X1_find
set_option maxRecDepth 20000 in
theorem ggX2_definiteStrength_X1_definiteLevel : GoodIn wsX2_definiteStrength wsX1_definiteLevel := goodIn_r _ [75, 49, 76, 77, 12, 78, 96, 97, 98, 99, 100] (by decide +kernel) (by decide +kernel)
set_option maxRecDepth 20000 in
theorem gX2_definiteStrength_X1_definiteLevel : GoodIn wsX2_definiteStrength (wsV RX2 86 RX1 yX1_definiteLevel wsX1_definiteLevel) := goodIn_app (goodIn_of _ (by decide +kernel)) ggX2_definiteStrength_X1_definiteLevel
theorem dX2_definiteStrength_0 : decode cX2_definiteStrength 0 = .ok (.aload_n 0, 1) := by decide +kernel
theorem dX2_definiteStrength_1 : decode cX2_definiteStrength 1 = .ok (.getfield 10, 3) := by decide +kernel
theorem dX2_definiteStrength_4 : decode cX2_definiteStrength 4 = .ok (.iload_n 1, 1) := by decide +kernel
theorem dX2_definiteStrength_5 : decode cX2_definiteStrength 5 = .ok (.invokevirtual 46, 3) := by decide +kernel
theorem dX2_definiteStrength_8 : decode cX2_definiteStrength 8 = .ok (.ifCond .ne 5, 3) := by decide +kernel
theorem dX2_definiteStrength_11 : decode cX2_definiteStrength 11 = .ok (.iconst (-1), 1) := by decide +kernel
theorem dX2_definiteStrength_12 : decode cX2_definiteStrength 12 = .ok (.ireturn, 1) := by decide +kernel
theorem dX2_definiteStrength_13 : decode cX2_definiteStrength 13 = .ok (.aload_n 0, 1) := by decide +kernel
theorem dX2_definiteStrength_14 : decode cX2_definiteStrength 14 = .ok (.getfield 26, 3) := by decide +kernel
theorem dX2_definiteStrength_17 : decode cX2_definiteStrength 17 = .ok (.aload_n 0, 1) := by decide +kernel
theorem dX2_definiteStrength_18 : decode cX2_definiteStrength 18 = .ok (.getfield 10, 3) := by decide +kernel
theorem dX2_definiteStrength_21 : decode cX2_definiteStrength 21 = .ok (.invokevirtual 82, 3) := by decide +kernel
theorem dX2_definiteStrength_24 : decode cX2_definiteStrength 24 = .ok (.aload_n 0, 1) := by decide +kernel
theorem dX2_definiteStrength_25 : decode cX2_definiteStrength 25 = .ok (.getfield 26, 3) := by decide +kernel
theorem dX2_definiteStrength_28 : decode cX2_definiteStrength 28 = .ok (.iload_n 1, 1) := by decide +kernel
theorem dX2_definiteStrength_29 : decode cX2_definiteStrength 29 = .ok (.invokevirtual 86, 3) := by decide +kernel
theorem dX2_definiteStrength_32 : decode cX2_definiteStrength 32 = .ok (.ireturn, 1) := by decide +kernel
set_option maxRecDepth 20000 in
theorem ggX2_upStrength_X0_hasNode : GoodIn wsX2_upStrength wsX0_hasNode := goodIn_r _ [7, 8, 83, 84, 85, 86, 87, 88, 89, 90, 91, 92, 93, 94, 95] (by decide +kernel) (by decide +kernel)
set_option maxRecDepth 20000 in
theorem gX2_upStrength_X0_hasNode : GoodIn wsX2_upStrength (wsV RX2 46 RX0 yX0_hasNode wsX0_hasNode) := goodIn_app (goodIn_of _ (by decide +kernel)) ggX2_upStrength_X0_hasNode
set_option maxRecDepth 20000 in
theorem ggX2_upStrength_X1_find : GoodIn wsX2_upStrength wsX1_find := goodIn_r _ [13, 14, 15, 16, 17, 18, 19, 20, 12, 21, 22, 23, 24, 25, 26, 27, 28, 6, 29, 30, 31, 32, 33, 34, 35, 36, 37, 38, 39, 40, 41, 42, 43, 44, 45, 46, 47, 48, 49, 50, 51, 52, 53, 54, 55, 56, 57, 58, 59, 60, 61, 62, 63, 64, 65, 66, 67, 68, 69, 70, 71, 96, 97, 98, 99, 100, 83, 84, 85, 86, 87, 88, 89, 90, 91, 92, 93, 94, 95] (by decide +kernel) (by decide +kernel)
set_option maxRecDepth 20000 in
theorem gX2_upStrength_X1_find : GoodIn wsX2_upStrength (wsV RX2 82 RX1 yX1_find wsX1_find) := goodIn_app (goodIn_of _ (by decide +kernel)) ggX2_upStrength_X1_find
set_option maxRecDepth 20000 in
theorem ggX2_upStrength_X1_upLevel : GoodIn wsX2_upStrength wsX1_upLevel := goodIn_r _ [75, 14, 76, 77, 12, 78, 96, 97, 98, 99, 100] (by decide +kernel) (by decide +kernel)
set_option maxRecDepth 20000 in
theorem gX2_upStrength_X1_upLevel : GoodIn wsX2_upStrength (wsV RX2 89 RX1 yX1_upLevel wsX1_upLevel) := goodIn_app (goodIn_of _ (by decide +kernel)) ggX2_upStrength_X1_upLevel
theorem dX2_upStrength_0 : decode cX2_upStrength 0 = .ok (.aload_n 0, 1) := by decide +kernel
theorem dX2_upStrength_1 : decode cX2_upStrength 1 = .ok (.getfield 10, 3) := by decide +kernel
theorem dX2_upStrength_4 : decode cX2_upStrength 4 = .ok (.iload_n 1, 1) := by decide +kernel
theorem dX2_upStrength_5 : decode cX2_upStrength 5 = .ok (.invokevirtual 46, 3) := by decide +kernel
theorem dX2_upStrength_8 : decode cX2_upStrength 8 = .ok (.ifCond .ne 5, 3) := by decide +kernel
theorem dX2_upStrength_11 : decode cX2_upStrength 11 = .ok (.iconst (-1), 1) := by decide +kernel
theorem dX2_upStrength_12 : decode cX2_upStrength 12 = .ok (.ireturn, 1) := by decide +kernel
theorem dX2_upStrength_13 : decode cX2_upStrength 13 = .ok (.aload_n 0, 1) := by decide +kernel
theorem dX2_upStrength_14 : decode cX2_upStrength 14 = .ok (.getfield 26, 3) := by decide +kernel
theorem dX2_upStrength_17 : decode cX2_upStrength 17 = .ok (.aload_n 0, 1) := by decide +kernel
theorem dX2_upStrength_18 : decode cX2_upStrength 18 = .ok (.getfield 10, 3) := by decide +kernel
theorem dX2_upStrength_21 : decode cX2_upStrength 21 = .ok (.invokevirtual 82, 3) := by decide +kernel
theorem dX2_upStrength_24 : decode cX2_upStrength 24 = .ok (.aload_n 0, 1) := by decide +kernel
theorem dX2_upStrength_25 : decode cX2_upStrength 25 = .ok (.getfield 26, 3) := by decide +kernel
theorem dX2_upStrength_28 : decode cX2_upStrength 28 = .ok (.iload_n 1, 1) := by decide +kernel
theorem dX2_upStrength_29 : decode cX2_upStrength 29 = .ok (.invokevirtual 89, 3) := by decide +kernel
theorem dX2_upStrength_32 : decode cX2_upStrength 32 = .ok (.ireturn, 1) := by decide +kernel
set_option maxRecDepth 20000 in
theorem ggX2_downStrength_X0_hasNode : GoodIn wsX2_downStrength wsX0_hasNode := goodIn_r _ [7, 8, 83, 84, 85, 86, 87, 88, 89, 90, 91, 92, 93, 94, 95] (by decide +kernel) (by decide +kernel)
set_option maxRecDepth 20000 in
theorem gX2_downStrength_X0_hasNode : GoodIn wsX2_downStrength (wsV RX2 46 RX0 yX0_hasNode wsX0_hasNode) := goodIn_app (goodIn_of _ (by decide +kernel)) ggX2_downStrength_X0_hasNode
set_option maxRecDepth 20000 in
theorem ggX2_downStrength_X1_find : GoodIn wsX2_downStrength wsX1_find := goodIn_r _ [13, 14, 15, 16, 17, 18, 19, 20, 12, 21, 22, 23, 24, 25, 26, 27, 28, 6, 29, 30, 31, 32, 33, 34, 35, 36, 37, 38, 39, 40, 41, 42, 43, 44, 45, 46, 47, 48, 49, 50, 51, 52, 53, 54, 55, 56, 57, 58, 59, 60, 61, 62, 63, 64, 65, 66, 67, 68, 69, 70, 71, 96, 97, 98, 99, 100, 83, 84, 85, 86, 87, 88, 89, 90, 91, 92, 93, 94, 95] (by decide +kernel) (by decide +kernel)
set_option maxRecDepth 20000 in
theorem gX2_downStrength_X1_find : GoodIn wsX2_downStrength (wsV RX2 82 RX1 yX1_find wsX1_find) := goodIn_app (goodIn_of _ (by decide +kernel)) ggX2_downStrength_X1_find
set_option maxRecDepth 20000 in
theorem ggX2_downStrength_X1_downLevel : GoodIn wsX2_downStrength wsX1_downLevel := goodIn_r _ [75, 16, 76, 77, 12, 78, 96, 97, 98, 99, 100] (by decide +kernel) (by decide +kernel)
set_option maxRecDepth 20000 in
theorem gX2_downStrength_X1_downLevel : GoodIn wsX2_downStrength (wsV RX2 92 RX1 yX1_downLevel wsX1_downLevel) := goodIn_app (goodIn_of _ (by decide +kernel)) ggX2_downStrength_X1_downLevel
theorem dX2_downStrength_0 : decode cX2_downStrength 0 = .ok (.aload_n 0, 1) := by decide +kernel
theorem dX2_downStrength_1 : decode cX2_downStrength 1 = .ok (.getfield 10, 3) := by decide +kernel
theorem dX2_downStrength_4 : decode cX2_downStrength 4 = .ok (.iload_n 1, 1) := by decide +kernel
theorem dX2_downStrength_5 : decode cX2_downStrength 5 = .ok (.invokevirtual 46, 3) := by decide +kernel
theorem dX2_downStrength_8 : decode cX2_downStrength 8 = .ok (.ifCond .ne 5, 3) := by decide +kernel
theorem dX2_downStrength_11 : decode cX2_downStrength 11 = .ok (.iconst (-1), 1) := by decide +kernel
theorem dX2_downStrength_12 : decode cX2_downStrength 12 = .ok (.ireturn, 1) := by decide +kernel
theorem dX2_downStrength_13 : decode cX2_downStrength 13 = .ok (.aload_n 0, 1) := by decide +kernel
theorem dX2_downStrength_14 : decode cX2_downStrength 14 = .ok (.getfield 26, 3) := by decide +kernel
theorem dX2_downStrength_17 : decode cX2_downStrength 17 = .ok (.aload_n 0, 1) := by decide +kernel
theorem dX2_downStrength_18 : decode cX2_downStrength 18 = .ok (.getfield 10, 3) := by decide +kernel
theorem dX2_downStrength_21 : decode cX2_downStrength 21 = .ok (.invokevirtual 82, 3) := by decide +kernel
theorem dX2_downStrength_24 : decode cX2_downStrength 24 = .ok (.aload_n 0, 1) := by decide +kernel
theorem dX2_downStrength_25 : decode cX2_downStrength 25 = .ok (.getfield 26, 3) := by decide +kernel
theorem dX2_downStrength_28 : decode cX2_downStrength 28 = .ok (.iload_n 1, 1) := by decide +kernel
theorem dX2_downStrength_29 : decode cX2_downStrength 29 = .ok (.invokevirtual 92, 3) := by decide +kernel
theorem dX2_downStrength_32 : decode cX2_downStrength 32 = .ok (.ireturn, 1) := by decide +kernel
set_option maxRecDepth 20000 in
theorem ggX2_steadyValue_X0_hasNode : GoodIn wsX2_steadyValue wsX0_hasNode := goodIn_r _ [7, 8, 106, 107, 108, 109, 110, 111, 112, 113, 114, 115, 116, 117, 118] (by decide +kernel) (by decide +kernel)
set_option maxRecDepth 20000 in
theorem gX2_steadyValue_X0_hasNode : GoodIn wsX2_steadyValue (wsV RX2 46 RX0 yX0_hasNode wsX0_hasNode) := goodIn_app (goodIn_of _ (by decide +kernel)) ggX2_steadyValue_X0_hasNode
set_option maxRecDepth 20000 in
theorem ggX2_steadyValue_X0_copyFrom : GoodIn wsX2_steadyValue wsX0_copyFrom := goodIn_r _ [12, 8, 13, 14, 15, 16, 17, 18, 19, 20, 21, 22, 23, 24, 25, 26, 27, 28, 106, 107, 108, 109, 110, 111, 112, 113, 114, 115, 116, 117, 118] (by decide +kernel) (by decide +kernel)
set_option maxRecDepth 20000 in
theorem gX2_steadyValue_X0_copyFrom : GoodIn wsX2_steadyValue (wsV RX2 95 RX0 yX0_copyFrom wsX0_copyFrom) := goodIn_app (goodIn_of _ (by decide +kernel)) ggX2_steadyValue_X0_copyFrom
set_option maxRecDepth 20000 in
theorem ggX2_steadyValue_X2_advance : GoodIn wsX2_steadyValue wsX2_advance := goodIn_r _ [33, 34, 35, 36, 37, 38, 39, 40, 41, 42, 43, 44, 45, 46, 47, 48, 49, 50, 51, 52, 53, 54, 6, 55, 28, 23, 25, 56, 57, 58, 59, 20, 21, 60, 61, 62, 63, 64, 65, 66, 67, 68, 69, 70, 71, 72, 73, 74, 75, 76, 77, 78, 79, 80, 81, 82, 83, 84, 85, 86, 87, 88, 89, 90, 91, 92, 93, 94, 95, 96, 97, 98, 99, 100, 102, 103, 104, 105, 119, 120, 121, 122, 123, 106, 107, 108, 109, 110, 111, 112, 113, 114, 115, 116, 117, 118] (by decide +kernel) (by decide +kernel)
set_option maxRecDepth 20000 in
theorem gX2_steadyValue_X2_advance : GoodIn wsX2_steadyValue (wsV RX2 98 RX2 yX2_advance wsX2_advance) := goodIn_app (goodIn_of _ (by decide +kernel)) ggX2_steadyValue_X2_advance
set_option maxRecDepth 20000 in
theorem ggX2_steadyValue_X0_valueOf : GoodIn wsX2_steadyValue wsX0_valueOf := goodIn_r _ [59, 20, 21, 106, 107, 108, 109, 110, 111, 112, 113, 114, 115, 116, 117, 118] (by decide +kernel) (by decide +kernel)
set_option maxRecDepth 20000 in
theorem gX2_steadyValue_X0_valueOf : GoodIn wsX2_steadyValue (wsV RX2 67 RX0 yX0_valueOf wsX0_valueOf) := goodIn_app (goodIn_of _ (by decide +kernel)) ggX2_steadyValue_X0_valueOf
theorem dX2_steadyValue_0 : decode cX2_steadyValue 0 = .ok (.aload_n 0, 1) := by decide +kernel
theorem dX2_steadyValue_1 : decode cX2_steadyValue 1 = .ok (.getfield 10, 3) := by decide +kernel
theorem dX2_steadyValue_4 : decode cX2_steadyValue 4 = .ok (.iload_n 1, 1) := by decide +kernel
theorem dX2_steadyValue_5 : decode cX2_steadyValue 5 = .ok (.invokevirtual 46, 3) := by decide +kernel
theorem dX2_steadyValue_8 : decode cX2_steadyValue 8 = .ok (.ifCond .ne 5, 3) := by decide +kernel
theorem dX2_steadyValue_11 : decode cX2_steadyValue 11 = .ok (.iconst (-1), 1) := by decide +kernel
theorem dX2_steadyValue_12 : decode cX2_steadyValue 12 = .ok (.ireturn, 1) := by decide +kernel
theorem dX2_steadyValue_13 : decode cX2_steadyValue 13 = .ok (.aload_n 0, 1) := by decide +kernel
theorem dX2_steadyValue_14 : decode cX2_steadyValue 14 = .ok (.getfield 16, 3) := by decide +kernel
theorem dX2_steadyValue_17 : decode cX2_steadyValue 17 = .ok (.aload_n 0, 1) := by decide +kernel
theorem dX2_steadyValue_18 : decode cX2_steadyValue 18 = .ok (.getfield 10, 3) := by decide +kernel
theorem dX2_steadyValue_21 : decode cX2_steadyValue 21 = .ok (.invokevirtual 95, 3) := by decide +kernel
theorem dX2_steadyValue_24 : decode cX2_steadyValue 24 = .ok (.aload_n 0, 1) := by decide +kernel
theorem dX2_steadyValue_25 : decode cX2_steadyValue 25 = .ok (.aload_n 0, 1) := by decide +kernel
theorem dX2_steadyValue_26 : decode cX2_steadyValue 26 = .ok (.getfield 16, 3) := by decide +kernel
theorem dX2_steadyValue_29 : decode cX2_steadyValue 29 = .ok (.invokevirtual 98, 3) := by decide +kernel
theorem dX2_steadyValue_32 : decode cX2_steadyValue 32 = .ok (.pop, 1) := by decide +kernel
theorem dX2_steadyValue_33 : decode cX2_steadyValue 33 = .ok (.aload_n 0, 1) := by decide +kernel
theorem dX2_steadyValue_34 : decode cX2_steadyValue 34 = .ok (.getfield 16, 3) := by decide +kernel
theorem dX2_steadyValue_37 : decode cX2_steadyValue 37 = .ok (.iload_n 1, 1) := by decide +kernel
theorem dX2_steadyValue_38 : decode cX2_steadyValue 38 = .ok (.invokevirtual 67, 3) := by decide +kernel
theorem dX2_steadyValue_41 : decode cX2_steadyValue 41 = .ok (.ireturn, 1) := by decide +kernel
set_option maxRecDepth 20000 in
theorem ggX2_vicinity_X0_hasNode : GoodIn wsX2_vicinity wsX0_hasNode := goodIn_r _ [7, 8, 59, 60, 61, 62, 63, 64, 65, 66, 67, 68, 69, 70, 71] (by decide +kernel) (by decide +kernel)
set_option maxRecDepth 20000 in
theorem gX2_vicinity_X0_hasNode : GoodIn wsX2_vicinity (wsV RX2 46 RX0 yX0_hasNode wsX0_hasNode) := goodIn_app (goodIn_of _ (by decide +kernel)) ggX2_vicinity_X0_hasNode
set_option maxRecDepth 20000 in
theorem ggX2_vicinity_X0_isInput : GoodIn wsX2_vicinity wsX0_isInput := goodIn_r _ [12, 13, 59, 60, 61, 62, 63, 64, 65, 66, 67, 68, 69, 70, 71] (by decide +kernel) (by decide +kernel)
set_option maxRecDepth 20000 in
theorem gX2_vicinity_X0_isInput : GoodIn wsX2_vicinity (wsV RX2 102 RX0 yX0_isInput wsX0_isInput) := goodIn_app (goodIn_of _ (by decide +kernel)) ggX2_vicinity_X0_isInput
set_option maxRecDepth 20000 in
theorem ggX2_vicinity_X1_storageAround : GoodIn wsX2_vicinity wsX1_storageAround := goodIn_r _ [18, 19, 20, 21, 22, 23, 17, 24, 25, 26, 27, 28, 29, 30, 6, 31, 32, 33, 34, 35, 36, 37, 38, 39, 40, 41, 42, 43, 44, 45, 46, 47, 48, 49, 50, 51, 52, 53, 54, 72, 73, 74, 75, 76, 59, 60, 61, 62, 63, 64, 65, 66, 67, 68, 69, 70, 71] (by decide +kernel) (by decide +kernel)
set_option maxRecDepth 20000 in
theorem gX2_vicinity_X1_storageAround : GoodIn wsX2_vicinity (wsV RX2 105 RX1 yX1_storageAround wsX1_storageAround) := goodIn_app (goodIn_of _ (by decide +kernel)) ggX2_vicinity_X1_storageAround
theorem dX2_vicinity_0 : decode cX2_vicinity 0 = .ok (.aload_n 0, 1) := by decide +kernel
theorem dX2_vicinity_1 : decode cX2_vicinity 1 = .ok (.getfield 10, 3) := by decide +kernel
theorem dX2_vicinity_4 : decode cX2_vicinity 4 = .ok (.iload_n 1, 1) := by decide +kernel
theorem dX2_vicinity_5 : decode cX2_vicinity 5 = .ok (.invokevirtual 46, 3) := by decide +kernel
theorem dX2_vicinity_8 : decode cX2_vicinity 8 = .ok (.ifCond .ne 5, 3) := by decide +kernel
theorem dX2_vicinity_11 : decode cX2_vicinity 11 = .ok (.iconst (-1), 1) := by decide +kernel
theorem dX2_vicinity_12 : decode cX2_vicinity 12 = .ok (.ireturn, 1) := by decide +kernel
theorem dX2_vicinity_13 : decode cX2_vicinity 13 = .ok (.aload_n 0, 1) := by decide +kernel
theorem dX2_vicinity_14 : decode cX2_vicinity 14 = .ok (.getfield 10, 3) := by decide +kernel
theorem dX2_vicinity_17 : decode cX2_vicinity 17 = .ok (.iload_n 1, 1) := by decide +kernel
theorem dX2_vicinity_18 : decode cX2_vicinity 18 = .ok (.invokevirtual 102, 3) := by decide +kernel
theorem dX2_vicinity_21 : decode cX2_vicinity 21 = .ok (.ifCond .eq 5, 3) := by decide +kernel
theorem dX2_vicinity_24 : decode cX2_vicinity 24 = .ok (.iconst 0, 1) := by decide +kernel
theorem dX2_vicinity_25 : decode cX2_vicinity 25 = .ok (.ireturn, 1) := by decide +kernel
theorem dX2_vicinity_26 : decode cX2_vicinity 26 = .ok (.aload_n 0, 1) := by decide +kernel
theorem dX2_vicinity_27 : decode cX2_vicinity 27 = .ok (.getfield 26, 3) := by decide +kernel
theorem dX2_vicinity_30 : decode cX2_vicinity 30 = .ok (.iload_n 1, 1) := by decide +kernel
theorem dX2_vicinity_31 : decode cX2_vicinity 31 = .ok (.aload_n 0, 1) := by decide +kernel
theorem dX2_vicinity_32 : decode cX2_vicinity 32 = .ok (.getfield 10, 3) := by decide +kernel
theorem dX2_vicinity_35 : decode cX2_vicinity 35 = .ok (.invokevirtual 105, 3) := by decide +kernel
theorem dX2_vicinity_38 : decode cX2_vicinity 38 = .ok (.ireturn, 1) := by decide +kernel
set_option maxRecDepth 20000 in
theorem ggX2_step_X2_advance : GoodIn wsX2_step wsX2_advance := goodIn_r _ [6, 7, 8, 9, 10, 11, 12, 13, 14, 15, 16, 17, 18, 19, 20, 21, 22, 23, 24, 25, 26, 27, 28, 29, 30, 31, 32, 33, 34, 35, 36, 37, 38, 39, 40, 41, 42, 43, 44, 45, 46, 47, 48, 49, 50, 51, 52, 53, 54, 55, 56, 57, 58, 59, 60, 61, 62, 63, 64, 65, 66, 67, 68, 69, 70, 71, 72, 73, 74, 75, 76, 77, 78, 79, 80, 81, 82, 83, 84, 85, 86, 87, 88, 89, 90, 91, 92, 93, 94, 95, 96, 97, 98, 99, 100, 101] (by decide +kernel) (by decide +kernel)
set_option maxRecDepth 20000 in
theorem gX2_step_X2_advance : GoodIn wsX2_step (wsV RX2 98 RX2 yX2_advance wsX2_advance) := goodIn_app (goodIn_of _ (by decide +kernel)) ggX2_step_X2_advance
theorem dX2_step_0 : decode cX2_step 0 = .ok (.aload_n 0, 1) := by decide +kernel
theorem dX2_step_1 : decode cX2_step 1 = .ok (.aload_n 0, 1) := by decide +kernel
theorem dX2_step_2 : decode cX2_step 2 = .ok (.getfield 10, 3) := by decide +kernel
theorem dX2_step_5 : decode cX2_step 5 = .ok (.invokevirtual 98, 3) := by decide +kernel
theorem dX2_step_8 : decode cX2_step 8 = .ok (.ireturn, 1) := by decide +kernel
set_option maxRecDepth 20000 in
theorem ggX2_settle_X2_isLimit : GoodIn wsX2_settle wsX2_isLimit := goodIn_r _ [5, 6, 7, 4, 8] (by decide +kernel) (by decide +kernel)
set_option maxRecDepth 20000 in
theorem gX2_settle_X2_isLimit : GoodIn wsX2_settle (va_wsS RX2 109 yX2_isLimit wsX2_isLimit) := goodIn_app (goodIn_of _ (by decide +kernel)) ggX2_settle_X2_isLimit
set_option maxRecDepth 20000 in
theorem ggX2_settle_X2_settleWithin : GoodIn wsX2_settle wsX2_settleWithin := goodIn_r _ [12, 13, 14, 15, 16, 17, 18, 19, 20, 21, 22, 23, 24, 25, 26, 27, 28, 29, 30, 31, 32, 33, 34, 35, 36, 37, 38, 39, 40, 41, 42, 43, 44, 45, 46, 47, 48, 49, 50, 51, 52, 53, 54, 55, 56, 57, 58, 59, 60, 61, 62, 63, 64, 65, 66, 67, 68, 69, 70, 71, 72, 73, 74, 75, 76, 77, 78, 79, 80, 81, 82, 83, 84, 85, 86, 87, 88, 89, 90, 91, 92, 93, 94, 95, 96, 97, 98, 99, 100, 101, 102, 103, 104, 105, 106, 107] (by decide +kernel) (by decide +kernel)
set_option maxRecDepth 20000 in
theorem gX2_settle_X2_settleWithin : GoodIn wsX2_settle (wsV RX2 112 RX2 yX2_settleWithin wsX2_settleWithin) := goodIn_app (goodIn_of _ (by decide +kernel)) ggX2_settle_X2_settleWithin
theorem dX2_settle_0 : decode cX2_settle 0 = .ok (.iload_n 1, 1) := by decide +kernel
theorem dX2_settle_1 : decode cX2_settle 1 = .ok (.invokestatic 109, 3) := by decide +kernel
theorem dX2_settle_4 : decode cX2_settle 4 = .ok (.ifCond .ne 6, 3) := by decide +kernel
theorem dX2_settle_7 : decode cX2_settle 7 = .ok (.bipush (-3), 2) := by decide +kernel
theorem dX2_settle_9 : decode cX2_settle 9 = .ok (.ireturn, 1) := by decide +kernel
theorem dX2_settle_10 : decode cX2_settle 10 = .ok (.aload_n 0, 1) := by decide +kernel
theorem dX2_settle_11 : decode cX2_settle 11 = .ok (.aload_n 0, 1) := by decide +kernel
theorem dX2_settle_12 : decode cX2_settle 12 = .ok (.getfield 10, 3) := by decide +kernel
theorem dX2_settle_15 : decode cX2_settle 15 = .ok (.iload_n 1, 1) := by decide +kernel
theorem dX2_settle_16 : decode cX2_settle 16 = .ok (.invokevirtual 112, 3) := by decide +kernel
theorem dX2_settle_19 : decode cX2_settle 19 = .ok (.ireturn, 1) := by decide +kernel
set_option maxRecDepth 20000 in
theorem ggX2_active_X1_find : GoodIn wsX2_active wsX1_find := goodIn_r _ [7, 8, 9, 10, 11, 12, 13, 14, 6, 15, 16, 17, 18, 19, 20, 21, 22, 23, 24, 25, 26, 27, 28, 29, 30, 31, 32, 33, 34, 35, 36, 37, 38, 39, 40, 41, 42, 43, 44, 45, 46, 47, 48, 49, 50, 51, 52, 53, 54, 55, 56, 57, 58, 59, 60, 61, 62, 63, 64, 65, 66, 75, 76, 77, 78, 79, 80, 81, 82, 83, 84, 85, 86, 87, 88, 89, 90, 91, 92] (by decide +kernel) (by decide +kernel)
set_option maxRecDepth 20000 in
theorem gX2_active_X1_find : GoodIn wsX2_active (wsV RX2 82 RX1 yX1_find wsX1_find) := goodIn_app (goodIn_of _ (by decide +kernel)) ggX2_active_X1_find
set_option maxRecDepth 20000 in
theorem ggX2_active_X1_changesOf : GoodIn wsX2_active wsX1_changesOf := goodIn_r _ [70, 8, 9, 10, 11, 75, 76, 77, 78, 79, 80, 81, 82, 83, 84, 85, 86, 87, 88, 89, 90, 91, 92] (by decide +kernel) (by decide +kernel)
set_option maxRecDepth 20000 in
theorem gX2_active_X1_changesOf : GoodIn wsX2_active (wsV RX2 116 RX1 yX1_changesOf wsX1_changesOf) := goodIn_app (goodIn_of _ (by decide +kernel)) ggX2_active_X1_changesOf
theorem dX2_active_0 : decode cX2_active 0 = .ok (.aload_n 0, 1) := by decide +kernel
theorem dX2_active_1 : decode cX2_active 1 = .ok (.getfield 26, 3) := by decide +kernel
theorem dX2_active_4 : decode cX2_active 4 = .ok (.aload_n 0, 1) := by decide +kernel
theorem dX2_active_5 : decode cX2_active 5 = .ok (.getfield 10, 3) := by decide +kernel
theorem dX2_active_8 : decode cX2_active 8 = .ok (.invokevirtual 82, 3) := by decide +kernel
theorem dX2_active_11 : decode cX2_active 11 = .ok (.aload_n 0, 1) := by decide +kernel
theorem dX2_active_12 : decode cX2_active 12 = .ok (.getfield 26, 3) := by decide +kernel
theorem dX2_active_15 : decode cX2_active 15 = .ok (.aload_n 0, 1) := by decide +kernel
theorem dX2_active_16 : decode cX2_active 16 = .ok (.getfield 10, 3) := by decide +kernel
theorem dX2_active_19 : decode cX2_active 19 = .ok (.invokevirtual 116, 3) := by decide +kernel
theorem dX2_active_22 : decode cX2_active 22 = .ok (.ireturn, 1) := by decide +kernel
set_option maxRecDepth 20000 in
theorem ggX2_period_X2_isLimit : GoodIn wsX2_period wsX2_isLimit := goodIn_r _ [6, 7, 8, 5, 9] (by decide +kernel) (by decide +kernel)
set_option maxRecDepth 20000 in
theorem gX2_period_X2_isLimit : GoodIn wsX2_period (va_wsS RX2 109 yX2_isLimit wsX2_isLimit) := goodIn_app (goodIn_of _ (by decide +kernel)) ggX2_period_X2_isLimit
set_option maxRecDepth 20000 in
theorem ggX2_period_X0_copyFrom : GoodIn wsX2_period wsX0_copyFrom := goodIn_r _ [14, 15, 16, 17, 18, 19, 20, 21, 22, 23, 24, 25, 26, 27, 28, 29, 30, 31, 111, 112, 113, 114, 115, 116, 117, 118, 119, 120, 121, 122, 123] (by decide +kernel) (by decide +kernel)
set_option maxRecDepth 20000 in
theorem gX2_period_X0_copyFrom : GoodIn wsX2_period (wsV RX2 95 RX0 yX0_copyFrom wsX0_copyFrom) := goodIn_app (goodIn_of _ (by decide +kernel)) ggX2_period_X0_copyFrom
set_option maxRecDepth 20000 in
theorem ggX2_period_X2_advance : GoodIn wsX2_period wsX2_advance := goodIn_r _ [35, 36, 37, 38, 39, 40, 41, 42, 43, 44, 45, 46, 47, 48, 49, 50, 51, 52, 53, 54, 55, 56, 13, 57, 31, 26, 28, 58, 59, 60, 61, 23, 24, 62, 63, 64, 65, 66, 67, 68, 69, 70, 71, 72, 73, 74, 75, 76, 77, 78, 79, 80, 81, 82, 83, 84, 85, 86, 87, 88, 89, 90, 91, 92, 93, 94, 95, 96, 97, 98, 99, 100, 101, 102, 107, 108, 109, 110, 124, 125, 126, 127, 128, 111, 112, 113, 114, 115, 116, 117, 118, 119, 120, 121, 122, 123] (by decide +kernel) (by decide +kernel)
set_option maxRecDepth 20000 in
theorem gX2_period_X2_advance : GoodIn wsX2_period (wsV RX2 98 RX2 yX2_advance wsX2_advance) := goodIn_app (goodIn_of _ (by decide +kernel)) ggX2_period_X2_advance
set_option maxRecDepth 20000 in
theorem ggX2_period_X0_hasValuesOf : GoodIn wsX2_period wsX0_hasValuesOf := goodIn_r _ [106, 23, 24, 111, 112, 113, 114, 115, 116, 117, 118, 119, 120, 121, 122, 123] (by decide +kernel) (by decide +kernel)
set_option maxRecDepth 20000 in
theorem gX2_period_X0_hasValuesOf : GoodIn wsX2_period (wsV RX2 119 RX0 yX0_hasValuesOf wsX0_hasValuesOf) := goodIn_app (goodIn_of _ (by decide +kernel)) ggX2_period_X0_hasValuesOf
theorem dX2_period_0 : decode cX2_period 0 = .ok (.iload_n 1, 1) := by decide +kernel
theorem dX2_period_1 : decode cX2_period 1 = .ok (.invokestatic 109, 3) := by decide +kernel
theorem dX2_period_4 : decode cX2_period 4 = .ok (.ifCond .ne 6, 3) := by decide +kernel
theorem dX2_period_7 : decode cX2_period 7 = .ok (.bipush (-3), 2) := by decide +kernel
theorem dX2_period_9 : decode cX2_period 9 = .ok (.ireturn, 1) := by decide +kernel
theorem dX2_period_10 : decode cX2_period 10 = .ok (.aload_n 0, 1) := by decide +kernel
theorem dX2_period_11 : decode cX2_period 11 = .ok (.getfield 16, 3) := by decide +kernel
theorem dX2_period_14 : decode cX2_period 14 = .ok (.aload_n 0, 1) := by decide +kernel
theorem dX2_period_15 : decode cX2_period 15 = .ok (.getfield 10, 3) := by decide +kernel
theorem dX2_period_18 : decode cX2_period 18 = .ok (.invokevirtual 95, 3) := by decide +kernel
theorem dX2_period_21 : decode cX2_period 21 = .ok (.iconst 1, 1) := by decide +kernel
theorem dX2_period_22 : decode cX2_period 22 = .ok (.istore_n 2, 1) := by decide +kernel
theorem dX2_period_23 : decode cX2_period 23 = .ok (.iload_n 2, 1) := by decide +kernel
theorem dX2_period_24 : decode cX2_period 24 = .ok (.iload_n 1, 1) := by decide +kernel
theorem dX2_period_25 : decode cX2_period 25 = .ok (.if_icmp .gt 34, 3) := by decide +kernel
theorem dX2_period_28 : decode cX2_period 28 = .ok (.aload_n 0, 1) := by decide +kernel
theorem dX2_period_29 : decode cX2_period 29 = .ok (.aload_n 0, 1) := by decide +kernel
theorem dX2_period_30 : decode cX2_period 30 = .ok (.getfield 16, 3) := by decide +kernel
theorem dX2_period_33 : decode cX2_period 33 = .ok (.invokevirtual 98, 3) := by decide +kernel
theorem dX2_period_36 : decode cX2_period 36 = .ok (.pop, 1) := by decide +kernel
theorem dX2_period_37 : decode cX2_period 37 = .ok (.aload_n 0, 1) := by decide +kernel
theorem dX2_period_38 : decode cX2_period 38 = .ok (.getfield 16, 3) := by decide +kernel
theorem dX2_period_41 : decode cX2_period 41 = .ok (.aload_n 0, 1) := by decide +kernel
theorem dX2_period_42 : decode cX2_period 42 = .ok (.getfield 10, 3) := by decide +kernel
theorem dX2_period_45 : decode cX2_period 45 = .ok (.invokevirtual 119, 3) := by decide +kernel
theorem dX2_period_48 : decode cX2_period 48 = .ok (.ifCond .eq 5, 3) := by decide +kernel
theorem dX2_period_51 : decode cX2_period 51 = .ok (.iload_n 2, 1) := by decide +kernel
theorem dX2_period_52 : decode cX2_period 52 = .ok (.ireturn, 1) := by decide +kernel
theorem dX2_period_53 : decode cX2_period 53 = .ok (.iinc 2 1, 3) := by decide +kernel
theorem dX2_period_56 : decode cX2_period 56 = .ok (.goto (-33), 3) := by decide +kernel
theorem dX2_period_59 : decode cX2_period 59 = .ok (.bipush (-8), 2) := by decide +kernel
theorem dX2_period_61 : decode cX2_period 61 = .ok (.ireturn, 1) := by decide +kernel
set_option maxRecDepth 20000 in
theorem ggX2_setFault_X0_hasTransistor : GoodIn wsX2_setFault wsX0_hasTransistor := goodIn_r _ [6, 7, 21, 22, 23, 24, 25, 26, 27, 28, 29, 30, 31, 32, 33] (by decide +kernel) (by decide +kernel)
set_option maxRecDepth 20000 in
theorem gX2_setFault_X0_hasTransistor : GoodIn wsX2_setFault (wsV RX2 76 RX0 yX0_hasTransistor wsX0_hasTransistor) := goodIn_app (goodIn_of _ (by decide +kernel)) ggX2_setFault_X0_hasTransistor
set_option maxRecDepth 20000 in
theorem ggX2_setFault_X2_isWithin : GoodIn wsX2_setFault wsX2_isWithin := goodIn_r _ [11] (by decide +kernel) (by decide +kernel)
set_option maxRecDepth 20000 in
theorem gX2_setFault_X2_isWithin : GoodIn wsX2_setFault (va_wsS RX2 38 yX2_isWithin wsX2_isWithin) := goodIn_app (goodIn_of _ (by decide +kernel)) ggX2_setFault_X2_isWithin
set_option maxRecDepth 20000 in
theorem ggX2_setFault_X0_replaceFault : GoodIn wsX2_setFault wsX0_replaceFault := goodIn_r _ [15, 16, 21, 22, 23, 24, 25, 26, 27, 28, 29, 30, 31, 32, 33] (by decide +kernel) (by decide +kernel)
set_option maxRecDepth 20000 in
theorem gX2_setFault_X0_replaceFault : GoodIn wsX2_setFault (wsV RX2 123 RX0 yX0_replaceFault wsX0_replaceFault) := goodIn_app (goodIn_of _ (by decide +kernel)) ggX2_setFault_X0_replaceFault
theorem dX2_setFault_0 : decode cX2_setFault 0 = .ok (.aload_n 0, 1) := by decide +kernel
theorem dX2_setFault_1 : decode cX2_setFault 1 = .ok (.getfield 10, 3) := by decide +kernel
theorem dX2_setFault_4 : decode cX2_setFault 4 = .ok (.iload_n 1, 1) := by decide +kernel
theorem dX2_setFault_5 : decode cX2_setFault 5 = .ok (.invokevirtual 76, 3) := by decide +kernel
theorem dX2_setFault_8 : decode cX2_setFault 8 = .ok (.ifCond .ne 6, 3) := by decide +kernel
theorem dX2_setFault_11 : decode cX2_setFault 11 = .ok (.bipush (-2), 2) := by decide +kernel
theorem dX2_setFault_13 : decode cX2_setFault 13 = .ok (.ireturn, 1) := by decide +kernel
theorem dX2_setFault_14 : decode cX2_setFault 14 = .ok (.iload_n 2, 1) := by decide +kernel
theorem dX2_setFault_15 : decode cX2_setFault 15 = .ok (.iconst 0, 1) := by decide +kernel
theorem dX2_setFault_16 : decode cX2_setFault 16 = .ok (.iconst 2, 1) := by decide +kernel
theorem dX2_setFault_17 : decode cX2_setFault 17 = .ok (.invokestatic 38, 3) := by decide +kernel
theorem dX2_setFault_20 : decode cX2_setFault 20 = .ok (.ifCond .ne 6, 3) := by decide +kernel
theorem dX2_setFault_23 : decode cX2_setFault 23 = .ok (.bipush (-3), 2) := by decide +kernel
theorem dX2_setFault_25 : decode cX2_setFault 25 = .ok (.ireturn, 1) := by decide +kernel
theorem dX2_setFault_26 : decode cX2_setFault 26 = .ok (.aload_n 0, 1) := by decide +kernel
theorem dX2_setFault_27 : decode cX2_setFault 27 = .ok (.getfield 10, 3) := by decide +kernel
theorem dX2_setFault_30 : decode cX2_setFault 30 = .ok (.iload_n 1, 1) := by decide +kernel
theorem dX2_setFault_31 : decode cX2_setFault 31 = .ok (.iload_n 2, 1) := by decide +kernel
theorem dX2_setFault_32 : decode cX2_setFault 32 = .ok (.invokevirtual 123, 3) := by decide +kernel
theorem dX2_setFault_35 : decode cX2_setFault 35 = .ok (.ireturn, 1) := by decide +kernel
set_option maxRecDepth 20000 in
theorem ggX2_clearFaults_X0_removeFaults : GoodIn wsX2_clearFaults wsX0_removeFaults := goodIn_r _ [6, 7, 8, 9, 10, 5, 11, 12, 17, 18, 19, 20, 21, 22, 23, 24, 25, 26, 27, 28, 29] (by decide +kernel) (by decide +kernel)
set_option maxRecDepth 20000 in
theorem gX2_clearFaults_X0_removeFaults : GoodIn wsX2_clearFaults (wsV RX2 127 RX0 yX0_removeFaults wsX0_removeFaults) := goodIn_app (goodIn_of _ (by decide +kernel)) ggX2_clearFaults_X0_removeFaults
theorem dX2_clearFaults_0 : decode cX2_clearFaults 0 = .ok (.aload_n 0, 1) := by decide +kernel
theorem dX2_clearFaults_1 : decode cX2_clearFaults 1 = .ok (.getfield 10, 3) := by decide +kernel
theorem dX2_clearFaults_4 : decode cX2_clearFaults 4 = .ok (.invokevirtual 127, 3) := by decide +kernel
theorem dX2_clearFaults_7 : decode cX2_clearFaults 7 = .ok (.ireturn, 1) := by decide +kernel
set_option maxRecDepth 20000 in
theorem ggX2_detects_X0_hasTransistor : GoodIn wsX2_detects wsX0_hasTransistor := goodIn_r _ [7, 8, 128, 129, 130, 131, 132, 133, 134, 135, 136, 137, 138, 139, 140] (by decide +kernel) (by decide +kernel)
set_option maxRecDepth 20000 in
theorem gX2_detects_X0_hasTransistor : GoodIn wsX2_detects (wsV RX2 76 RX0 yX0_hasTransistor wsX0_hasTransistor) := goodIn_app (goodIn_of _ (by decide +kernel)) ggX2_detects_X0_hasTransistor
set_option maxRecDepth 20000 in
theorem ggX2_detects_X0_hasNode : GoodIn wsX2_detects wsX0_hasNode := goodIn_r _ [12, 13, 128, 129, 130, 131, 132, 133, 134, 135, 136, 137, 138, 139, 140] (by decide +kernel) (by decide +kernel)
set_option maxRecDepth 20000 in
theorem gX2_detects_X0_hasNode : GoodIn wsX2_detects (wsV RX2 46 RX0 yX0_hasNode wsX0_hasNode) := goodIn_app (goodIn_of _ (by decide +kernel)) ggX2_detects_X0_hasNode
set_option maxRecDepth 20000 in
theorem ggX2_detects_X2_isWithin : GoodIn wsX2_detects wsX2_isWithin := goodIn_r _ [17] (by decide +kernel) (by decide +kernel)
set_option maxRecDepth 20000 in
theorem gX2_detects_X2_isWithin : GoodIn wsX2_detects (va_wsS RX2 38 yX2_isWithin wsX2_isWithin) := goodIn_app (goodIn_of _ (by decide +kernel)) ggX2_detects_X2_isWithin
set_option maxRecDepth 20000 in
theorem ggX2_detects_X2_isLimit : GoodIn wsX2_detects wsX2_isLimit := goodIn_r _ [20, 14, 15, 16, 17] (by decide +kernel) (by decide +kernel)
set_option maxRecDepth 20000 in
theorem gX2_detects_X2_isLimit : GoodIn wsX2_detects (va_wsS RX2 109 yX2_isLimit wsX2_isLimit) := goodIn_app (goodIn_of _ (by decide +kernel)) ggX2_detects_X2_isLimit
set_option maxRecDepth 20000 in
theorem ggX2_detects_X0_copyFrom : GoodIn wsX2_detects wsX0_copyFrom := goodIn_r _ [24, 13, 25, 26, 27, 28, 29, 30, 31, 32, 33, 8, 34, 35, 36, 37, 38, 39, 128, 129, 130, 131, 132, 133, 134, 135, 136, 137, 138, 139, 140] (by decide +kernel) (by decide +kernel)
set_option maxRecDepth 20000 in
theorem gX2_detects_X0_copyFrom : GoodIn wsX2_detects (wsV RX2 95 RX0 yX0_copyFrom wsX0_copyFrom) := goodIn_app (goodIn_of _ (by decide +kernel)) ggX2_detects_X0_copyFrom
set_option maxRecDepth 20000 in
theorem ggX2_detects_X2_settledTrialValue : GoodIn wsX2_detects wsX2_settledTrialValue := goodIn_r _ [43, 2, 44, 45, 46, 16, 47, 48, 49, 50, 51, 52, 53, 54, 55, 56, 57, 58, 59, 60, 61, 62, 63, 64, 65, 66, 67, 68, 6, 69, 39, 34, 36, 70, 71, 72, 73, 32, 33, 74, 75, 76, 77, 78, 79, 80, 81, 82, 83, 84, 85, 86, 87, 88, 89, 90, 91, 92, 93, 94, 95, 96, 97, 98, 99, 100, 101, 102, 103, 104, 105, 106, 107, 108, 109, 110, 111, 112, 113, 114, 115, 124, 125, 126, 127, 141, 142, 143, 144, 145, 128, 129, 130, 131, 132, 133, 134, 135, 136, 137, 138, 139, 140] (by decide +kernel) (by decide +kernel)
set_option maxRecDepth 20000 in
theorem gX2_detects_X2_settledTrialValue : GoodIn wsX2_detects (wsV RX2 130 RX2 yX2_settledTrialValue wsX2_settledTrialValue) := goodIn_app (goodIn_of _ (by decide +kernel)) ggX2_detects_X2_settledTrialValue
set_option maxRecDepth 20000 in
theorem ggX2_detects_X0_copyWithFault : GoodIn wsX2_detects wsX0_copyWithFault := goodIn_r _ [119, 39, 120, 22, 23, 6, 24, 13, 25, 26, 27, 28, 29, 30, 31, 32, 33, 8, 34, 35, 36, 37, 38, 128, 129, 130, 131, 132, 133, 134, 135, 136, 137, 138, 139, 140] (by decide +kernel) (by decide +kernel)
set_option maxRecDepth 20000 in
theorem gX2_detects_X0_copyWithFault : GoodIn wsX2_detects (wsV RX2 133 RX0 yX0_copyWithFault wsX0_copyWithFault) := goodIn_app (goodIn_of _ (by decide +kernel)) ggX2_detects_X0_copyWithFault
set_option maxRecDepth 20000 in
theorem ggX2_detects_X2_areOpposite : GoodIn wsX2_detects wsX2_areOpposite := goodIn_r _ [123] (by decide +kernel) (by decide +kernel)
set_option maxRecDepth 20000 in
theorem gX2_detects_X2_areOpposite : GoodIn wsX2_detects (va_wsS RX2 137 yX2_areOpposite wsX2_areOpposite) := goodIn_app (goodIn_of _ (by decide +kernel)) ggX2_detects_X2_areOpposite
theorem dX2_detects_0 : decode cX2_detects 0 = .ok (.aload_n 0, 1) := by decide +kernel
theorem dX2_detects_1 : decode cX2_detects 1 = .ok (.getfield 10, 3) := by decide +kernel
theorem dX2_detects_4 : decode cX2_detects 4 = .ok (.iload_n 1, 1) := by decide +kernel
theorem dX2_detects_5 : decode cX2_detects 5 = .ok (.invokevirtual 76, 3) := by decide +kernel
theorem dX2_detects_8 : decode cX2_detects 8 = .ok (.ifCond .ne 6, 3) := by decide +kernel
theorem dX2_detects_11 : decode cX2_detects 11 = .ok (.bipush (-2), 2) := by decide +kernel
theorem dX2_detects_13 : decode cX2_detects 13 = .ok (.ireturn, 1) := by decide +kernel
theorem dX2_detects_14 : decode cX2_detects 14 = .ok (.aload_n 0, 1) := by decide +kernel
theorem dX2_detects_15 : decode cX2_detects 15 = .ok (.getfield 10, 3) := by decide +kernel
theorem dX2_detects_18 : decode cX2_detects 18 = .ok (.iload_n 3, 1) := by decide +kernel
theorem dX2_detects_19 : decode cX2_detects 19 = .ok (.invokevirtual 46, 3) := by decide +kernel
theorem dX2_detects_22 : decode cX2_detects 22 = .ok (.ifCond .ne 5, 3) := by decide +kernel
theorem dX2_detects_25 : decode cX2_detects 25 = .ok (.iconst (-1), 1) := by decide +kernel
theorem dX2_detects_26 : decode cX2_detects 26 = .ok (.ireturn, 1) := by decide +kernel
theorem dX2_detects_27 : decode cX2_detects 27 = .ok (.iload_n 2, 1) := by decide +kernel
theorem dX2_detects_28 : decode cX2_detects 28 = .ok (.iconst 1, 1) := by decide +kernel
theorem dX2_detects_29 : decode cX2_detects 29 = .ok (.iconst 2, 1) := by decide +kernel
theorem dX2_detects_30 : decode cX2_detects 30 = .ok (.invokestatic 38, 3) := by decide +kernel
theorem dX2_detects_33 : decode cX2_detects 33 = .ok (.ifCond .eq 11, 3) := by decide +kernel
theorem dX2_detects_36 : decode cX2_detects 36 = .ok (.iload 4, 2) := by decide +kernel
theorem dX2_detects_38 : decode cX2_detects 38 = .ok (.invokestatic 109, 3) := by decide +kernel
theorem dX2_detects_41 : decode cX2_detects 41 = .ok (.ifCond .ne 6, 3) := by decide +kernel
theorem dX2_detects_44 : decode cX2_detects 44 = .ok (.bipush (-3), 2) := by decide +kernel
theorem dX2_detects_46 : decode cX2_detects 46 = .ok (.ireturn, 1) := by decide +kernel
theorem dX2_detects_47 : decode cX2_detects 47 = .ok (.aload_n 0, 1) := by decide +kernel
theorem dX2_detects_48 : decode cX2_detects 48 = .ok (.getfield 16, 3) := by decide +kernel
theorem dX2_detects_51 : decode cX2_detects 51 = .ok (.aload_n 0, 1) := by decide +kernel
theorem dX2_detects_52 : decode cX2_detects 52 = .ok (.getfield 10, 3) := by decide +kernel
theorem dX2_detects_55 : decode cX2_detects 55 = .ok (.invokevirtual 95, 3) := by decide +kernel
theorem dX2_detects_58 : decode cX2_detects 58 = .ok (.aload_n 0, 1) := by decide +kernel
theorem dX2_detects_59 : decode cX2_detects 59 = .ok (.iload_n 3, 1) := by decide +kernel
theorem dX2_detects_60 : decode cX2_detects 60 = .ok (.iload 4, 2) := by decide +kernel
theorem dX2_detects_62 : decode cX2_detects 62 = .ok (.invokevirtual 130, 3) := by decide +kernel
theorem dX2_detects_65 : decode cX2_detects 65 = .ok (.istore 5, 2) := by decide +kernel
theorem dX2_detects_67 : decode cX2_detects 67 = .ok (.aload_n 0, 1) := by decide +kernel
theorem dX2_detects_68 : decode cX2_detects 68 = .ok (.getfield 16, 3) := by decide +kernel
theorem dX2_detects_71 : decode cX2_detects 71 = .ok (.aload_n 0, 1) := by decide +kernel
theorem dX2_detects_72 : decode cX2_detects 72 = .ok (.getfield 10, 3) := by decide +kernel
theorem dX2_detects_75 : decode cX2_detects 75 = .ok (.iload_n 1, 1) := by decide +kernel
theorem dX2_detects_76 : decode cX2_detects 76 = .ok (.iload_n 2, 1) := by decide +kernel
theorem dX2_detects_77 : decode cX2_detects 77 = .ok (.invokevirtual 133, 3) := by decide +kernel
theorem dX2_detects_80 : decode cX2_detects 80 = .ok (.aload_n 0, 1) := by decide +kernel
theorem dX2_detects_81 : decode cX2_detects 81 = .ok (.iload_n 3, 1) := by decide +kernel
theorem dX2_detects_82 : decode cX2_detects 82 = .ok (.iload 4, 2) := by decide +kernel
theorem dX2_detects_84 : decode cX2_detects 84 = .ok (.invokevirtual 130, 3) := by decide +kernel
theorem dX2_detects_87 : decode cX2_detects 87 = .ok (.istore 6, 2) := by decide +kernel
theorem dX2_detects_89 : decode cX2_detects 89 = .ok (.iload 5, 2) := by decide +kernel
theorem dX2_detects_91 : decode cX2_detects 91 = .ok (.iload 6, 2) := by decide +kernel
theorem dX2_detects_93 : decode cX2_detects 93 = .ok (.invokestatic 137, 3) := by decide +kernel
theorem dX2_detects_96 : decode cX2_detects 96 = .ok (.ifCond .eq 7, 3) := by decide +kernel
theorem dX2_detects_99 : decode cX2_detects 99 = .ok (.iconst 1, 1) := by decide +kernel
theorem dX2_detects_100 : decode cX2_detects 100 = .ok (.goto 4, 3) := by decide +kernel
theorem dX2_detects_103 : decode cX2_detects 103 = .ok (.iconst 0, 1) := by decide +kernel
theorem dX2_detects_104 : decode cX2_detects 104 = .ok (.ireturn, 1) := by decide +kernel
set_option maxRecDepth 20000 in
theorem ggX2_detectedFaults_X0_hasNode : GoodIn wsX2_detectedFaults wsX0_hasNode := goodIn_r _ [8, 9, 125, 126, 127, 128, 129, 130, 131, 132, 133, 134, 135, 136, 137] (by decide +kernel) (by decide +kernel)
set_option maxRecDepth 20000 in
theorem gX2_detectedFaults_X0_hasNode : GoodIn wsX2_detectedFaults (wsV RX2 46 RX0 yX0_hasNode wsX0_hasNode) := goodIn_app (goodIn_of _ (by decide +kernel)) ggX2_detectedFaults_X0_hasNode
set_option maxRecDepth 20000 in
theorem ggX2_detectedFaults_X2_isLimit : GoodIn wsX2_detectedFaults wsX2_isLimit := goodIn_r _ [13, 14, 15, 12, 16] (by decide +kernel) (by decide +kernel)
set_option maxRecDepth 20000 in
theorem gX2_detectedFaults_X2_isLimit : GoodIn wsX2_detectedFaults (va_wsS RX2 109 yX2_isLimit wsX2_isLimit) := goodIn_app (goodIn_of _ (by decide +kernel)) ggX2_detectedFaults_X2_isLimit
set_option maxRecDepth 20000 in
theorem ggX2_detectedFaults_X0_copyFrom : GoodIn wsX2_detectedFaults wsX0_copyFrom := goodIn_r _ [20, 9, 21, 22, 23, 24, 25, 26, 27, 28, 29, 30, 31, 32, 33, 34, 35, 36, 125, 126, 127, 128, 129, 130, 131, 132, 133, 134, 135, 136, 137] (by decide +kernel) (by decide +kernel)
set_option maxRecDepth 20000 in
theorem gX2_detectedFaults_X0_copyFrom : GoodIn wsX2_detectedFaults (wsV RX2 95 RX0 yX0_copyFrom wsX0_copyFrom) := goodIn_app (goodIn_of _ (by decide +kernel)) ggX2_detectedFaults_X0_copyFrom
set_option maxRecDepth 20000 in
theorem ggX2_detectedFaults_X2_settledTrialValue : GoodIn wsX2_detectedFaults wsX2_settledTrialValue := goodIn_r _ [40, 2, 41, 42, 43, 12, 44, 45, 46, 47, 48, 49, 50, 51, 52, 53, 54, 55, 56, 57, 58, 59, 60, 61, 62, 63, 64, 65, 7, 66, 36, 31, 33, 67, 68, 69, 70, 28, 29, 71, 72, 73, 74, 75, 76, 77, 78, 79, 80, 81, 82, 83, 84, 85, 86, 87, 88, 89, 90, 91, 92, 93, 94, 95, 96, 97, 98, 99, 100, 101, 102, 103, 104, 105, 106, 107, 108, 109, 110, 111, 112, 121, 122, 123, 124, 138, 139, 140, 141, 142, 125, 126, 127, 128, 129, 130, 131, 132, 133, 134, 135, 136, 137] (by decide +kernel) (by decide +kernel)
set_option maxRecDepth 20000 in
theorem gX2_detectedFaults_X2_settledTrialValue : GoodIn wsX2_detectedFaults (wsV RX2 130 RX2 yX2_settledTrialValue wsX2_settledTrialValue) := goodIn_app (goodIn_of _ (by decide +kernel)) ggX2_detectedFaults_X2_settledTrialValue
set_option maxRecDepth 20000 in
theorem ggX2_detectedFaults_X0_copyWithFault : GoodIn wsX2_detectedFaults wsX0_copyWithFault := goodIn_r _ [116, 36, 117, 18, 19, 7, 20, 9, 21, 22, 23, 24, 25, 26, 27, 28, 29, 30, 31, 32, 33, 34, 35, 125, 126, 127, 128, 129, 130, 131, 132, 133, 134, 135, 136, 137] (by decide +kernel) (by decide +kernel)
set_option maxRecDepth 20000 in
theorem gX2_detectedFaults_X0_copyWithFault : GoodIn wsX2_detectedFaults (wsV RX2 133 RX0 yX0_copyWithFault wsX0_copyWithFault) := goodIn_app (goodIn_of _ (by decide +kernel)) ggX2_detectedFaults_X0_copyWithFault
set_option maxRecDepth 20000 in
theorem ggX2_detectedFaults_X2_areOpposite : GoodIn wsX2_detectedFaults wsX2_areOpposite := goodIn_r _ [120] (by decide +kernel) (by decide +kernel)
set_option maxRecDepth 20000 in
theorem gX2_detectedFaults_X2_areOpposite : GoodIn wsX2_detectedFaults (va_wsS RX2 137 yX2_areOpposite wsX2_areOpposite) := goodIn_app (goodIn_of _ (by decide +kernel)) ggX2_detectedFaults_X2_areOpposite
theorem dX2_detectedFaults_0 : decode cX2_detectedFaults 0 = .ok (.aload_n 0, 1) := by decide +kernel
theorem dX2_detectedFaults_1 : decode cX2_detectedFaults 1 = .ok (.getfield 10, 3) := by decide +kernel
theorem dX2_detectedFaults_4 : decode cX2_detectedFaults 4 = .ok (.iload_n 1, 1) := by decide +kernel
theorem dX2_detectedFaults_5 : decode cX2_detectedFaults 5 = .ok (.invokevirtual 46, 3) := by decide +kernel
theorem dX2_detectedFaults_8 : decode cX2_detectedFaults 8 = .ok (.ifCond .ne 5, 3) := by decide +kernel
theorem dX2_detectedFaults_11 : decode cX2_detectedFaults 11 = .ok (.iconst (-1), 1) := by decide +kernel
theorem dX2_detectedFaults_12 : decode cX2_detectedFaults 12 = .ok (.ireturn, 1) := by decide +kernel
theorem dX2_detectedFaults_13 : decode cX2_detectedFaults 13 = .ok (.iload_n 2, 1) := by decide +kernel
theorem dX2_detectedFaults_14 : decode cX2_detectedFaults 14 = .ok (.invokestatic 109, 3) := by decide +kernel
theorem dX2_detectedFaults_17 : decode cX2_detectedFaults 17 = .ok (.ifCond .ne 6, 3) := by decide +kernel
theorem dX2_detectedFaults_20 : decode cX2_detectedFaults 20 = .ok (.bipush (-3), 2) := by decide +kernel
theorem dX2_detectedFaults_22 : decode cX2_detectedFaults 22 = .ok (.ireturn, 1) := by decide +kernel
theorem dX2_detectedFaults_23 : decode cX2_detectedFaults 23 = .ok (.aload_n 0, 1) := by decide +kernel
theorem dX2_detectedFaults_24 : decode cX2_detectedFaults 24 = .ok (.getfield 16, 3) := by decide +kernel
theorem dX2_detectedFaults_27 : decode cX2_detectedFaults 27 = .ok (.aload_n 0, 1) := by decide +kernel
theorem dX2_detectedFaults_28 : decode cX2_detectedFaults 28 = .ok (.getfield 10, 3) := by decide +kernel
theorem dX2_detectedFaults_31 : decode cX2_detectedFaults 31 = .ok (.invokevirtual 95, 3) := by decide +kernel
theorem dX2_detectedFaults_34 : decode cX2_detectedFaults 34 = .ok (.aload_n 0, 1) := by decide +kernel
theorem dX2_detectedFaults_35 : decode cX2_detectedFaults 35 = .ok (.iload_n 1, 1) := by decide +kernel
theorem dX2_detectedFaults_36 : decode cX2_detectedFaults 36 = .ok (.iload_n 2, 1) := by decide +kernel
theorem dX2_detectedFaults_37 : decode cX2_detectedFaults 37 = .ok (.invokevirtual 130, 3) := by decide +kernel
theorem dX2_detectedFaults_40 : decode cX2_detectedFaults 40 = .ok (.istore_n 3, 1) := by decide +kernel
theorem dX2_detectedFaults_41 : decode cX2_detectedFaults 41 = .ok (.iload_n 3, 1) := by decide +kernel
theorem dX2_detectedFaults_42 : decode cX2_detectedFaults 42 = .ok (.iconst 2, 1) := by decide +kernel
theorem dX2_detectedFaults_43 : decode cX2_detectedFaults 43 = .ok (.if_icmp .ne 5, 3) := by decide +kernel
theorem dX2_detectedFaults_46 : decode cX2_detectedFaults 46 = .ok (.iconst 0, 1) := by decide +kernel
theorem dX2_detectedFaults_47 : decode cX2_detectedFaults 47 = .ok (.ireturn, 1) := by decide +kernel
theorem dX2_detectedFaults_48 : decode cX2_detectedFaults 48 = .ok (.iconst 0, 1) := by decide +kernel
theorem dX2_detectedFaults_49 : decode cX2_detectedFaults 49 = .ok (.istore 4, 2) := by decide +kernel
theorem dX2_detectedFaults_51 : decode cX2_detectedFaults 51 = .ok (.iconst 0, 1) := by decide +kernel
theorem dX2_detectedFaults_52 : decode cX2_detectedFaults 52 = .ok (.istore 5, 2) := by decide +kernel
theorem dX2_detectedFaults_54 : decode cX2_detectedFaults 54 = .ok (.iload 5, 2) := by decide +kernel
theorem dX2_detectedFaults_56 : decode cX2_detectedFaults 56 = .ok (.aload_n 0, 1) := by decide +kernel
theorem dX2_detectedFaults_57 : decode cX2_detectedFaults 57 = .ok (.getfield 10, 3) := by decide +kernel
theorem dX2_detectedFaults_60 : decode cX2_detectedFaults 60 = .ok (.getfield 50, 3) := by decide +kernel
theorem dX2_detectedFaults_63 : decode cX2_detectedFaults 63 = .ok (.if_icmp .ge 55, 3) := by decide +kernel
theorem dX2_detectedFaults_66 : decode cX2_detectedFaults 66 = .ok (.iconst 1, 1) := by decide +kernel
theorem dX2_detectedFaults_67 : decode cX2_detectedFaults 67 = .ok (.istore 6, 2) := by decide +kernel
theorem dX2_detectedFaults_69 : decode cX2_detectedFaults 69 = .ok (.iload 6, 2) := by decide +kernel
theorem dX2_detectedFaults_71 : decode cX2_detectedFaults 71 = .ok (.iconst 2, 1) := by decide +kernel
theorem dX2_detectedFaults_72 : decode cX2_detectedFaults 72 = .ok (.if_icmp .gt 40, 3) := by decide +kernel
theorem dX2_detectedFaults_75 : decode cX2_detectedFaults 75 = .ok (.aload_n 0, 1) := by decide +kernel
theorem dX2_detectedFaults_76 : decode cX2_detectedFaults 76 = .ok (.getfield 16, 3) := by decide +kernel
theorem dX2_detectedFaults_79 : decode cX2_detectedFaults 79 = .ok (.aload_n 0, 1) := by decide +kernel
theorem dX2_detectedFaults_80 : decode cX2_detectedFaults 80 = .ok (.getfield 10, 3) := by decide +kernel
theorem dX2_detectedFaults_83 : decode cX2_detectedFaults 83 = .ok (.iload 5, 2) := by decide +kernel
theorem dX2_detectedFaults_85 : decode cX2_detectedFaults 85 = .ok (.iload 6, 2) := by decide +kernel
theorem dX2_detectedFaults_87 : decode cX2_detectedFaults 87 = .ok (.invokevirtual 133, 3) := by decide +kernel
theorem dX2_detectedFaults_90 : decode cX2_detectedFaults 90 = .ok (.iload_n 3, 1) := by decide +kernel
theorem dX2_detectedFaults_91 : decode cX2_detectedFaults 91 = .ok (.aload_n 0, 1) := by decide +kernel
theorem dX2_detectedFaults_92 : decode cX2_detectedFaults 92 = .ok (.iload_n 1, 1) := by decide +kernel
theorem dX2_detectedFaults_93 : decode cX2_detectedFaults 93 = .ok (.iload_n 2, 1) := by decide +kernel
theorem dX2_detectedFaults_94 : decode cX2_detectedFaults 94 = .ok (.invokevirtual 130, 3) := by decide +kernel
theorem dX2_detectedFaults_97 : decode cX2_detectedFaults 97 = .ok (.invokestatic 137, 3) := by decide +kernel
theorem dX2_detectedFaults_100 : decode cX2_detectedFaults 100 = .ok (.ifCond .eq 6, 3) := by decide +kernel
theorem dX2_detectedFaults_103 : decode cX2_detectedFaults 103 = .ok (.iinc 4 1, 3) := by decide +kernel
theorem dX2_detectedFaults_106 : decode cX2_detectedFaults 106 = .ok (.iinc 6 1, 3) := by decide +kernel
theorem dX2_detectedFaults_109 : decode cX2_detectedFaults 109 = .ok (.goto (-40), 3) := by decide +kernel
theorem dX2_detectedFaults_112 : decode cX2_detectedFaults 112 = .ok (.iinc 5 1, 3) := by decide +kernel
theorem dX2_detectedFaults_115 : decode cX2_detectedFaults 115 = .ok (.goto (-61), 3) := by decide +kernel
theorem dX2_detectedFaults_118 : decode cX2_detectedFaults 118 = .ok (.iload 4, 2) := by decide +kernel
theorem dX2_detectedFaults_120 : decode cX2_detectedFaults 120 = .ok (.ireturn, 1) := by decide +kernel
set_option maxRecDepth 20000 in
theorem ggX2_save_X2_isWithin : GoodIn wsX2_save wsX2_isWithin := goodIn_r _ [10] (by decide +kernel) (by decide +kernel)
set_option maxRecDepth 20000 in
theorem gX2_save_X2_isWithin : GoodIn wsX2_save (va_wsS RX2 38 yX2_isWithin wsX2_isWithin) := goodIn_app (goodIn_of _ (by decide +kernel)) ggX2_save_X2_isWithin
set_option maxRecDepth 20000 in
theorem ggX2_save_X0_init : GoodIn wsX2_save wsX0_init := goodIn_r _ [12, 13, 14, 15, 16, 17, 18, 19, 20, 21, 22, 23, 42, 43, 44, 45, 46, 47, 48, 49, 50, 51, 52, 53, 54] (by decide +kernel) (by decide +kernel)
set_option maxRecDepth 20000 in
theorem gX2_save_X0_init_n9 : GoodIn wsX2_save (wsX0_init) := ggX2_save_X0_init
set_option maxRecDepth 20000 in
theorem ggX2_save_X0_copyFrom : GoodIn wsX2_save wsX0_copyFrom := goodIn_r _ [27, 28, 29, 30, 17, 31, 32, 33, 34, 35, 36, 37, 18, 19, 20, 21, 22, 23, 42, 43, 44, 45, 46, 47, 48, 49, 50, 51, 52, 53, 54] (by decide +kernel) (by decide +kernel)
set_option maxRecDepth 20000 in
theorem gX2_save_X0_copyFrom : GoodIn wsX2_save (wsV RX2 95 RX0 yX0_copyFrom wsX0_copyFrom) := goodIn_app (goodIn_of _ (by decide +kernel)) ggX2_save_X0_copyFrom
theorem dX2_save_0 : decode cX2_save 0 = .ok (.iload_n 1, 1) := by decide +kernel
theorem dX2_save_1 : decode cX2_save 1 = .ok (.iconst 0, 1) := by decide +kernel
theorem dX2_save_2 : decode cX2_save 2 = .ok (.iconst 1, 1) := by decide +kernel
theorem dX2_save_3 : decode cX2_save 3 = .ok (.invokestatic 38, 3) := by decide +kernel
theorem dX2_save_6 : decode cX2_save 6 = .ok (.ifCond .ne 6, 3) := by decide +kernel
theorem dX2_save_9 : decode cX2_save 9 = .ok (.bipush (-3), 2) := by decide +kernel
theorem dX2_save_11 : decode cX2_save 11 = .ok (.ireturn, 1) := by decide +kernel
theorem dX2_save_12 : decode cX2_save 12 = .ok (.aload_n 0, 1) := by decide +kernel
theorem dX2_save_13 : decode cX2_save 13 = .ok (.getfield 19, 3) := by decide +kernel
theorem dX2_save_16 : decode cX2_save 16 = .ok (.iload_n 1, 1) := by decide +kernel
theorem dX2_save_17 : decode cX2_save 17 = .ok (.aaload, 1) := by decide +kernel
theorem dX2_save_18 : decode cX2_save 18 = .ok (.astore_n 2, 1) := by decide +kernel
theorem dX2_save_19 : decode cX2_save 19 = .ok (.aload_n 2, 1) := by decide +kernel
theorem dX2_save_20 : decode cX2_save 20 = .ok (.ifnonnull 18, 3) := by decide +kernel
theorem dX2_save_23 : decode cX2_save 23 = .ok (.new 7, 3) := by decide +kernel
theorem dX2_save_26 : decode cX2_save 26 = .ok (.dup, 1) := by decide +kernel
theorem dX2_save_27 : decode cX2_save 27 = .ok (.invokespecial 9, 3) := by decide +kernel
theorem dX2_save_30 : decode cX2_save 30 = .ok (.astore_n 2, 1) := by decide +kernel
theorem dX2_save_31 : decode cX2_save 31 = .ok (.aload_n 0, 1) := by decide +kernel
theorem dX2_save_32 : decode cX2_save 32 = .ok (.getfield 19, 3) := by decide +kernel
theorem dX2_save_35 : decode cX2_save 35 = .ok (.iload_n 1, 1) := by decide +kernel
theorem dX2_save_36 : decode cX2_save 36 = .ok (.aload_n 2, 1) := by decide +kernel
theorem dX2_save_37 : decode cX2_save 37 = .ok (.aastore, 1) := by decide +kernel
theorem dX2_save_38 : decode cX2_save 38 = .ok (.aload_n 2, 1) := by decide +kernel
theorem dX2_save_39 : decode cX2_save 39 = .ok (.aload_n 0, 1) := by decide +kernel
theorem dX2_save_40 : decode cX2_save 40 = .ok (.getfield 10, 3) := by decide +kernel
theorem dX2_save_43 : decode cX2_save 43 = .ok (.invokevirtual 95, 3) := by decide +kernel
theorem dX2_save_46 : decode cX2_save 46 = .ok (.aload_n 0, 1) := by decide +kernel
theorem dX2_save_47 : decode cX2_save 47 = .ok (.getfield 10, 3) := by decide +kernel
theorem dX2_save_50 : decode cX2_save 50 = .ok (.getfield 30, 3) := by decide +kernel
theorem dX2_save_53 : decode cX2_save 53 = .ok (.ireturn, 1) := by decide +kernel
set_option maxRecDepth 20000 in
theorem ggX2_restore_X2_isWithin : GoodIn wsX2_restore wsX2_isWithin := goodIn_r _ [7] (by decide +kernel) (by decide +kernel)
set_option maxRecDepth 20000 in
theorem gX2_restore_X2_isWithin : GoodIn wsX2_restore (va_wsS RX2 38 yX2_isWithin wsX2_isWithin) := goodIn_app (goodIn_of _ (by decide +kernel)) ggX2_restore_X2_isWithin
set_option maxRecDepth 20000 in
theorem ggX2_restore_X0_copyFrom : GoodIn wsX2_restore wsX0_copyFrom := goodIn_r _ [12, 13, 14, 15, 16, 17, 18, 19, 20, 21, 22, 23, 24, 25, 26, 27, 28, 29, 34, 35, 36, 37, 38, 39, 40, 41, 42, 43, 44, 45, 46] (by decide +kernel) (by decide +kernel)
set_option maxRecDepth 20000 in
theorem gX2_restore_X0_copyFrom : GoodIn wsX2_restore (wsV RX2 95 RX0 yX0_copyFrom wsX0_copyFrom) := goodIn_app (goodIn_of _ (by decide +kernel)) ggX2_restore_X0_copyFrom
theorem dX2_restore_0 : decode cX2_restore 0 = .ok (.iload_n 1, 1) := by decide +kernel
theorem dX2_restore_1 : decode cX2_restore 1 = .ok (.iconst 0, 1) := by decide +kernel
theorem dX2_restore_2 : decode cX2_restore 2 = .ok (.iconst 1, 1) := by decide +kernel
theorem dX2_restore_3 : decode cX2_restore 3 = .ok (.invokestatic 38, 3) := by decide +kernel
theorem dX2_restore_6 : decode cX2_restore 6 = .ok (.ifCond .ne 6, 3) := by decide +kernel
theorem dX2_restore_9 : decode cX2_restore 9 = .ok (.bipush (-3), 2) := by decide +kernel
theorem dX2_restore_11 : decode cX2_restore 11 = .ok (.ireturn, 1) := by decide +kernel
theorem dX2_restore_12 : decode cX2_restore 12 = .ok (.aload_n 0, 1) := by decide +kernel
theorem dX2_restore_13 : decode cX2_restore 13 = .ok (.getfield 19, 3) := by decide +kernel
theorem dX2_restore_16 : decode cX2_restore 16 = .ok (.iload_n 1, 1) := by decide +kernel
theorem dX2_restore_17 : decode cX2_restore 17 = .ok (.aaload, 1) := by decide +kernel
theorem dX2_restore_18 : decode cX2_restore 18 = .ok (.astore_n 2, 1) := by decide +kernel
theorem dX2_restore_19 : decode cX2_restore 19 = .ok (.aload_n 2, 1) := by decide +kernel
theorem dX2_restore_20 : decode cX2_restore 20 = .ok (.ifnonnull 6, 3) := by decide +kernel
theorem dX2_restore_23 : decode cX2_restore 23 = .ok (.bipush (-9), 2) := by decide +kernel
theorem dX2_restore_25 : decode cX2_restore 25 = .ok (.ireturn, 1) := by decide +kernel
theorem dX2_restore_26 : decode cX2_restore 26 = .ok (.aload_n 0, 1) := by decide +kernel
theorem dX2_restore_27 : decode cX2_restore 27 = .ok (.getfield 10, 3) := by decide +kernel
theorem dX2_restore_30 : decode cX2_restore 30 = .ok (.aload_n 2, 1) := by decide +kernel
theorem dX2_restore_31 : decode cX2_restore 31 = .ok (.invokevirtual 95, 3) := by decide +kernel
theorem dX2_restore_34 : decode cX2_restore 34 = .ok (.aload_n 0, 1) := by decide +kernel
theorem dX2_restore_35 : decode cX2_restore 35 = .ok (.getfield 10, 3) := by decide +kernel
theorem dX2_restore_38 : decode cX2_restore 38 = .ok (.getfield 30, 3) := by decide +kernel
theorem dX2_restore_41 : decode cX2_restore 41 = .ok (.ireturn, 1) := by decide +kernel
set_option maxRecDepth 20000 in
theorem ggX2_replaceValue_X0_hasNode : GoodIn wsX2_replaceValue wsX0_hasNode := goodIn_r _ [6, 7, 34, 35, 36, 37, 38, 39, 40, 41, 42, 43, 44, 45, 46] (by decide +kernel) (by decide +kernel)
set_option maxRecDepth 20000 in
theorem gX2_replaceValue_X0_hasNode : GoodIn wsX2_replaceValue (wsV RX2 46 RX0 yX0_hasNode wsX0_hasNode) := goodIn_app (goodIn_of _ (by decide +kernel)) ggX2_replaceValue_X0_hasNode
set_option maxRecDepth 20000 in
theorem ggX2_replaceValue_X0_isInput : GoodIn wsX2_replaceValue wsX0_isInput := goodIn_r _ [11, 12, 34, 35, 36, 37, 38, 39, 40, 41, 42, 43, 44, 45, 46] (by decide +kernel) (by decide +kernel)
set_option maxRecDepth 20000 in
theorem gX2_replaceValue_X0_isInput : GoodIn wsX2_replaceValue (wsV RX2 102 RX0 yX0_isInput wsX0_isInput) := goodIn_app (goodIn_of _ (by decide +kernel)) ggX2_replaceValue_X0_isInput
set_option maxRecDepth 20000 in
theorem ggX2_replaceValue_X2_isValue : GoodIn wsX2_replaceValue wsX2_isValue := goodIn_r _ [16, 17, 18, 15, 19] (by decide +kernel) (by decide +kernel)
set_option maxRecDepth 20000 in
theorem gX2_replaceValue_X2_isValue : GoodIn wsX2_replaceValue (va_wsS RX2 70 yX2_isValue wsX2_isValue) := goodIn_app (goodIn_of _ (by decide +kernel)) ggX2_replaceValue_X2_isValue
set_option maxRecDepth 20000 in
theorem ggX2_replaceValue_X0_valueOf : GoodIn wsX2_replaceValue wsX0_valueOf := goodIn_r _ [23, 24, 25, 34, 35, 36, 37, 38, 39, 40, 41, 42, 43, 44, 45, 46] (by decide +kernel) (by decide +kernel)
set_option maxRecDepth 20000 in
theorem gX2_replaceValue_X0_valueOf : GoodIn wsX2_replaceValue (wsV RX2 67 RX0 yX0_valueOf wsX0_valueOf) := goodIn_app (goodIn_of _ (by decide +kernel)) ggX2_replaceValue_X0_valueOf
set_option maxRecDepth 20000 in
theorem ggX2_replaceValue_X0_putValue : GoodIn wsX2_replaceValue wsX0_putValue := goodIn_r _ [29, 24, 25, 34, 35, 36, 37, 38, 39, 40, 41, 42, 43, 44, 45, 46] (by decide +kernel) (by decide +kernel)
set_option maxRecDepth 20000 in
theorem gX2_replaceValue_X0_putValue : GoodIn wsX2_replaceValue (wsV RX2 141 RX0 yX0_putValue wsX0_putValue) := goodIn_app (goodIn_of _ (by decide +kernel)) ggX2_replaceValue_X0_putValue
theorem dX2_replaceValue_0 : decode cX2_replaceValue 0 = .ok (.aload_n 0, 1) := by decide +kernel
theorem dX2_replaceValue_1 : decode cX2_replaceValue 1 = .ok (.getfield 10, 3) := by decide +kernel
theorem dX2_replaceValue_4 : decode cX2_replaceValue 4 = .ok (.iload_n 1, 1) := by decide +kernel
theorem dX2_replaceValue_5 : decode cX2_replaceValue 5 = .ok (.invokevirtual 46, 3) := by decide +kernel
theorem dX2_replaceValue_8 : decode cX2_replaceValue 8 = .ok (.ifCond .ne 5, 3) := by decide +kernel
theorem dX2_replaceValue_11 : decode cX2_replaceValue 11 = .ok (.iconst (-1), 1) := by decide +kernel
theorem dX2_replaceValue_12 : decode cX2_replaceValue 12 = .ok (.ireturn, 1) := by decide +kernel
theorem dX2_replaceValue_13 : decode cX2_replaceValue 13 = .ok (.aload_n 0, 1) := by decide +kernel
theorem dX2_replaceValue_14 : decode cX2_replaceValue 14 = .ok (.getfield 10, 3) := by decide +kernel
theorem dX2_replaceValue_17 : decode cX2_replaceValue 17 = .ok (.iload_n 1, 1) := by decide +kernel
theorem dX2_replaceValue_18 : decode cX2_replaceValue 18 = .ok (.invokevirtual 102, 3) := by decide +kernel
theorem dX2_replaceValue_21 : decode cX2_replaceValue 21 = .ok (.iload_n 3, 1) := by decide +kernel
theorem dX2_replaceValue_22 : decode cX2_replaceValue 22 = .ok (.if_icmp .eq 6, 3) := by decide +kernel
theorem dX2_replaceValue_25 : decode cX2_replaceValue 25 = .ok (.bipush (-5), 2) := by decide +kernel
theorem dX2_replaceValue_27 : decode cX2_replaceValue 27 = .ok (.ireturn, 1) := by decide +kernel
theorem dX2_replaceValue_28 : decode cX2_replaceValue 28 = .ok (.iload_n 2, 1) := by decide +kernel
theorem dX2_replaceValue_29 : decode cX2_replaceValue 29 = .ok (.invokestatic 70, 3) := by decide +kernel
theorem dX2_replaceValue_32 : decode cX2_replaceValue 32 = .ok (.ifCond .ne 6, 3) := by decide +kernel
theorem dX2_replaceValue_35 : decode cX2_replaceValue 35 = .ok (.bipush (-3), 2) := by decide +kernel
theorem dX2_replaceValue_37 : decode cX2_replaceValue 37 = .ok (.ireturn, 1) := by decide +kernel
theorem dX2_replaceValue_38 : decode cX2_replaceValue 38 = .ok (.aload_n 0, 1) := by decide +kernel
theorem dX2_replaceValue_39 : decode cX2_replaceValue 39 = .ok (.getfield 10, 3) := by decide +kernel
theorem dX2_replaceValue_42 : decode cX2_replaceValue 42 = .ok (.iload_n 1, 1) := by decide +kernel
theorem dX2_replaceValue_43 : decode cX2_replaceValue 43 = .ok (.invokevirtual 67, 3) := by decide +kernel
theorem dX2_replaceValue_46 : decode cX2_replaceValue 46 = .ok (.istore 4, 2) := by decide +kernel
theorem dX2_replaceValue_48 : decode cX2_replaceValue 48 = .ok (.aload_n 0, 1) := by decide +kernel
theorem dX2_replaceValue_49 : decode cX2_replaceValue 49 = .ok (.getfield 10, 3) := by decide +kernel
theorem dX2_replaceValue_52 : decode cX2_replaceValue 52 = .ok (.iload_n 1, 1) := by decide +kernel
theorem dX2_replaceValue_53 : decode cX2_replaceValue 53 = .ok (.iload_n 2, 1) := by decide +kernel
theorem dX2_replaceValue_54 : decode cX2_replaceValue 54 = .ok (.invokevirtual 141, 3) := by decide +kernel
theorem dX2_replaceValue_57 : decode cX2_replaceValue 57 = .ok (.iload 4, 2) := by decide +kernel
theorem dX2_replaceValue_59 : decode cX2_replaceValue 59 = .ok (.ireturn, 1) := by decide +kernel
set_option maxRecDepth 20000 in
theorem ggX2_advance_X1_find : GoodIn wsX2_advance wsX1_find := goodIn_r _ [6, 7, 8, 9, 10, 11, 12, 13, 5, 14, 15, 16, 17, 18, 19, 20, 21, 22, 23, 24, 25, 26, 27, 28, 29, 30, 31, 32, 33, 34, 35, 36, 37, 38, 39, 40, 41, 42, 43, 44, 45, 46, 47, 48, 49, 50, 51, 52, 53, 54, 55, 56, 57, 58, 59, 60, 61, 62, 63, 64, 65, 78, 79, 80, 81, 82, 83, 84, 85, 86, 87, 88, 89, 90, 91, 92, 93, 94, 95] (by decide +kernel) (by decide +kernel)
set_option maxRecDepth 20000 in
theorem gX2_advance_X1_find : GoodIn wsX2_advance (wsV RX2 82 RX1 yX1_find wsX1_find) := goodIn_app (goodIn_of _ (by decide +kernel)) ggX2_advance_X1_find
set_option maxRecDepth 20000 in
theorem ggX2_advance_X1_changesOf : GoodIn wsX2_advance wsX1_changesOf := goodIn_r _ [69, 7, 8, 9, 10, 78, 79, 80, 81, 82, 83, 84, 85, 86, 87, 88, 89, 90, 91, 92, 93, 94, 95] (by decide +kernel) (by decide +kernel)
set_option maxRecDepth 20000 in
theorem gX2_advance_X1_changesOf : GoodIn wsX2_advance (wsV RX2 116 RX1 yX1_changesOf wsX1_changesOf) := goodIn_app (goodIn_of _ (by decide +kernel)) ggX2_advance_X1_changesOf
set_option maxRecDepth 20000 in
theorem ggX2_advance_X1_putInto : GoodIn wsX2_advance wsX1_putInto := goodIn_r _ [73, 7, 8, 9, 10, 78, 79, 80, 81, 82, 83, 84, 85, 86, 87, 88, 89, 90, 91, 92, 93, 94, 95] (by decide +kernel) (by decide +kernel)
set_option maxRecDepth 20000 in
theorem gX2_advance_X1_putInto : GoodIn wsX2_advance (wsV RX2 145 RX1 yX1_putInto wsX1_putInto) := goodIn_app (goodIn_of _ (by decide +kernel)) ggX2_advance_X1_putInto
theorem dX2_advance_0 : decode cX2_advance 0 = .ok (.aload_n 0, 1) := by decide +kernel
theorem dX2_advance_1 : decode cX2_advance 1 = .ok (.getfield 26, 3) := by decide +kernel
theorem dX2_advance_4 : decode cX2_advance 4 = .ok (.aload_n 1, 1) := by decide +kernel
theorem dX2_advance_5 : decode cX2_advance 5 = .ok (.invokevirtual 82, 3) := by decide +kernel
theorem dX2_advance_8 : decode cX2_advance 8 = .ok (.aload_n 0, 1) := by decide +kernel
theorem dX2_advance_9 : decode cX2_advance 9 = .ok (.getfield 26, 3) := by decide +kernel
theorem dX2_advance_12 : decode cX2_advance 12 = .ok (.aload_n 1, 1) := by decide +kernel
theorem dX2_advance_13 : decode cX2_advance 13 = .ok (.invokevirtual 116, 3) := by decide +kernel
theorem dX2_advance_16 : decode cX2_advance 16 = .ok (.istore_n 2, 1) := by decide +kernel
theorem dX2_advance_17 : decode cX2_advance 17 = .ok (.aload_n 0, 1) := by decide +kernel
theorem dX2_advance_18 : decode cX2_advance 18 = .ok (.getfield 26, 3) := by decide +kernel
theorem dX2_advance_21 : decode cX2_advance 21 = .ok (.aload_n 1, 1) := by decide +kernel
theorem dX2_advance_22 : decode cX2_advance 22 = .ok (.invokevirtual 145, 3) := by decide +kernel
theorem dX2_advance_25 : decode cX2_advance 25 = .ok (.iload_n 2, 1) := by decide +kernel
theorem dX2_advance_26 : decode cX2_advance 26 = .ok (.ireturn, 1) := by decide +kernel
set_option maxRecDepth 20000 in
theorem ggX2_settleWithin_X1_find : GoodIn wsX2_settleWithin wsX1_find := goodIn_r _ [6, 7, 8, 9, 10, 11, 12, 13, 5, 14, 15, 16, 17, 18, 19, 20, 21, 22, 23, 24, 25, 26, 27, 28, 29, 30, 31, 32, 33, 34, 35, 36, 37, 38, 39, 40, 41, 42, 43, 44, 45, 46, 47, 48, 49, 50, 51, 52, 53, 54, 55, 56, 57, 58, 59, 60, 61, 62, 63, 64, 65, 78, 79, 80, 81, 82, 83, 84, 85, 86, 87, 88, 89, 90, 91, 92, 93, 94, 95] (by decide +kernel) (by decide +kernel)
set_option maxRecDepth 20000 in
theorem gX2_settleWithin_X1_find : GoodIn wsX2_settleWithin (wsV RX2 82 RX1 yX1_find wsX1_find) := goodIn_app (goodIn_of _ (by decide +kernel)) ggX2_settleWithin_X1_find
set_option maxRecDepth 20000 in
theorem ggX2_settleWithin_X1_changesOf : GoodIn wsX2_settleWithin wsX1_changesOf := goodIn_r _ [69, 7, 8, 9, 10, 78, 79, 80, 81, 82, 83, 84, 85, 86, 87, 88, 89, 90, 91, 92, 93, 94, 95] (by decide +kernel) (by decide +kernel)
set_option maxRecDepth 20000 in
theorem gX2_settleWithin_X1_changesOf : GoodIn wsX2_settleWithin (wsV RX2 116 RX1 yX1_changesOf wsX1_changesOf) := goodIn_app (goodIn_of _ (by decide +kernel)) ggX2_settleWithin_X1_changesOf
set_option maxRecDepth 20000 in
theorem ggX2_settleWithin_X1_putInto : GoodIn wsX2_settleWithin wsX1_putInto := goodIn_r _ [73, 7, 8, 9, 10, 78, 79, 80, 81, 82, 83, 84, 85, 86, 87, 88, 89, 90, 91, 92, 93, 94, 95] (by decide +kernel) (by decide +kernel)
set_option maxRecDepth 20000 in
theorem gX2_settleWithin_X1_putInto : GoodIn wsX2_settleWithin (wsV RX2 145 RX1 yX1_putInto wsX1_putInto) := goodIn_app (goodIn_of _ (by decide +kernel)) ggX2_settleWithin_X1_putInto
theorem dX2_settleWithin_0 : decode cX2_settleWithin 0 = .ok (.iconst 0, 1) := by decide +kernel
theorem dX2_settleWithin_1 : decode cX2_settleWithin 1 = .ok (.istore_n 3, 1) := by decide +kernel
theorem dX2_settleWithin_2 : decode cX2_settleWithin 2 = .ok (.iload_n 3, 1) := by decide +kernel
theorem dX2_settleWithin_3 : decode cX2_settleWithin 3 = .ok (.iload_n 2, 1) := by decide +kernel
theorem dX2_settleWithin_4 : decode cX2_settleWithin 4 = .ok (.if_icmp .gt 43, 3) := by decide +kernel
theorem dX2_settleWithin_7 : decode cX2_settleWithin 7 = .ok (.aload_n 0, 1) := by decide +kernel
theorem dX2_settleWithin_8 : decode cX2_settleWithin 8 = .ok (.getfield 26, 3) := by decide +kernel
theorem dX2_settleWithin_11 : decode cX2_settleWithin 11 = .ok (.aload_n 1, 1) := by decide +kernel
theorem dX2_settleWithin_12 : decode cX2_settleWithin 12 = .ok (.invokevirtual 82, 3) := by decide +kernel
theorem dX2_settleWithin_15 : decode cX2_settleWithin 15 = .ok (.aload_n 0, 1) := by decide +kernel
theorem dX2_settleWithin_16 : decode cX2_settleWithin 16 = .ok (.getfield 26, 3) := by decide +kernel
theorem dX2_settleWithin_19 : decode cX2_settleWithin 19 = .ok (.aload_n 1, 1) := by decide +kernel
theorem dX2_settleWithin_20 : decode cX2_settleWithin 20 = .ok (.invokevirtual 116, 3) := by decide +kernel
theorem dX2_settleWithin_23 : decode cX2_settleWithin 23 = .ok (.ifCond .ne 5, 3) := by decide +kernel
theorem dX2_settleWithin_26 : decode cX2_settleWithin 26 = .ok (.iload_n 3, 1) := by decide +kernel
theorem dX2_settleWithin_27 : decode cX2_settleWithin 27 = .ok (.ireturn, 1) := by decide +kernel
theorem dX2_settleWithin_28 : decode cX2_settleWithin 28 = .ok (.iload_n 3, 1) := by decide +kernel
theorem dX2_settleWithin_29 : decode cX2_settleWithin 29 = .ok (.iload_n 2, 1) := by decide +kernel
theorem dX2_settleWithin_30 : decode cX2_settleWithin 30 = .ok (.if_icmp .ge 11, 3) := by decide +kernel
theorem dX2_settleWithin_33 : decode cX2_settleWithin 33 = .ok (.aload_n 0, 1) := by decide +kernel
theorem dX2_settleWithin_34 : decode cX2_settleWithin 34 = .ok (.getfield 26, 3) := by decide +kernel
theorem dX2_settleWithin_37 : decode cX2_settleWithin 37 = .ok (.aload_n 1, 1) := by decide +kernel
theorem dX2_settleWithin_38 : decode cX2_settleWithin 38 = .ok (.invokevirtual 145, 3) := by decide +kernel
theorem dX2_settleWithin_41 : decode cX2_settleWithin 41 = .ok (.iinc 3 1, 3) := by decide +kernel
theorem dX2_settleWithin_44 : decode cX2_settleWithin 44 = .ok (.goto (-42), 3) := by decide +kernel
theorem dX2_settleWithin_47 : decode cX2_settleWithin 47 = .ok (.bipush (-7), 2) := by decide +kernel
theorem dX2_settleWithin_49 : decode cX2_settleWithin 49 = .ok (.ireturn, 1) := by decide +kernel
set_option maxRecDepth 20000 in
theorem ggX2_settledTrialValue_X2_settleWithin : GoodIn wsX2_settledTrialValue wsX2_settleWithin := goodIn_r _ [6, 7, 8, 9, 10, 11, 12, 13, 14, 15, 16, 17, 18, 19, 20, 21, 22, 23, 24, 25, 26, 27, 28, 29, 30, 31, 32, 33, 34, 35, 36, 37, 38, 39, 40, 41, 42, 43, 44, 45, 46, 47, 48, 49, 50, 51, 52, 53, 54, 55, 56, 57, 58, 59, 60, 61, 62, 63, 64, 65, 66, 67, 68, 69, 70, 71, 72, 73, 74, 75, 76, 77, 78, 79, 81, 82, 83, 84, 85, 86, 87, 88, 89, 90, 91, 92, 93, 94, 95, 96, 97, 98, 99, 100, 101, 102] (by decide +kernel) (by decide +kernel)
set_option maxRecDepth 20000 in
theorem gX2_settledTrialValue_X2_settleWithin : GoodIn wsX2_settledTrialValue (wsV RX2 112 RX2 yX2_settleWithin wsX2_settleWithin) := goodIn_app (goodIn_of _ (by decide +kernel)) ggX2_settledTrialValue_X2_settleWithin
set_option maxRecDepth 20000 in
theorem ggX2_settledTrialValue_X0_valueOf : GoodIn wsX2_settledTrialValue wsX0_valueOf := goodIn_r _ [36, 37, 38, 90, 91, 92, 93, 94, 95, 96, 97, 98, 99, 100, 101, 102] (by decide +kernel) (by decide +kernel)
set_option maxRecDepth 20000 in
theorem gX2_settledTrialValue_X0_valueOf : GoodIn wsX2_settledTrialValue (wsV RX2 67 RX0 yX0_valueOf wsX0_valueOf) := goodIn_app (goodIn_of _ (by decide +kernel)) ggX2_settledTrialValue_X0_valueOf
theorem dX2_settledTrialValue_0 : decode cX2_settledTrialValue 0 = .ok (.aload_n 0, 1) := by decide +kernel
theorem dX2_settledTrialValue_1 : decode cX2_settledTrialValue 1 = .ok (.aload_n 0, 1) := by decide +kernel
theorem dX2_settledTrialValue_2 : decode cX2_settledTrialValue 2 = .ok (.getfield 16, 3) := by decide +kernel
theorem dX2_settledTrialValue_5 : decode cX2_settledTrialValue 5 = .ok (.iload_n 2, 1) := by decide +kernel
theorem dX2_settledTrialValue_6 : decode cX2_settledTrialValue 6 = .ok (.invokevirtual 112, 3) := by decide +kernel
theorem dX2_settledTrialValue_9 : decode cX2_settledTrialValue 9 = .ok (.bipush (-7), 2) := by decide +kernel
theorem dX2_settledTrialValue_11 : decode cX2_settledTrialValue 11 = .ok (.if_icmp .ne 5, 3) := by decide +kernel
theorem dX2_settledTrialValue_14 : decode cX2_settledTrialValue 14 = .ok (.iconst 2, 1) := by decide +kernel
theorem dX2_settledTrialValue_15 : decode cX2_settledTrialValue 15 = .ok (.ireturn, 1) := by decide +kernel
theorem dX2_settledTrialValue_16 : decode cX2_settledTrialValue 16 = .ok (.aload_n 0, 1) := by decide +kernel
theorem dX2_settledTrialValue_17 : decode cX2_settledTrialValue 17 = .ok (.getfield 16, 3) := by decide +kernel
theorem dX2_settledTrialValue_20 : decode cX2_settledTrialValue 20 = .ok (.iload_n 1, 1) := by decide +kernel
theorem dX2_settledTrialValue_21 : decode cX2_settledTrialValue 21 = .ok (.invokevirtual 67, 3) := by decide +kernel
theorem dX2_settledTrialValue_24 : decode cX2_settledTrialValue 24 = .ok (.ireturn, 1) := by decide +kernel
theorem dX2_areOpposite_0 : decode cX2_areOpposite 0 = .ok (.iload_n 0, 1) := by decide +kernel
theorem dX2_areOpposite_1 : decode cX2_areOpposite 1 = .ok (.iconst 2, 1) := by decide +kernel
theorem dX2_areOpposite_2 : decode cX2_areOpposite 2 = .ok (.if_icmp .eq 17, 3) := by decide +kernel
theorem dX2_areOpposite_5 : decode cX2_areOpposite 5 = .ok (.iload_n 1, 1) := by decide +kernel
theorem dX2_areOpposite_6 : decode cX2_areOpposite 6 = .ok (.iconst 2, 1) := by decide +kernel
theorem dX2_areOpposite_7 : decode cX2_areOpposite 7 = .ok (.if_icmp .eq 12, 3) := by decide +kernel
theorem dX2_areOpposite_10 : decode cX2_areOpposite 10 = .ok (.iload_n 0, 1) := by decide +kernel
theorem dX2_areOpposite_11 : decode cX2_areOpposite 11 = .ok (.iload_n 1, 1) := by decide +kernel
theorem dX2_areOpposite_12 : decode cX2_areOpposite 12 = .ok (.if_icmp .eq 7, 3) := by decide +kernel
theorem dX2_areOpposite_15 : decode cX2_areOpposite 15 = .ok (.iconst 1, 1) := by decide +kernel
theorem dX2_areOpposite_16 : decode cX2_areOpposite 16 = .ok (.goto 4, 3) := by decide +kernel
theorem dX2_areOpposite_19 : decode cX2_areOpposite 19 = .ok (.iconst 0, 1) := by decide +kernel
theorem dX2_areOpposite_20 : decode cX2_areOpposite 20 = .ok (.ireturn, 1) := by decide +kernel
set_option maxRecDepth 20000 in
theorem ggX2_isValue_X2_isWithin : GoodIn wsX2_isValue wsX2_isWithin := goodIn_r _ [4] (by decide +kernel) (by decide +kernel)
set_option maxRecDepth 20000 in
theorem gX2_isValue_X2_isWithin : GoodIn wsX2_isValue (va_wsS RX2 38 yX2_isWithin wsX2_isWithin) := goodIn_app (goodIn_of _ (by decide +kernel)) ggX2_isValue_X2_isWithin
theorem dX2_isValue_0 : decode cX2_isValue 0 = .ok (.iload_n 0, 1) := by decide +kernel
theorem dX2_isValue_1 : decode cX2_isValue 1 = .ok (.iconst 0, 1) := by decide +kernel
theorem dX2_isValue_2 : decode cX2_isValue 2 = .ok (.iconst 2, 1) := by decide +kernel
theorem dX2_isValue_3 : decode cX2_isValue 3 = .ok (.invokestatic 38, 3) := by decide +kernel
theorem dX2_isValue_6 : decode cX2_isValue 6 = .ok (.ireturn, 1) := by decide +kernel
set_option maxRecDepth 20000 in
theorem ggX2_isLimit_X2_isWithin : GoodIn wsX2_isLimit wsX2_isWithin := goodIn_r _ [4] (by decide +kernel) (by decide +kernel)
set_option maxRecDepth 20000 in
theorem gX2_isLimit_X2_isWithin : GoodIn wsX2_isLimit (va_wsS RX2 38 yX2_isWithin wsX2_isWithin) := goodIn_app (goodIn_of _ (by decide +kernel)) ggX2_isLimit_X2_isWithin
theorem dX2_isLimit_0 : decode cX2_isLimit 0 = .ok (.iload_n 0, 1) := by decide +kernel
theorem dX2_isLimit_1 : decode cX2_isLimit 1 = .ok (.iconst 1, 1) := by decide +kernel
theorem dX2_isLimit_2 : decode cX2_isLimit 2 = .ok (.bipush 100, 2) := by decide +kernel
theorem dX2_isLimit_4 : decode cX2_isLimit 4 = .ok (.invokestatic 38, 3) := by decide +kernel
theorem dX2_isLimit_7 : decode cX2_isLimit 7 = .ok (.ireturn, 1) := by decide +kernel
theorem dX2_isWithin_0 : decode cX2_isWithin 0 = .ok (.iload_n 0, 1) := by decide +kernel
theorem dX2_isWithin_1 : decode cX2_isWithin 1 = .ok (.iload_n 1, 1) := by decide +kernel
theorem dX2_isWithin_2 : decode cX2_isWithin 2 = .ok (.if_icmp .lt 12, 3) := by decide +kernel
theorem dX2_isWithin_5 : decode cX2_isWithin 5 = .ok (.iload_n 0, 1) := by decide +kernel
theorem dX2_isWithin_6 : decode cX2_isWithin 6 = .ok (.iload_n 2, 1) := by decide +kernel
theorem dX2_isWithin_7 : decode cX2_isWithin 7 = .ok (.if_icmp .gt 7, 3) := by decide +kernel
theorem dX2_isWithin_10 : decode cX2_isWithin 10 = .ok (.iconst 1, 1) := by decide +kernel
theorem dX2_isWithin_11 : decode cX2_isWithin 11 = .ok (.goto 4, 3) := by decide +kernel
theorem dX2_isWithin_14 : decode cX2_isWithin 14 = .ok (.iconst 0, 1) := by decide +kernel
theorem dX2_isWithin_15 : decode cX2_isWithin 15 = .ok (.ireturn, 1) := by decide +kernel
end
section
theorem dX3_init_0 : decode cX3_init 0 = .ok (.aload_n 0, 1) := by decide +kernel
theorem dX3_init_1 : decode cX3_init 1 = .ok (.invokespecial 1, 3) := by decide +kernel
theorem dX3_init_4 : decode cX3_init 4 = .ok (.aload_n 0, 1) := by decide +kernel
theorem dX3_init_5 : decode cX3_init 5 = .ok (.sipush 290, 3) := by decide +kernel
theorem dX3_init_8 : decode cX3_init 8 = .ok (.newarray .int, 2) := by decide +kernel
theorem dX3_init_10 : decode cX3_init 10 = .ok (.putfield 7, 3) := by decide +kernel
theorem dX3_init_13 : decode cX3_init 13 = .ok (.aload_n 0, 1) := by decide +kernel
theorem dX3_init_14 : decode cX3_init 14 = .ok (.sipush 580, 3) := by decide +kernel
theorem dX3_init_17 : decode cX3_init 17 = .ok (.newarray .int, 2) := by decide +kernel
theorem dX3_init_19 : decode cX3_init 19 = .ok (.putfield 13, 3) := by decide +kernel
theorem dX3_init_22 : decode cX3_init 22 = .ok (.aload_n 0, 1) := by decide +kernel
theorem dX3_init_23 : decode cX3_init 23 = .ok (.iconst 2, 1) := by decide +kernel
theorem dX3_init_24 : decode cX3_init 24 = .ok (.newarray .boolean, 2) := by decide +kernel
theorem dX3_init_26 : decode cX3_init 26 = .ok (.putfield 16, 3) := by decide +kernel
theorem dX3_init_29 : decode cX3_init 29 = .ok (.aload_n 0, 1) := by decide +kernel
theorem dX3_init_30 : decode cX3_init 30 = .ok (.bipush 24, 2) := by decide +kernel
theorem dX3_init_32 : decode cX3_init 32 = .ok (.newarray .int, 2) := by decide +kernel
theorem dX3_init_34 : decode cX3_init 34 = .ok (.putfield 20, 3) := by decide +kernel
theorem dX3_init_37 : decode cX3_init 37 = .ok (.aload_n 0, 1) := by decide +kernel
theorem dX3_init_38 : decode cX3_init 38 = .ok (.bipush 24, 2) := by decide +kernel
theorem dX3_init_40 : decode cX3_init 40 = .ok (.newarray .int, 2) := by decide +kernel
theorem dX3_init_42 : decode cX3_init 42 = .ok (.putfield 23, 3) := by decide +kernel
theorem dX3_init_45 : decode cX3_init 45 = .ok (.aload_n 0, 1) := by decide +kernel
theorem dX3_init_46 : decode cX3_init 46 = .ok (.bipush 24, 2) := by decide +kernel
theorem dX3_init_48 : decode cX3_init 48 = .ok (.newarray .int, 2) := by decide +kernel
theorem dX3_init_50 : decode cX3_init 50 = .ok (.putfield 26, 3) := by decide +kernel
theorem dX3_init_53 : decode cX3_init 53 = .ok (.aload_n 0, 1) := by decide +kernel
theorem dX3_init_54 : decode cX3_init 54 = .ok (.bipush 40, 2) := by decide +kernel
theorem dX3_init_56 : decode cX3_init 56 = .ok (.newarray .int, 2) := by decide +kernel
theorem dX3_init_58 : decode cX3_init 58 = .ok (.putfield 29, 3) := by decide +kernel
theorem dX3_init_61 : decode cX3_init 61 = .ok (.aload_n 0, 1) := by decide +kernel
theorem dX3_init_62 : decode cX3_init 62 = .ok (.sipush 290, 3) := by decide +kernel
theorem dX3_init_65 : decode cX3_init 65 = .ok (.newarray .int, 2) := by decide +kernel
theorem dX3_init_67 : decode cX3_init 67 = .ok (.putfield 32, 3) := by decide +kernel
theorem dX3_init_70 : decode cX3_init 70 = .ok (.return_, 1) := by decide +kernel
theorem dX3_in_0 : decode cX3_in 0 = .ok (.iload_n 0, 1) := by decide +kernel
theorem dX3_in_1 : decode cX3_in 1 = .ok (.iload_n 1, 1) := by decide +kernel
theorem dX3_in_2 : decode cX3_in 2 = .ok (.if_icmp .lt 12, 3) := by decide +kernel
theorem dX3_in_5 : decode cX3_in 5 = .ok (.iload_n 0, 1) := by decide +kernel
theorem dX3_in_6 : decode cX3_in 6 = .ok (.iload_n 2, 1) := by decide +kernel
theorem dX3_in_7 : decode cX3_in 7 = .ok (.if_icmp .gt 7, 3) := by decide +kernel
theorem dX3_in_10 : decode cX3_in 10 = .ok (.iconst 1, 1) := by decide +kernel
theorem dX3_in_11 : decode cX3_in 11 = .ok (.goto 4, 3) := by decide +kernel
theorem dX3_in_14 : decode cX3_in 14 = .ok (.iconst 0, 1) := by decide +kernel
theorem dX3_in_15 : decode cX3_in 15 = .ok (.ireturn, 1) := by decide +kernel
theorem dX3_nodes_0 : decode cX3_nodes 0 = .ok (.aload_n 0, 1) := by decide +kernel
theorem dX3_nodes_1 : decode cX3_nodes 1 = .ok (.getfield 7, 3) := by decide +kernel
theorem dX3_nodes_4 : decode cX3_nodes 4 = .ok (.iconst 0, 1) := by decide +kernel
theorem dX3_nodes_5 : decode cX3_nodes 5 = .ok (.iaload, 1) := by decide +kernel
theorem dX3_nodes_6 : decode cX3_nodes 6 = .ok (.ireturn, 1) := by decide +kernel
theorem dX3_many_0 : decode cX3_many 0 = .ok (.aload_n 0, 1) := by decide +kernel
theorem dX3_many_1 : decode cX3_many 1 = .ok (.getfield 7, 3) := by decide +kernel
theorem dX3_many_4 : decode cX3_many 4 = .ok (.iconst 1, 1) := by decide +kernel
theorem dX3_many_5 : decode cX3_many 5 = .ok (.iaload, 1) := by decide +kernel
theorem dX3_many_6 : decode cX3_many 6 = .ok (.ireturn, 1) := by decide +kernel
set_option maxRecDepth 20000 in
theorem ggX3_isNode_X3_nodes : GoodIn wsX3_isNode wsX3_nodes := goodIn_r _ [5, 6, 10, 11, 12, 13, 14, 15, 16, 17] (by decide +kernel) (by decide +kernel)
set_option maxRecDepth 20000 in
theorem gX3_isNode_X3_nodes : GoodIn wsX3_isNode (wsV RX3 35 RX3 yX3_nodes wsX3_nodes) := goodIn_app (goodIn_of _ (by decide +kernel)) ggX3_isNode_X3_nodes
set_option maxRecDepth 20000 in
theorem ggX3_isNode_X3_in : GoodIn wsX3_isNode wsX3_in := goodIn_r _ [9] (by decide +kernel) (by decide +kernel)
set_option maxRecDepth 20000 in
theorem gX3_isNode_X3_in : GoodIn wsX3_isNode (va_wsS RX3 39 yX3_in wsX3_in) := goodIn_app (goodIn_of _ (by decide +kernel)) ggX3_isNode_X3_in
theorem dX3_isNode_0 : decode cX3_isNode 0 = .ok (.iload_n 1, 1) := by decide +kernel
theorem dX3_isNode_1 : decode cX3_isNode 1 = .ok (.iconst 0, 1) := by decide +kernel
theorem dX3_isNode_2 : decode cX3_isNode 2 = .ok (.aload_n 0, 1) := by decide +kernel
theorem dX3_isNode_3 : decode cX3_isNode 3 = .ok (.invokevirtual 35, 3) := by decide +kernel
theorem dX3_isNode_6 : decode cX3_isNode 6 = .ok (.iconst 1, 1) := by decide +kernel
theorem dX3_isNode_7 : decode cX3_isNode 7 = .ok (.isub, 1) := by decide +kernel
theorem dX3_isNode_8 : decode cX3_isNode 8 = .ok (.invokestatic 39, 3) := by decide +kernel
theorem dX3_isNode_11 : decode cX3_isNode 11 = .ok (.ireturn, 1) := by decide +kernel
set_option maxRecDepth 20000 in
theorem ggX3_isTransistor_X3_many : GoodIn wsX3_isTransistor wsX3_many := goodIn_r _ [5, 6, 10, 11, 12, 13, 14, 15, 16, 17] (by decide +kernel) (by decide +kernel)
set_option maxRecDepth 20000 in
theorem gX3_isTransistor_X3_many : GoodIn wsX3_isTransistor (wsV RX3 43 RX3 yX3_many wsX3_many) := goodIn_app (goodIn_of _ (by decide +kernel)) ggX3_isTransistor_X3_many
set_option maxRecDepth 20000 in
theorem ggX3_isTransistor_X3_in : GoodIn wsX3_isTransistor wsX3_in := goodIn_r _ [9] (by decide +kernel) (by decide +kernel)
set_option maxRecDepth 20000 in
theorem gX3_isTransistor_X3_in : GoodIn wsX3_isTransistor (va_wsS RX3 39 yX3_in wsX3_in) := goodIn_app (goodIn_of _ (by decide +kernel)) ggX3_isTransistor_X3_in
theorem dX3_isTransistor_0 : decode cX3_isTransistor 0 = .ok (.iload_n 1, 1) := by decide +kernel
theorem dX3_isTransistor_1 : decode cX3_isTransistor 1 = .ok (.iconst 0, 1) := by decide +kernel
theorem dX3_isTransistor_2 : decode cX3_isTransistor 2 = .ok (.aload_n 0, 1) := by decide +kernel
theorem dX3_isTransistor_3 : decode cX3_isTransistor 3 = .ok (.invokevirtual 43, 3) := by decide +kernel
theorem dX3_isTransistor_6 : decode cX3_isTransistor 6 = .ok (.iconst 1, 1) := by decide +kernel
theorem dX3_isTransistor_7 : decode cX3_isTransistor 7 = .ok (.isub, 1) := by decide +kernel
theorem dX3_isTransistor_8 : decode cX3_isTransistor 8 = .ok (.invokestatic 39, 3) := by decide +kernel
theorem dX3_isTransistor_11 : decode cX3_isTransistor 11 = .ok (.ireturn, 1) := by decide +kernel
theorem dX3_isInput_0 : decode cX3_isInput 0 = .ok (.aload_n 0, 1) := by decide +kernel
theorem dX3_isInput_1 : decode cX3_isInput 1 = .ok (.getfield 7, 3) := by decide +kernel
theorem dX3_isInput_4 : decode cX3_isInput 4 = .ok (.iconst 2, 1) := by decide +kernel
theorem dX3_isInput_5 : decode cX3_isInput 5 = .ok (.iload_n 1, 1) := by decide +kernel
theorem dX3_isInput_6 : decode cX3_isInput 6 = .ok (.iadd, 1) := by decide +kernel
theorem dX3_isInput_7 : decode cX3_isInput 7 = .ok (.iaload, 1) := by decide +kernel
theorem dX3_isInput_8 : decode cX3_isInput 8 = .ok (.ifCond .ne 7, 3) := by decide +kernel
theorem dX3_isInput_11 : decode cX3_isInput 11 = .ok (.iconst 1, 1) := by decide +kernel
theorem dX3_isInput_12 : decode cX3_isInput 12 = .ok (.goto 4, 3) := by decide +kernel
theorem dX3_isInput_15 : decode cX3_isInput 15 = .ok (.iconst 0, 1) := by decide +kernel
theorem dX3_isInput_16 : decode cX3_isInput 16 = .ok (.ireturn, 1) := by decide +kernel
theorem dX3_set_0 : decode cX3_set 0 = .ok (.aload_n 0, 1) := by decide +kernel
theorem dX3_set_1 : decode cX3_set 1 = .ok (.getfield 7, 3) := by decide +kernel
theorem dX3_set_4 : decode cX3_set 4 = .ok (.iload_n 1, 1) := by decide +kernel
theorem dX3_set_5 : decode cX3_set 5 = .ok (.iaload, 1) := by decide +kernel
theorem dX3_set_6 : decode cX3_set 6 = .ok (.istore_n 3, 1) := by decide +kernel
theorem dX3_set_7 : decode cX3_set 7 = .ok (.aload_n 0, 1) := by decide +kernel
theorem dX3_set_8 : decode cX3_set 8 = .ok (.getfield 7, 3) := by decide +kernel
theorem dX3_set_11 : decode cX3_set 11 = .ok (.iload_n 1, 1) := by decide +kernel
theorem dX3_set_12 : decode cX3_set 12 = .ok (.iload_n 2, 1) := by decide +kernel
theorem dX3_set_13 : decode cX3_set 13 = .ok (.iastore, 1) := by decide +kernel
theorem dX3_set_14 : decode cX3_set 14 = .ok (.iload_n 3, 1) := by decide +kernel
theorem dX3_set_15 : decode cX3_set 15 = .ok (.ireturn, 1) := by decide +kernel
set_option maxRecDepth 20000 in
theorem ggX3_addNode_X3_nodes : GoodIn wsX3_addNode wsX3_nodes := goodIn_r _ [6, 1, 7, 8, 9, 10, 11, 12, 13, 14] (by decide +kernel) (by decide +kernel)
set_option maxRecDepth 20000 in
theorem gX3_addNode_X3_nodes : GoodIn wsX3_addNode (wsV RX3 35 RX3 yX3_nodes wsX3_nodes) := goodIn_app (goodIn_of _ (by decide +kernel)) ggX3_addNode_X3_nodes
theorem dX3_addNode_0 : decode cX3_addNode 0 = .ok (.aload_n 0, 1) := by decide +kernel
theorem dX3_addNode_1 : decode cX3_addNode 1 = .ok (.invokevirtual 35, 3) := by decide +kernel
theorem dX3_addNode_4 : decode cX3_addNode 4 = .ok (.istore_n 2, 1) := by decide +kernel
theorem dX3_addNode_5 : decode cX3_addNode 5 = .ok (.aload_n 0, 1) := by decide +kernel
theorem dX3_addNode_6 : decode cX3_addNode 6 = .ok (.getfield 7, 3) := by decide +kernel
theorem dX3_addNode_9 : decode cX3_addNode 9 = .ok (.iconst 2, 1) := by decide +kernel
theorem dX3_addNode_10 : decode cX3_addNode 10 = .ok (.iload_n 2, 1) := by decide +kernel
theorem dX3_addNode_11 : decode cX3_addNode 11 = .ok (.iadd, 1) := by decide +kernel
theorem dX3_addNode_12 : decode cX3_addNode 12 = .ok (.iload_n 1, 1) := by decide +kernel
theorem dX3_addNode_13 : decode cX3_addNode 13 = .ok (.iastore, 1) := by decide +kernel
theorem dX3_addNode_14 : decode cX3_addNode 14 = .ok (.aload_n 0, 1) := by decide +kernel
theorem dX3_addNode_15 : decode cX3_addNode 15 = .ok (.getfield 7, 3) := by decide +kernel
theorem dX3_addNode_18 : decode cX3_addNode 18 = .ok (.bipush 26, 2) := by decide +kernel
theorem dX3_addNode_20 : decode cX3_addNode 20 = .ok (.iload_n 2, 1) := by decide +kernel
theorem dX3_addNode_21 : decode cX3_addNode 21 = .ok (.iadd, 1) := by decide +kernel
theorem dX3_addNode_22 : decode cX3_addNode 22 = .ok (.iconst 2, 1) := by decide +kernel
theorem dX3_addNode_23 : decode cX3_addNode 23 = .ok (.iastore, 1) := by decide +kernel
theorem dX3_addNode_24 : decode cX3_addNode 24 = .ok (.aload_n 0, 1) := by decide +kernel
theorem dX3_addNode_25 : decode cX3_addNode 25 = .ok (.getfield 7, 3) := by decide +kernel
theorem dX3_addNode_28 : decode cX3_addNode 28 = .ok (.iconst 0, 1) := by decide +kernel
theorem dX3_addNode_29 : decode cX3_addNode 29 = .ok (.dup2, 1) := by decide +kernel
theorem dX3_addNode_30 : decode cX3_addNode 30 = .ok (.iaload, 1) := by decide +kernel
theorem dX3_addNode_31 : decode cX3_addNode 31 = .ok (.iconst 1, 1) := by decide +kernel
theorem dX3_addNode_32 : decode cX3_addNode 32 = .ok (.iadd, 1) := by decide +kernel
theorem dX3_addNode_33 : decode cX3_addNode 33 = .ok (.iastore, 1) := by decide +kernel
theorem dX3_addNode_34 : decode cX3_addNode 34 = .ok (.iload_n 2, 1) := by decide +kernel
theorem dX3_addNode_35 : decode cX3_addNode 35 = .ok (.ireturn, 1) := by decide +kernel
set_option maxRecDepth 20000 in
theorem ggX3_addInput_X3_nodes : GoodIn wsX3_addInput wsX3_nodes := goodIn_r _ [5, 6, 11, 12, 13, 14, 15, 16, 17, 18] (by decide +kernel) (by decide +kernel)
set_option maxRecDepth 20000 in
theorem gX3_addInput_X3_nodes : GoodIn wsX3_addInput (wsV RX3 35 RX3 yX3_nodes wsX3_nodes) := goodIn_app (goodIn_of _ (by decide +kernel)) ggX3_addInput_X3_nodes
set_option maxRecDepth 20000 in
theorem ggX3_addInput_X3_addNode : GoodIn wsX3_addInput wsX3_addNode := goodIn_r _ [10, 6, 1, 2, 3, 4, 5, 11, 12, 13, 14, 15, 16, 17, 18] (by decide +kernel) (by decide +kernel)
set_option maxRecDepth 20000 in
theorem gX3_addInput_X3_addNode : GoodIn wsX3_addInput (wsV RX3 46 RX3 yX3_addNode wsX3_addNode) := goodIn_app (goodIn_of _ (by decide +kernel)) ggX3_addInput_X3_addNode
theorem dX3_addInput_0 : decode cX3_addInput 0 = .ok (.aload_n 0, 1) := by decide +kernel
theorem dX3_addInput_1 : decode cX3_addInput 1 = .ok (.invokevirtual 35, 3) := by decide +kernel
theorem dX3_addInput_4 : decode cX3_addInput 4 = .ok (.bipush 24, 2) := by decide +kernel
theorem dX3_addInput_6 : decode cX3_addInput 6 = .ok (.if_icmp .ne 8, 3) := by decide +kernel
theorem dX3_addInput_9 : decode cX3_addInput 9 = .ok (.bipush (-6), 2) := by decide +kernel
theorem dX3_addInput_11 : decode cX3_addInput 11 = .ok (.goto 8, 3) := by decide +kernel
theorem dX3_addInput_14 : decode cX3_addInput 14 = .ok (.aload_n 0, 1) := by decide +kernel
theorem dX3_addInput_15 : decode cX3_addInput 15 = .ok (.iconst 0, 1) := by decide +kernel
theorem dX3_addInput_16 : decode cX3_addInput 16 = .ok (.invokevirtual 46, 3) := by decide +kernel
theorem dX3_addInput_19 : decode cX3_addInput 19 = .ok (.ireturn, 1) := by decide +kernel
set_option maxRecDepth 20000 in
theorem ggX3_addStorage_X3_in : GoodIn wsX3_addStorage wsX3_in := goodIn_r _ [4] (by decide +kernel) (by decide +kernel)
set_option maxRecDepth 20000 in
theorem gX3_addStorage_X3_in : GoodIn wsX3_addStorage (va_wsS RX3 39 yX3_in wsX3_in) := goodIn_app (goodIn_of _ (by decide +kernel)) ggX3_addStorage_X3_in
set_option maxRecDepth 20000 in
theorem ggX3_addStorage_X3_nodes : GoodIn wsX3_addStorage wsX3_nodes := goodIn_r _ [8, 9, 14, 15, 16, 17, 18, 19, 20, 21] (by decide +kernel) (by decide +kernel)
set_option maxRecDepth 20000 in
theorem gX3_addStorage_X3_nodes : GoodIn wsX3_addStorage (wsV RX3 35 RX3 yX3_nodes wsX3_nodes) := goodIn_app (goodIn_of _ (by decide +kernel)) ggX3_addStorage_X3_nodes
set_option maxRecDepth 20000 in
theorem ggX3_addStorage_X3_addNode : GoodIn wsX3_addStorage wsX3_addNode := goodIn_r _ [13, 9, 5, 6, 7, 3, 8, 14, 15, 16, 17, 18, 19, 20, 21] (by decide +kernel) (by decide +kernel)
set_option maxRecDepth 20000 in
theorem gX3_addStorage_X3_addNode : GoodIn wsX3_addStorage (wsV RX3 46 RX3 yX3_addNode wsX3_addNode) := goodIn_app (goodIn_of _ (by decide +kernel)) ggX3_addStorage_X3_addNode
theorem dX3_addStorage_0 : decode cX3_addStorage 0 = .ok (.iload_n 1, 1) := by decide +kernel
theorem dX3_addStorage_1 : decode cX3_addStorage 1 = .ok (.iconst 1, 1) := by decide +kernel
theorem dX3_addStorage_2 : decode cX3_addStorage 2 = .ok (.iconst 3, 1) := by decide +kernel
theorem dX3_addStorage_3 : decode cX3_addStorage 3 = .ok (.invokestatic 39, 3) := by decide +kernel
theorem dX3_addStorage_6 : decode cX3_addStorage 6 = .ok (.ifCond .ne 6, 3) := by decide +kernel
theorem dX3_addStorage_9 : decode cX3_addStorage 9 = .ok (.bipush (-3), 2) := by decide +kernel
theorem dX3_addStorage_11 : decode cX3_addStorage 11 = .ok (.ireturn, 1) := by decide +kernel
theorem dX3_addStorage_12 : decode cX3_addStorage 12 = .ok (.aload_n 0, 1) := by decide +kernel
theorem dX3_addStorage_13 : decode cX3_addStorage 13 = .ok (.invokevirtual 35, 3) := by decide +kernel
theorem dX3_addStorage_16 : decode cX3_addStorage 16 = .ok (.bipush 24, 2) := by decide +kernel
theorem dX3_addStorage_18 : decode cX3_addStorage 18 = .ok (.if_icmp .ne 8, 3) := by decide +kernel
theorem dX3_addStorage_21 : decode cX3_addStorage 21 = .ok (.bipush (-6), 2) := by decide +kernel
theorem dX3_addStorage_23 : decode cX3_addStorage 23 = .ok (.goto 8, 3) := by decide +kernel
theorem dX3_addStorage_26 : decode cX3_addStorage 26 = .ok (.aload_n 0, 1) := by decide +kernel
theorem dX3_addStorage_27 : decode cX3_addStorage 27 = .ok (.iload_n 1, 1) := by decide +kernel
theorem dX3_addStorage_28 : decode cX3_addStorage 28 = .ok (.invokevirtual 46, 3) := by decide +kernel
theorem dX3_addStorage_31 : decode cX3_addStorage 31 = .ok (.ireturn, 1) := by decide +kernel
set_option maxRecDepth 20000 in
theorem ggX3_addTransistor_X3_isNode : GoodIn wsX3_addTransistor wsX3_isNode := goodIn_r _ [6, 7, 8, 9, 5, 10, 1, 11, 12, 13, 18, 19, 20, 21, 22, 23, 24, 25] (by decide +kernel) (by decide +kernel)
set_option maxRecDepth 20000 in
theorem gX3_addTransistor_X3_isNode : GoodIn wsX3_addTransistor (wsV RX3 50 RX3 yX3_isNode wsX3_isNode) := goodIn_app (goodIn_of _ (by decide +kernel)) ggX3_addTransistor_X3_isNode
set_option maxRecDepth 20000 in
theorem ggX3_addTransistor_X3_in : GoodIn wsX3_addTransistor wsX3_in := goodIn_r _ [13] (by decide +kernel) (by decide +kernel)
set_option maxRecDepth 20000 in
theorem gX3_addTransistor_X3_in : GoodIn wsX3_addTransistor (va_wsS RX3 39 yX3_in wsX3_in) := goodIn_app (goodIn_of _ (by decide +kernel)) ggX3_addTransistor_X3_in
set_option maxRecDepth 20000 in
theorem ggX3_addTransistor_X3_many : GoodIn wsX3_addTransistor wsX3_many := goodIn_r _ [17, 1, 18, 19, 20, 21, 22, 23, 24, 25] (by decide +kernel) (by decide +kernel)
set_option maxRecDepth 20000 in
theorem gX3_addTransistor_X3_many : GoodIn wsX3_addTransistor (wsV RX3 43 RX3 yX3_many wsX3_many) := goodIn_app (goodIn_of _ (by decide +kernel)) ggX3_addTransistor_X3_many
theorem dX3_addTransistor_0 : decode cX3_addTransistor 0 = .ok (.aload_n 0, 1) := by decide +kernel
theorem dX3_addTransistor_1 : decode cX3_addTransistor 1 = .ok (.iload_n 3, 1) := by decide +kernel
theorem dX3_addTransistor_2 : decode cX3_addTransistor 2 = .ok (.invokevirtual 50, 3) := by decide +kernel
theorem dX3_addTransistor_5 : decode cX3_addTransistor 5 = .ok (.ifCond .eq 21, 3) := by decide +kernel
theorem dX3_addTransistor_8 : decode cX3_addTransistor 8 = .ok (.aload_n 0, 1) := by decide +kernel
theorem dX3_addTransistor_9 : decode cX3_addTransistor 9 = .ok (.iload 4, 2) := by decide +kernel
theorem dX3_addTransistor_11 : decode cX3_addTransistor 11 = .ok (.invokevirtual 50, 3) := by decide +kernel
theorem dX3_addTransistor_14 : decode cX3_addTransistor 14 = .ok (.ifCond .eq 12, 3) := by decide +kernel
theorem dX3_addTransistor_17 : decode cX3_addTransistor 17 = .ok (.aload_n 0, 1) := by decide +kernel
theorem dX3_addTransistor_18 : decode cX3_addTransistor 18 = .ok (.iload 5, 2) := by decide +kernel
theorem dX3_addTransistor_20 : decode cX3_addTransistor 20 = .ok (.invokevirtual 50, 3) := by decide +kernel
theorem dX3_addTransistor_23 : decode cX3_addTransistor 23 = .ok (.ifCond .ne 5, 3) := by decide +kernel
theorem dX3_addTransistor_26 : decode cX3_addTransistor 26 = .ok (.iconst (-1), 1) := by decide +kernel
theorem dX3_addTransistor_27 : decode cX3_addTransistor 27 = .ok (.ireturn, 1) := by decide +kernel
theorem dX3_addTransistor_28 : decode cX3_addTransistor 28 = .ok (.iload 4, 2) := by decide +kernel
theorem dX3_addTransistor_30 : decode cX3_addTransistor 30 = .ok (.iload 5, 2) := by decide +kernel
theorem dX3_addTransistor_32 : decode cX3_addTransistor 32 = .ok (.if_icmp .ne 6, 3) := by decide +kernel
theorem dX3_addTransistor_35 : decode cX3_addTransistor 35 = .ok (.bipush (-4), 2) := by decide +kernel
theorem dX3_addTransistor_37 : decode cX3_addTransistor 37 = .ok (.ireturn, 1) := by decide +kernel
theorem dX3_addTransistor_38 : decode cX3_addTransistor 38 = .ok (.iload_n 1, 1) := by decide +kernel
theorem dX3_addTransistor_39 : decode cX3_addTransistor 39 = .ok (.iconst 0, 1) := by decide +kernel
theorem dX3_addTransistor_40 : decode cX3_addTransistor 40 = .ok (.iconst 2, 1) := by decide +kernel
theorem dX3_addTransistor_41 : decode cX3_addTransistor 41 = .ok (.invokestatic 39, 3) := by decide +kernel
theorem dX3_addTransistor_44 : decode cX3_addTransistor 44 = .ok (.ifCond .eq 12, 3) := by decide +kernel
theorem dX3_addTransistor_47 : decode cX3_addTransistor 47 = .ok (.iload_n 2, 1) := by decide +kernel
theorem dX3_addTransistor_48 : decode cX3_addTransistor 48 = .ok (.iconst 1, 1) := by decide +kernel
theorem dX3_addTransistor_49 : decode cX3_addTransistor 49 = .ok (.iconst 3, 1) := by decide +kernel
theorem dX3_addTransistor_50 : decode cX3_addTransistor 50 = .ok (.invokestatic 39, 3) := by decide +kernel
theorem dX3_addTransistor_53 : decode cX3_addTransistor 53 = .ok (.ifCond .ne 6, 3) := by decide +kernel
theorem dX3_addTransistor_56 : decode cX3_addTransistor 56 = .ok (.bipush (-3), 2) := by decide +kernel
theorem dX3_addTransistor_58 : decode cX3_addTransistor 58 = .ok (.ireturn, 1) := by decide +kernel
theorem dX3_addTransistor_59 : decode cX3_addTransistor 59 = .ok (.aload_n 0, 1) := by decide +kernel
theorem dX3_addTransistor_60 : decode cX3_addTransistor 60 = .ok (.invokevirtual 43, 3) := by decide +kernel
theorem dX3_addTransistor_63 : decode cX3_addTransistor 63 = .ok (.bipush 40, 2) := by decide +kernel
theorem dX3_addTransistor_65 : decode cX3_addTransistor 65 = .ok (.if_icmp .ne 6, 3) := by decide +kernel
theorem dX3_addTransistor_68 : decode cX3_addTransistor 68 = .ok (.bipush (-6), 2) := by decide +kernel
theorem dX3_addTransistor_70 : decode cX3_addTransistor 70 = .ok (.ireturn, 1) := by decide +kernel
theorem dX3_addTransistor_71 : decode cX3_addTransistor 71 = .ok (.aload_n 0, 1) := by decide +kernel
theorem dX3_addTransistor_72 : decode cX3_addTransistor 72 = .ok (.invokevirtual 43, 3) := by decide +kernel
theorem dX3_addTransistor_75 : decode cX3_addTransistor 75 = .ok (.istore 6, 2) := by decide +kernel
theorem dX3_addTransistor_77 : decode cX3_addTransistor 77 = .ok (.aload_n 0, 1) := by decide +kernel
theorem dX3_addTransistor_78 : decode cX3_addTransistor 78 = .ok (.getfield 7, 3) := by decide +kernel
theorem dX3_addTransistor_81 : decode cX3_addTransistor 81 = .ok (.bipush 50, 2) := by decide +kernel
theorem dX3_addTransistor_83 : decode cX3_addTransistor 83 = .ok (.iload 6, 2) := by decide +kernel
theorem dX3_addTransistor_85 : decode cX3_addTransistor 85 = .ok (.iadd, 1) := by decide +kernel
theorem dX3_addTransistor_86 : decode cX3_addTransistor 86 = .ok (.iload_n 1, 1) := by decide +kernel
theorem dX3_addTransistor_87 : decode cX3_addTransistor 87 = .ok (.iastore, 1) := by decide +kernel
theorem dX3_addTransistor_88 : decode cX3_addTransistor 88 = .ok (.aload_n 0, 1) := by decide +kernel
theorem dX3_addTransistor_89 : decode cX3_addTransistor 89 = .ok (.getfield 7, 3) := by decide +kernel
theorem dX3_addTransistor_92 : decode cX3_addTransistor 92 = .ok (.bipush 90, 2) := by decide +kernel
theorem dX3_addTransistor_94 : decode cX3_addTransistor 94 = .ok (.iload 6, 2) := by decide +kernel
theorem dX3_addTransistor_96 : decode cX3_addTransistor 96 = .ok (.iadd, 1) := by decide +kernel
theorem dX3_addTransistor_97 : decode cX3_addTransistor 97 = .ok (.iload_n 2, 1) := by decide +kernel
theorem dX3_addTransistor_98 : decode cX3_addTransistor 98 = .ok (.iastore, 1) := by decide +kernel
theorem dX3_addTransistor_99 : decode cX3_addTransistor 99 = .ok (.aload_n 0, 1) := by decide +kernel
theorem dX3_addTransistor_100 : decode cX3_addTransistor 100 = .ok (.getfield 7, 3) := by decide +kernel
theorem dX3_addTransistor_103 : decode cX3_addTransistor 103 = .ok (.sipush 130, 3) := by decide +kernel
theorem dX3_addTransistor_106 : decode cX3_addTransistor 106 = .ok (.iload 6, 2) := by decide +kernel
theorem dX3_addTransistor_108 : decode cX3_addTransistor 108 = .ok (.iadd, 1) := by decide +kernel
theorem dX3_addTransistor_109 : decode cX3_addTransistor 109 = .ok (.iload_n 3, 1) := by decide +kernel
theorem dX3_addTransistor_110 : decode cX3_addTransistor 110 = .ok (.iastore, 1) := by decide +kernel
theorem dX3_addTransistor_111 : decode cX3_addTransistor 111 = .ok (.aload_n 0, 1) := by decide +kernel
theorem dX3_addTransistor_112 : decode cX3_addTransistor 112 = .ok (.getfield 7, 3) := by decide +kernel
theorem dX3_addTransistor_115 : decode cX3_addTransistor 115 = .ok (.sipush 170, 3) := by decide +kernel
theorem dX3_addTransistor_118 : decode cX3_addTransistor 118 = .ok (.iload 6, 2) := by decide +kernel
theorem dX3_addTransistor_120 : decode cX3_addTransistor 120 = .ok (.iadd, 1) := by decide +kernel
theorem dX3_addTransistor_121 : decode cX3_addTransistor 121 = .ok (.iload 4, 2) := by decide +kernel
theorem dX3_addTransistor_123 : decode cX3_addTransistor 123 = .ok (.iastore, 1) := by decide +kernel
theorem dX3_addTransistor_124 : decode cX3_addTransistor 124 = .ok (.aload_n 0, 1) := by decide +kernel
theorem dX3_addTransistor_125 : decode cX3_addTransistor 125 = .ok (.getfield 7, 3) := by decide +kernel
theorem dX3_addTransistor_128 : decode cX3_addTransistor 128 = .ok (.sipush 210, 3) := by decide +kernel
theorem dX3_addTransistor_131 : decode cX3_addTransistor 131 = .ok (.iload 6, 2) := by decide +kernel
theorem dX3_addTransistor_133 : decode cX3_addTransistor 133 = .ok (.iadd, 1) := by decide +kernel
theorem dX3_addTransistor_134 : decode cX3_addTransistor 134 = .ok (.iload 5, 2) := by decide +kernel
theorem dX3_addTransistor_136 : decode cX3_addTransistor 136 = .ok (.iastore, 1) := by decide +kernel
theorem dX3_addTransistor_137 : decode cX3_addTransistor 137 = .ok (.aload_n 0, 1) := by decide +kernel
theorem dX3_addTransistor_138 : decode cX3_addTransistor 138 = .ok (.getfield 7, 3) := by decide +kernel
theorem dX3_addTransistor_141 : decode cX3_addTransistor 141 = .ok (.sipush 250, 3) := by decide +kernel
theorem dX3_addTransistor_144 : decode cX3_addTransistor 144 = .ok (.iload 6, 2) := by decide +kernel
theorem dX3_addTransistor_146 : decode cX3_addTransistor 146 = .ok (.iadd, 1) := by decide +kernel
theorem dX3_addTransistor_147 : decode cX3_addTransistor 147 = .ok (.iconst 0, 1) := by decide +kernel
theorem dX3_addTransistor_148 : decode cX3_addTransistor 148 = .ok (.iastore, 1) := by decide +kernel
theorem dX3_addTransistor_149 : decode cX3_addTransistor 149 = .ok (.aload_n 0, 1) := by decide +kernel
theorem dX3_addTransistor_150 : decode cX3_addTransistor 150 = .ok (.getfield 7, 3) := by decide +kernel
theorem dX3_addTransistor_153 : decode cX3_addTransistor 153 = .ok (.iconst 1, 1) := by decide +kernel
theorem dX3_addTransistor_154 : decode cX3_addTransistor 154 = .ok (.dup2, 1) := by decide +kernel
theorem dX3_addTransistor_155 : decode cX3_addTransistor 155 = .ok (.iaload, 1) := by decide +kernel
theorem dX3_addTransistor_156 : decode cX3_addTransistor 156 = .ok (.iconst 1, 1) := by decide +kernel
theorem dX3_addTransistor_157 : decode cX3_addTransistor 157 = .ok (.iadd, 1) := by decide +kernel
theorem dX3_addTransistor_158 : decode cX3_addTransistor 158 = .ok (.iastore, 1) := by decide +kernel
theorem dX3_addTransistor_159 : decode cX3_addTransistor 159 = .ok (.iload 6, 2) := by decide +kernel
theorem dX3_addTransistor_161 : decode cX3_addTransistor 161 = .ok (.ireturn, 1) := by decide +kernel
set_option maxRecDepth 20000 in
theorem ggX3_nodeCount_X3_nodes : GoodIn wsX3_nodeCount wsX3_nodes := goodIn_r _ [5, 6, 7, 8, 9, 10, 11, 12, 13, 14] (by decide +kernel) (by decide +kernel)
set_option maxRecDepth 20000 in
theorem gX3_nodeCount_X3_nodes : GoodIn wsX3_nodeCount (wsV RX3 35 RX3 yX3_nodes wsX3_nodes) := goodIn_app (goodIn_of _ (by decide +kernel)) ggX3_nodeCount_X3_nodes
theorem dX3_nodeCount_0 : decode cX3_nodeCount 0 = .ok (.aload_n 0, 1) := by decide +kernel
theorem dX3_nodeCount_1 : decode cX3_nodeCount 1 = .ok (.invokevirtual 35, 3) := by decide +kernel
theorem dX3_nodeCount_4 : decode cX3_nodeCount 4 = .ok (.ireturn, 1) := by decide +kernel
set_option maxRecDepth 20000 in
theorem ggX3_transistorCount_X3_many : GoodIn wsX3_transistorCount wsX3_many := goodIn_r _ [5, 6, 7, 8, 9, 10, 11, 12, 13, 14] (by decide +kernel) (by decide +kernel)
set_option maxRecDepth 20000 in
theorem gX3_transistorCount_X3_many : GoodIn wsX3_transistorCount (wsV RX3 43 RX3 yX3_many wsX3_many) := goodIn_app (goodIn_of _ (by decide +kernel)) ggX3_transistorCount_X3_many
theorem dX3_transistorCount_0 : decode cX3_transistorCount 0 = .ok (.aload_n 0, 1) := by decide +kernel
theorem dX3_transistorCount_1 : decode cX3_transistorCount 1 = .ok (.invokevirtual 43, 3) := by decide +kernel
theorem dX3_transistorCount_4 : decode cX3_transistorCount 4 = .ok (.ireturn, 1) := by decide +kernel
set_option maxRecDepth 20000 in
theorem ggX3_inputs_X3_nodes : GoodIn wsX3_inputs wsX3_nodes := goodIn_r _ [5, 6, 11, 12, 13, 14, 15, 16, 17, 18] (by decide +kernel) (by decide +kernel)
set_option maxRecDepth 20000 in
theorem gX3_inputs_X3_nodes : GoodIn wsX3_inputs (wsV RX3 35 RX3 yX3_nodes wsX3_nodes) := goodIn_app (goodIn_of _ (by decide +kernel)) ggX3_inputs_X3_nodes
set_option maxRecDepth 20000 in
theorem ggX3_inputs_X3_isInput : GoodIn wsX3_inputs wsX3_isInput := goodIn_r _ [10, 6, 11, 12, 13, 14, 15, 16, 17, 18] (by decide +kernel) (by decide +kernel)
set_option maxRecDepth 20000 in
theorem gX3_inputs_X3_isInput : GoodIn wsX3_inputs (wsV RX3 54 RX3 yX3_isInput wsX3_isInput) := goodIn_app (goodIn_of _ (by decide +kernel)) ggX3_inputs_X3_isInput
theorem dX3_inputs_0 : decode cX3_inputs 0 = .ok (.iconst 0, 1) := by decide +kernel
theorem dX3_inputs_1 : decode cX3_inputs 1 = .ok (.istore_n 1, 1) := by decide +kernel
theorem dX3_inputs_2 : decode cX3_inputs 2 = .ok (.iconst 0, 1) := by decide +kernel
theorem dX3_inputs_3 : decode cX3_inputs 3 = .ok (.istore_n 2, 1) := by decide +kernel
theorem dX3_inputs_4 : decode cX3_inputs 4 = .ok (.iload_n 2, 1) := by decide +kernel
theorem dX3_inputs_5 : decode cX3_inputs 5 = .ok (.aload_n 0, 1) := by decide +kernel
theorem dX3_inputs_6 : decode cX3_inputs 6 = .ok (.invokevirtual 35, 3) := by decide +kernel
theorem dX3_inputs_9 : decode cX3_inputs 9 = .ok (.if_icmp .ge 27, 3) := by decide +kernel
theorem dX3_inputs_12 : decode cX3_inputs 12 = .ok (.iload_n 1, 1) := by decide +kernel
theorem dX3_inputs_13 : decode cX3_inputs 13 = .ok (.aload_n 0, 1) := by decide +kernel
theorem dX3_inputs_14 : decode cX3_inputs 14 = .ok (.iload_n 2, 1) := by decide +kernel
theorem dX3_inputs_15 : decode cX3_inputs 15 = .ok (.invokevirtual 54, 3) := by decide +kernel
theorem dX3_inputs_18 : decode cX3_inputs 18 = .ok (.ifCond .eq 9, 3) := by decide +kernel
theorem dX3_inputs_21 : decode cX3_inputs 21 = .ok (.iconst 1, 1) := by decide +kernel
theorem dX3_inputs_22 : decode cX3_inputs 22 = .ok (.iload_n 2, 1) := by decide +kernel
theorem dX3_inputs_23 : decode cX3_inputs 23 = .ok (.ishl, 1) := by decide +kernel
theorem dX3_inputs_24 : decode cX3_inputs 24 = .ok (.goto 4, 3) := by decide +kernel
theorem dX3_inputs_27 : decode cX3_inputs 27 = .ok (.iconst 0, 1) := by decide +kernel
theorem dX3_inputs_28 : decode cX3_inputs 28 = .ok (.ior, 1) := by decide +kernel
theorem dX3_inputs_29 : decode cX3_inputs 29 = .ok (.istore_n 1, 1) := by decide +kernel
theorem dX3_inputs_30 : decode cX3_inputs 30 = .ok (.iinc 2 1, 3) := by decide +kernel
theorem dX3_inputs_33 : decode cX3_inputs 33 = .ok (.goto (-29), 3) := by decide +kernel
theorem dX3_inputs_36 : decode cX3_inputs 36 = .ok (.iload_n 1, 1) := by decide +kernel
theorem dX3_inputs_37 : decode cX3_inputs 37 = .ok (.ireturn, 1) := by decide +kernel
set_option maxRecDepth 20000 in
theorem ggX3_setInput_X3_isNode : GoodIn wsX3_setInput wsX3_isNode := goodIn_r _ [5, 6, 7, 8, 4, 9, 10, 11, 12, 13, 22, 23, 24, 25, 26, 27, 28, 29] (by decide +kernel) (by decide +kernel)
set_option maxRecDepth 20000 in
theorem gX3_setInput_X3_isNode : GoodIn wsX3_setInput (wsV RX3 50 RX3 yX3_isNode wsX3_isNode) := goodIn_app (goodIn_of _ (by decide +kernel)) ggX3_setInput_X3_isNode
set_option maxRecDepth 20000 in
theorem ggX3_setInput_X3_isInput : GoodIn wsX3_setInput wsX3_isInput := goodIn_r _ [17, 10, 22, 23, 24, 25, 26, 27, 28, 29] (by decide +kernel) (by decide +kernel)
set_option maxRecDepth 20000 in
theorem gX3_setInput_X3_isInput : GoodIn wsX3_setInput (wsV RX3 54 RX3 yX3_isInput wsX3_isInput) := goodIn_app (goodIn_of _ (by decide +kernel)) ggX3_setInput_X3_isInput
set_option maxRecDepth 20000 in
theorem ggX3_setInput_X3_in : GoodIn wsX3_setInput wsX3_in := goodIn_r _ [13] (by decide +kernel) (by decide +kernel)
set_option maxRecDepth 20000 in
theorem gX3_setInput_X3_in : GoodIn wsX3_setInput (va_wsS RX3 39 yX3_in wsX3_in) := goodIn_app (goodIn_of _ (by decide +kernel)) ggX3_setInput_X3_in
set_option maxRecDepth 20000 in
theorem ggX3_setInput_X3_set : GoodIn wsX3_setInput wsX3_set := goodIn_r _ [21, 10, 22, 23, 24, 25, 26, 27, 28, 29] (by decide +kernel) (by decide +kernel)
set_option maxRecDepth 20000 in
theorem gX3_setInput_X3_set : GoodIn wsX3_setInput (wsV RX3 57 RX3 yX3_set wsX3_set) := goodIn_app (goodIn_of _ (by decide +kernel)) ggX3_setInput_X3_set
theorem dX3_setInput_0 : decode cX3_setInput 0 = .ok (.aload_n 0, 1) := by decide +kernel
theorem dX3_setInput_1 : decode cX3_setInput 1 = .ok (.iload_n 1, 1) := by decide +kernel
theorem dX3_setInput_2 : decode cX3_setInput 2 = .ok (.invokevirtual 50, 3) := by decide +kernel
theorem dX3_setInput_5 : decode cX3_setInput 5 = .ok (.ifCond .ne 5, 3) := by decide +kernel
theorem dX3_setInput_8 : decode cX3_setInput 8 = .ok (.iconst (-1), 1) := by decide +kernel
theorem dX3_setInput_9 : decode cX3_setInput 9 = .ok (.ireturn, 1) := by decide +kernel
theorem dX3_setInput_10 : decode cX3_setInput 10 = .ok (.aload_n 0, 1) := by decide +kernel
theorem dX3_setInput_11 : decode cX3_setInput 11 = .ok (.iload_n 1, 1) := by decide +kernel
theorem dX3_setInput_12 : decode cX3_setInput 12 = .ok (.invokevirtual 54, 3) := by decide +kernel
theorem dX3_setInput_15 : decode cX3_setInput 15 = .ok (.ifCond .ne 6, 3) := by decide +kernel
theorem dX3_setInput_18 : decode cX3_setInput 18 = .ok (.bipush (-5), 2) := by decide +kernel
theorem dX3_setInput_20 : decode cX3_setInput 20 = .ok (.ireturn, 1) := by decide +kernel
theorem dX3_setInput_21 : decode cX3_setInput 21 = .ok (.iload_n 2, 1) := by decide +kernel
theorem dX3_setInput_22 : decode cX3_setInput 22 = .ok (.iconst 0, 1) := by decide +kernel
theorem dX3_setInput_23 : decode cX3_setInput 23 = .ok (.iconst 2, 1) := by decide +kernel
theorem dX3_setInput_24 : decode cX3_setInput 24 = .ok (.invokestatic 39, 3) := by decide +kernel
theorem dX3_setInput_27 : decode cX3_setInput 27 = .ok (.ifCond .eq 15, 3) := by decide +kernel
theorem dX3_setInput_30 : decode cX3_setInput 30 = .ok (.aload_n 0, 1) := by decide +kernel
theorem dX3_setInput_31 : decode cX3_setInput 31 = .ok (.bipush 26, 2) := by decide +kernel
theorem dX3_setInput_33 : decode cX3_setInput 33 = .ok (.iload_n 1, 1) := by decide +kernel
theorem dX3_setInput_34 : decode cX3_setInput 34 = .ok (.iadd, 1) := by decide +kernel
theorem dX3_setInput_35 : decode cX3_setInput 35 = .ok (.iload_n 2, 1) := by decide +kernel
theorem dX3_setInput_36 : decode cX3_setInput 36 = .ok (.invokevirtual 57, 3) := by decide +kernel
theorem dX3_setInput_39 : decode cX3_setInput 39 = .ok (.goto 5, 3) := by decide +kernel
theorem dX3_setInput_42 : decode cX3_setInput 42 = .ok (.bipush (-3), 2) := by decide +kernel
theorem dX3_setInput_44 : decode cX3_setInput 44 = .ok (.ireturn, 1) := by decide +kernel
set_option maxRecDepth 20000 in
theorem ggX3_setCharge_X3_isNode : GoodIn wsX3_setCharge wsX3_isNode := goodIn_r _ [5, 6, 7, 8, 4, 9, 10, 11, 12, 13, 22, 23, 24, 25, 26, 27, 28, 29] (by decide +kernel) (by decide +kernel)
set_option maxRecDepth 20000 in
theorem gX3_setCharge_X3_isNode : GoodIn wsX3_setCharge (wsV RX3 50 RX3 yX3_isNode wsX3_isNode) := goodIn_app (goodIn_of _ (by decide +kernel)) ggX3_setCharge_X3_isNode
set_option maxRecDepth 20000 in
theorem ggX3_setCharge_X3_isInput : GoodIn wsX3_setCharge wsX3_isInput := goodIn_r _ [17, 10, 22, 23, 24, 25, 26, 27, 28, 29] (by decide +kernel) (by decide +kernel)
set_option maxRecDepth 20000 in
theorem gX3_setCharge_X3_isInput : GoodIn wsX3_setCharge (wsV RX3 54 RX3 yX3_isInput wsX3_isInput) := goodIn_app (goodIn_of _ (by decide +kernel)) ggX3_setCharge_X3_isInput
set_option maxRecDepth 20000 in
theorem ggX3_setCharge_X3_in : GoodIn wsX3_setCharge wsX3_in := goodIn_r _ [13] (by decide +kernel) (by decide +kernel)
set_option maxRecDepth 20000 in
theorem gX3_setCharge_X3_in : GoodIn wsX3_setCharge (va_wsS RX3 39 yX3_in wsX3_in) := goodIn_app (goodIn_of _ (by decide +kernel)) ggX3_setCharge_X3_in
set_option maxRecDepth 20000 in
theorem ggX3_setCharge_X3_set : GoodIn wsX3_setCharge wsX3_set := goodIn_r _ [21, 10, 22, 23, 24, 25, 26, 27, 28, 29] (by decide +kernel) (by decide +kernel)
set_option maxRecDepth 20000 in
theorem gX3_setCharge_X3_set : GoodIn wsX3_setCharge (wsV RX3 57 RX3 yX3_set wsX3_set) := goodIn_app (goodIn_of _ (by decide +kernel)) ggX3_setCharge_X3_set
theorem dX3_setCharge_0 : decode cX3_setCharge 0 = .ok (.aload_n 0, 1) := by decide +kernel
theorem dX3_setCharge_1 : decode cX3_setCharge 1 = .ok (.iload_n 1, 1) := by decide +kernel
theorem dX3_setCharge_2 : decode cX3_setCharge 2 = .ok (.invokevirtual 50, 3) := by decide +kernel
theorem dX3_setCharge_5 : decode cX3_setCharge 5 = .ok (.ifCond .ne 5, 3) := by decide +kernel
theorem dX3_setCharge_8 : decode cX3_setCharge 8 = .ok (.iconst (-1), 1) := by decide +kernel
theorem dX3_setCharge_9 : decode cX3_setCharge 9 = .ok (.ireturn, 1) := by decide +kernel
theorem dX3_setCharge_10 : decode cX3_setCharge 10 = .ok (.aload_n 0, 1) := by decide +kernel
theorem dX3_setCharge_11 : decode cX3_setCharge 11 = .ok (.iload_n 1, 1) := by decide +kernel
theorem dX3_setCharge_12 : decode cX3_setCharge 12 = .ok (.invokevirtual 54, 3) := by decide +kernel
theorem dX3_setCharge_15 : decode cX3_setCharge 15 = .ok (.ifCond .eq 6, 3) := by decide +kernel
theorem dX3_setCharge_18 : decode cX3_setCharge 18 = .ok (.bipush (-5), 2) := by decide +kernel
theorem dX3_setCharge_20 : decode cX3_setCharge 20 = .ok (.ireturn, 1) := by decide +kernel
theorem dX3_setCharge_21 : decode cX3_setCharge 21 = .ok (.iload_n 2, 1) := by decide +kernel
theorem dX3_setCharge_22 : decode cX3_setCharge 22 = .ok (.iconst 0, 1) := by decide +kernel
theorem dX3_setCharge_23 : decode cX3_setCharge 23 = .ok (.iconst 2, 1) := by decide +kernel
theorem dX3_setCharge_24 : decode cX3_setCharge 24 = .ok (.invokestatic 39, 3) := by decide +kernel
theorem dX3_setCharge_27 : decode cX3_setCharge 27 = .ok (.ifCond .eq 15, 3) := by decide +kernel
theorem dX3_setCharge_30 : decode cX3_setCharge 30 = .ok (.aload_n 0, 1) := by decide +kernel
theorem dX3_setCharge_31 : decode cX3_setCharge 31 = .ok (.bipush 26, 2) := by decide +kernel
theorem dX3_setCharge_33 : decode cX3_setCharge 33 = .ok (.iload_n 1, 1) := by decide +kernel
theorem dX3_setCharge_34 : decode cX3_setCharge 34 = .ok (.iadd, 1) := by decide +kernel
theorem dX3_setCharge_35 : decode cX3_setCharge 35 = .ok (.iload_n 2, 1) := by decide +kernel
theorem dX3_setCharge_36 : decode cX3_setCharge 36 = .ok (.invokevirtual 57, 3) := by decide +kernel
theorem dX3_setCharge_39 : decode cX3_setCharge 39 = .ok (.goto 5, 3) := by decide +kernel
theorem dX3_setCharge_42 : decode cX3_setCharge 42 = .ok (.bipush (-3), 2) := by decide +kernel
theorem dX3_setCharge_44 : decode cX3_setCharge 44 = .ok (.ireturn, 1) := by decide +kernel
set_option maxRecDepth 20000 in
theorem ggX3_forget_X3_nodes : GoodIn wsX3_forget wsX3_nodes := goodIn_r _ [6, 1, 11, 12, 13, 14, 15, 16, 17, 18] (by decide +kernel) (by decide +kernel)
set_option maxRecDepth 20000 in
theorem gX3_forget_X3_nodes : GoodIn wsX3_forget (wsV RX3 35 RX3 yX3_nodes wsX3_nodes) := goodIn_app (goodIn_of _ (by decide +kernel)) ggX3_forget_X3_nodes
set_option maxRecDepth 20000 in
theorem ggX3_forget_X3_isInput : GoodIn wsX3_forget wsX3_isInput := goodIn_r _ [10, 1, 11, 12, 13, 14, 15, 16, 17, 18] (by decide +kernel) (by decide +kernel)
set_option maxRecDepth 20000 in
theorem gX3_forget_X3_isInput : GoodIn wsX3_forget (wsV RX3 54 RX3 yX3_isInput wsX3_isInput) := goodIn_app (goodIn_of _ (by decide +kernel)) ggX3_forget_X3_isInput
theorem dX3_forget_0 : decode cX3_forget 0 = .ok (.iconst 0, 1) := by decide +kernel
theorem dX3_forget_1 : decode cX3_forget 1 = .ok (.istore_n 1, 1) := by decide +kernel
theorem dX3_forget_2 : decode cX3_forget 2 = .ok (.iconst 0, 1) := by decide +kernel
theorem dX3_forget_3 : decode cX3_forget 3 = .ok (.istore_n 2, 1) := by decide +kernel
theorem dX3_forget_4 : decode cX3_forget 4 = .ok (.iload_n 2, 1) := by decide +kernel
theorem dX3_forget_5 : decode cX3_forget 5 = .ok (.aload_n 0, 1) := by decide +kernel
theorem dX3_forget_6 : decode cX3_forget 6 = .ok (.invokevirtual 35, 3) := by decide +kernel
theorem dX3_forget_9 : decode cX3_forget 9 = .ok (.if_icmp .ge 48, 3) := by decide +kernel
theorem dX3_forget_12 : decode cX3_forget 12 = .ok (.aload_n 0, 1) := by decide +kernel
theorem dX3_forget_13 : decode cX3_forget 13 = .ok (.iload_n 2, 1) := by decide +kernel
theorem dX3_forget_14 : decode cX3_forget 14 = .ok (.invokevirtual 54, 3) := by decide +kernel
theorem dX3_forget_17 : decode cX3_forget 17 = .ok (.ifCond .ne 34, 3) := by decide +kernel
theorem dX3_forget_20 : decode cX3_forget 20 = .ok (.iload_n 1, 1) := by decide +kernel
theorem dX3_forget_21 : decode cX3_forget 21 = .ok (.aload_n 0, 1) := by decide +kernel
theorem dX3_forget_22 : decode cX3_forget 22 = .ok (.getfield 7, 3) := by decide +kernel
theorem dX3_forget_25 : decode cX3_forget 25 = .ok (.bipush 26, 2) := by decide +kernel
theorem dX3_forget_27 : decode cX3_forget 27 = .ok (.iload_n 2, 1) := by decide +kernel
theorem dX3_forget_28 : decode cX3_forget 28 = .ok (.iadd, 1) := by decide +kernel
theorem dX3_forget_29 : decode cX3_forget 29 = .ok (.iaload, 1) := by decide +kernel
theorem dX3_forget_30 : decode cX3_forget 30 = .ok (.iconst 2, 1) := by decide +kernel
theorem dX3_forget_31 : decode cX3_forget 31 = .ok (.if_icmp .eq 7, 3) := by decide +kernel
theorem dX3_forget_34 : decode cX3_forget 34 = .ok (.iconst 1, 1) := by decide +kernel
theorem dX3_forget_35 : decode cX3_forget 35 = .ok (.goto 4, 3) := by decide +kernel
theorem dX3_forget_38 : decode cX3_forget 38 = .ok (.iconst 0, 1) := by decide +kernel
theorem dX3_forget_39 : decode cX3_forget 39 = .ok (.iadd, 1) := by decide +kernel
theorem dX3_forget_40 : decode cX3_forget 40 = .ok (.istore_n 1, 1) := by decide +kernel
theorem dX3_forget_41 : decode cX3_forget 41 = .ok (.aload_n 0, 1) := by decide +kernel
theorem dX3_forget_42 : decode cX3_forget 42 = .ok (.getfield 7, 3) := by decide +kernel
theorem dX3_forget_45 : decode cX3_forget 45 = .ok (.bipush 26, 2) := by decide +kernel
theorem dX3_forget_47 : decode cX3_forget 47 = .ok (.iload_n 2, 1) := by decide +kernel
theorem dX3_forget_48 : decode cX3_forget 48 = .ok (.iadd, 1) := by decide +kernel
theorem dX3_forget_49 : decode cX3_forget 49 = .ok (.iconst 2, 1) := by decide +kernel
theorem dX3_forget_50 : decode cX3_forget 50 = .ok (.iastore, 1) := by decide +kernel
theorem dX3_forget_51 : decode cX3_forget 51 = .ok (.iinc 2 1, 3) := by decide +kernel
theorem dX3_forget_54 : decode cX3_forget 54 = .ok (.goto (-50), 3) := by decide +kernel
theorem dX3_forget_57 : decode cX3_forget 57 = .ok (.iload_n 1, 1) := by decide +kernel
theorem dX3_forget_58 : decode cX3_forget 58 = .ok (.ireturn, 1) := by decide +kernel
set_option maxRecDepth 20000 in
theorem ggX3_value_X3_isNode : GoodIn wsX3_value wsX3_isNode := goodIn_r _ [6, 7, 8, 9, 5, 10, 1, 11, 12, 13, 14, 15, 16, 17, 18, 19, 20, 21] (by decide +kernel) (by decide +kernel)
set_option maxRecDepth 20000 in
theorem gX3_value_X3_isNode : GoodIn wsX3_value (wsV RX3 50 RX3 yX3_isNode wsX3_isNode) := goodIn_app (goodIn_of _ (by decide +kernel)) ggX3_value_X3_isNode
theorem dX3_value_0 : decode cX3_value 0 = .ok (.aload_n 0, 1) := by decide +kernel
theorem dX3_value_1 : decode cX3_value 1 = .ok (.iload_n 1, 1) := by decide +kernel
theorem dX3_value_2 : decode cX3_value 2 = .ok (.invokevirtual 50, 3) := by decide +kernel
theorem dX3_value_5 : decode cX3_value 5 = .ok (.ifCond .eq 15, 3) := by decide +kernel
theorem dX3_value_8 : decode cX3_value 8 = .ok (.aload_n 0, 1) := by decide +kernel
theorem dX3_value_9 : decode cX3_value 9 = .ok (.getfield 7, 3) := by decide +kernel
theorem dX3_value_12 : decode cX3_value 12 = .ok (.bipush 26, 2) := by decide +kernel
theorem dX3_value_14 : decode cX3_value 14 = .ok (.iload_n 1, 1) := by decide +kernel
theorem dX3_value_15 : decode cX3_value 15 = .ok (.iadd, 1) := by decide +kernel
theorem dX3_value_16 : decode cX3_value 16 = .ok (.iaload, 1) := by decide +kernel
theorem dX3_value_17 : decode cX3_value 17 = .ok (.goto 4, 3) := by decide +kernel
theorem dX3_value_20 : decode cX3_value 20 = .ok (.iconst (-1), 1) := by decide +kernel
theorem dX3_value_21 : decode cX3_value 21 = .ok (.ireturn, 1) := by decide +kernel
set_option maxRecDepth 20000 in
theorem ggX3_nodesWith_X3_in : GoodIn wsX3_nodesWith wsX3_in := goodIn_r _ [5] (by decide +kernel) (by decide +kernel)
set_option maxRecDepth 20000 in
theorem gX3_nodesWith_X3_in : GoodIn wsX3_nodesWith (va_wsS RX3 39 yX3_in wsX3_in) := goodIn_app (goodIn_of _ (by decide +kernel)) ggX3_nodesWith_X3_in
set_option maxRecDepth 20000 in
theorem ggX3_nodesWith_X3_nodes : GoodIn wsX3_nodesWith wsX3_nodes := goodIn_r _ [9, 1, 10, 11, 12, 13, 14, 15, 16, 17] (by decide +kernel) (by decide +kernel)
set_option maxRecDepth 20000 in
theorem gX3_nodesWith_X3_nodes : GoodIn wsX3_nodesWith (wsV RX3 35 RX3 yX3_nodes wsX3_nodes) := goodIn_app (goodIn_of _ (by decide +kernel)) ggX3_nodesWith_X3_nodes
theorem dX3_nodesWith_0 : decode cX3_nodesWith 0 = .ok (.iload_n 1, 1) := by decide +kernel
theorem dX3_nodesWith_1 : decode cX3_nodesWith 1 = .ok (.iconst 0, 1) := by decide +kernel
theorem dX3_nodesWith_2 : decode cX3_nodesWith 2 = .ok (.iconst 2, 1) := by decide +kernel
theorem dX3_nodesWith_3 : decode cX3_nodesWith 3 = .ok (.invokestatic 39, 3) := by decide +kernel
theorem dX3_nodesWith_6 : decode cX3_nodesWith 6 = .ok (.ifCond .ne 6, 3) := by decide +kernel
theorem dX3_nodesWith_9 : decode cX3_nodesWith 9 = .ok (.bipush (-3), 2) := by decide +kernel
theorem dX3_nodesWith_11 : decode cX3_nodesWith 11 = .ok (.ireturn, 1) := by decide +kernel
theorem dX3_nodesWith_12 : decode cX3_nodesWith 12 = .ok (.iconst 0, 1) := by decide +kernel
theorem dX3_nodesWith_13 : decode cX3_nodesWith 13 = .ok (.istore_n 2, 1) := by decide +kernel
theorem dX3_nodesWith_14 : decode cX3_nodesWith 14 = .ok (.iconst 0, 1) := by decide +kernel
theorem dX3_nodesWith_15 : decode cX3_nodesWith 15 = .ok (.istore_n 3, 1) := by decide +kernel
theorem dX3_nodesWith_16 : decode cX3_nodesWith 16 = .ok (.iload_n 3, 1) := by decide +kernel
theorem dX3_nodesWith_17 : decode cX3_nodesWith 17 = .ok (.aload_n 0, 1) := by decide +kernel
theorem dX3_nodesWith_18 : decode cX3_nodesWith 18 = .ok (.invokevirtual 35, 3) := by decide +kernel
theorem dX3_nodesWith_21 : decode cX3_nodesWith 21 = .ok (.if_icmp .ge 32, 3) := by decide +kernel
theorem dX3_nodesWith_24 : decode cX3_nodesWith 24 = .ok (.iload_n 2, 1) := by decide +kernel
theorem dX3_nodesWith_25 : decode cX3_nodesWith 25 = .ok (.aload_n 0, 1) := by decide +kernel
theorem dX3_nodesWith_26 : decode cX3_nodesWith 26 = .ok (.getfield 7, 3) := by decide +kernel
theorem dX3_nodesWith_29 : decode cX3_nodesWith 29 = .ok (.bipush 26, 2) := by decide +kernel
theorem dX3_nodesWith_31 : decode cX3_nodesWith 31 = .ok (.iload_n 3, 1) := by decide +kernel
theorem dX3_nodesWith_32 : decode cX3_nodesWith 32 = .ok (.iadd, 1) := by decide +kernel
theorem dX3_nodesWith_33 : decode cX3_nodesWith 33 = .ok (.iaload, 1) := by decide +kernel
theorem dX3_nodesWith_34 : decode cX3_nodesWith 34 = .ok (.iload_n 1, 1) := by decide +kernel
theorem dX3_nodesWith_35 : decode cX3_nodesWith 35 = .ok (.if_icmp .ne 9, 3) := by decide +kernel
theorem dX3_nodesWith_38 : decode cX3_nodesWith 38 = .ok (.iconst 1, 1) := by decide +kernel
theorem dX3_nodesWith_39 : decode cX3_nodesWith 39 = .ok (.iload_n 3, 1) := by decide +kernel
theorem dX3_nodesWith_40 : decode cX3_nodesWith 40 = .ok (.ishl, 1) := by decide +kernel
theorem dX3_nodesWith_41 : decode cX3_nodesWith 41 = .ok (.goto 4, 3) := by decide +kernel
theorem dX3_nodesWith_44 : decode cX3_nodesWith 44 = .ok (.iconst 0, 1) := by decide +kernel
theorem dX3_nodesWith_45 : decode cX3_nodesWith 45 = .ok (.ior, 1) := by decide +kernel
theorem dX3_nodesWith_46 : decode cX3_nodesWith 46 = .ok (.istore_n 2, 1) := by decide +kernel
theorem dX3_nodesWith_47 : decode cX3_nodesWith 47 = .ok (.iinc 3 1, 3) := by decide +kernel
theorem dX3_nodesWith_50 : decode cX3_nodesWith 50 = .ok (.goto (-34), 3) := by decide +kernel
theorem dX3_nodesWith_53 : decode cX3_nodesWith 53 = .ok (.iload_n 2, 1) := by decide +kernel
theorem dX3_nodesWith_54 : decode cX3_nodesWith 54 = .ok (.ireturn, 1) := by decide +kernel
theorem dX3_stateOf_0 : decode cX3_stateOf 0 = .ok (.aload_n 0, 1) := by decide +kernel
theorem dX3_stateOf_1 : decode cX3_stateOf 1 = .ok (.getfield 7, 3) := by decide +kernel
theorem dX3_stateOf_4 : decode cX3_stateOf 4 = .ok (.sipush 250, 3) := by decide +kernel
theorem dX3_stateOf_7 : decode cX3_stateOf 7 = .ok (.iload_n 1, 1) := by decide +kernel
theorem dX3_stateOf_8 : decode cX3_stateOf 8 = .ok (.iadd, 1) := by decide +kernel
theorem dX3_stateOf_9 : decode cX3_stateOf 9 = .ok (.iaload, 1) := by decide +kernel
theorem dX3_stateOf_10 : decode cX3_stateOf 10 = .ok (.istore_n 2, 1) := by decide +kernel
theorem dX3_stateOf_11 : decode cX3_stateOf 11 = .ok (.iload_n 2, 1) := by decide +kernel
theorem dX3_stateOf_12 : decode cX3_stateOf 12 = .ok (.ifCond .eq 14, 3) := by decide +kernel
theorem dX3_stateOf_15 : decode cX3_stateOf 15 = .ok (.iload_n 2, 1) := by decide +kernel
theorem dX3_stateOf_16 : decode cX3_stateOf 16 = .ok (.iconst 1, 1) := by decide +kernel
theorem dX3_stateOf_17 : decode cX3_stateOf 17 = .ok (.if_icmp .ne 7, 3) := by decide +kernel
theorem dX3_stateOf_20 : decode cX3_stateOf 20 = .ok (.iconst 0, 1) := by decide +kernel
theorem dX3_stateOf_21 : decode cX3_stateOf 21 = .ok (.goto 4, 3) := by decide +kernel
theorem dX3_stateOf_24 : decode cX3_stateOf 24 = .ok (.iconst 1, 1) := by decide +kernel
theorem dX3_stateOf_25 : decode cX3_stateOf 25 = .ok (.ireturn, 1) := by decide +kernel
theorem dX3_stateOf_26 : decode cX3_stateOf 26 = .ok (.aload_n 0, 1) := by decide +kernel
theorem dX3_stateOf_27 : decode cX3_stateOf 27 = .ok (.getfield 7, 3) := by decide +kernel
theorem dX3_stateOf_30 : decode cX3_stateOf 30 = .ok (.bipush 50, 2) := by decide +kernel
theorem dX3_stateOf_32 : decode cX3_stateOf 32 = .ok (.iload_n 1, 1) := by decide +kernel
theorem dX3_stateOf_33 : decode cX3_stateOf 33 = .ok (.iadd, 1) := by decide +kernel
theorem dX3_stateOf_34 : decode cX3_stateOf 34 = .ok (.iaload, 1) := by decide +kernel
theorem dX3_stateOf_35 : decode cX3_stateOf 35 = .ok (.iconst 2, 1) := by decide +kernel
theorem dX3_stateOf_36 : decode cX3_stateOf 36 = .ok (.if_icmp .ne 5, 3) := by decide +kernel
theorem dX3_stateOf_39 : decode cX3_stateOf 39 = .ok (.iconst 1, 1) := by decide +kernel
theorem dX3_stateOf_40 : decode cX3_stateOf 40 = .ok (.ireturn, 1) := by decide +kernel
theorem dX3_stateOf_41 : decode cX3_stateOf 41 = .ok (.aload_n 0, 1) := by decide +kernel
theorem dX3_stateOf_42 : decode cX3_stateOf 42 = .ok (.getfield 7, 3) := by decide +kernel
theorem dX3_stateOf_45 : decode cX3_stateOf 45 = .ok (.bipush 26, 2) := by decide +kernel
theorem dX3_stateOf_47 : decode cX3_stateOf 47 = .ok (.aload_n 0, 1) := by decide +kernel
theorem dX3_stateOf_48 : decode cX3_stateOf 48 = .ok (.getfield 7, 3) := by decide +kernel
theorem dX3_stateOf_51 : decode cX3_stateOf 51 = .ok (.sipush 130, 3) := by decide +kernel
theorem dX3_stateOf_54 : decode cX3_stateOf 54 = .ok (.iload_n 1, 1) := by decide +kernel
theorem dX3_stateOf_55 : decode cX3_stateOf 55 = .ok (.iadd, 1) := by decide +kernel
theorem dX3_stateOf_56 : decode cX3_stateOf 56 = .ok (.iaload, 1) := by decide +kernel
theorem dX3_stateOf_57 : decode cX3_stateOf 57 = .ok (.iadd, 1) := by decide +kernel
theorem dX3_stateOf_58 : decode cX3_stateOf 58 = .ok (.iaload, 1) := by decide +kernel
theorem dX3_stateOf_59 : decode cX3_stateOf 59 = .ok (.istore_n 3, 1) := by decide +kernel
theorem dX3_stateOf_60 : decode cX3_stateOf 60 = .ok (.iload_n 3, 1) := by decide +kernel
theorem dX3_stateOf_61 : decode cX3_stateOf 61 = .ok (.iconst 2, 1) := by decide +kernel
theorem dX3_stateOf_62 : decode cX3_stateOf 62 = .ok (.if_icmp .ne 7, 3) := by decide +kernel
theorem dX3_stateOf_65 : decode cX3_stateOf 65 = .ok (.iconst 2, 1) := by decide +kernel
theorem dX3_stateOf_66 : decode cX3_stateOf 66 = .ok (.goto 38, 3) := by decide +kernel
theorem dX3_stateOf_69 : decode cX3_stateOf 69 = .ok (.iload_n 3, 1) := by decide +kernel
theorem dX3_stateOf_70 : decode cX3_stateOf 70 = .ok (.iconst 1, 1) := by decide +kernel
theorem dX3_stateOf_71 : decode cX3_stateOf 71 = .ok (.if_icmp .ne 7, 3) := by decide +kernel
theorem dX3_stateOf_74 : decode cX3_stateOf 74 = .ok (.iconst 1, 1) := by decide +kernel
theorem dX3_stateOf_75 : decode cX3_stateOf 75 = .ok (.goto 4, 3) := by decide +kernel
theorem dX3_stateOf_78 : decode cX3_stateOf 78 = .ok (.iconst 0, 1) := by decide +kernel
theorem dX3_stateOf_79 : decode cX3_stateOf 79 = .ok (.aload_n 0, 1) := by decide +kernel
theorem dX3_stateOf_80 : decode cX3_stateOf 80 = .ok (.getfield 7, 3) := by decide +kernel
theorem dX3_stateOf_83 : decode cX3_stateOf 83 = .ok (.bipush 50, 2) := by decide +kernel
theorem dX3_stateOf_85 : decode cX3_stateOf 85 = .ok (.iload_n 1, 1) := by decide +kernel
theorem dX3_stateOf_86 : decode cX3_stateOf 86 = .ok (.iadd, 1) := by decide +kernel
theorem dX3_stateOf_87 : decode cX3_stateOf 87 = .ok (.iaload, 1) := by decide +kernel
theorem dX3_stateOf_88 : decode cX3_stateOf 88 = .ok (.ifCond .ne 7, 3) := by decide +kernel
theorem dX3_stateOf_91 : decode cX3_stateOf 91 = .ok (.iconst 1, 1) := by decide +kernel
theorem dX3_stateOf_92 : decode cX3_stateOf 92 = .ok (.goto 4, 3) := by decide +kernel
theorem dX3_stateOf_95 : decode cX3_stateOf 95 = .ok (.iconst 0, 1) := by decide +kernel
theorem dX3_stateOf_96 : decode cX3_stateOf 96 = .ok (.if_icmp .ne 7, 3) := by decide +kernel
theorem dX3_stateOf_99 : decode cX3_stateOf 99 = .ok (.iconst 1, 1) := by decide +kernel
theorem dX3_stateOf_100 : decode cX3_stateOf 100 = .ok (.goto 4, 3) := by decide +kernel
theorem dX3_stateOf_103 : decode cX3_stateOf 103 = .ok (.iconst 0, 1) := by decide +kernel
theorem dX3_stateOf_104 : decode cX3_stateOf 104 = .ok (.ireturn, 1) := by decide +kernel
set_option maxRecDepth 20000 in
theorem ggX3_switchState_X3_isTransistor : GoodIn wsX3_switchState wsX3_isTransistor := goodIn_r _ [5, 6, 7, 8, 4, 9, 10, 11, 12, 13, 18, 19, 20, 21, 22, 23, 24, 25] (by decide +kernel) (by decide +kernel)
set_option maxRecDepth 20000 in
theorem gX3_switchState_X3_isTransistor : GoodIn wsX3_switchState (wsV RX3 61 RX3 yX3_isTransistor wsX3_isTransistor) := goodIn_app (goodIn_of _ (by decide +kernel)) ggX3_switchState_X3_isTransistor
set_option maxRecDepth 20000 in
theorem ggX3_switchState_X3_stateOf : GoodIn wsX3_switchState wsX3_stateOf := goodIn_r _ [17, 10, 18, 19, 20, 21, 22, 23, 24, 25] (by decide +kernel) (by decide +kernel)
set_option maxRecDepth 20000 in
theorem gX3_switchState_X3_stateOf : GoodIn wsX3_switchState (wsV RX3 64 RX3 yX3_stateOf wsX3_stateOf) := goodIn_app (goodIn_of _ (by decide +kernel)) ggX3_switchState_X3_stateOf
theorem dX3_switchState_0 : decode cX3_switchState 0 = .ok (.aload_n 0, 1) := by decide +kernel
theorem dX3_switchState_1 : decode cX3_switchState 1 = .ok (.iload_n 1, 1) := by decide +kernel
theorem dX3_switchState_2 : decode cX3_switchState 2 = .ok (.invokevirtual 61, 3) := by decide +kernel
theorem dX3_switchState_5 : decode cX3_switchState 5 = .ok (.ifCond .eq 11, 3) := by decide +kernel
theorem dX3_switchState_8 : decode cX3_switchState 8 = .ok (.aload_n 0, 1) := by decide +kernel
theorem dX3_switchState_9 : decode cX3_switchState 9 = .ok (.iload_n 1, 1) := by decide +kernel
theorem dX3_switchState_10 : decode cX3_switchState 10 = .ok (.invokevirtual 64, 3) := by decide +kernel
theorem dX3_switchState_13 : decode cX3_switchState 13 = .ok (.goto 5, 3) := by decide +kernel
theorem dX3_switchState_16 : decode cX3_switchState 16 = .ok (.bipush (-2), 2) := by decide +kernel
theorem dX3_switchState_18 : decode cX3_switchState 18 = .ok (.ireturn, 1) := by decide +kernel
theorem dX3_lesser_0 : decode cX3_lesser 0 = .ok (.iload_n 0, 1) := by decide +kernel
theorem dX3_lesser_1 : decode cX3_lesser 1 = .ok (.iload_n 1, 1) := by decide +kernel
theorem dX3_lesser_2 : decode cX3_lesser 2 = .ok (.if_icmp .ge 7, 3) := by decide +kernel
theorem dX3_lesser_5 : decode cX3_lesser 5 = .ok (.iload_n 0, 1) := by decide +kernel
theorem dX3_lesser_6 : decode cX3_lesser 6 = .ok (.goto 4, 3) := by decide +kernel
theorem dX3_lesser_9 : decode cX3_lesser 9 = .ok (.iload_n 1, 1) := by decide +kernel
theorem dX3_lesser_10 : decode cX3_lesser 10 = .ok (.ireturn, 1) := by decide +kernel
theorem dX3_signal_0 : decode cX3_signal 0 = .ok (.aload_n 0, 1) := by decide +kernel
theorem dX3_signal_1 : decode cX3_signal 1 = .ok (.getfield 7, 3) := by decide +kernel
theorem dX3_signal_4 : decode cX3_signal 4 = .ok (.bipush 90, 2) := by decide +kernel
theorem dX3_signal_6 : decode cX3_signal 6 = .ok (.iload_n 1, 1) := by decide +kernel
theorem dX3_signal_7 : decode cX3_signal 7 = .ok (.iadd, 1) := by decide +kernel
theorem dX3_signal_8 : decode cX3_signal 8 = .ok (.iaload, 1) := by decide +kernel
theorem dX3_signal_9 : decode cX3_signal 9 = .ok (.iconst 3, 1) := by decide +kernel
theorem dX3_signal_10 : decode cX3_signal 10 = .ok (.iadd, 1) := by decide +kernel
theorem dX3_signal_11 : decode cX3_signal 11 = .ok (.ireturn, 1) := by decide +kernel
set_option maxRecDepth 20000 in
theorem ggX3_growDefinite_X3_signal : GoodIn wsX3_growDefinite wsX3_signal := goodIn_r _ [6, 7, 15, 16, 17, 18, 19, 20, 21, 22] (by decide +kernel) (by decide +kernel)
set_option maxRecDepth 20000 in
theorem gX3_growDefinite_X3_signal : GoodIn wsX3_growDefinite (wsV RX3 67 RX3 yX3_signal wsX3_signal) := goodIn_app (goodIn_of _ (by decide +kernel)) ggX3_growDefinite_X3_signal
set_option maxRecDepth 20000 in
theorem ggX3_growDefinite_X3_lesser : GoodIn wsX3_growDefinite wsX3_lesser := goodIn_r _ [10] (by decide +kernel) (by decide +kernel)
set_option maxRecDepth 20000 in
theorem gX3_growDefinite_X3_lesser : GoodIn wsX3_growDefinite (va_wsS RX3 70 yX3_lesser wsX3_lesser) := goodIn_app (goodIn_of _ (by decide +kernel)) ggX3_growDefinite_X3_lesser
set_option maxRecDepth 20000 in
theorem ggX3_growDefinite_X3_isInput : GoodIn wsX3_growDefinite wsX3_isInput := goodIn_r _ [14, 7, 15, 16, 17, 18, 19, 20, 21, 22] (by decide +kernel) (by decide +kernel)
set_option maxRecDepth 20000 in
theorem gX3_growDefinite_X3_isInput : GoodIn wsX3_growDefinite (wsV RX3 54 RX3 yX3_isInput wsX3_isInput) := goodIn_app (goodIn_of _ (by decide +kernel)) ggX3_growDefinite_X3_isInput
theorem dX3_growDefinite_0 : decode cX3_growDefinite 0 = .ok (.aload_n 0, 1) := by decide +kernel
theorem dX3_growDefinite_1 : decode cX3_growDefinite 1 = .ok (.iload_n 1, 1) := by decide +kernel
theorem dX3_growDefinite_2 : decode cX3_growDefinite 2 = .ok (.invokevirtual 67, 3) := by decide +kernel
theorem dX3_growDefinite_5 : decode cX3_growDefinite 5 = .ok (.aload_n 0, 1) := by decide +kernel
theorem dX3_growDefinite_6 : decode cX3_growDefinite 6 = .ok (.getfield 20, 3) := by decide +kernel
theorem dX3_growDefinite_9 : decode cX3_growDefinite 9 = .ok (.iload_n 2, 1) := by decide +kernel
theorem dX3_growDefinite_10 : decode cX3_growDefinite 10 = .ok (.iaload, 1) := by decide +kernel
theorem dX3_growDefinite_11 : decode cX3_growDefinite 11 = .ok (.invokestatic 70, 3) := by decide +kernel
theorem dX3_growDefinite_14 : decode cX3_growDefinite 14 = .ok (.istore 4, 2) := by decide +kernel
theorem dX3_growDefinite_16 : decode cX3_growDefinite 16 = .ok (.aload_n 0, 1) := by decide +kernel
theorem dX3_growDefinite_17 : decode cX3_growDefinite 17 = .ok (.iload_n 3, 1) := by decide +kernel
theorem dX3_growDefinite_18 : decode cX3_growDefinite 18 = .ok (.invokevirtual 54, 3) := by decide +kernel
theorem dX3_growDefinite_21 : decode cX3_growDefinite 21 = .ok (.ifCond .ne 18, 3) := by decide +kernel
theorem dX3_growDefinite_24 : decode cX3_growDefinite 24 = .ok (.iload 4, 2) := by decide +kernel
theorem dX3_growDefinite_26 : decode cX3_growDefinite 26 = .ok (.aload_n 0, 1) := by decide +kernel
theorem dX3_growDefinite_27 : decode cX3_growDefinite 27 = .ok (.getfield 20, 3) := by decide +kernel
theorem dX3_growDefinite_30 : decode cX3_growDefinite 30 = .ok (.iload_n 3, 1) := by decide +kernel
theorem dX3_growDefinite_31 : decode cX3_growDefinite 31 = .ok (.iaload, 1) := by decide +kernel
theorem dX3_growDefinite_32 : decode cX3_growDefinite 32 = .ok (.if_icmp .le 7, 3) := by decide +kernel
theorem dX3_growDefinite_35 : decode cX3_growDefinite 35 = .ok (.iconst 1, 1) := by decide +kernel
theorem dX3_growDefinite_36 : decode cX3_growDefinite 36 = .ok (.goto 4, 3) := by decide +kernel
theorem dX3_growDefinite_39 : decode cX3_growDefinite 39 = .ok (.iconst 0, 1) := by decide +kernel
theorem dX3_growDefinite_40 : decode cX3_growDefinite 40 = .ok (.istore 5, 2) := by decide +kernel
theorem dX3_growDefinite_42 : decode cX3_growDefinite 42 = .ok (.aload_n 0, 1) := by decide +kernel
theorem dX3_growDefinite_43 : decode cX3_growDefinite 43 = .ok (.getfield 20, 3) := by decide +kernel
theorem dX3_growDefinite_46 : decode cX3_growDefinite 46 = .ok (.iload_n 3, 1) := by decide +kernel
theorem dX3_growDefinite_47 : decode cX3_growDefinite 47 = .ok (.iload 5, 2) := by decide +kernel
theorem dX3_growDefinite_49 : decode cX3_growDefinite 49 = .ok (.ifCond .eq 8, 3) := by decide +kernel
theorem dX3_growDefinite_52 : decode cX3_growDefinite 52 = .ok (.iload 4, 2) := by decide +kernel
theorem dX3_growDefinite_54 : decode cX3_growDefinite 54 = .ok (.goto 9, 3) := by decide +kernel
theorem dX3_growDefinite_57 : decode cX3_growDefinite 57 = .ok (.aload_n 0, 1) := by decide +kernel
theorem dX3_growDefinite_58 : decode cX3_growDefinite 58 = .ok (.getfield 20, 3) := by decide +kernel
theorem dX3_growDefinite_61 : decode cX3_growDefinite 61 = .ok (.iload_n 3, 1) := by decide +kernel
theorem dX3_growDefinite_62 : decode cX3_growDefinite 62 = .ok (.iaload, 1) := by decide +kernel
theorem dX3_growDefinite_63 : decode cX3_growDefinite 63 = .ok (.iastore, 1) := by decide +kernel
theorem dX3_growDefinite_64 : decode cX3_growDefinite 64 = .ok (.iload 5, 2) := by decide +kernel
theorem dX3_growDefinite_66 : decode cX3_growDefinite 66 = .ok (.ireturn, 1) := by decide +kernel
set_option maxRecDepth 20000 in
theorem ggX3_layDefinite_X3_nodes : GoodIn wsX3_layDefinite wsX3_nodes := goodIn_r _ [8, 2, 28, 29, 30, 31, 32, 33, 34, 35] (by decide +kernel) (by decide +kernel)
set_option maxRecDepth 20000 in
theorem gX3_layDefinite_X3_nodes : GoodIn wsX3_layDefinite (wsV RX3 35 RX3 yX3_nodes wsX3_nodes) := goodIn_app (goodIn_of _ (by decide +kernel)) ggX3_layDefinite_X3_nodes
set_option maxRecDepth 20000 in
theorem ggX3_layDefinite_X3_isInput : GoodIn wsX3_layDefinite wsX3_isInput := goodIn_r _ [12, 2, 28, 29, 30, 31, 32, 33, 34, 35] (by decide +kernel) (by decide +kernel)
set_option maxRecDepth 20000 in
theorem gX3_layDefinite_X3_isInput : GoodIn wsX3_layDefinite (wsV RX3 54 RX3 yX3_isInput wsX3_isInput) := goodIn_app (goodIn_of _ (by decide +kernel)) ggX3_layDefinite_X3_isInput
set_option maxRecDepth 20000 in
theorem ggX3_layDefinite_X3_many : GoodIn wsX3_layDefinite wsX3_many := goodIn_r _ [16, 2, 28, 29, 30, 31, 32, 33, 34, 35] (by decide +kernel) (by decide +kernel)
set_option maxRecDepth 20000 in
theorem gX3_layDefinite_X3_many : GoodIn wsX3_layDefinite (wsV RX3 43 RX3 yX3_many wsX3_many) := goodIn_app (goodIn_of _ (by decide +kernel)) ggX3_layDefinite_X3_many
set_option maxRecDepth 20000 in
theorem ggX3_layDefinite_X3_growDefinite : GoodIn wsX3_layDefinite wsX3_growDefinite := goodIn_r _ [20, 1, 21, 22, 23, 7, 24, 2, 25, 26, 27, 9, 10, 11, 12, 28, 29, 30, 31, 32, 33, 34, 35] (by decide +kernel) (by decide +kernel)
set_option maxRecDepth 20000 in
theorem gX3_layDefinite_X3_growDefinite : GoodIn wsX3_layDefinite (wsV RX3 73 RX3 yX3_growDefinite wsX3_growDefinite) := goodIn_app (goodIn_of _ (by decide +kernel)) ggX3_layDefinite_X3_growDefinite
theorem dX3_layDefinite_0 : decode cX3_layDefinite 0 = .ok (.iconst 0, 1) := by decide +kernel
theorem dX3_layDefinite_1 : decode cX3_layDefinite 1 = .ok (.istore_n 1, 1) := by decide +kernel
theorem dX3_layDefinite_2 : decode cX3_layDefinite 2 = .ok (.iload_n 1, 1) := by decide +kernel
theorem dX3_layDefinite_3 : decode cX3_layDefinite 3 = .ok (.aload_n 0, 1) := by decide +kernel
theorem dX3_layDefinite_4 : decode cX3_layDefinite 4 = .ok (.invokevirtual 35, 3) := by decide +kernel
theorem dX3_layDefinite_7 : decode cX3_layDefinite 7 = .ok (.if_icmp .ge 36, 3) := by decide +kernel
theorem dX3_layDefinite_10 : decode cX3_layDefinite 10 = .ok (.aload_n 0, 1) := by decide +kernel
theorem dX3_layDefinite_11 : decode cX3_layDefinite 11 = .ok (.getfield 20, 3) := by decide +kernel
theorem dX3_layDefinite_14 : decode cX3_layDefinite 14 = .ok (.iload_n 1, 1) := by decide +kernel
theorem dX3_layDefinite_15 : decode cX3_layDefinite 15 = .ok (.aload_n 0, 1) := by decide +kernel
theorem dX3_layDefinite_16 : decode cX3_layDefinite 16 = .ok (.iload_n 1, 1) := by decide +kernel
theorem dX3_layDefinite_17 : decode cX3_layDefinite 17 = .ok (.invokevirtual 54, 3) := by decide +kernel
theorem dX3_layDefinite_20 : decode cX3_layDefinite 20 = .ok (.ifCond .eq 8, 3) := by decide +kernel
theorem dX3_layDefinite_23 : decode cX3_layDefinite 23 = .ok (.bipush 7, 2) := by decide +kernel
theorem dX3_layDefinite_25 : decode cX3_layDefinite 25 = .ok (.goto 11, 3) := by decide +kernel
theorem dX3_layDefinite_28 : decode cX3_layDefinite 28 = .ok (.aload_n 0, 1) := by decide +kernel
theorem dX3_layDefinite_29 : decode cX3_layDefinite 29 = .ok (.getfield 7, 3) := by decide +kernel
theorem dX3_layDefinite_32 : decode cX3_layDefinite 32 = .ok (.iconst 2, 1) := by decide +kernel
theorem dX3_layDefinite_33 : decode cX3_layDefinite 33 = .ok (.iload_n 1, 1) := by decide +kernel
theorem dX3_layDefinite_34 : decode cX3_layDefinite 34 = .ok (.iadd, 1) := by decide +kernel
theorem dX3_layDefinite_35 : decode cX3_layDefinite 35 = .ok (.iaload, 1) := by decide +kernel
theorem dX3_layDefinite_36 : decode cX3_layDefinite 36 = .ok (.iastore, 1) := by decide +kernel
theorem dX3_layDefinite_37 : decode cX3_layDefinite 37 = .ok (.iinc 1 1, 3) := by decide +kernel
theorem dX3_layDefinite_40 : decode cX3_layDefinite 40 = .ok (.goto (-38), 3) := by decide +kernel
theorem dX3_layDefinite_43 : decode cX3_layDefinite 43 = .ok (.iconst 1, 1) := by decide +kernel
theorem dX3_layDefinite_44 : decode cX3_layDefinite 44 = .ok (.istore_n 1, 1) := by decide +kernel
theorem dX3_layDefinite_45 : decode cX3_layDefinite 45 = .ok (.iload_n 1, 1) := by decide +kernel
theorem dX3_layDefinite_46 : decode cX3_layDefinite 46 = .ok (.ifCond .eq 110, 3) := by decide +kernel
theorem dX3_layDefinite_49 : decode cX3_layDefinite 49 = .ok (.iconst 0, 1) := by decide +kernel
theorem dX3_layDefinite_50 : decode cX3_layDefinite 50 = .ok (.istore_n 1, 1) := by decide +kernel
theorem dX3_layDefinite_51 : decode cX3_layDefinite 51 = .ok (.iconst 0, 1) := by decide +kernel
theorem dX3_layDefinite_52 : decode cX3_layDefinite 52 = .ok (.istore_n 2, 1) := by decide +kernel
theorem dX3_layDefinite_53 : decode cX3_layDefinite 53 = .ok (.iload_n 2, 1) := by decide +kernel
theorem dX3_layDefinite_54 : decode cX3_layDefinite 54 = .ok (.aload_n 0, 1) := by decide +kernel
theorem dX3_layDefinite_55 : decode cX3_layDefinite 55 = .ok (.invokevirtual 43, 3) := by decide +kernel
theorem dX3_layDefinite_58 : decode cX3_layDefinite 58 = .ok (.if_icmp .ge 95, 3) := by decide +kernel
theorem dX3_layDefinite_61 : decode cX3_layDefinite 61 = .ok (.aload_n 0, 1) := by decide +kernel
theorem dX3_layDefinite_62 : decode cX3_layDefinite 62 = .ok (.getfield 29, 3) := by decide +kernel
theorem dX3_layDefinite_65 : decode cX3_layDefinite 65 = .ok (.iload_n 2, 1) := by decide +kernel
theorem dX3_layDefinite_66 : decode cX3_layDefinite 66 = .ok (.iaload, 1) := by decide +kernel
theorem dX3_layDefinite_67 : decode cX3_layDefinite 67 = .ok (.iconst 1, 1) := by decide +kernel
theorem dX3_layDefinite_68 : decode cX3_layDefinite 68 = .ok (.if_icmp .ne 79, 3) := by decide +kernel
theorem dX3_layDefinite_71 : decode cX3_layDefinite 71 = .ok (.aload_n 0, 1) := by decide +kernel
theorem dX3_layDefinite_72 : decode cX3_layDefinite 72 = .ok (.iload_n 2, 1) := by decide +kernel
theorem dX3_layDefinite_73 : decode cX3_layDefinite 73 = .ok (.aload_n 0, 1) := by decide +kernel
theorem dX3_layDefinite_74 : decode cX3_layDefinite 74 = .ok (.getfield 7, 3) := by decide +kernel
theorem dX3_layDefinite_77 : decode cX3_layDefinite 77 = .ok (.sipush 170, 3) := by decide +kernel
theorem dX3_layDefinite_80 : decode cX3_layDefinite 80 = .ok (.iload_n 2, 1) := by decide +kernel
theorem dX3_layDefinite_81 : decode cX3_layDefinite 81 = .ok (.iadd, 1) := by decide +kernel
theorem dX3_layDefinite_82 : decode cX3_layDefinite 82 = .ok (.iaload, 1) := by decide +kernel
theorem dX3_layDefinite_83 : decode cX3_layDefinite 83 = .ok (.aload_n 0, 1) := by decide +kernel
theorem dX3_layDefinite_84 : decode cX3_layDefinite 84 = .ok (.getfield 7, 3) := by decide +kernel
theorem dX3_layDefinite_87 : decode cX3_layDefinite 87 = .ok (.sipush 210, 3) := by decide +kernel
theorem dX3_layDefinite_90 : decode cX3_layDefinite 90 = .ok (.iload_n 2, 1) := by decide +kernel
theorem dX3_layDefinite_91 : decode cX3_layDefinite 91 = .ok (.iadd, 1) := by decide +kernel
theorem dX3_layDefinite_92 : decode cX3_layDefinite 92 = .ok (.iaload, 1) := by decide +kernel
theorem dX3_layDefinite_93 : decode cX3_layDefinite 93 = .ok (.invokevirtual 73, 3) := by decide +kernel
theorem dX3_layDefinite_96 : decode cX3_layDefinite 96 = .ok (.ifCond .ne 7, 3) := by decide +kernel
theorem dX3_layDefinite_99 : decode cX3_layDefinite 99 = .ok (.iload_n 1, 1) := by decide +kernel
theorem dX3_layDefinite_100 : decode cX3_layDefinite 100 = .ok (.ifCond .eq 7, 3) := by decide +kernel
theorem dX3_layDefinite_103 : decode cX3_layDefinite 103 = .ok (.iconst 1, 1) := by decide +kernel
theorem dX3_layDefinite_104 : decode cX3_layDefinite 104 = .ok (.goto 4, 3) := by decide +kernel
theorem dX3_layDefinite_107 : decode cX3_layDefinite 107 = .ok (.iconst 0, 1) := by decide +kernel
theorem dX3_layDefinite_108 : decode cX3_layDefinite 108 = .ok (.istore_n 1, 1) := by decide +kernel
theorem dX3_layDefinite_109 : decode cX3_layDefinite 109 = .ok (.aload_n 0, 1) := by decide +kernel
theorem dX3_layDefinite_110 : decode cX3_layDefinite 110 = .ok (.iload_n 2, 1) := by decide +kernel
theorem dX3_layDefinite_111 : decode cX3_layDefinite 111 = .ok (.aload_n 0, 1) := by decide +kernel
theorem dX3_layDefinite_112 : decode cX3_layDefinite 112 = .ok (.getfield 7, 3) := by decide +kernel
theorem dX3_layDefinite_115 : decode cX3_layDefinite 115 = .ok (.sipush 210, 3) := by decide +kernel
theorem dX3_layDefinite_118 : decode cX3_layDefinite 118 = .ok (.iload_n 2, 1) := by decide +kernel
theorem dX3_layDefinite_119 : decode cX3_layDefinite 119 = .ok (.iadd, 1) := by decide +kernel
theorem dX3_layDefinite_120 : decode cX3_layDefinite 120 = .ok (.iaload, 1) := by decide +kernel
theorem dX3_layDefinite_121 : decode cX3_layDefinite 121 = .ok (.aload_n 0, 1) := by decide +kernel
theorem dX3_layDefinite_122 : decode cX3_layDefinite 122 = .ok (.getfield 7, 3) := by decide +kernel
theorem dX3_layDefinite_125 : decode cX3_layDefinite 125 = .ok (.sipush 170, 3) := by decide +kernel
theorem dX3_layDefinite_128 : decode cX3_layDefinite 128 = .ok (.iload_n 2, 1) := by decide +kernel
theorem dX3_layDefinite_129 : decode cX3_layDefinite 129 = .ok (.iadd, 1) := by decide +kernel
theorem dX3_layDefinite_130 : decode cX3_layDefinite 130 = .ok (.iaload, 1) := by decide +kernel
theorem dX3_layDefinite_131 : decode cX3_layDefinite 131 = .ok (.invokevirtual 73, 3) := by decide +kernel
theorem dX3_layDefinite_134 : decode cX3_layDefinite 134 = .ok (.ifCond .ne 7, 3) := by decide +kernel
theorem dX3_layDefinite_137 : decode cX3_layDefinite 137 = .ok (.iload_n 1, 1) := by decide +kernel
theorem dX3_layDefinite_138 : decode cX3_layDefinite 138 = .ok (.ifCond .eq 7, 3) := by decide +kernel
theorem dX3_layDefinite_141 : decode cX3_layDefinite 141 = .ok (.iconst 1, 1) := by decide +kernel
theorem dX3_layDefinite_142 : decode cX3_layDefinite 142 = .ok (.goto 4, 3) := by decide +kernel
theorem dX3_layDefinite_145 : decode cX3_layDefinite 145 = .ok (.iconst 0, 1) := by decide +kernel
theorem dX3_layDefinite_146 : decode cX3_layDefinite 146 = .ok (.istore_n 1, 1) := by decide +kernel
theorem dX3_layDefinite_147 : decode cX3_layDefinite 147 = .ok (.iinc 2 1, 3) := by decide +kernel
theorem dX3_layDefinite_150 : decode cX3_layDefinite 150 = .ok (.goto (-97), 3) := by decide +kernel
theorem dX3_layDefinite_153 : decode cX3_layDefinite 153 = .ok (.goto (-108), 3) := by decide +kernel
theorem dX3_layDefinite_156 : decode cX3_layDefinite 156 = .ok (.return_, 1) := by decide +kernel
set_option maxRecDepth 20000 in
theorem ggX3_grow_X3_signal : GoodIn wsX3_grow wsX3_signal := goodIn_r _ [6, 7, 15, 16, 17, 18, 19, 20, 21, 22] (by decide +kernel) (by decide +kernel)
set_option maxRecDepth 20000 in
theorem gX3_grow_X3_signal : GoodIn wsX3_grow (wsV RX3 67 RX3 yX3_signal wsX3_signal) := goodIn_app (goodIn_of _ (by decide +kernel)) ggX3_grow_X3_signal
set_option maxRecDepth 20000 in
theorem ggX3_grow_X3_lesser : GoodIn wsX3_grow wsX3_lesser := goodIn_r _ [10] (by decide +kernel) (by decide +kernel)
set_option maxRecDepth 20000 in
theorem gX3_grow_X3_lesser : GoodIn wsX3_grow (va_wsS RX3 70 yX3_lesser wsX3_lesser) := goodIn_app (goodIn_of _ (by decide +kernel)) ggX3_grow_X3_lesser
set_option maxRecDepth 20000 in
theorem ggX3_grow_X3_isInput : GoodIn wsX3_grow wsX3_isInput := goodIn_r _ [14, 7, 15, 16, 17, 18, 19, 20, 21, 22] (by decide +kernel) (by decide +kernel)
set_option maxRecDepth 20000 in
theorem gX3_grow_X3_isInput : GoodIn wsX3_grow (wsV RX3 54 RX3 yX3_isInput wsX3_isInput) := goodIn_app (goodIn_of _ (by decide +kernel)) ggX3_grow_X3_isInput
theorem dX3_grow_0 : decode cX3_grow 0 = .ok (.aload_n 0, 1) := by decide +kernel
theorem dX3_grow_1 : decode cX3_grow 1 = .ok (.iload_n 2, 1) := by decide +kernel
theorem dX3_grow_2 : decode cX3_grow 2 = .ok (.invokevirtual 67, 3) := by decide +kernel
theorem dX3_grow_5 : decode cX3_grow 5 = .ok (.aload_n 1, 1) := by decide +kernel
theorem dX3_grow_6 : decode cX3_grow 6 = .ok (.iload_n 3, 1) := by decide +kernel
theorem dX3_grow_7 : decode cX3_grow 7 = .ok (.iaload, 1) := by decide +kernel
theorem dX3_grow_8 : decode cX3_grow 8 = .ok (.invokestatic 70, 3) := by decide +kernel
theorem dX3_grow_11 : decode cX3_grow 11 = .ok (.istore 5, 2) := by decide +kernel
theorem dX3_grow_13 : decode cX3_grow 13 = .ok (.aload_n 0, 1) := by decide +kernel
theorem dX3_grow_14 : decode cX3_grow 14 = .ok (.iload 4, 2) := by decide +kernel
theorem dX3_grow_16 : decode cX3_grow 16 = .ok (.invokevirtual 54, 3) := by decide +kernel
theorem dX3_grow_19 : decode cX3_grow 19 = .ok (.ifCond .ne 28, 3) := by decide +kernel
theorem dX3_grow_22 : decode cX3_grow 22 = .ok (.iload 5, 2) := by decide +kernel
theorem dX3_grow_24 : decode cX3_grow 24 = .ok (.aload_n 1, 1) := by decide +kernel
theorem dX3_grow_25 : decode cX3_grow 25 = .ok (.iload 4, 2) := by decide +kernel
theorem dX3_grow_27 : decode cX3_grow 27 = .ok (.iaload, 1) := by decide +kernel
theorem dX3_grow_28 : decode cX3_grow 28 = .ok (.if_icmp .le 19, 3) := by decide +kernel
theorem dX3_grow_31 : decode cX3_grow 31 = .ok (.iload 5, 2) := by decide +kernel
theorem dX3_grow_33 : decode cX3_grow 33 = .ok (.aload_n 0, 1) := by decide +kernel
theorem dX3_grow_34 : decode cX3_grow 34 = .ok (.getfield 20, 3) := by decide +kernel
theorem dX3_grow_37 : decode cX3_grow 37 = .ok (.iload 4, 2) := by decide +kernel
theorem dX3_grow_39 : decode cX3_grow 39 = .ok (.iaload, 1) := by decide +kernel
theorem dX3_grow_40 : decode cX3_grow 40 = .ok (.if_icmp .lt 7, 3) := by decide +kernel
theorem dX3_grow_43 : decode cX3_grow 43 = .ok (.iconst 1, 1) := by decide +kernel
theorem dX3_grow_44 : decode cX3_grow 44 = .ok (.goto 4, 3) := by decide +kernel
theorem dX3_grow_47 : decode cX3_grow 47 = .ok (.iconst 0, 1) := by decide +kernel
theorem dX3_grow_48 : decode cX3_grow 48 = .ok (.istore 6, 2) := by decide +kernel
theorem dX3_grow_50 : decode cX3_grow 50 = .ok (.aload_n 1, 1) := by decide +kernel
theorem dX3_grow_51 : decode cX3_grow 51 = .ok (.iload 4, 2) := by decide +kernel
theorem dX3_grow_53 : decode cX3_grow 53 = .ok (.iload 6, 2) := by decide +kernel
theorem dX3_grow_55 : decode cX3_grow 55 = .ok (.ifCond .eq 8, 3) := by decide +kernel
theorem dX3_grow_58 : decode cX3_grow 58 = .ok (.iload 5, 2) := by decide +kernel
theorem dX3_grow_60 : decode cX3_grow 60 = .ok (.goto 7, 3) := by decide +kernel
theorem dX3_grow_63 : decode cX3_grow 63 = .ok (.aload_n 1, 1) := by decide +kernel
theorem dX3_grow_64 : decode cX3_grow 64 = .ok (.iload 4, 2) := by decide +kernel
theorem dX3_grow_66 : decode cX3_grow 66 = .ok (.iaload, 1) := by decide +kernel
theorem dX3_grow_67 : decode cX3_grow 67 = .ok (.iastore, 1) := by decide +kernel
theorem dX3_grow_68 : decode cX3_grow 68 = .ok (.iload 6, 2) := by decide +kernel
theorem dX3_grow_70 : decode cX3_grow 70 = .ok (.ireturn, 1) := by decide +kernel
set_option maxRecDepth 20000 in
theorem ggX3_layStrength_X3_nodes : GoodIn wsX3_layStrength wsX3_nodes := goodIn_r _ [8, 1, 28, 29, 30, 31, 32, 33, 34, 35] (by decide +kernel) (by decide +kernel)
set_option maxRecDepth 20000 in
theorem gX3_layStrength_X3_nodes : GoodIn wsX3_layStrength (wsV RX3 35 RX3 yX3_nodes wsX3_nodes) := goodIn_app (goodIn_of _ (by decide +kernel)) ggX3_layStrength_X3_nodes
set_option maxRecDepth 20000 in
theorem ggX3_layStrength_X3_isInput : GoodIn wsX3_layStrength wsX3_isInput := goodIn_r _ [12, 1, 28, 29, 30, 31, 32, 33, 34, 35] (by decide +kernel) (by decide +kernel)
set_option maxRecDepth 20000 in
theorem gX3_layStrength_X3_isInput : GoodIn wsX3_layStrength (wsV RX3 54 RX3 yX3_isInput wsX3_isInput) := goodIn_app (goodIn_of _ (by decide +kernel)) ggX3_layStrength_X3_isInput
set_option maxRecDepth 20000 in
theorem ggX3_layStrength_X3_many : GoodIn wsX3_layStrength wsX3_many := goodIn_r _ [16, 1, 28, 29, 30, 31, 32, 33, 34, 35] (by decide +kernel) (by decide +kernel)
set_option maxRecDepth 20000 in
theorem gX3_layStrength_X3_many : GoodIn wsX3_layStrength (wsV RX3 43 RX3 yX3_many wsX3_many) := goodIn_app (goodIn_of _ (by decide +kernel)) ggX3_layStrength_X3_many
set_option maxRecDepth 20000 in
theorem ggX3_layStrength_X3_grow : GoodIn wsX3_layStrength wsX3_grow := goodIn_r _ [20, 2, 21, 22, 23, 7, 24, 1, 25, 26, 27, 9, 10, 11, 12, 28, 29, 30, 31, 32, 33, 34, 35] (by decide +kernel) (by decide +kernel)
set_option maxRecDepth 20000 in
theorem gX3_layStrength_X3_grow : GoodIn wsX3_layStrength (wsV RX3 76 RX3 yX3_grow wsX3_grow) := goodIn_app (goodIn_of _ (by decide +kernel)) ggX3_layStrength_X3_grow
theorem dX3_layStrength_0 : decode cX3_layStrength 0 = .ok (.iconst 0, 1) := by decide +kernel
theorem dX3_layStrength_1 : decode cX3_layStrength 1 = .ok (.istore_n 3, 1) := by decide +kernel
theorem dX3_layStrength_2 : decode cX3_layStrength 2 = .ok (.iload_n 3, 1) := by decide +kernel
theorem dX3_layStrength_3 : decode cX3_layStrength 3 = .ok (.aload_n 0, 1) := by decide +kernel
theorem dX3_layStrength_4 : decode cX3_layStrength 4 = .ok (.invokevirtual 35, 3) := by decide +kernel
theorem dX3_layStrength_7 : decode cX3_layStrength 7 = .ok (.if_icmp .ge 90, 3) := by decide +kernel
theorem dX3_layStrength_10 : decode cX3_layStrength 10 = .ok (.aload_n 0, 1) := by decide +kernel
theorem dX3_layStrength_11 : decode cX3_layStrength 11 = .ok (.getfield 7, 3) := by decide +kernel
theorem dX3_layStrength_14 : decode cX3_layStrength 14 = .ok (.bipush 26, 2) := by decide +kernel
theorem dX3_layStrength_16 : decode cX3_layStrength 16 = .ok (.iload_n 3, 1) := by decide +kernel
theorem dX3_layStrength_17 : decode cX3_layStrength 17 = .ok (.iadd, 1) := by decide +kernel
theorem dX3_layStrength_18 : decode cX3_layStrength 18 = .ok (.iaload, 1) := by decide +kernel
theorem dX3_layStrength_19 : decode cX3_layStrength 19 = .ok (.iload_n 2, 1) := by decide +kernel
theorem dX3_layStrength_20 : decode cX3_layStrength 20 = .ok (.if_icmp .eq 16, 3) := by decide +kernel
theorem dX3_layStrength_23 : decode cX3_layStrength 23 = .ok (.aload_n 0, 1) := by decide +kernel
theorem dX3_layStrength_24 : decode cX3_layStrength 24 = .ok (.getfield 7, 3) := by decide +kernel
theorem dX3_layStrength_27 : decode cX3_layStrength 27 = .ok (.bipush 26, 2) := by decide +kernel
theorem dX3_layStrength_29 : decode cX3_layStrength 29 = .ok (.iload_n 3, 1) := by decide +kernel
theorem dX3_layStrength_30 : decode cX3_layStrength 30 = .ok (.iadd, 1) := by decide +kernel
theorem dX3_layStrength_31 : decode cX3_layStrength 31 = .ok (.iaload, 1) := by decide +kernel
theorem dX3_layStrength_32 : decode cX3_layStrength 32 = .ok (.iconst 2, 1) := by decide +kernel
theorem dX3_layStrength_33 : decode cX3_layStrength 33 = .ok (.if_icmp .ne 7, 3) := by decide +kernel
theorem dX3_layStrength_36 : decode cX3_layStrength 36 = .ok (.iconst 1, 1) := by decide +kernel
theorem dX3_layStrength_37 : decode cX3_layStrength 37 = .ok (.goto 4, 3) := by decide +kernel
theorem dX3_layStrength_40 : decode cX3_layStrength 40 = .ok (.iconst 0, 1) := by decide +kernel
theorem dX3_layStrength_41 : decode cX3_layStrength 41 = .ok (.istore 4, 2) := by decide +kernel
theorem dX3_layStrength_43 : decode cX3_layStrength 43 = .ok (.aload_n 0, 1) := by decide +kernel
theorem dX3_layStrength_44 : decode cX3_layStrength 44 = .ok (.iload_n 3, 1) := by decide +kernel
theorem dX3_layStrength_45 : decode cX3_layStrength 45 = .ok (.invokevirtual 54, 3) := by decide +kernel
theorem dX3_layStrength_48 : decode cX3_layStrength 48 = .ok (.ifCond .eq 8, 3) := by decide +kernel
theorem dX3_layStrength_51 : decode cX3_layStrength 51 = .ok (.bipush 7, 2) := by decide +kernel
theorem dX3_layStrength_53 : decode cX3_layStrength 53 = .ok (.goto 11, 3) := by decide +kernel
theorem dX3_layStrength_56 : decode cX3_layStrength 56 = .ok (.aload_n 0, 1) := by decide +kernel
theorem dX3_layStrength_57 : decode cX3_layStrength 57 = .ok (.getfield 7, 3) := by decide +kernel
theorem dX3_layStrength_60 : decode cX3_layStrength 60 = .ok (.iconst 2, 1) := by decide +kernel
theorem dX3_layStrength_61 : decode cX3_layStrength 61 = .ok (.iload_n 3, 1) := by decide +kernel
theorem dX3_layStrength_62 : decode cX3_layStrength 62 = .ok (.iadd, 1) := by decide +kernel
theorem dX3_layStrength_63 : decode cX3_layStrength 63 = .ok (.iaload, 1) := by decide +kernel
theorem dX3_layStrength_64 : decode cX3_layStrength 64 = .ok (.istore 5, 2) := by decide +kernel
theorem dX3_layStrength_66 : decode cX3_layStrength 66 = .ok (.aload_n 1, 1) := by decide +kernel
theorem dX3_layStrength_67 : decode cX3_layStrength 67 = .ok (.iload_n 3, 1) := by decide +kernel
theorem dX3_layStrength_68 : decode cX3_layStrength 68 = .ok (.iload 4, 2) := by decide +kernel
theorem dX3_layStrength_70 : decode cX3_layStrength 70 = .ok (.ifCond .eq 19, 3) := by decide +kernel
theorem dX3_layStrength_73 : decode cX3_layStrength 73 = .ok (.iload 5, 2) := by decide +kernel
theorem dX3_layStrength_75 : decode cX3_layStrength 75 = .ok (.aload_n 0, 1) := by decide +kernel
theorem dX3_layStrength_76 : decode cX3_layStrength 76 = .ok (.getfield 20, 3) := by decide +kernel
theorem dX3_layStrength_79 : decode cX3_layStrength 79 = .ok (.iload_n 3, 1) := by decide +kernel
theorem dX3_layStrength_80 : decode cX3_layStrength 80 = .ok (.iaload, 1) := by decide +kernel
theorem dX3_layStrength_81 : decode cX3_layStrength 81 = .ok (.if_icmp .lt 8, 3) := by decide +kernel
theorem dX3_layStrength_84 : decode cX3_layStrength 84 = .ok (.iload 5, 2) := by decide +kernel
theorem dX3_layStrength_86 : decode cX3_layStrength 86 = .ok (.goto 4, 3) := by decide +kernel
theorem dX3_layStrength_89 : decode cX3_layStrength 89 = .ok (.iconst 0, 1) := by decide +kernel
theorem dX3_layStrength_90 : decode cX3_layStrength 90 = .ok (.iastore, 1) := by decide +kernel
theorem dX3_layStrength_91 : decode cX3_layStrength 91 = .ok (.iinc 3 1, 3) := by decide +kernel
theorem dX3_layStrength_94 : decode cX3_layStrength 94 = .ok (.goto (-92), 3) := by decide +kernel
theorem dX3_layStrength_97 : decode cX3_layStrength 97 = .ok (.iconst 1, 1) := by decide +kernel
theorem dX3_layStrength_98 : decode cX3_layStrength 98 = .ok (.istore_n 3, 1) := by decide +kernel
theorem dX3_layStrength_99 : decode cX3_layStrength 99 = .ok (.iload_n 3, 1) := by decide +kernel
theorem dX3_layStrength_100 : decode cX3_layStrength 100 = .ok (.ifCond .eq 120, 3) := by decide +kernel
theorem dX3_layStrength_103 : decode cX3_layStrength 103 = .ok (.iconst 0, 1) := by decide +kernel
theorem dX3_layStrength_104 : decode cX3_layStrength 104 = .ok (.istore_n 3, 1) := by decide +kernel
theorem dX3_layStrength_105 : decode cX3_layStrength 105 = .ok (.iconst 0, 1) := by decide +kernel
theorem dX3_layStrength_106 : decode cX3_layStrength 106 = .ok (.istore 4, 2) := by decide +kernel
theorem dX3_layStrength_108 : decode cX3_layStrength 108 = .ok (.iload 4, 2) := by decide +kernel
theorem dX3_layStrength_110 : decode cX3_layStrength 110 = .ok (.aload_n 0, 1) := by decide +kernel
theorem dX3_layStrength_111 : decode cX3_layStrength 111 = .ok (.invokevirtual 43, 3) := by decide +kernel
theorem dX3_layStrength_114 : decode cX3_layStrength 114 = .ok (.if_icmp .ge 103, 3) := by decide +kernel
theorem dX3_layStrength_117 : decode cX3_layStrength 117 = .ok (.aload_n 0, 1) := by decide +kernel
theorem dX3_layStrength_118 : decode cX3_layStrength 118 = .ok (.getfield 29, 3) := by decide +kernel
theorem dX3_layStrength_121 : decode cX3_layStrength 121 = .ok (.iload 4, 2) := by decide +kernel
theorem dX3_layStrength_123 : decode cX3_layStrength 123 = .ok (.iaload, 1) := by decide +kernel
theorem dX3_layStrength_124 : decode cX3_layStrength 124 = .ok (.ifCond .eq 87, 3) := by decide +kernel
theorem dX3_layStrength_127 : decode cX3_layStrength 127 = .ok (.aload_n 0, 1) := by decide +kernel
theorem dX3_layStrength_128 : decode cX3_layStrength 128 = .ok (.aload_n 1, 1) := by decide +kernel
theorem dX3_layStrength_129 : decode cX3_layStrength 129 = .ok (.iload 4, 2) := by decide +kernel
theorem dX3_layStrength_131 : decode cX3_layStrength 131 = .ok (.aload_n 0, 1) := by decide +kernel
theorem dX3_layStrength_132 : decode cX3_layStrength 132 = .ok (.getfield 7, 3) := by decide +kernel
theorem dX3_layStrength_135 : decode cX3_layStrength 135 = .ok (.sipush 170, 3) := by decide +kernel
theorem dX3_layStrength_138 : decode cX3_layStrength 138 = .ok (.iload 4, 2) := by decide +kernel
theorem dX3_layStrength_140 : decode cX3_layStrength 140 = .ok (.iadd, 1) := by decide +kernel
theorem dX3_layStrength_141 : decode cX3_layStrength 141 = .ok (.iaload, 1) := by decide +kernel
theorem dX3_layStrength_142 : decode cX3_layStrength 142 = .ok (.aload_n 0, 1) := by decide +kernel
theorem dX3_layStrength_143 : decode cX3_layStrength 143 = .ok (.getfield 7, 3) := by decide +kernel
theorem dX3_layStrength_146 : decode cX3_layStrength 146 = .ok (.sipush 210, 3) := by decide +kernel
theorem dX3_layStrength_149 : decode cX3_layStrength 149 = .ok (.iload 4, 2) := by decide +kernel
theorem dX3_layStrength_151 : decode cX3_layStrength 151 = .ok (.iadd, 1) := by decide +kernel
theorem dX3_layStrength_152 : decode cX3_layStrength 152 = .ok (.iaload, 1) := by decide +kernel
theorem dX3_layStrength_153 : decode cX3_layStrength 153 = .ok (.invokevirtual 76, 3) := by decide +kernel
theorem dX3_layStrength_156 : decode cX3_layStrength 156 = .ok (.ifCond .ne 7, 3) := by decide +kernel
theorem dX3_layStrength_159 : decode cX3_layStrength 159 = .ok (.iload_n 3, 1) := by decide +kernel
theorem dX3_layStrength_160 : decode cX3_layStrength 160 = .ok (.ifCond .eq 7, 3) := by decide +kernel
theorem dX3_layStrength_163 : decode cX3_layStrength 163 = .ok (.iconst 1, 1) := by decide +kernel
theorem dX3_layStrength_164 : decode cX3_layStrength 164 = .ok (.goto 4, 3) := by decide +kernel
theorem dX3_layStrength_167 : decode cX3_layStrength 167 = .ok (.iconst 0, 1) := by decide +kernel
theorem dX3_layStrength_168 : decode cX3_layStrength 168 = .ok (.istore_n 3, 1) := by decide +kernel
theorem dX3_layStrength_169 : decode cX3_layStrength 169 = .ok (.aload_n 0, 1) := by decide +kernel
theorem dX3_layStrength_170 : decode cX3_layStrength 170 = .ok (.aload_n 1, 1) := by decide +kernel
theorem dX3_layStrength_171 : decode cX3_layStrength 171 = .ok (.iload 4, 2) := by decide +kernel
theorem dX3_layStrength_173 : decode cX3_layStrength 173 = .ok (.aload_n 0, 1) := by decide +kernel
theorem dX3_layStrength_174 : decode cX3_layStrength 174 = .ok (.getfield 7, 3) := by decide +kernel
theorem dX3_layStrength_177 : decode cX3_layStrength 177 = .ok (.sipush 210, 3) := by decide +kernel
theorem dX3_layStrength_180 : decode cX3_layStrength 180 = .ok (.iload 4, 2) := by decide +kernel
theorem dX3_layStrength_182 : decode cX3_layStrength 182 = .ok (.iadd, 1) := by decide +kernel
theorem dX3_layStrength_183 : decode cX3_layStrength 183 = .ok (.iaload, 1) := by decide +kernel
theorem dX3_layStrength_184 : decode cX3_layStrength 184 = .ok (.aload_n 0, 1) := by decide +kernel
theorem dX3_layStrength_185 : decode cX3_layStrength 185 = .ok (.getfield 7, 3) := by decide +kernel
theorem dX3_layStrength_188 : decode cX3_layStrength 188 = .ok (.sipush 170, 3) := by decide +kernel
theorem dX3_layStrength_191 : decode cX3_layStrength 191 = .ok (.iload 4, 2) := by decide +kernel
theorem dX3_layStrength_193 : decode cX3_layStrength 193 = .ok (.iadd, 1) := by decide +kernel
theorem dX3_layStrength_194 : decode cX3_layStrength 194 = .ok (.iaload, 1) := by decide +kernel
theorem dX3_layStrength_195 : decode cX3_layStrength 195 = .ok (.invokevirtual 76, 3) := by decide +kernel
theorem dX3_layStrength_198 : decode cX3_layStrength 198 = .ok (.ifCond .ne 7, 3) := by decide +kernel
theorem dX3_layStrength_201 : decode cX3_layStrength 201 = .ok (.iload_n 3, 1) := by decide +kernel
theorem dX3_layStrength_202 : decode cX3_layStrength 202 = .ok (.ifCond .eq 7, 3) := by decide +kernel
theorem dX3_layStrength_205 : decode cX3_layStrength 205 = .ok (.iconst 1, 1) := by decide +kernel
theorem dX3_layStrength_206 : decode cX3_layStrength 206 = .ok (.goto 4, 3) := by decide +kernel
theorem dX3_layStrength_209 : decode cX3_layStrength 209 = .ok (.iconst 0, 1) := by decide +kernel
theorem dX3_layStrength_210 : decode cX3_layStrength 210 = .ok (.istore_n 3, 1) := by decide +kernel
theorem dX3_layStrength_211 : decode cX3_layStrength 211 = .ok (.iinc 4 1, 3) := by decide +kernel
theorem dX3_layStrength_214 : decode cX3_layStrength 214 = .ok (.goto (-106), 3) := by decide +kernel
theorem dX3_layStrength_217 : decode cX3_layStrength 217 = .ok (.goto (-118), 3) := by decide +kernel
theorem dX3_layStrength_220 : decode cX3_layStrength 220 = .ok (.return_, 1) := by decide +kernel
set_option maxRecDepth 20000 in
theorem ggX3_layAll_X3_many : GoodIn wsX3_layAll wsX3_many := goodIn_r _ [8, 9, 46, 47, 48, 49, 50, 51, 52, 53] (by decide +kernel) (by decide +kernel)
set_option maxRecDepth 20000 in
theorem gX3_layAll_X3_many : GoodIn wsX3_layAll (wsV RX3 43 RX3 yX3_many wsX3_many) := goodIn_app (goodIn_of _ (by decide +kernel)) ggX3_layAll_X3_many
set_option maxRecDepth 20000 in
theorem ggX3_layAll_X3_stateOf : GoodIn wsX3_layAll wsX3_stateOf := goodIn_r _ [13, 9, 46, 47, 48, 49, 50, 51, 52, 53] (by decide +kernel) (by decide +kernel)
set_option maxRecDepth 20000 in
theorem gX3_layAll_X3_stateOf : GoodIn wsX3_layAll (wsV RX3 64 RX3 yX3_stateOf wsX3_stateOf) := goodIn_app (goodIn_of _ (by decide +kernel)) ggX3_layAll_X3_stateOf
set_option maxRecDepth 20000 in
theorem ggX3_layAll_X3_layDefinite : GoodIn wsX3_layAll wsX3_layDefinite := goodIn_r _ [17, 18, 9, 1, 19, 20, 21, 7, 22, 23, 24, 25, 26, 4, 5, 6, 8, 27, 28, 29, 30, 31, 32, 33, 34, 35, 36, 37, 46, 47, 48, 49, 50, 51, 52, 53] (by decide +kernel) (by decide +kernel)
set_option maxRecDepth 20000 in
theorem gX3_layAll_X3_layDefinite : GoodIn wsX3_layAll (wsV RX3 80 RX3 yX3_layDefinite wsX3_layDefinite) := goodIn_app (goodIn_of _ (by decide +kernel)) ggX3_layAll_X3_layDefinite
set_option maxRecDepth 20000 in
theorem ggX3_layAll_X3_layStrength : GoodIn wsX3_layAll wsX3_layStrength := goodIn_r _ [41, 9, 18, 1, 19, 20, 21, 7, 22, 23, 24, 25, 26, 4, 5, 6, 8, 42, 43, 44, 45, 31, 32, 33, 34, 35, 36, 37, 46, 47, 48, 49, 50, 51, 52, 53] (by decide +kernel) (by decide +kernel)
set_option maxRecDepth 20000 in
theorem gX3_layAll_X3_layStrength : GoodIn wsX3_layAll (wsV RX3 83 RX3 yX3_layStrength wsX3_layStrength) := goodIn_app (goodIn_of _ (by decide +kernel)) ggX3_layAll_X3_layStrength
theorem dX3_layAll_0 : decode cX3_layAll 0 = .ok (.iconst 0, 1) := by decide +kernel
theorem dX3_layAll_1 : decode cX3_layAll 1 = .ok (.istore_n 1, 1) := by decide +kernel
theorem dX3_layAll_2 : decode cX3_layAll 2 = .ok (.iload_n 1, 1) := by decide +kernel
theorem dX3_layAll_3 : decode cX3_layAll 3 = .ok (.aload_n 0, 1) := by decide +kernel
theorem dX3_layAll_4 : decode cX3_layAll 4 = .ok (.invokevirtual 43, 3) := by decide +kernel
theorem dX3_layAll_7 : decode cX3_layAll 7 = .ok (.if_icmp .ge 20, 3) := by decide +kernel
theorem dX3_layAll_10 : decode cX3_layAll 10 = .ok (.aload_n 0, 1) := by decide +kernel
theorem dX3_layAll_11 : decode cX3_layAll 11 = .ok (.getfield 29, 3) := by decide +kernel
theorem dX3_layAll_14 : decode cX3_layAll 14 = .ok (.iload_n 1, 1) := by decide +kernel
theorem dX3_layAll_15 : decode cX3_layAll 15 = .ok (.aload_n 0, 1) := by decide +kernel
theorem dX3_layAll_16 : decode cX3_layAll 16 = .ok (.iload_n 1, 1) := by decide +kernel
theorem dX3_layAll_17 : decode cX3_layAll 17 = .ok (.invokevirtual 64, 3) := by decide +kernel
theorem dX3_layAll_20 : decode cX3_layAll 20 = .ok (.iastore, 1) := by decide +kernel
theorem dX3_layAll_21 : decode cX3_layAll 21 = .ok (.iinc 1 1, 3) := by decide +kernel
theorem dX3_layAll_24 : decode cX3_layAll 24 = .ok (.goto (-22), 3) := by decide +kernel
theorem dX3_layAll_27 : decode cX3_layAll 27 = .ok (.aload_n 0, 1) := by decide +kernel
theorem dX3_layAll_28 : decode cX3_layAll 28 = .ok (.invokevirtual 80, 3) := by decide +kernel
theorem dX3_layAll_31 : decode cX3_layAll 31 = .ok (.aload_n 0, 1) := by decide +kernel
theorem dX3_layAll_32 : decode cX3_layAll 32 = .ok (.aload_n 0, 1) := by decide +kernel
theorem dX3_layAll_33 : decode cX3_layAll 33 = .ok (.getfield 23, 3) := by decide +kernel
theorem dX3_layAll_36 : decode cX3_layAll 36 = .ok (.iconst 1, 1) := by decide +kernel
theorem dX3_layAll_37 : decode cX3_layAll 37 = .ok (.invokevirtual 83, 3) := by decide +kernel
theorem dX3_layAll_40 : decode cX3_layAll 40 = .ok (.aload_n 0, 1) := by decide +kernel
theorem dX3_layAll_41 : decode cX3_layAll 41 = .ok (.aload_n 0, 1) := by decide +kernel
theorem dX3_layAll_42 : decode cX3_layAll 42 = .ok (.getfield 26, 3) := by decide +kernel
theorem dX3_layAll_45 : decode cX3_layAll 45 = .ok (.iconst 0, 1) := by decide +kernel
theorem dX3_layAll_46 : decode cX3_layAll 46 = .ok (.invokevirtual 83, 3) := by decide +kernel
theorem dX3_layAll_49 : decode cX3_layAll 49 = .ok (.return_, 1) := by decide +kernel
set_option maxRecDepth 20000 in
theorem ggX3_definiteStrength_X3_isNode : GoodIn wsX3_definiteStrength wsX3_isNode := goodIn_r _ [6, 7, 8, 9, 5, 10, 11, 12, 13, 14, 57, 58, 59, 60, 61, 62, 63, 64] (by decide +kernel) (by decide +kernel)
set_option maxRecDepth 20000 in
theorem gX3_definiteStrength_X3_isNode : GoodIn wsX3_definiteStrength (wsV RX3 50 RX3 yX3_isNode wsX3_isNode) := goodIn_app (goodIn_of _ (by decide +kernel)) ggX3_definiteStrength_X3_isNode
set_option maxRecDepth 20000 in
theorem ggX3_definiteStrength_X3_layAll : GoodIn wsX3_definiteStrength wsX3_layAll := goodIn_r _ [18, 19, 20, 21, 22, 23, 24, 5, 25, 11, 26, 27, 28, 29, 30, 31, 32, 33, 1, 7, 8, 9, 10, 34, 35, 36, 37, 38, 39, 40, 41, 42, 43, 44, 45, 46, 47, 48, 49, 50, 51, 52, 53, 54, 55, 56, 57, 58, 59, 60, 61, 62, 63, 64] (by decide +kernel) (by decide +kernel)
set_option maxRecDepth 20000 in
theorem gX3_definiteStrength_X3_layAll : GoodIn wsX3_definiteStrength (wsV RX3 87 RX3 yX3_layAll wsX3_layAll) := goodIn_app (goodIn_of _ (by decide +kernel)) ggX3_definiteStrength_X3_layAll
theorem dX3_definiteStrength_0 : decode cX3_definiteStrength 0 = .ok (.aload_n 0, 1) := by decide +kernel
theorem dX3_definiteStrength_1 : decode cX3_definiteStrength 1 = .ok (.iload_n 1, 1) := by decide +kernel
theorem dX3_definiteStrength_2 : decode cX3_definiteStrength 2 = .ok (.invokevirtual 50, 3) := by decide +kernel
theorem dX3_definiteStrength_5 : decode cX3_definiteStrength 5 = .ok (.ifCond .ne 5, 3) := by decide +kernel
theorem dX3_definiteStrength_8 : decode cX3_definiteStrength 8 = .ok (.iconst (-1), 1) := by decide +kernel
theorem dX3_definiteStrength_9 : decode cX3_definiteStrength 9 = .ok (.ireturn, 1) := by decide +kernel
theorem dX3_definiteStrength_10 : decode cX3_definiteStrength 10 = .ok (.aload_n 0, 1) := by decide +kernel
theorem dX3_definiteStrength_11 : decode cX3_definiteStrength 11 = .ok (.invokevirtual 87, 3) := by decide +kernel
theorem dX3_definiteStrength_14 : decode cX3_definiteStrength 14 = .ok (.aload_n 0, 1) := by decide +kernel
theorem dX3_definiteStrength_15 : decode cX3_definiteStrength 15 = .ok (.getfield 20, 3) := by decide +kernel
theorem dX3_definiteStrength_18 : decode cX3_definiteStrength 18 = .ok (.iload_n 1, 1) := by decide +kernel
theorem dX3_definiteStrength_19 : decode cX3_definiteStrength 19 = .ok (.iaload, 1) := by decide +kernel
theorem dX3_definiteStrength_20 : decode cX3_definiteStrength 20 = .ok (.ireturn, 1) := by decide +kernel
set_option maxRecDepth 20000 in
theorem ggX3_upStrength_X3_isNode : GoodIn wsX3_upStrength wsX3_isNode := goodIn_r _ [6, 7, 8, 9, 5, 10, 11, 12, 13, 14, 57, 58, 59, 60, 61, 62, 63, 64] (by decide +kernel) (by decide +kernel)
set_option maxRecDepth 20000 in
theorem gX3_upStrength_X3_isNode : GoodIn wsX3_upStrength (wsV RX3 50 RX3 yX3_isNode wsX3_isNode) := goodIn_app (goodIn_of _ (by decide +kernel)) ggX3_upStrength_X3_isNode
set_option maxRecDepth 20000 in
theorem ggX3_upStrength_X3_layAll : GoodIn wsX3_upStrength wsX3_layAll := goodIn_r _ [18, 19, 1, 20, 21, 22, 23, 5, 24, 11, 25, 26, 27, 28, 29, 30, 31, 32, 33, 7, 8, 9, 10, 34, 35, 36, 37, 38, 39, 40, 41, 42, 43, 44, 45, 46, 47, 48, 49, 50, 51, 52, 53, 54, 55, 56, 57, 58, 59, 60, 61, 62, 63, 64] (by decide +kernel) (by decide +kernel)
set_option maxRecDepth 20000 in
theorem gX3_upStrength_X3_layAll : GoodIn wsX3_upStrength (wsV RX3 87 RX3 yX3_layAll wsX3_layAll) := goodIn_app (goodIn_of _ (by decide +kernel)) ggX3_upStrength_X3_layAll
theorem dX3_upStrength_0 : decode cX3_upStrength 0 = .ok (.aload_n 0, 1) := by decide +kernel
theorem dX3_upStrength_1 : decode cX3_upStrength 1 = .ok (.iload_n 1, 1) := by decide +kernel
theorem dX3_upStrength_2 : decode cX3_upStrength 2 = .ok (.invokevirtual 50, 3) := by decide +kernel
theorem dX3_upStrength_5 : decode cX3_upStrength 5 = .ok (.ifCond .ne 5, 3) := by decide +kernel
theorem dX3_upStrength_8 : decode cX3_upStrength 8 = .ok (.iconst (-1), 1) := by decide +kernel
theorem dX3_upStrength_9 : decode cX3_upStrength 9 = .ok (.ireturn, 1) := by decide +kernel
theorem dX3_upStrength_10 : decode cX3_upStrength 10 = .ok (.aload_n 0, 1) := by decide +kernel
theorem dX3_upStrength_11 : decode cX3_upStrength 11 = .ok (.invokevirtual 87, 3) := by decide +kernel
theorem dX3_upStrength_14 : decode cX3_upStrength 14 = .ok (.aload_n 0, 1) := by decide +kernel
theorem dX3_upStrength_15 : decode cX3_upStrength 15 = .ok (.getfield 23, 3) := by decide +kernel
theorem dX3_upStrength_18 : decode cX3_upStrength 18 = .ok (.iload_n 1, 1) := by decide +kernel
theorem dX3_upStrength_19 : decode cX3_upStrength 19 = .ok (.iaload, 1) := by decide +kernel
theorem dX3_upStrength_20 : decode cX3_upStrength 20 = .ok (.ireturn, 1) := by decide +kernel
set_option maxRecDepth 20000 in
theorem ggX3_downStrength_X3_isNode : GoodIn wsX3_downStrength wsX3_isNode := goodIn_r _ [6, 7, 8, 9, 5, 10, 11, 12, 13, 14, 57, 58, 59, 60, 61, 62, 63, 64] (by decide +kernel) (by decide +kernel)
set_option maxRecDepth 20000 in
theorem gX3_downStrength_X3_isNode : GoodIn wsX3_downStrength (wsV RX3 50 RX3 yX3_isNode wsX3_isNode) := goodIn_app (goodIn_of _ (by decide +kernel)) ggX3_downStrength_X3_isNode
set_option maxRecDepth 20000 in
theorem ggX3_downStrength_X3_layAll : GoodIn wsX3_downStrength wsX3_layAll := goodIn_r _ [18, 19, 20, 1, 21, 22, 23, 5, 24, 11, 25, 26, 27, 28, 29, 30, 31, 32, 33, 7, 8, 9, 10, 34, 35, 36, 37, 38, 39, 40, 41, 42, 43, 44, 45, 46, 47, 48, 49, 50, 51, 52, 53, 54, 55, 56, 57, 58, 59, 60, 61, 62, 63, 64] (by decide +kernel) (by decide +kernel)
set_option maxRecDepth 20000 in
theorem gX3_downStrength_X3_layAll : GoodIn wsX3_downStrength (wsV RX3 87 RX3 yX3_layAll wsX3_layAll) := goodIn_app (goodIn_of _ (by decide +kernel)) ggX3_downStrength_X3_layAll
theorem dX3_downStrength_0 : decode cX3_downStrength 0 = .ok (.aload_n 0, 1) := by decide +kernel
theorem dX3_downStrength_1 : decode cX3_downStrength 1 = .ok (.iload_n 1, 1) := by decide +kernel
theorem dX3_downStrength_2 : decode cX3_downStrength 2 = .ok (.invokevirtual 50, 3) := by decide +kernel
theorem dX3_downStrength_5 : decode cX3_downStrength 5 = .ok (.ifCond .ne 5, 3) := by decide +kernel
theorem dX3_downStrength_8 : decode cX3_downStrength 8 = .ok (.iconst (-1), 1) := by decide +kernel
theorem dX3_downStrength_9 : decode cX3_downStrength 9 = .ok (.ireturn, 1) := by decide +kernel
theorem dX3_downStrength_10 : decode cX3_downStrength 10 = .ok (.aload_n 0, 1) := by decide +kernel
theorem dX3_downStrength_11 : decode cX3_downStrength 11 = .ok (.invokevirtual 87, 3) := by decide +kernel
theorem dX3_downStrength_14 : decode cX3_downStrength 14 = .ok (.aload_n 0, 1) := by decide +kernel
theorem dX3_downStrength_15 : decode cX3_downStrength 15 = .ok (.getfield 26, 3) := by decide +kernel
theorem dX3_downStrength_18 : decode cX3_downStrength 18 = .ok (.iload_n 1, 1) := by decide +kernel
theorem dX3_downStrength_19 : decode cX3_downStrength 19 = .ok (.iaload, 1) := by decide +kernel
theorem dX3_downStrength_20 : decode cX3_downStrength 20 = .ok (.ireturn, 1) := by decide +kernel
set_option maxRecDepth 20000 in
theorem ggX3_steady_X3_isInput : GoodIn wsX3_steady wsX3_isInput := goodIn_r _ [8, 1, 9, 10, 11, 12, 13, 14, 15, 16] (by decide +kernel) (by decide +kernel)
set_option maxRecDepth 20000 in
theorem gX3_steady_X3_isInput : GoodIn wsX3_steady (wsV RX3 54 RX3 yX3_isInput wsX3_isInput) := goodIn_app (goodIn_of _ (by decide +kernel)) ggX3_steady_X3_isInput
theorem dX3_steady_0 : decode cX3_steady 0 = .ok (.aload_n 0, 1) := by decide +kernel
theorem dX3_steady_1 : decode cX3_steady 1 = .ok (.iload_n 1, 1) := by decide +kernel
theorem dX3_steady_2 : decode cX3_steady 2 = .ok (.invokevirtual 54, 3) := by decide +kernel
theorem dX3_steady_5 : decode cX3_steady 5 = .ok (.ifCond .eq 15, 3) := by decide +kernel
theorem dX3_steady_8 : decode cX3_steady 8 = .ok (.aload_n 0, 1) := by decide +kernel
theorem dX3_steady_9 : decode cX3_steady 9 = .ok (.getfield 7, 3) := by decide +kernel
theorem dX3_steady_12 : decode cX3_steady 12 = .ok (.bipush 26, 2) := by decide +kernel
theorem dX3_steady_14 : decode cX3_steady 14 = .ok (.iload_n 1, 1) := by decide +kernel
theorem dX3_steady_15 : decode cX3_steady 15 = .ok (.iadd, 1) := by decide +kernel
theorem dX3_steady_16 : decode cX3_steady 16 = .ok (.iaload, 1) := by decide +kernel
theorem dX3_steady_17 : decode cX3_steady 17 = .ok (.goto 30, 3) := by decide +kernel
theorem dX3_steady_20 : decode cX3_steady 20 = .ok (.aload_n 0, 1) := by decide +kernel
theorem dX3_steady_21 : decode cX3_steady 21 = .ok (.getfield 26, 3) := by decide +kernel
theorem dX3_steady_24 : decode cX3_steady 24 = .ok (.iload_n 1, 1) := by decide +kernel
theorem dX3_steady_25 : decode cX3_steady 25 = .ok (.iaload, 1) := by decide +kernel
theorem dX3_steady_26 : decode cX3_steady 26 = .ok (.ifCond .ne 7, 3) := by decide +kernel
theorem dX3_steady_29 : decode cX3_steady 29 = .ok (.iconst 1, 1) := by decide +kernel
theorem dX3_steady_30 : decode cX3_steady 30 = .ok (.goto 17, 3) := by decide +kernel
theorem dX3_steady_33 : decode cX3_steady 33 = .ok (.aload_n 0, 1) := by decide +kernel
theorem dX3_steady_34 : decode cX3_steady 34 = .ok (.getfield 23, 3) := by decide +kernel
theorem dX3_steady_37 : decode cX3_steady 37 = .ok (.iload_n 1, 1) := by decide +kernel
theorem dX3_steady_38 : decode cX3_steady 38 = .ok (.iaload, 1) := by decide +kernel
theorem dX3_steady_39 : decode cX3_steady 39 = .ok (.ifCond .ne 7, 3) := by decide +kernel
theorem dX3_steady_42 : decode cX3_steady 42 = .ok (.iconst 0, 1) := by decide +kernel
theorem dX3_steady_43 : decode cX3_steady 43 = .ok (.goto 4, 3) := by decide +kernel
theorem dX3_steady_46 : decode cX3_steady 46 = .ok (.iconst 2, 1) := by decide +kernel
theorem dX3_steady_47 : decode cX3_steady 47 = .ok (.ireturn, 1) := by decide +kernel
set_option maxRecDepth 20000 in
theorem ggX3_steadyValue_X3_isNode : GoodIn wsX3_steadyValue wsX3_isNode := goodIn_r _ [5, 6, 7, 8, 4, 9, 10, 11, 12, 13, 61, 62, 63, 64, 65, 66, 67, 68] (by decide +kernel) (by decide +kernel)
set_option maxRecDepth 20000 in
theorem gX3_steadyValue_X3_isNode : GoodIn wsX3_steadyValue (wsV RX3 50 RX3 yX3_isNode wsX3_isNode) := goodIn_app (goodIn_of _ (by decide +kernel)) ggX3_steadyValue_X3_isNode
set_option maxRecDepth 20000 in
theorem ggX3_steadyValue_X3_layAll : GoodIn wsX3_steadyValue wsX3_layAll := goodIn_r _ [17, 18, 19, 20, 21, 22, 23, 4, 24, 10, 25, 26, 27, 28, 29, 30, 31, 32, 33, 6, 7, 8, 9, 34, 35, 36, 37, 38, 39, 40, 41, 42, 43, 44, 45, 46, 47, 48, 49, 50, 51, 52, 53, 54, 55, 56, 61, 62, 63, 64, 65, 66, 67, 68] (by decide +kernel) (by decide +kernel)
set_option maxRecDepth 20000 in
theorem gX3_steadyValue_X3_layAll : GoodIn wsX3_steadyValue (wsV RX3 87 RX3 yX3_layAll wsX3_layAll) := goodIn_app (goodIn_of _ (by decide +kernel)) ggX3_steadyValue_X3_layAll
set_option maxRecDepth 20000 in
theorem ggX3_steadyValue_X3_steady : GoodIn wsX3_steadyValue wsX3_steady := goodIn_r _ [60, 10, 20, 19, 34, 35, 36, 4, 37, 61, 62, 63, 64, 65, 66, 67, 68] (by decide +kernel) (by decide +kernel)
set_option maxRecDepth 20000 in
theorem gX3_steadyValue_X3_steady : GoodIn wsX3_steadyValue (wsV RX3 90 RX3 yX3_steady wsX3_steady) := goodIn_app (goodIn_of _ (by decide +kernel)) ggX3_steadyValue_X3_steady
theorem dX3_steadyValue_0 : decode cX3_steadyValue 0 = .ok (.aload_n 0, 1) := by decide +kernel
theorem dX3_steadyValue_1 : decode cX3_steadyValue 1 = .ok (.iload_n 1, 1) := by decide +kernel
theorem dX3_steadyValue_2 : decode cX3_steadyValue 2 = .ok (.invokevirtual 50, 3) := by decide +kernel
theorem dX3_steadyValue_5 : decode cX3_steadyValue 5 = .ok (.ifCond .ne 5, 3) := by decide +kernel
theorem dX3_steadyValue_8 : decode cX3_steadyValue 8 = .ok (.iconst (-1), 1) := by decide +kernel
theorem dX3_steadyValue_9 : decode cX3_steadyValue 9 = .ok (.ireturn, 1) := by decide +kernel
theorem dX3_steadyValue_10 : decode cX3_steadyValue 10 = .ok (.aload_n 0, 1) := by decide +kernel
theorem dX3_steadyValue_11 : decode cX3_steadyValue 11 = .ok (.invokevirtual 87, 3) := by decide +kernel
theorem dX3_steadyValue_14 : decode cX3_steadyValue 14 = .ok (.aload_n 0, 1) := by decide +kernel
theorem dX3_steadyValue_15 : decode cX3_steadyValue 15 = .ok (.iload_n 1, 1) := by decide +kernel
theorem dX3_steadyValue_16 : decode cX3_steadyValue 16 = .ok (.invokevirtual 90, 3) := by decide +kernel
theorem dX3_steadyValue_19 : decode cX3_steadyValue 19 = .ok (.ireturn, 1) := by decide +kernel
set_option maxRecDepth 20000 in
theorem ggX3_vicinity_X3_isNode : GoodIn wsX3_vicinity wsX3_isNode := goodIn_r _ [6, 7, 8, 9, 5, 10, 1, 11, 12, 13, 26, 27, 28, 29, 30, 31, 32, 33] (by decide +kernel) (by decide +kernel)
set_option maxRecDepth 20000 in
theorem gX3_vicinity_X3_isNode : GoodIn wsX3_vicinity (wsV RX3 50 RX3 yX3_isNode wsX3_isNode) := goodIn_app (goodIn_of _ (by decide +kernel)) ggX3_vicinity_X3_isNode
set_option maxRecDepth 20000 in
theorem ggX3_vicinity_X3_isInput : GoodIn wsX3_vicinity wsX3_isInput := goodIn_r _ [17, 1, 26, 27, 28, 29, 30, 31, 32, 33] (by decide +kernel) (by decide +kernel)
set_option maxRecDepth 20000 in
theorem gX3_vicinity_X3_isInput : GoodIn wsX3_vicinity (wsV RX3 54 RX3 yX3_isInput wsX3_isInput) := goodIn_app (goodIn_of _ (by decide +kernel)) ggX3_vicinity_X3_isInput
set_option maxRecDepth 20000 in
theorem ggX3_vicinity_X3_many : GoodIn wsX3_vicinity wsX3_many := goodIn_r _ [21, 1, 26, 27, 28, 29, 30, 31, 32, 33] (by decide +kernel) (by decide +kernel)
set_option maxRecDepth 20000 in
theorem gX3_vicinity_X3_many : GoodIn wsX3_vicinity (wsV RX3 43 RX3 yX3_many wsX3_many) := goodIn_app (goodIn_of _ (by decide +kernel)) ggX3_vicinity_X3_many
set_option maxRecDepth 20000 in
theorem ggX3_vicinity_X3_stateOf : GoodIn wsX3_vicinity wsX3_stateOf := goodIn_r _ [25, 1, 26, 27, 28, 29, 30, 31, 32, 33] (by decide +kernel) (by decide +kernel)
set_option maxRecDepth 20000 in
theorem gX3_vicinity_X3_stateOf : GoodIn wsX3_vicinity (wsV RX3 64 RX3 yX3_stateOf wsX3_stateOf) := goodIn_app (goodIn_of _ (by decide +kernel)) ggX3_vicinity_X3_stateOf
theorem dX3_vicinity_0 : decode cX3_vicinity 0 = .ok (.aload_n 0, 1) := by decide +kernel
theorem dX3_vicinity_1 : decode cX3_vicinity 1 = .ok (.iload_n 1, 1) := by decide +kernel
theorem dX3_vicinity_2 : decode cX3_vicinity 2 = .ok (.invokevirtual 50, 3) := by decide +kernel
theorem dX3_vicinity_5 : decode cX3_vicinity 5 = .ok (.ifCond .ne 5, 3) := by decide +kernel
theorem dX3_vicinity_8 : decode cX3_vicinity 8 = .ok (.iconst (-1), 1) := by decide +kernel
theorem dX3_vicinity_9 : decode cX3_vicinity 9 = .ok (.ireturn, 1) := by decide +kernel
theorem dX3_vicinity_10 : decode cX3_vicinity 10 = .ok (.aload_n 0, 1) := by decide +kernel
theorem dX3_vicinity_11 : decode cX3_vicinity 11 = .ok (.iload_n 1, 1) := by decide +kernel
theorem dX3_vicinity_12 : decode cX3_vicinity 12 = .ok (.invokevirtual 54, 3) := by decide +kernel
theorem dX3_vicinity_15 : decode cX3_vicinity 15 = .ok (.ifCond .eq 7, 3) := by decide +kernel
theorem dX3_vicinity_18 : decode cX3_vicinity 18 = .ok (.iconst 0, 1) := by decide +kernel
theorem dX3_vicinity_19 : decode cX3_vicinity 19 = .ok (.goto 6, 3) := by decide +kernel
theorem dX3_vicinity_22 : decode cX3_vicinity 22 = .ok (.iconst 1, 1) := by decide +kernel
theorem dX3_vicinity_23 : decode cX3_vicinity 23 = .ok (.iload_n 1, 1) := by decide +kernel
theorem dX3_vicinity_24 : decode cX3_vicinity 24 = .ok (.ishl, 1) := by decide +kernel
theorem dX3_vicinity_25 : decode cX3_vicinity 25 = .ok (.istore_n 2, 1) := by decide +kernel
theorem dX3_vicinity_26 : decode cX3_vicinity 26 = .ok (.iconst (-1), 1) := by decide +kernel
theorem dX3_vicinity_27 : decode cX3_vicinity 27 = .ok (.istore_n 3, 1) := by decide +kernel
theorem dX3_vicinity_28 : decode cX3_vicinity 28 = .ok (.iload_n 2, 1) := by decide +kernel
theorem dX3_vicinity_29 : decode cX3_vicinity 29 = .ok (.iload_n 3, 1) := by decide +kernel
theorem dX3_vicinity_30 : decode cX3_vicinity 30 = .ok (.if_icmp .eq 120, 3) := by decide +kernel
theorem dX3_vicinity_33 : decode cX3_vicinity 33 = .ok (.iload_n 2, 1) := by decide +kernel
theorem dX3_vicinity_34 : decode cX3_vicinity 34 = .ok (.istore_n 3, 1) := by decide +kernel
theorem dX3_vicinity_35 : decode cX3_vicinity 35 = .ok (.iconst 0, 1) := by decide +kernel
theorem dX3_vicinity_36 : decode cX3_vicinity 36 = .ok (.istore 4, 2) := by decide +kernel
theorem dX3_vicinity_38 : decode cX3_vicinity 38 = .ok (.iload 4, 2) := by decide +kernel
theorem dX3_vicinity_40 : decode cX3_vicinity 40 = .ok (.aload_n 0, 1) := by decide +kernel
theorem dX3_vicinity_41 : decode cX3_vicinity 41 = .ok (.invokevirtual 43, 3) := by decide +kernel
theorem dX3_vicinity_44 : decode cX3_vicinity 44 = .ok (.if_icmp .ge 103, 3) := by decide +kernel
theorem dX3_vicinity_47 : decode cX3_vicinity 47 = .ok (.aload_n 0, 1) := by decide +kernel
theorem dX3_vicinity_48 : decode cX3_vicinity 48 = .ok (.getfield 7, 3) := by decide +kernel
theorem dX3_vicinity_51 : decode cX3_vicinity 51 = .ok (.sipush 170, 3) := by decide +kernel
theorem dX3_vicinity_54 : decode cX3_vicinity 54 = .ok (.iload 4, 2) := by decide +kernel
theorem dX3_vicinity_56 : decode cX3_vicinity 56 = .ok (.iadd, 1) := by decide +kernel
theorem dX3_vicinity_57 : decode cX3_vicinity 57 = .ok (.iaload, 1) := by decide +kernel
theorem dX3_vicinity_58 : decode cX3_vicinity 58 = .ok (.istore 5, 2) := by decide +kernel
theorem dX3_vicinity_60 : decode cX3_vicinity 60 = .ok (.aload_n 0, 1) := by decide +kernel
theorem dX3_vicinity_61 : decode cX3_vicinity 61 = .ok (.getfield 7, 3) := by decide +kernel
theorem dX3_vicinity_64 : decode cX3_vicinity 64 = .ok (.sipush 210, 3) := by decide +kernel
theorem dX3_vicinity_67 : decode cX3_vicinity 67 = .ok (.iload 4, 2) := by decide +kernel
theorem dX3_vicinity_69 : decode cX3_vicinity 69 = .ok (.iadd, 1) := by decide +kernel
theorem dX3_vicinity_70 : decode cX3_vicinity 70 = .ok (.iaload, 1) := by decide +kernel
theorem dX3_vicinity_71 : decode cX3_vicinity 71 = .ok (.istore 6, 2) := by decide +kernel
theorem dX3_vicinity_73 : decode cX3_vicinity 73 = .ok (.aload_n 0, 1) := by decide +kernel
theorem dX3_vicinity_74 : decode cX3_vicinity 74 = .ok (.iload 4, 2) := by decide +kernel
theorem dX3_vicinity_76 : decode cX3_vicinity 76 = .ok (.invokevirtual 64, 3) := by decide +kernel
theorem dX3_vicinity_79 : decode cX3_vicinity 79 = .ok (.ifCond .eq 25, 3) := by decide +kernel
theorem dX3_vicinity_82 : decode cX3_vicinity 82 = .ok (.aload_n 0, 1) := by decide +kernel
theorem dX3_vicinity_83 : decode cX3_vicinity 83 = .ok (.iload 5, 2) := by decide +kernel
theorem dX3_vicinity_85 : decode cX3_vicinity 85 = .ok (.invokevirtual 54, 3) := by decide +kernel
theorem dX3_vicinity_88 : decode cX3_vicinity 88 = .ok (.ifCond .ne 16, 3) := by decide +kernel
theorem dX3_vicinity_91 : decode cX3_vicinity 91 = .ok (.aload_n 0, 1) := by decide +kernel
theorem dX3_vicinity_92 : decode cX3_vicinity 92 = .ok (.iload 6, 2) := by decide +kernel
theorem dX3_vicinity_94 : decode cX3_vicinity 94 = .ok (.invokevirtual 54, 3) := by decide +kernel
theorem dX3_vicinity_97 : decode cX3_vicinity 97 = .ok (.ifCond .ne 7, 3) := by decide +kernel
theorem dX3_vicinity_100 : decode cX3_vicinity 100 = .ok (.iconst 1, 1) := by decide +kernel
theorem dX3_vicinity_101 : decode cX3_vicinity 101 = .ok (.goto 4, 3) := by decide +kernel
theorem dX3_vicinity_104 : decode cX3_vicinity 104 = .ok (.iconst 0, 1) := by decide +kernel
theorem dX3_vicinity_105 : decode cX3_vicinity 105 = .ok (.istore 7, 2) := by decide +kernel
theorem dX3_vicinity_107 : decode cX3_vicinity 107 = .ok (.iload 7, 2) := by decide +kernel
theorem dX3_vicinity_109 : decode cX3_vicinity 109 = .ok (.ifCond .eq 32, 3) := by decide +kernel
theorem dX3_vicinity_112 : decode cX3_vicinity 112 = .ok (.iload_n 2, 1) := by decide +kernel
theorem dX3_vicinity_113 : decode cX3_vicinity 113 = .ok (.iload 5, 2) := by decide +kernel
theorem dX3_vicinity_115 : decode cX3_vicinity 115 = .ok (.ishr, 1) := by decide +kernel
theorem dX3_vicinity_116 : decode cX3_vicinity 116 = .ok (.iconst 1, 1) := by decide +kernel
theorem dX3_vicinity_117 : decode cX3_vicinity 117 = .ok (.iand, 1) := by decide +kernel
theorem dX3_vicinity_118 : decode cX3_vicinity 118 = .ok (.iload_n 2, 1) := by decide +kernel
theorem dX3_vicinity_119 : decode cX3_vicinity 119 = .ok (.iload 6, 2) := by decide +kernel
theorem dX3_vicinity_121 : decode cX3_vicinity 121 = .ok (.ishr, 1) := by decide +kernel
theorem dX3_vicinity_122 : decode cX3_vicinity 122 = .ok (.iconst 1, 1) := by decide +kernel
theorem dX3_vicinity_123 : decode cX3_vicinity 123 = .ok (.iand, 1) := by decide +kernel
theorem dX3_vicinity_124 : decode cX3_vicinity 124 = .ok (.ior, 1) := by decide +kernel
theorem dX3_vicinity_125 : decode cX3_vicinity 125 = .ok (.iconst 1, 1) := by decide +kernel
theorem dX3_vicinity_126 : decode cX3_vicinity 126 = .ok (.if_icmp .ne 15, 3) := by decide +kernel
theorem dX3_vicinity_129 : decode cX3_vicinity 129 = .ok (.iload_n 2, 1) := by decide +kernel
theorem dX3_vicinity_130 : decode cX3_vicinity 130 = .ok (.iconst 1, 1) := by decide +kernel
theorem dX3_vicinity_131 : decode cX3_vicinity 131 = .ok (.iload 5, 2) := by decide +kernel
theorem dX3_vicinity_133 : decode cX3_vicinity 133 = .ok (.ishl, 1) := by decide +kernel
theorem dX3_vicinity_134 : decode cX3_vicinity 134 = .ok (.iconst 1, 1) := by decide +kernel
theorem dX3_vicinity_135 : decode cX3_vicinity 135 = .ok (.iload 6, 2) := by decide +kernel
theorem dX3_vicinity_137 : decode cX3_vicinity 137 = .ok (.ishl, 1) := by decide +kernel
theorem dX3_vicinity_138 : decode cX3_vicinity 138 = .ok (.ior, 1) := by decide +kernel
theorem dX3_vicinity_139 : decode cX3_vicinity 139 = .ok (.ior, 1) := by decide +kernel
theorem dX3_vicinity_140 : decode cX3_vicinity 140 = .ok (.istore_n 2, 1) := by decide +kernel
theorem dX3_vicinity_141 : decode cX3_vicinity 141 = .ok (.iinc 4 1, 3) := by decide +kernel
theorem dX3_vicinity_144 : decode cX3_vicinity 144 = .ok (.goto (-106), 3) := by decide +kernel
theorem dX3_vicinity_147 : decode cX3_vicinity 147 = .ok (.goto (-119), 3) := by decide +kernel
theorem dX3_vicinity_150 : decode cX3_vicinity 150 = .ok (.iload_n 2, 1) := by decide +kernel
theorem dX3_vicinity_151 : decode cX3_vicinity 151 = .ok (.ireturn, 1) := by decide +kernel
set_option maxRecDepth 20000 in
theorem ggX3_activeNow_X3_layAll : GoodIn wsX3_activeNow wsX3_layAll := goodIn_r _ [6, 7, 8, 9, 10, 11, 12, 5, 13, 1, 14, 15, 16, 17, 18, 19, 20, 21, 22, 23, 24, 25, 26, 27, 28, 29, 30, 31, 32, 33, 34, 35, 36, 37, 38, 39, 40, 41, 42, 43, 44, 45, 46, 47, 48, 49, 54, 55, 56, 57, 58, 59, 60, 61] (by decide +kernel) (by decide +kernel)
set_option maxRecDepth 20000 in
theorem gX3_activeNow_X3_layAll : GoodIn wsX3_activeNow (wsV RX3 87 RX3 yX3_layAll wsX3_layAll) := goodIn_app (goodIn_of _ (by decide +kernel)) ggX3_activeNow_X3_layAll
set_option maxRecDepth 20000 in
theorem ggX3_activeNow_X3_nodes : GoodIn wsX3_activeNow wsX3_nodes := goodIn_r _ [26, 1, 54, 55, 56, 57, 58, 59, 60, 61] (by decide +kernel) (by decide +kernel)
set_option maxRecDepth 20000 in
theorem gX3_activeNow_X3_nodes : GoodIn wsX3_activeNow (wsV RX3 35 RX3 yX3_nodes wsX3_nodes) := goodIn_app (goodIn_of _ (by decide +kernel)) ggX3_activeNow_X3_nodes
set_option maxRecDepth 20000 in
theorem ggX3_activeNow_X3_steady : GoodIn wsX3_activeNow wsX3_steady := goodIn_r _ [53, 1, 9, 8, 27, 28, 29, 5, 30, 54, 55, 56, 57, 58, 59, 60, 61] (by decide +kernel) (by decide +kernel)
set_option maxRecDepth 20000 in
theorem gX3_activeNow_X3_steady : GoodIn wsX3_activeNow (wsV RX3 90 RX3 yX3_steady wsX3_steady) := goodIn_app (goodIn_of _ (by decide +kernel)) ggX3_activeNow_X3_steady
theorem dX3_activeNow_0 : decode cX3_activeNow 0 = .ok (.aload_n 0, 1) := by decide +kernel
theorem dX3_activeNow_1 : decode cX3_activeNow 1 = .ok (.invokevirtual 87, 3) := by decide +kernel
theorem dX3_activeNow_4 : decode cX3_activeNow 4 = .ok (.iconst 0, 1) := by decide +kernel
theorem dX3_activeNow_5 : decode cX3_activeNow 5 = .ok (.istore_n 1, 1) := by decide +kernel
theorem dX3_activeNow_6 : decode cX3_activeNow 6 = .ok (.iconst 0, 1) := by decide +kernel
theorem dX3_activeNow_7 : decode cX3_activeNow 7 = .ok (.istore_n 2, 1) := by decide +kernel
theorem dX3_activeNow_8 : decode cX3_activeNow 8 = .ok (.iload_n 2, 1) := by decide +kernel
theorem dX3_activeNow_9 : decode cX3_activeNow 9 = .ok (.aload_n 0, 1) := by decide +kernel
theorem dX3_activeNow_10 : decode cX3_activeNow 10 = .ok (.invokevirtual 35, 3) := by decide +kernel
theorem dX3_activeNow_13 : decode cX3_activeNow 13 = .ok (.if_icmp .ge 36, 3) := by decide +kernel
theorem dX3_activeNow_16 : decode cX3_activeNow 16 = .ok (.iload_n 1, 1) := by decide +kernel
theorem dX3_activeNow_17 : decode cX3_activeNow 17 = .ok (.aload_n 0, 1) := by decide +kernel
theorem dX3_activeNow_18 : decode cX3_activeNow 18 = .ok (.iload_n 2, 1) := by decide +kernel
theorem dX3_activeNow_19 : decode cX3_activeNow 19 = .ok (.invokevirtual 90, 3) := by decide +kernel
theorem dX3_activeNow_22 : decode cX3_activeNow 22 = .ok (.aload_n 0, 1) := by decide +kernel
theorem dX3_activeNow_23 : decode cX3_activeNow 23 = .ok (.getfield 7, 3) := by decide +kernel
theorem dX3_activeNow_26 : decode cX3_activeNow 26 = .ok (.bipush 26, 2) := by decide +kernel
theorem dX3_activeNow_28 : decode cX3_activeNow 28 = .ok (.iload_n 2, 1) := by decide +kernel
theorem dX3_activeNow_29 : decode cX3_activeNow 29 = .ok (.iadd, 1) := by decide +kernel
theorem dX3_activeNow_30 : decode cX3_activeNow 30 = .ok (.iaload, 1) := by decide +kernel
theorem dX3_activeNow_31 : decode cX3_activeNow 31 = .ok (.if_icmp .eq 9, 3) := by decide +kernel
theorem dX3_activeNow_34 : decode cX3_activeNow 34 = .ok (.iconst 1, 1) := by decide +kernel
theorem dX3_activeNow_35 : decode cX3_activeNow 35 = .ok (.iload_n 2, 1) := by decide +kernel
theorem dX3_activeNow_36 : decode cX3_activeNow 36 = .ok (.ishl, 1) := by decide +kernel
theorem dX3_activeNow_37 : decode cX3_activeNow 37 = .ok (.goto 4, 3) := by decide +kernel
theorem dX3_activeNow_40 : decode cX3_activeNow 40 = .ok (.iconst 0, 1) := by decide +kernel
theorem dX3_activeNow_41 : decode cX3_activeNow 41 = .ok (.ior, 1) := by decide +kernel
theorem dX3_activeNow_42 : decode cX3_activeNow 42 = .ok (.istore_n 1, 1) := by decide +kernel
theorem dX3_activeNow_43 : decode cX3_activeNow 43 = .ok (.iinc 2 1, 3) := by decide +kernel
theorem dX3_activeNow_46 : decode cX3_activeNow 46 = .ok (.goto (-38), 3) := by decide +kernel
theorem dX3_activeNow_49 : decode cX3_activeNow 49 = .ok (.iload_n 1, 1) := by decide +kernel
theorem dX3_activeNow_50 : decode cX3_activeNow 50 = .ok (.ireturn, 1) := by decide +kernel
set_option maxRecDepth 20000 in
theorem ggX3_stepNow_X3_activeNow : GoodIn wsX3_stepNow wsX3_activeNow := goodIn_r _ [6, 1, 7, 8, 9, 5, 10, 11, 12, 13, 14, 15, 16, 17, 18, 19, 20, 21, 22, 23, 24, 25, 26, 27, 28, 29, 30, 31, 32, 33, 34, 35, 36, 37, 38, 39, 40, 41, 42, 43, 44, 45, 46, 47, 48, 49, 50, 51, 52, 53, 54, 55, 56, 57, 58, 59, 60, 61, 62, 63, 64, 65] (by decide +kernel) (by decide +kernel)
set_option maxRecDepth 20000 in
theorem gX3_stepNow_X3_activeNow : GoodIn wsX3_stepNow (wsV RX3 93 RX3 yX3_activeNow wsX3_activeNow) := goodIn_app (goodIn_of _ (by decide +kernel)) ggX3_stepNow_X3_activeNow
set_option maxRecDepth 20000 in
theorem ggX3_stepNow_X3_nodes : GoodIn wsX3_stepNow wsX3_nodes := goodIn_r _ [30, 1, 58, 59, 60, 61, 62, 63, 64, 65] (by decide +kernel) (by decide +kernel)
set_option maxRecDepth 20000 in
theorem gX3_stepNow_X3_nodes : GoodIn wsX3_stepNow (wsV RX3 35 RX3 yX3_nodes wsX3_nodes) := goodIn_app (goodIn_of _ (by decide +kernel)) ggX3_stepNow_X3_nodes
set_option maxRecDepth 20000 in
theorem ggX3_stepNow_X3_steady : GoodIn wsX3_stepNow wsX3_steady := goodIn_r _ [57, 1, 13, 12, 31, 32, 33, 5, 34, 58, 59, 60, 61, 62, 63, 64, 65] (by decide +kernel) (by decide +kernel)
set_option maxRecDepth 20000 in
theorem gX3_stepNow_X3_steady : GoodIn wsX3_stepNow (wsV RX3 90 RX3 yX3_steady wsX3_steady) := goodIn_app (goodIn_of _ (by decide +kernel)) ggX3_stepNow_X3_steady
theorem dX3_stepNow_0 : decode cX3_stepNow 0 = .ok (.aload_n 0, 1) := by decide +kernel
theorem dX3_stepNow_1 : decode cX3_stepNow 1 = .ok (.invokevirtual 93, 3) := by decide +kernel
theorem dX3_stepNow_4 : decode cX3_stepNow 4 = .ok (.istore_n 1, 1) := by decide +kernel
theorem dX3_stepNow_5 : decode cX3_stepNow 5 = .ok (.iconst 0, 1) := by decide +kernel
theorem dX3_stepNow_6 : decode cX3_stepNow 6 = .ok (.istore_n 2, 1) := by decide +kernel
theorem dX3_stepNow_7 : decode cX3_stepNow 7 = .ok (.iload_n 2, 1) := by decide +kernel
theorem dX3_stepNow_8 : decode cX3_stepNow 8 = .ok (.aload_n 0, 1) := by decide +kernel
theorem dX3_stepNow_9 : decode cX3_stepNow 9 = .ok (.invokevirtual 35, 3) := by decide +kernel
theorem dX3_stepNow_12 : decode cX3_stepNow 12 = .ok (.if_icmp .ge 23, 3) := by decide +kernel
theorem dX3_stepNow_15 : decode cX3_stepNow 15 = .ok (.aload_n 0, 1) := by decide +kernel
theorem dX3_stepNow_16 : decode cX3_stepNow 16 = .ok (.getfield 7, 3) := by decide +kernel
theorem dX3_stepNow_19 : decode cX3_stepNow 19 = .ok (.bipush 26, 2) := by decide +kernel
theorem dX3_stepNow_21 : decode cX3_stepNow 21 = .ok (.iload_n 2, 1) := by decide +kernel
theorem dX3_stepNow_22 : decode cX3_stepNow 22 = .ok (.iadd, 1) := by decide +kernel
theorem dX3_stepNow_23 : decode cX3_stepNow 23 = .ok (.aload_n 0, 1) := by decide +kernel
theorem dX3_stepNow_24 : decode cX3_stepNow 24 = .ok (.iload_n 2, 1) := by decide +kernel
theorem dX3_stepNow_25 : decode cX3_stepNow 25 = .ok (.invokevirtual 90, 3) := by decide +kernel
theorem dX3_stepNow_28 : decode cX3_stepNow 28 = .ok (.iastore, 1) := by decide +kernel
theorem dX3_stepNow_29 : decode cX3_stepNow 29 = .ok (.iinc 2 1, 3) := by decide +kernel
theorem dX3_stepNow_32 : decode cX3_stepNow 32 = .ok (.goto (-25), 3) := by decide +kernel
theorem dX3_stepNow_35 : decode cX3_stepNow 35 = .ok (.iload_n 1, 1) := by decide +kernel
theorem dX3_stepNow_36 : decode cX3_stepNow 36 = .ok (.ireturn, 1) := by decide +kernel
set_option maxRecDepth 20000 in
theorem ggX3_step_X3_stepNow : GoodIn wsX3_step wsX3_stepNow := goodIn_r _ [5, 6, 7, 8, 9, 4, 10, 11, 12, 13, 14, 15, 16, 17, 18, 19, 20, 21, 22, 23, 24, 25, 26, 27, 28, 29, 30, 31, 32, 33, 34, 35, 36, 37, 38, 39, 40, 41, 42, 43, 44, 45, 46, 47, 48, 49, 50, 51, 52, 53, 54, 55, 56, 57, 58, 59, 60, 61, 62, 63, 64, 65, 66, 67, 68, 69] (by decide +kernel) (by decide +kernel)
set_option maxRecDepth 20000 in
theorem gX3_step_X3_stepNow : GoodIn wsX3_step (wsV RX3 96 RX3 yX3_stepNow wsX3_stepNow) := goodIn_app (goodIn_of _ (by decide +kernel)) ggX3_step_X3_stepNow
theorem dX3_step_0 : decode cX3_step 0 = .ok (.aload_n 0, 1) := by decide +kernel
theorem dX3_step_1 : decode cX3_step 1 = .ok (.invokevirtual 96, 3) := by decide +kernel
theorem dX3_step_4 : decode cX3_step 4 = .ok (.ireturn, 1) := by decide +kernel
set_option maxRecDepth 20000 in
theorem ggX3_isLimit_X3_in : GoodIn wsX3_isLimit wsX3_in := goodIn_r _ [4] (by decide +kernel) (by decide +kernel)
set_option maxRecDepth 20000 in
theorem gX3_isLimit_X3_in : GoodIn wsX3_isLimit (va_wsS RX3 39 yX3_in wsX3_in) := goodIn_app (goodIn_of _ (by decide +kernel)) ggX3_isLimit_X3_in
theorem dX3_isLimit_0 : decode cX3_isLimit 0 = .ok (.iload_n 0, 1) := by decide +kernel
theorem dX3_isLimit_1 : decode cX3_isLimit 1 = .ok (.iconst 1, 1) := by decide +kernel
theorem dX3_isLimit_2 : decode cX3_isLimit 2 = .ok (.bipush 100, 2) := by decide +kernel
theorem dX3_isLimit_4 : decode cX3_isLimit 4 = .ok (.invokestatic 39, 3) := by decide +kernel
theorem dX3_isLimit_7 : decode cX3_isLimit 7 = .ok (.ireturn, 1) := by decide +kernel
set_option maxRecDepth 20000 in
theorem ggX3_settleNow_X3_stepNow : GoodIn wsX3_settleNow wsX3_stepNow := goodIn_r _ [5, 6, 7, 8, 9, 4, 10, 11, 12, 13, 14, 15, 16, 17, 18, 19, 20, 21, 22, 23, 24, 25, 26, 27, 28, 29, 30, 31, 32, 33, 34, 35, 36, 37, 38, 39, 40, 41, 42, 43, 44, 45, 46, 47, 48, 49, 50, 51, 52, 53, 54, 55, 56, 57, 58, 59, 60, 61, 62, 63, 64, 65, 66, 67, 68, 69] (by decide +kernel) (by decide +kernel)
set_option maxRecDepth 20000 in
theorem gX3_settleNow_X3_stepNow : GoodIn wsX3_settleNow (wsV RX3 96 RX3 yX3_stepNow wsX3_stepNow) := goodIn_app (goodIn_of _ (by decide +kernel)) ggX3_settleNow_X3_stepNow
set_option maxRecDepth 20000 in
theorem ggX3_settleNow_X3_activeNow : GoodIn wsX3_settleNow wsX3_activeNow := goodIn_r _ [10, 6, 11, 12, 13, 4, 14, 15, 16, 17, 18, 19, 20, 21, 22, 23, 24, 25, 26, 27, 28, 29, 30, 31, 32, 33, 34, 35, 36, 37, 38, 39, 40, 41, 42, 43, 44, 45, 46, 47, 48, 49, 50, 51, 52, 53, 54, 55, 56, 57, 58, 59, 60, 61, 62, 63, 64, 65, 66, 67, 68, 69] (by decide +kernel) (by decide +kernel)
set_option maxRecDepth 20000 in
theorem gX3_settleNow_X3_activeNow : GoodIn wsX3_settleNow (wsV RX3 93 RX3 yX3_activeNow wsX3_activeNow) := goodIn_app (goodIn_of _ (by decide +kernel)) ggX3_settleNow_X3_activeNow
theorem dX3_settleNow_0 : decode cX3_settleNow 0 = .ok (.iconst 0, 1) := by decide +kernel
theorem dX3_settleNow_1 : decode cX3_settleNow 1 = .ok (.istore_n 2, 1) := by decide +kernel
theorem dX3_settleNow_2 : decode cX3_settleNow 2 = .ok (.iload_n 2, 1) := by decide +kernel
theorem dX3_settleNow_3 : decode cX3_settleNow 3 = .ok (.iload_n 1, 1) := by decide +kernel
theorem dX3_settleNow_4 : decode cX3_settleNow 4 = .ok (.if_icmp .ge 18, 3) := by decide +kernel
theorem dX3_settleNow_7 : decode cX3_settleNow 7 = .ok (.aload_n 0, 1) := by decide +kernel
theorem dX3_settleNow_8 : decode cX3_settleNow 8 = .ok (.invokevirtual 96, 3) := by decide +kernel
theorem dX3_settleNow_11 : decode cX3_settleNow 11 = .ok (.ifCond .ne 5, 3) := by decide +kernel
theorem dX3_settleNow_14 : decode cX3_settleNow 14 = .ok (.iload_n 2, 1) := by decide +kernel
theorem dX3_settleNow_15 : decode cX3_settleNow 15 = .ok (.ireturn, 1) := by decide +kernel
theorem dX3_settleNow_16 : decode cX3_settleNow 16 = .ok (.iinc 2 1, 3) := by decide +kernel
theorem dX3_settleNow_19 : decode cX3_settleNow 19 = .ok (.goto (-17), 3) := by decide +kernel
theorem dX3_settleNow_22 : decode cX3_settleNow 22 = .ok (.aload_n 0, 1) := by decide +kernel
theorem dX3_settleNow_23 : decode cX3_settleNow 23 = .ok (.invokevirtual 93, 3) := by decide +kernel
theorem dX3_settleNow_26 : decode cX3_settleNow 26 = .ok (.ifCond .ne 7, 3) := by decide +kernel
theorem dX3_settleNow_29 : decode cX3_settleNow 29 = .ok (.iload_n 1, 1) := by decide +kernel
theorem dX3_settleNow_30 : decode cX3_settleNow 30 = .ok (.goto 5, 3) := by decide +kernel
theorem dX3_settleNow_33 : decode cX3_settleNow 33 = .ok (.bipush (-7), 2) := by decide +kernel
theorem dX3_settleNow_35 : decode cX3_settleNow 35 = .ok (.ireturn, 1) := by decide +kernel
set_option maxRecDepth 20000 in
theorem ggX3_settle_X3_isLimit : GoodIn wsX3_settle wsX3_isLimit := goodIn_r _ [4, 5, 6, 3, 7] (by decide +kernel) (by decide +kernel)
set_option maxRecDepth 20000 in
theorem gX3_settle_X3_isLimit : GoodIn wsX3_settle (va_wsS RX3 99 yX3_isLimit wsX3_isLimit) := goodIn_app (goodIn_of _ (by decide +kernel)) ggX3_settle_X3_isLimit
set_option maxRecDepth 20000 in
theorem ggX3_settle_X3_settleNow : GoodIn wsX3_settle wsX3_settleNow := goodIn_r _ [11, 12, 13, 14, 3, 15, 16, 17, 18, 19, 20, 21, 22, 23, 24, 25, 26, 27, 28, 29, 30, 31, 32, 33, 34, 35, 36, 37, 38, 39, 40, 41, 42, 43, 44, 45, 46, 47, 48, 49, 50, 51, 52, 53, 54, 55, 56, 57, 58, 59, 60, 61, 62, 63, 64, 65, 66, 67, 68, 69, 70, 71, 72, 73, 74, 75, 76, 77, 78, 79] (by decide +kernel) (by decide +kernel)
set_option maxRecDepth 20000 in
theorem gX3_settle_X3_settleNow : GoodIn wsX3_settle (wsV RX3 102 RX3 yX3_settleNow wsX3_settleNow) := goodIn_app (goodIn_of _ (by decide +kernel)) ggX3_settle_X3_settleNow
theorem dX3_settle_0 : decode cX3_settle 0 = .ok (.iload_n 1, 1) := by decide +kernel
theorem dX3_settle_1 : decode cX3_settle 1 = .ok (.invokestatic 99, 3) := by decide +kernel
theorem dX3_settle_4 : decode cX3_settle 4 = .ok (.ifCond .eq 11, 3) := by decide +kernel
theorem dX3_settle_7 : decode cX3_settle 7 = .ok (.aload_n 0, 1) := by decide +kernel
theorem dX3_settle_8 : decode cX3_settle 8 = .ok (.iload_n 1, 1) := by decide +kernel
theorem dX3_settle_9 : decode cX3_settle 9 = .ok (.invokevirtual 102, 3) := by decide +kernel
theorem dX3_settle_12 : decode cX3_settle 12 = .ok (.goto 5, 3) := by decide +kernel
theorem dX3_settle_15 : decode cX3_settle 15 = .ok (.bipush (-3), 2) := by decide +kernel
theorem dX3_settle_17 : decode cX3_settle 17 = .ok (.ireturn, 1) := by decide +kernel
set_option maxRecDepth 20000 in
theorem ggX3_active_X3_activeNow : GoodIn wsX3_active wsX3_activeNow := goodIn_r _ [5, 6, 7, 8, 9, 4, 10, 11, 12, 13, 14, 15, 16, 17, 18, 19, 20, 21, 22, 23, 24, 25, 26, 27, 28, 29, 30, 31, 32, 33, 34, 35, 36, 37, 38, 39, 40, 41, 42, 43, 44, 45, 46, 47, 48, 49, 50, 51, 52, 53, 54, 55, 56, 57, 58, 59, 60, 61, 62, 63, 64, 65] (by decide +kernel) (by decide +kernel)
set_option maxRecDepth 20000 in
theorem gX3_active_X3_activeNow : GoodIn wsX3_active (wsV RX3 93 RX3 yX3_activeNow wsX3_activeNow) := goodIn_app (goodIn_of _ (by decide +kernel)) ggX3_active_X3_activeNow
theorem dX3_active_0 : decode cX3_active 0 = .ok (.aload_n 0, 1) := by decide +kernel
theorem dX3_active_1 : decode cX3_active 1 = .ok (.invokevirtual 93, 3) := by decide +kernel
theorem dX3_active_4 : decode cX3_active 4 = .ok (.ireturn, 1) := by decide +kernel
theorem dX3_keep_0 : decode cX3_keep 0 = .ok (.iconst 0, 1) := by decide +kernel
theorem dX3_keep_1 : decode cX3_keep 1 = .ok (.istore_n 1, 1) := by decide +kernel
theorem dX3_keep_2 : decode cX3_keep 2 = .ok (.iload_n 1, 1) := by decide +kernel
theorem dX3_keep_3 : decode cX3_keep 3 = .ok (.sipush 290, 3) := by decide +kernel
theorem dX3_keep_6 : decode cX3_keep 6 = .ok (.if_icmp .ge 21, 3) := by decide +kernel
theorem dX3_keep_9 : decode cX3_keep 9 = .ok (.aload_n 0, 1) := by decide +kernel
theorem dX3_keep_10 : decode cX3_keep 10 = .ok (.getfield 32, 3) := by decide +kernel
theorem dX3_keep_13 : decode cX3_keep 13 = .ok (.iload_n 1, 1) := by decide +kernel
theorem dX3_keep_14 : decode cX3_keep 14 = .ok (.aload_n 0, 1) := by decide +kernel
theorem dX3_keep_15 : decode cX3_keep 15 = .ok (.getfield 7, 3) := by decide +kernel
theorem dX3_keep_18 : decode cX3_keep 18 = .ok (.iload_n 1, 1) := by decide +kernel
theorem dX3_keep_19 : decode cX3_keep 19 = .ok (.iaload, 1) := by decide +kernel
theorem dX3_keep_20 : decode cX3_keep 20 = .ok (.iastore, 1) := by decide +kernel
theorem dX3_keep_21 : decode cX3_keep 21 = .ok (.iinc 1 1, 3) := by decide +kernel
theorem dX3_keep_24 : decode cX3_keep 24 = .ok (.goto (-22), 3) := by decide +kernel
theorem dX3_keep_27 : decode cX3_keep 27 = .ok (.return_, 1) := by decide +kernel
theorem dX3_putBack_0 : decode cX3_putBack 0 = .ok (.iconst 0, 1) := by decide +kernel
theorem dX3_putBack_1 : decode cX3_putBack 1 = .ok (.istore_n 1, 1) := by decide +kernel
theorem dX3_putBack_2 : decode cX3_putBack 2 = .ok (.iload_n 1, 1) := by decide +kernel
theorem dX3_putBack_3 : decode cX3_putBack 3 = .ok (.sipush 290, 3) := by decide +kernel
theorem dX3_putBack_6 : decode cX3_putBack 6 = .ok (.if_icmp .ge 21, 3) := by decide +kernel
theorem dX3_putBack_9 : decode cX3_putBack 9 = .ok (.aload_n 0, 1) := by decide +kernel
theorem dX3_putBack_10 : decode cX3_putBack 10 = .ok (.getfield 7, 3) := by decide +kernel
theorem dX3_putBack_13 : decode cX3_putBack 13 = .ok (.iload_n 1, 1) := by decide +kernel
theorem dX3_putBack_14 : decode cX3_putBack 14 = .ok (.aload_n 0, 1) := by decide +kernel
theorem dX3_putBack_15 : decode cX3_putBack 15 = .ok (.getfield 32, 3) := by decide +kernel
theorem dX3_putBack_18 : decode cX3_putBack 18 = .ok (.iload_n 1, 1) := by decide +kernel
theorem dX3_putBack_19 : decode cX3_putBack 19 = .ok (.iaload, 1) := by decide +kernel
theorem dX3_putBack_20 : decode cX3_putBack 20 = .ok (.iastore, 1) := by decide +kernel
theorem dX3_putBack_21 : decode cX3_putBack 21 = .ok (.iinc 1 1, 3) := by decide +kernel
theorem dX3_putBack_24 : decode cX3_putBack 24 = .ok (.goto (-22), 3) := by decide +kernel
theorem dX3_putBack_27 : decode cX3_putBack 27 = .ok (.return_, 1) := by decide +kernel
set_option maxRecDepth 20000 in
theorem ggX3_period_X3_isLimit : GoodIn wsX3_period wsX3_isLimit := goodIn_r _ [6, 7, 8, 5, 9] (by decide +kernel) (by decide +kernel)
set_option maxRecDepth 20000 in
theorem gX3_period_X3_isLimit : GoodIn wsX3_period (va_wsS RX3 99 yX3_isLimit wsX3_isLimit) := goodIn_app (goodIn_of _ (by decide +kernel)) ggX3_period_X3_isLimit
set_option maxRecDepth 20000 in
theorem ggX3_period_X3_keep : GoodIn wsX3_period wsX3_keep := goodIn_r _ [13, 2, 1, 77, 78, 79, 80, 81, 82, 83, 84] (by decide +kernel) (by decide +kernel)
set_option maxRecDepth 20000 in
theorem gX3_period_X3_keep : GoodIn wsX3_period (wsV RX3 105 RX3 yX3_keep wsX3_keep) := goodIn_app (goodIn_of _ (by decide +kernel)) ggX3_period_X3_keep
set_option maxRecDepth 20000 in
theorem ggX3_period_X3_stepNow : GoodIn wsX3_period wsX3_stepNow := goodIn_r _ [17, 1, 18, 19, 20, 5, 21, 22, 23, 24, 25, 26, 27, 28, 29, 30, 31, 32, 33, 34, 35, 36, 37, 38, 39, 40, 41, 42, 43, 44, 45, 46, 47, 48, 49, 50, 51, 52, 53, 54, 55, 56, 57, 58, 59, 60, 61, 62, 63, 64, 65, 66, 67, 68, 69, 70, 71, 72, 77, 78, 79, 80, 81, 82, 83, 84] (by decide +kernel) (by decide +kernel)
set_option maxRecDepth 20000 in
theorem gX3_period_X3_stepNow : GoodIn wsX3_period (wsV RX3 96 RX3 yX3_stepNow wsX3_stepNow) := goodIn_app (goodIn_of _ (by decide +kernel)) ggX3_period_X3_stepNow
set_option maxRecDepth 20000 in
theorem ggX3_period_X3_nodes : GoodIn wsX3_period wsX3_nodes := goodIn_r _ [45, 1, 77, 78, 79, 80, 81, 82, 83, 84] (by decide +kernel) (by decide +kernel)
set_option maxRecDepth 20000 in
theorem gX3_period_X3_nodes : GoodIn wsX3_period (wsV RX3 35 RX3 yX3_nodes wsX3_nodes) := goodIn_app (goodIn_of _ (by decide +kernel)) ggX3_period_X3_nodes
set_option maxRecDepth 20000 in
theorem ggX3_period_X3_putBack : GoodIn wsX3_period wsX3_putBack := goodIn_r _ [76, 1, 2, 77, 78, 79, 80, 81, 82, 83, 84] (by decide +kernel) (by decide +kernel)
set_option maxRecDepth 20000 in
theorem gX3_period_X3_putBack : GoodIn wsX3_period (wsV RX3 108 RX3 yX3_putBack wsX3_putBack) := goodIn_app (goodIn_of _ (by decide +kernel)) ggX3_period_X3_putBack
theorem dX3_period_0 : decode cX3_period 0 = .ok (.iload_n 1, 1) := by decide +kernel
theorem dX3_period_1 : decode cX3_period 1 = .ok (.invokestatic 99, 3) := by decide +kernel
theorem dX3_period_4 : decode cX3_period 4 = .ok (.ifCond .ne 6, 3) := by decide +kernel
theorem dX3_period_7 : decode cX3_period 7 = .ok (.bipush (-3), 2) := by decide +kernel
theorem dX3_period_9 : decode cX3_period 9 = .ok (.ireturn, 1) := by decide +kernel
theorem dX3_period_10 : decode cX3_period 10 = .ok (.aload_n 0, 1) := by decide +kernel
theorem dX3_period_11 : decode cX3_period 11 = .ok (.invokevirtual 105, 3) := by decide +kernel
theorem dX3_period_14 : decode cX3_period 14 = .ok (.bipush (-8), 2) := by decide +kernel
theorem dX3_period_16 : decode cX3_period 16 = .ok (.istore_n 2, 1) := by decide +kernel
theorem dX3_period_17 : decode cX3_period 17 = .ok (.iconst 1, 1) := by decide +kernel
theorem dX3_period_18 : decode cX3_period 18 = .ok (.istore_n 3, 1) := by decide +kernel
theorem dX3_period_19 : decode cX3_period 19 = .ok (.iload_n 3, 1) := by decide +kernel
theorem dX3_period_20 : decode cX3_period 20 = .ok (.iload_n 1, 1) := by decide +kernel
theorem dX3_period_21 : decode cX3_period 21 = .ok (.if_icmp .gt 86, 3) := by decide +kernel
theorem dX3_period_24 : decode cX3_period 24 = .ok (.iload_n 2, 1) := by decide +kernel
theorem dX3_period_25 : decode cX3_period 25 = .ok (.ifCond .ge 82, 3) := by decide +kernel
theorem dX3_period_28 : decode cX3_period 28 = .ok (.aload_n 0, 1) := by decide +kernel
theorem dX3_period_29 : decode cX3_period 29 = .ok (.invokevirtual 96, 3) := by decide +kernel
theorem dX3_period_32 : decode cX3_period 32 = .ok (.pop, 1) := by decide +kernel
theorem dX3_period_33 : decode cX3_period 33 = .ok (.iconst 1, 1) := by decide +kernel
theorem dX3_period_34 : decode cX3_period 34 = .ok (.istore 4, 2) := by decide +kernel
theorem dX3_period_36 : decode cX3_period 36 = .ok (.iconst 0, 1) := by decide +kernel
theorem dX3_period_37 : decode cX3_period 37 = .ok (.istore 5, 2) := by decide +kernel
theorem dX3_period_39 : decode cX3_period 39 = .ok (.iload 5, 2) := by decide +kernel
theorem dX3_period_41 : decode cX3_period 41 = .ok (.aload_n 0, 1) := by decide +kernel
theorem dX3_period_42 : decode cX3_period 42 = .ok (.invokevirtual 35, 3) := by decide +kernel
theorem dX3_period_45 : decode cX3_period 45 = .ok (.if_icmp .ge 44, 3) := by decide +kernel
theorem dX3_period_48 : decode cX3_period 48 = .ok (.iload 4, 2) := by decide +kernel
theorem dX3_period_50 : decode cX3_period 50 = .ok (.ifCond .eq 30, 3) := by decide +kernel
theorem dX3_period_53 : decode cX3_period 53 = .ok (.aload_n 0, 1) := by decide +kernel
theorem dX3_period_54 : decode cX3_period 54 = .ok (.getfield 7, 3) := by decide +kernel
theorem dX3_period_57 : decode cX3_period 57 = .ok (.bipush 26, 2) := by decide +kernel
theorem dX3_period_59 : decode cX3_period 59 = .ok (.iload 5, 2) := by decide +kernel
theorem dX3_period_61 : decode cX3_period 61 = .ok (.iadd, 1) := by decide +kernel
theorem dX3_period_62 : decode cX3_period 62 = .ok (.iaload, 1) := by decide +kernel
theorem dX3_period_63 : decode cX3_period 63 = .ok (.aload_n 0, 1) := by decide +kernel
theorem dX3_period_64 : decode cX3_period 64 = .ok (.getfield 32, 3) := by decide +kernel
theorem dX3_period_67 : decode cX3_period 67 = .ok (.bipush 26, 2) := by decide +kernel
theorem dX3_period_69 : decode cX3_period 69 = .ok (.iload 5, 2) := by decide +kernel
theorem dX3_period_71 : decode cX3_period 71 = .ok (.iadd, 1) := by decide +kernel
theorem dX3_period_72 : decode cX3_period 72 = .ok (.iaload, 1) := by decide +kernel
theorem dX3_period_73 : decode cX3_period 73 = .ok (.if_icmp .ne 7, 3) := by decide +kernel
theorem dX3_period_76 : decode cX3_period 76 = .ok (.iconst 1, 1) := by decide +kernel
theorem dX3_period_77 : decode cX3_period 77 = .ok (.goto 4, 3) := by decide +kernel
theorem dX3_period_80 : decode cX3_period 80 = .ok (.iconst 0, 1) := by decide +kernel
theorem dX3_period_81 : decode cX3_period 81 = .ok (.istore 4, 2) := by decide +kernel
theorem dX3_period_83 : decode cX3_period 83 = .ok (.iinc 5 1, 3) := by decide +kernel
theorem dX3_period_86 : decode cX3_period 86 = .ok (.goto (-47), 3) := by decide +kernel
theorem dX3_period_89 : decode cX3_period 89 = .ok (.iload 4, 2) := by decide +kernel
theorem dX3_period_91 : decode cX3_period 91 = .ok (.ifCond .eq 7, 3) := by decide +kernel
theorem dX3_period_94 : decode cX3_period 94 = .ok (.iload_n 3, 1) := by decide +kernel
theorem dX3_period_95 : decode cX3_period 95 = .ok (.goto 5, 3) := by decide +kernel
theorem dX3_period_98 : decode cX3_period 98 = .ok (.bipush (-8), 2) := by decide +kernel
theorem dX3_period_100 : decode cX3_period 100 = .ok (.istore_n 2, 1) := by decide +kernel
theorem dX3_period_101 : decode cX3_period 101 = .ok (.iinc 3 1, 3) := by decide +kernel
theorem dX3_period_104 : decode cX3_period 104 = .ok (.goto (-85), 3) := by decide +kernel
theorem dX3_period_107 : decode cX3_period 107 = .ok (.aload_n 0, 1) := by decide +kernel
theorem dX3_period_108 : decode cX3_period 108 = .ok (.invokevirtual 108, 3) := by decide +kernel
theorem dX3_period_111 : decode cX3_period 111 = .ok (.iload_n 2, 1) := by decide +kernel
theorem dX3_period_112 : decode cX3_period 112 = .ok (.ireturn, 1) := by decide +kernel
set_option maxRecDepth 20000 in
theorem ggX3_setFault_X3_isTransistor : GoodIn wsX3_setFault wsX3_isTransistor := goodIn_r _ [5, 6, 7, 8, 4, 9, 10, 11, 12, 13, 18, 19, 20, 21, 22, 23, 24, 25] (by decide +kernel) (by decide +kernel)
set_option maxRecDepth 20000 in
theorem gX3_setFault_X3_isTransistor : GoodIn wsX3_setFault (wsV RX3 61 RX3 yX3_isTransistor wsX3_isTransistor) := goodIn_app (goodIn_of _ (by decide +kernel)) ggX3_setFault_X3_isTransistor
set_option maxRecDepth 20000 in
theorem ggX3_setFault_X3_in : GoodIn wsX3_setFault wsX3_in := goodIn_r _ [13] (by decide +kernel) (by decide +kernel)
set_option maxRecDepth 20000 in
theorem gX3_setFault_X3_in : GoodIn wsX3_setFault (va_wsS RX3 39 yX3_in wsX3_in) := goodIn_app (goodIn_of _ (by decide +kernel)) ggX3_setFault_X3_in
set_option maxRecDepth 20000 in
theorem ggX3_setFault_X3_set : GoodIn wsX3_setFault wsX3_set := goodIn_r _ [17, 10, 18, 19, 20, 21, 22, 23, 24, 25] (by decide +kernel) (by decide +kernel)
set_option maxRecDepth 20000 in
theorem gX3_setFault_X3_set : GoodIn wsX3_setFault (wsV RX3 57 RX3 yX3_set wsX3_set) := goodIn_app (goodIn_of _ (by decide +kernel)) ggX3_setFault_X3_set
theorem dX3_setFault_0 : decode cX3_setFault 0 = .ok (.aload_n 0, 1) := by decide +kernel
theorem dX3_setFault_1 : decode cX3_setFault 1 = .ok (.iload_n 1, 1) := by decide +kernel
theorem dX3_setFault_2 : decode cX3_setFault 2 = .ok (.invokevirtual 61, 3) := by decide +kernel
theorem dX3_setFault_5 : decode cX3_setFault 5 = .ok (.ifCond .ne 6, 3) := by decide +kernel
theorem dX3_setFault_8 : decode cX3_setFault 8 = .ok (.bipush (-2), 2) := by decide +kernel
theorem dX3_setFault_10 : decode cX3_setFault 10 = .ok (.ireturn, 1) := by decide +kernel
theorem dX3_setFault_11 : decode cX3_setFault 11 = .ok (.iload_n 2, 1) := by decide +kernel
theorem dX3_setFault_12 : decode cX3_setFault 12 = .ok (.iconst 0, 1) := by decide +kernel
theorem dX3_setFault_13 : decode cX3_setFault 13 = .ok (.iconst 2, 1) := by decide +kernel
theorem dX3_setFault_14 : decode cX3_setFault 14 = .ok (.invokestatic 39, 3) := by decide +kernel
theorem dX3_setFault_17 : decode cX3_setFault 17 = .ok (.ifCond .eq 16, 3) := by decide +kernel
theorem dX3_setFault_20 : decode cX3_setFault 20 = .ok (.aload_n 0, 1) := by decide +kernel
theorem dX3_setFault_21 : decode cX3_setFault 21 = .ok (.sipush 250, 3) := by decide +kernel
theorem dX3_setFault_24 : decode cX3_setFault 24 = .ok (.iload_n 1, 1) := by decide +kernel
theorem dX3_setFault_25 : decode cX3_setFault 25 = .ok (.iadd, 1) := by decide +kernel
theorem dX3_setFault_26 : decode cX3_setFault 26 = .ok (.iload_n 2, 1) := by decide +kernel
theorem dX3_setFault_27 : decode cX3_setFault 27 = .ok (.invokevirtual 57, 3) := by decide +kernel
theorem dX3_setFault_30 : decode cX3_setFault 30 = .ok (.goto 5, 3) := by decide +kernel
theorem dX3_setFault_33 : decode cX3_setFault 33 = .ok (.bipush (-3), 2) := by decide +kernel
theorem dX3_setFault_35 : decode cX3_setFault 35 = .ok (.ireturn, 1) := by decide +kernel
set_option maxRecDepth 20000 in
theorem ggX3_clearFaults_X3_many : GoodIn wsX3_clearFaults wsX3_many := goodIn_r _ [6, 1, 7, 8, 9, 10, 11, 12, 13, 14] (by decide +kernel) (by decide +kernel)
set_option maxRecDepth 20000 in
theorem gX3_clearFaults_X3_many : GoodIn wsX3_clearFaults (wsV RX3 43 RX3 yX3_many wsX3_many) := goodIn_app (goodIn_of _ (by decide +kernel)) ggX3_clearFaults_X3_many
theorem dX3_clearFaults_0 : decode cX3_clearFaults 0 = .ok (.iconst 0, 1) := by decide +kernel
theorem dX3_clearFaults_1 : decode cX3_clearFaults 1 = .ok (.istore_n 1, 1) := by decide +kernel
theorem dX3_clearFaults_2 : decode cX3_clearFaults 2 = .ok (.iconst 0, 1) := by decide +kernel
theorem dX3_clearFaults_3 : decode cX3_clearFaults 3 = .ok (.istore_n 2, 1) := by decide +kernel
theorem dX3_clearFaults_4 : decode cX3_clearFaults 4 = .ok (.iload_n 2, 1) := by decide +kernel
theorem dX3_clearFaults_5 : decode cX3_clearFaults 5 = .ok (.aload_n 0, 1) := by decide +kernel
theorem dX3_clearFaults_6 : decode cX3_clearFaults 6 = .ok (.invokevirtual 43, 3) := by decide +kernel
theorem dX3_clearFaults_9 : decode cX3_clearFaults 9 = .ok (.if_icmp .ge 41, 3) := by decide +kernel
theorem dX3_clearFaults_12 : decode cX3_clearFaults 12 = .ok (.iload_n 1, 1) := by decide +kernel
theorem dX3_clearFaults_13 : decode cX3_clearFaults 13 = .ok (.aload_n 0, 1) := by decide +kernel
theorem dX3_clearFaults_14 : decode cX3_clearFaults 14 = .ok (.getfield 7, 3) := by decide +kernel
theorem dX3_clearFaults_17 : decode cX3_clearFaults 17 = .ok (.sipush 250, 3) := by decide +kernel
theorem dX3_clearFaults_20 : decode cX3_clearFaults 20 = .ok (.iload_n 2, 1) := by decide +kernel
theorem dX3_clearFaults_21 : decode cX3_clearFaults 21 = .ok (.iadd, 1) := by decide +kernel
theorem dX3_clearFaults_22 : decode cX3_clearFaults 22 = .ok (.iaload, 1) := by decide +kernel
theorem dX3_clearFaults_23 : decode cX3_clearFaults 23 = .ok (.ifCond .eq 7, 3) := by decide +kernel
theorem dX3_clearFaults_26 : decode cX3_clearFaults 26 = .ok (.iconst 1, 1) := by decide +kernel
theorem dX3_clearFaults_27 : decode cX3_clearFaults 27 = .ok (.goto 4, 3) := by decide +kernel
theorem dX3_clearFaults_30 : decode cX3_clearFaults 30 = .ok (.iconst 0, 1) := by decide +kernel
theorem dX3_clearFaults_31 : decode cX3_clearFaults 31 = .ok (.iadd, 1) := by decide +kernel
theorem dX3_clearFaults_32 : decode cX3_clearFaults 32 = .ok (.istore_n 1, 1) := by decide +kernel
theorem dX3_clearFaults_33 : decode cX3_clearFaults 33 = .ok (.aload_n 0, 1) := by decide +kernel
theorem dX3_clearFaults_34 : decode cX3_clearFaults 34 = .ok (.getfield 7, 3) := by decide +kernel
theorem dX3_clearFaults_37 : decode cX3_clearFaults 37 = .ok (.sipush 250, 3) := by decide +kernel
theorem dX3_clearFaults_40 : decode cX3_clearFaults 40 = .ok (.iload_n 2, 1) := by decide +kernel
theorem dX3_clearFaults_41 : decode cX3_clearFaults 41 = .ok (.iadd, 1) := by decide +kernel
theorem dX3_clearFaults_42 : decode cX3_clearFaults 42 = .ok (.iconst 0, 1) := by decide +kernel
theorem dX3_clearFaults_43 : decode cX3_clearFaults 43 = .ok (.iastore, 1) := by decide +kernel
theorem dX3_clearFaults_44 : decode cX3_clearFaults 44 = .ok (.iinc 2 1, 3) := by decide +kernel
theorem dX3_clearFaults_47 : decode cX3_clearFaults 47 = .ok (.goto (-43), 3) := by decide +kernel
theorem dX3_clearFaults_50 : decode cX3_clearFaults 50 = .ok (.iload_n 1, 1) := by decide +kernel
theorem dX3_clearFaults_51 : decode cX3_clearFaults 51 = .ok (.ireturn, 1) := by decide +kernel
set_option maxRecDepth 20000 in
theorem ggX3_settledValue_X3_settleNow : GoodIn wsX3_settledValue wsX3_settleNow := goodIn_r _ [6, 7, 8, 9, 5, 10, 1, 11, 12, 13, 14, 15, 16, 17, 18, 19, 20, 21, 22, 23, 24, 25, 26, 27, 28, 29, 30, 31, 32, 33, 34, 35, 36, 37, 38, 39, 40, 41, 42, 43, 44, 45, 46, 47, 48, 49, 50, 51, 52, 53, 54, 55, 56, 57, 58, 59, 60, 61, 62, 63, 64, 65, 71, 72, 73, 74, 75, 76, 77, 78] (by decide +kernel) (by decide +kernel)
set_option maxRecDepth 20000 in
theorem gX3_settledValue_X3_settleNow : GoodIn wsX3_settledValue (wsV RX3 102 RX3 yX3_settleNow wsX3_settleNow) := goodIn_app (goodIn_of _ (by decide +kernel)) ggX3_settledValue_X3_settleNow
set_option maxRecDepth 20000 in
theorem ggX3_settledValue_X3_putBack : GoodIn wsX3_settledValue wsX3_putBack := goodIn_r _ [69, 1, 70, 71, 72, 73, 74, 75, 76, 77, 78] (by decide +kernel) (by decide +kernel)
set_option maxRecDepth 20000 in
theorem gX3_settledValue_X3_putBack : GoodIn wsX3_settledValue (wsV RX3 108 RX3 yX3_putBack wsX3_putBack) := goodIn_app (goodIn_of _ (by decide +kernel)) ggX3_settledValue_X3_putBack
theorem dX3_settledValue_0 : decode cX3_settledValue 0 = .ok (.aload_n 0, 1) := by decide +kernel
theorem dX3_settledValue_1 : decode cX3_settledValue 1 = .ok (.iload_n 2, 1) := by decide +kernel
theorem dX3_settledValue_2 : decode cX3_settledValue 2 = .ok (.invokevirtual 102, 3) := by decide +kernel
theorem dX3_settledValue_5 : decode cX3_settledValue 5 = .ok (.istore_n 3, 1) := by decide +kernel
theorem dX3_settledValue_6 : decode cX3_settledValue 6 = .ok (.iload_n 3, 1) := by decide +kernel
theorem dX3_settledValue_7 : decode cX3_settledValue 7 = .ok (.ifCond .ge 8, 3) := by decide +kernel
theorem dX3_settledValue_10 : decode cX3_settledValue 10 = .ok (.bipush (-8), 2) := by decide +kernel
theorem dX3_settledValue_12 : decode cX3_settledValue 12 = .ok (.goto 12, 3) := by decide +kernel
theorem dX3_settledValue_15 : decode cX3_settledValue 15 = .ok (.aload_n 0, 1) := by decide +kernel
theorem dX3_settledValue_16 : decode cX3_settledValue 16 = .ok (.getfield 7, 3) := by decide +kernel
theorem dX3_settledValue_19 : decode cX3_settledValue 19 = .ok (.bipush 26, 2) := by decide +kernel
theorem dX3_settledValue_21 : decode cX3_settledValue 21 = .ok (.iload_n 1, 1) := by decide +kernel
theorem dX3_settledValue_22 : decode cX3_settledValue 22 = .ok (.iadd, 1) := by decide +kernel
theorem dX3_settledValue_23 : decode cX3_settledValue 23 = .ok (.iaload, 1) := by decide +kernel
theorem dX3_settledValue_24 : decode cX3_settledValue 24 = .ok (.istore 4, 2) := by decide +kernel
theorem dX3_settledValue_26 : decode cX3_settledValue 26 = .ok (.aload_n 0, 1) := by decide +kernel
theorem dX3_settledValue_27 : decode cX3_settledValue 27 = .ok (.invokevirtual 108, 3) := by decide +kernel
theorem dX3_settledValue_30 : decode cX3_settledValue 30 = .ok (.iload 4, 2) := by decide +kernel
theorem dX3_settledValue_32 : decode cX3_settledValue 32 = .ok (.ireturn, 1) := by decide +kernel
set_option maxRecDepth 20000 in
theorem ggX3_isDetected_X3_settledValue : GoodIn wsX3_isDetected wsX3_settledValue := goodIn_r _ [6, 1, 7, 8, 9, 5, 10, 11, 12, 13, 14, 15, 16, 17, 18, 19, 20, 21, 22, 23, 24, 25, 26, 27, 28, 29, 30, 31, 32, 33, 34, 35, 36, 37, 38, 39, 40, 41, 42, 43, 44, 45, 46, 47, 48, 49, 50, 51, 52, 53, 54, 55, 56, 57, 58, 59, 60, 61, 62, 63, 64, 65, 66, 67, 68, 69, 70, 71, 72, 73, 74, 75, 76, 77, 78, 79, 80, 81, 82] (by decide +kernel) (by decide +kernel)
set_option maxRecDepth 20000 in
theorem gX3_isDetected_X3_settledValue : GoodIn wsX3_isDetected (wsV RX3 111 RX3 yX3_settledValue wsX3_settledValue) := goodIn_app (goodIn_of _ (by decide +kernel)) ggX3_isDetected_X3_settledValue
theorem dX3_isDetected_0 : decode cX3_isDetected 0 = .ok (.aload_n 0, 1) := by decide +kernel
theorem dX3_isDetected_1 : decode cX3_isDetected 1 = .ok (.getfield 7, 3) := by decide +kernel
theorem dX3_isDetected_4 : decode cX3_isDetected 4 = .ok (.sipush 250, 3) := by decide +kernel
theorem dX3_isDetected_7 : decode cX3_isDetected 7 = .ok (.iload_n 1, 1) := by decide +kernel
theorem dX3_isDetected_8 : decode cX3_isDetected 8 = .ok (.iadd, 1) := by decide +kernel
theorem dX3_isDetected_9 : decode cX3_isDetected 9 = .ok (.iload_n 2, 1) := by decide +kernel
theorem dX3_isDetected_10 : decode cX3_isDetected 10 = .ok (.iastore, 1) := by decide +kernel
theorem dX3_isDetected_11 : decode cX3_isDetected 11 = .ok (.aload_n 0, 1) := by decide +kernel
theorem dX3_isDetected_12 : decode cX3_isDetected 12 = .ok (.iload_n 3, 1) := by decide +kernel
theorem dX3_isDetected_13 : decode cX3_isDetected 13 = .ok (.iload 4, 2) := by decide +kernel
theorem dX3_isDetected_15 : decode cX3_isDetected 15 = .ok (.invokevirtual 111, 3) := by decide +kernel
theorem dX3_isDetected_18 : decode cX3_isDetected 18 = .ok (.istore 6, 2) := by decide +kernel
theorem dX3_isDetected_20 : decode cX3_isDetected 20 = .ok (.iload 5, 2) := by decide +kernel
theorem dX3_isDetected_22 : decode cX3_isDetected 22 = .ok (.ifCond .ne 9, 3) := by decide +kernel
theorem dX3_isDetected_25 : decode cX3_isDetected 25 = .ok (.iload 6, 2) := by decide +kernel
theorem dX3_isDetected_27 : decode cX3_isDetected 27 = .ok (.iconst 1, 1) := by decide +kernel
theorem dX3_isDetected_28 : decode cX3_isDetected 28 = .ok (.if_icmp .eq 14, 3) := by decide +kernel
theorem dX3_isDetected_31 : decode cX3_isDetected 31 = .ok (.iload 5, 2) := by decide +kernel
theorem dX3_isDetected_33 : decode cX3_isDetected 33 = .ok (.iconst 1, 1) := by decide +kernel
theorem dX3_isDetected_34 : decode cX3_isDetected 34 = .ok (.if_icmp .ne 12, 3) := by decide +kernel
theorem dX3_isDetected_37 : decode cX3_isDetected 37 = .ok (.iload 6, 2) := by decide +kernel
theorem dX3_isDetected_39 : decode cX3_isDetected 39 = .ok (.ifCond .ne 7, 3) := by decide +kernel
theorem dX3_isDetected_42 : decode cX3_isDetected 42 = .ok (.iconst 1, 1) := by decide +kernel
theorem dX3_isDetected_43 : decode cX3_isDetected 43 = .ok (.goto 4, 3) := by decide +kernel
theorem dX3_isDetected_46 : decode cX3_isDetected 46 = .ok (.iconst 0, 1) := by decide +kernel
theorem dX3_isDetected_47 : decode cX3_isDetected 47 = .ok (.ireturn, 1) := by decide +kernel
set_option maxRecDepth 20000 in
theorem ggX3_detects_X3_isTransistor : GoodIn wsX3_detects wsX3_isTransistor := goodIn_r _ [5, 6, 7, 8, 4, 9, 10, 11, 12, 13, 97, 98, 99, 100, 101, 102, 103, 104] (by decide +kernel) (by decide +kernel)
set_option maxRecDepth 20000 in
theorem gX3_detects_X3_isTransistor : GoodIn wsX3_detects (wsV RX3 61 RX3 yX3_isTransistor wsX3_isTransistor) := goodIn_app (goodIn_of _ (by decide +kernel)) ggX3_detects_X3_isTransistor
set_option maxRecDepth 20000 in
theorem ggX3_detects_X3_isNode : GoodIn wsX3_detects wsX3_isNode := goodIn_r _ [17, 18, 19, 20, 4, 21, 10, 11, 12, 13, 97, 98, 99, 100, 101, 102, 103, 104] (by decide +kernel) (by decide +kernel)
set_option maxRecDepth 20000 in
theorem gX3_detects_X3_isNode : GoodIn wsX3_detects (wsV RX3 50 RX3 yX3_isNode wsX3_isNode) := goodIn_app (goodIn_of _ (by decide +kernel)) ggX3_detects_X3_isNode
set_option maxRecDepth 20000 in
theorem ggX3_detects_X3_in : GoodIn wsX3_detects wsX3_in := goodIn_r _ [13] (by decide +kernel) (by decide +kernel)
set_option maxRecDepth 20000 in
theorem gX3_detects_X3_in : GoodIn wsX3_detects (va_wsS RX3 39 yX3_in wsX3_in) := goodIn_app (goodIn_of _ (by decide +kernel)) ggX3_detects_X3_in
set_option maxRecDepth 20000 in
theorem ggX3_detects_X3_isLimit : GoodIn wsX3_detects wsX3_isLimit := goodIn_r _ [24, 11, 12, 4, 13] (by decide +kernel) (by decide +kernel)
set_option maxRecDepth 20000 in
theorem gX3_detects_X3_isLimit : GoodIn wsX3_detects (va_wsS RX3 99 yX3_isLimit wsX3_isLimit) := goodIn_app (goodIn_of _ (by decide +kernel)) ggX3_detects_X3_isLimit
set_option maxRecDepth 20000 in
theorem ggX3_detects_X3_keep : GoodIn wsX3_detects wsX3_keep := goodIn_r _ [28, 29, 10, 97, 98, 99, 100, 101, 102, 103, 104] (by decide +kernel) (by decide +kernel)
set_option maxRecDepth 20000 in
theorem gX3_detects_X3_keep : GoodIn wsX3_detects (wsV RX3 105 RX3 yX3_keep wsX3_keep) := goodIn_app (goodIn_of _ (by decide +kernel)) ggX3_detects_X3_keep
set_option maxRecDepth 20000 in
theorem ggX3_detects_X3_settledValue : GoodIn wsX3_detects wsX3_settledValue := goodIn_r _ [33, 10, 34, 35, 36, 4, 37, 38, 39, 40, 41, 42, 43, 44, 45, 46, 47, 48, 49, 50, 51, 52, 6, 7, 8, 9, 53, 54, 55, 56, 57, 58, 59, 60, 61, 18, 19, 20, 21, 62, 63, 64, 65, 66, 67, 68, 69, 70, 71, 72, 73, 74, 75, 76, 77, 78, 79, 80, 81, 82, 83, 84, 85, 86, 87, 88, 89, 90, 91, 92, 29, 97, 98, 99, 100, 101, 102, 103, 104] (by decide +kernel) (by decide +kernel)
set_option maxRecDepth 20000 in
theorem gX3_detects_X3_settledValue : GoodIn wsX3_detects (wsV RX3 111 RX3 yX3_settledValue wsX3_settledValue) := goodIn_app (goodIn_of _ (by decide +kernel)) ggX3_detects_X3_settledValue
set_option maxRecDepth 20000 in
theorem ggX3_detects_X3_isDetected : GoodIn wsX3_detects wsX3_isDetected := goodIn_r _ [96, 10, 30, 31, 32, 4, 33, 34, 35, 36, 37, 38, 39, 40, 41, 42, 43, 44, 45, 46, 47, 48, 49, 50, 51, 52, 6, 7, 8, 9, 53, 54, 55, 56, 57, 58, 59, 60, 61, 18, 19, 20, 21, 62, 63, 64, 65, 66, 67, 68, 69, 70, 71, 72, 73, 74, 75, 76, 77, 78, 79, 80, 81, 82, 83, 84, 85, 86, 87, 88, 89, 90, 91, 92, 29, 97, 98, 99, 100, 101, 102, 103, 104] (by decide +kernel) (by decide +kernel)
set_option maxRecDepth 20000 in
theorem gX3_detects_X3_isDetected : GoodIn wsX3_detects (wsV RX3 114 RX3 yX3_isDetected wsX3_isDetected) := goodIn_app (goodIn_of _ (by decide +kernel)) ggX3_detects_X3_isDetected
theorem dX3_detects_0 : decode cX3_detects 0 = .ok (.aload_n 0, 1) := by decide +kernel
theorem dX3_detects_1 : decode cX3_detects 1 = .ok (.iload_n 1, 1) := by decide +kernel
theorem dX3_detects_2 : decode cX3_detects 2 = .ok (.invokevirtual 61, 3) := by decide +kernel
theorem dX3_detects_5 : decode cX3_detects 5 = .ok (.ifCond .ne 6, 3) := by decide +kernel
theorem dX3_detects_8 : decode cX3_detects 8 = .ok (.bipush (-2), 2) := by decide +kernel
theorem dX3_detects_10 : decode cX3_detects 10 = .ok (.ireturn, 1) := by decide +kernel
theorem dX3_detects_11 : decode cX3_detects 11 = .ok (.aload_n 0, 1) := by decide +kernel
theorem dX3_detects_12 : decode cX3_detects 12 = .ok (.iload_n 3, 1) := by decide +kernel
theorem dX3_detects_13 : decode cX3_detects 13 = .ok (.invokevirtual 50, 3) := by decide +kernel
theorem dX3_detects_16 : decode cX3_detects 16 = .ok (.ifCond .ne 5, 3) := by decide +kernel
theorem dX3_detects_19 : decode cX3_detects 19 = .ok (.iconst (-1), 1) := by decide +kernel
theorem dX3_detects_20 : decode cX3_detects 20 = .ok (.ireturn, 1) := by decide +kernel
theorem dX3_detects_21 : decode cX3_detects 21 = .ok (.iload_n 2, 1) := by decide +kernel
theorem dX3_detects_22 : decode cX3_detects 22 = .ok (.iconst 1, 1) := by decide +kernel
theorem dX3_detects_23 : decode cX3_detects 23 = .ok (.iconst 2, 1) := by decide +kernel
theorem dX3_detects_24 : decode cX3_detects 24 = .ok (.invokestatic 39, 3) := by decide +kernel
theorem dX3_detects_27 : decode cX3_detects 27 = .ok (.ifCond .eq 11, 3) := by decide +kernel
theorem dX3_detects_30 : decode cX3_detects 30 = .ok (.iload 4, 2) := by decide +kernel
theorem dX3_detects_32 : decode cX3_detects 32 = .ok (.invokestatic 99, 3) := by decide +kernel
theorem dX3_detects_35 : decode cX3_detects 35 = .ok (.ifCond .ne 6, 3) := by decide +kernel
theorem dX3_detects_38 : decode cX3_detects 38 = .ok (.bipush (-3), 2) := by decide +kernel
theorem dX3_detects_40 : decode cX3_detects 40 = .ok (.ireturn, 1) := by decide +kernel
theorem dX3_detects_41 : decode cX3_detects 41 = .ok (.aload_n 0, 1) := by decide +kernel
theorem dX3_detects_42 : decode cX3_detects 42 = .ok (.invokevirtual 105, 3) := by decide +kernel
theorem dX3_detects_45 : decode cX3_detects 45 = .ok (.aload_n 0, 1) := by decide +kernel
theorem dX3_detects_46 : decode cX3_detects 46 = .ok (.iload_n 3, 1) := by decide +kernel
theorem dX3_detects_47 : decode cX3_detects 47 = .ok (.iload 4, 2) := by decide +kernel
theorem dX3_detects_49 : decode cX3_detects 49 = .ok (.invokevirtual 111, 3) := by decide +kernel
theorem dX3_detects_52 : decode cX3_detects 52 = .ok (.istore 5, 2) := by decide +kernel
theorem dX3_detects_54 : decode cX3_detects 54 = .ok (.aload_n 0, 1) := by decide +kernel
theorem dX3_detects_55 : decode cX3_detects 55 = .ok (.iload_n 1, 1) := by decide +kernel
theorem dX3_detects_56 : decode cX3_detects 56 = .ok (.iload_n 2, 1) := by decide +kernel
theorem dX3_detects_57 : decode cX3_detects 57 = .ok (.iload_n 3, 1) := by decide +kernel
theorem dX3_detects_58 : decode cX3_detects 58 = .ok (.iload 4, 2) := by decide +kernel
theorem dX3_detects_60 : decode cX3_detects 60 = .ok (.iload 5, 2) := by decide +kernel
theorem dX3_detects_62 : decode cX3_detects 62 = .ok (.invokevirtual 114, 3) := by decide +kernel
theorem dX3_detects_65 : decode cX3_detects 65 = .ok (.ifCond .eq 7, 3) := by decide +kernel
theorem dX3_detects_68 : decode cX3_detects 68 = .ok (.iconst 1, 1) := by decide +kernel
theorem dX3_detects_69 : decode cX3_detects 69 = .ok (.goto 4, 3) := by decide +kernel
theorem dX3_detects_72 : decode cX3_detects 72 = .ok (.iconst 0, 1) := by decide +kernel
theorem dX3_detects_73 : decode cX3_detects 73 = .ok (.ireturn, 1) := by decide +kernel
set_option maxRecDepth 20000 in
theorem ggX3_detectedFaults_X3_isNode : GoodIn wsX3_detectedFaults wsX3_isNode := goodIn_r _ [5, 6, 7, 8, 4, 9, 10, 11, 12, 13, 93, 94, 95, 96, 97, 98, 99, 100] (by decide +kernel) (by decide +kernel)
set_option maxRecDepth 20000 in
theorem gX3_detectedFaults_X3_isNode : GoodIn wsX3_detectedFaults (wsV RX3 50 RX3 yX3_isNode wsX3_isNode) := goodIn_app (goodIn_of _ (by decide +kernel)) ggX3_detectedFaults_X3_isNode
set_option maxRecDepth 20000 in
theorem ggX3_detectedFaults_X3_isLimit : GoodIn wsX3_detectedFaults wsX3_isLimit := goodIn_r _ [16, 11, 12, 4, 13] (by decide +kernel) (by decide +kernel)
set_option maxRecDepth 20000 in
theorem gX3_detectedFaults_X3_isLimit : GoodIn wsX3_detectedFaults (va_wsS RX3 99 yX3_isLimit wsX3_isLimit) := goodIn_app (goodIn_of _ (by decide +kernel)) ggX3_detectedFaults_X3_isLimit
set_option maxRecDepth 20000 in
theorem ggX3_detectedFaults_X3_keep : GoodIn wsX3_detectedFaults wsX3_keep := goodIn_r _ [20, 21, 10, 93, 94, 95, 96, 97, 98, 99, 100] (by decide +kernel) (by decide +kernel)
set_option maxRecDepth 20000 in
theorem gX3_detectedFaults_X3_keep : GoodIn wsX3_detectedFaults (wsV RX3 105 RX3 yX3_keep wsX3_keep) := goodIn_app (goodIn_of _ (by decide +kernel)) ggX3_detectedFaults_X3_keep
set_option maxRecDepth 20000 in
theorem ggX3_detectedFaults_X3_settledValue : GoodIn wsX3_detectedFaults wsX3_settledValue := goodIn_r _ [25, 10, 26, 27, 28, 4, 29, 30, 31, 32, 33, 34, 35, 36, 37, 38, 39, 40, 41, 42, 43, 44, 45, 46, 47, 48, 49, 50, 51, 52, 53, 54, 55, 56, 57, 6, 7, 8, 9, 58, 59, 60, 61, 62, 63, 64, 65, 66, 67, 68, 69, 70, 71, 72, 73, 74, 75, 76, 77, 78, 79, 80, 81, 82, 83, 84, 85, 86, 87, 88, 21, 93, 94, 95, 96, 97, 98, 99, 100] (by decide +kernel) (by decide +kernel)
set_option maxRecDepth 20000 in
theorem gX3_detectedFaults_X3_settledValue : GoodIn wsX3_detectedFaults (wsV RX3 111 RX3 yX3_settledValue wsX3_settledValue) := goodIn_app (goodIn_of _ (by decide +kernel)) ggX3_detectedFaults_X3_settledValue
set_option maxRecDepth 20000 in
theorem ggX3_detectedFaults_X3_many : GoodIn wsX3_detectedFaults wsX3_many := goodIn_r _ [48, 10, 93, 94, 95, 96, 97, 98, 99, 100] (by decide +kernel) (by decide +kernel)
set_option maxRecDepth 20000 in
theorem gX3_detectedFaults_X3_many : GoodIn wsX3_detectedFaults (wsV RX3 43 RX3 yX3_many wsX3_many) := goodIn_app (goodIn_of _ (by decide +kernel)) ggX3_detectedFaults_X3_many
set_option maxRecDepth 20000 in
theorem ggX3_detectedFaults_X3_isDetected : GoodIn wsX3_detectedFaults wsX3_isDetected := goodIn_r _ [92, 10, 22, 23, 24, 4, 25, 26, 27, 28, 29, 30, 31, 32, 33, 34, 35, 36, 37, 38, 39, 40, 41, 42, 43, 44, 45, 46, 47, 48, 49, 50, 51, 52, 53, 54, 55, 56, 57, 6, 7, 8, 9, 58, 59, 60, 61, 62, 63, 64, 65, 66, 67, 68, 69, 70, 71, 72, 73, 74, 75, 76, 77, 78, 79, 80, 81, 82, 83, 84, 85, 86, 87, 88, 21, 93, 94, 95, 96, 97, 98, 99, 100] (by decide +kernel) (by decide +kernel)
set_option maxRecDepth 20000 in
theorem gX3_detectedFaults_X3_isDetected : GoodIn wsX3_detectedFaults (wsV RX3 114 RX3 yX3_isDetected wsX3_isDetected) := goodIn_app (goodIn_of _ (by decide +kernel)) ggX3_detectedFaults_X3_isDetected
theorem dX3_detectedFaults_0 : decode cX3_detectedFaults 0 = .ok (.aload_n 0, 1) := by decide +kernel
theorem dX3_detectedFaults_1 : decode cX3_detectedFaults 1 = .ok (.iload_n 1, 1) := by decide +kernel
theorem dX3_detectedFaults_2 : decode cX3_detectedFaults 2 = .ok (.invokevirtual 50, 3) := by decide +kernel
theorem dX3_detectedFaults_5 : decode cX3_detectedFaults 5 = .ok (.ifCond .ne 5, 3) := by decide +kernel
theorem dX3_detectedFaults_8 : decode cX3_detectedFaults 8 = .ok (.iconst (-1), 1) := by decide +kernel
theorem dX3_detectedFaults_9 : decode cX3_detectedFaults 9 = .ok (.ireturn, 1) := by decide +kernel
theorem dX3_detectedFaults_10 : decode cX3_detectedFaults 10 = .ok (.iload_n 2, 1) := by decide +kernel
theorem dX3_detectedFaults_11 : decode cX3_detectedFaults 11 = .ok (.invokestatic 99, 3) := by decide +kernel
theorem dX3_detectedFaults_14 : decode cX3_detectedFaults 14 = .ok (.ifCond .ne 6, 3) := by decide +kernel
theorem dX3_detectedFaults_17 : decode cX3_detectedFaults 17 = .ok (.bipush (-3), 2) := by decide +kernel
theorem dX3_detectedFaults_19 : decode cX3_detectedFaults 19 = .ok (.ireturn, 1) := by decide +kernel
theorem dX3_detectedFaults_20 : decode cX3_detectedFaults 20 = .ok (.aload_n 0, 1) := by decide +kernel
theorem dX3_detectedFaults_21 : decode cX3_detectedFaults 21 = .ok (.invokevirtual 105, 3) := by decide +kernel
theorem dX3_detectedFaults_24 : decode cX3_detectedFaults 24 = .ok (.aload_n 0, 1) := by decide +kernel
theorem dX3_detectedFaults_25 : decode cX3_detectedFaults 25 = .ok (.iload_n 1, 1) := by decide +kernel
theorem dX3_detectedFaults_26 : decode cX3_detectedFaults 26 = .ok (.iload_n 2, 1) := by decide +kernel
theorem dX3_detectedFaults_27 : decode cX3_detectedFaults 27 = .ok (.invokevirtual 111, 3) := by decide +kernel
theorem dX3_detectedFaults_30 : decode cX3_detectedFaults 30 = .ok (.istore_n 3, 1) := by decide +kernel
theorem dX3_detectedFaults_31 : decode cX3_detectedFaults 31 = .ok (.iconst 0, 1) := by decide +kernel
theorem dX3_detectedFaults_32 : decode cX3_detectedFaults 32 = .ok (.istore 4, 2) := by decide +kernel
theorem dX3_detectedFaults_34 : decode cX3_detectedFaults 34 = .ok (.iconst 0, 1) := by decide +kernel
theorem dX3_detectedFaults_35 : decode cX3_detectedFaults 35 = .ok (.istore 5, 2) := by decide +kernel
theorem dX3_detectedFaults_37 : decode cX3_detectedFaults 37 = .ok (.iload 5, 2) := by decide +kernel
theorem dX3_detectedFaults_39 : decode cX3_detectedFaults 39 = .ok (.iconst 2, 1) := by decide +kernel
theorem dX3_detectedFaults_40 : decode cX3_detectedFaults 40 = .ok (.aload_n 0, 1) := by decide +kernel
theorem dX3_detectedFaults_41 : decode cX3_detectedFaults 41 = .ok (.invokevirtual 43, 3) := by decide +kernel
theorem dX3_detectedFaults_44 : decode cX3_detectedFaults 44 = .ok (.imul, 1) := by decide +kernel
theorem dX3_detectedFaults_45 : decode cX3_detectedFaults 45 = .ok (.if_icmp .ge 39, 3) := by decide +kernel
theorem dX3_detectedFaults_48 : decode cX3_detectedFaults 48 = .ok (.iload 4, 2) := by decide +kernel
theorem dX3_detectedFaults_50 : decode cX3_detectedFaults 50 = .ok (.aload_n 0, 1) := by decide +kernel
theorem dX3_detectedFaults_51 : decode cX3_detectedFaults 51 = .ok (.iload 5, 2) := by decide +kernel
theorem dX3_detectedFaults_53 : decode cX3_detectedFaults 53 = .ok (.iconst 2, 1) := by decide +kernel
theorem dX3_detectedFaults_54 : decode cX3_detectedFaults 54 = .ok (.idiv, 1) := by decide +kernel
theorem dX3_detectedFaults_55 : decode cX3_detectedFaults 55 = .ok (.iload 5, 2) := by decide +kernel
theorem dX3_detectedFaults_57 : decode cX3_detectedFaults 57 = .ok (.iconst 2, 1) := by decide +kernel
theorem dX3_detectedFaults_58 : decode cX3_detectedFaults 58 = .ok (.irem, 1) := by decide +kernel
theorem dX3_detectedFaults_59 : decode cX3_detectedFaults 59 = .ok (.iconst 1, 1) := by decide +kernel
theorem dX3_detectedFaults_60 : decode cX3_detectedFaults 60 = .ok (.iadd, 1) := by decide +kernel
theorem dX3_detectedFaults_61 : decode cX3_detectedFaults 61 = .ok (.iload_n 1, 1) := by decide +kernel
theorem dX3_detectedFaults_62 : decode cX3_detectedFaults 62 = .ok (.iload_n 2, 1) := by decide +kernel
theorem dX3_detectedFaults_63 : decode cX3_detectedFaults 63 = .ok (.iload_n 3, 1) := by decide +kernel
theorem dX3_detectedFaults_64 : decode cX3_detectedFaults 64 = .ok (.invokevirtual 114, 3) := by decide +kernel
theorem dX3_detectedFaults_67 : decode cX3_detectedFaults 67 = .ok (.ifCond .eq 7, 3) := by decide +kernel
theorem dX3_detectedFaults_70 : decode cX3_detectedFaults 70 = .ok (.iconst 1, 1) := by decide +kernel
theorem dX3_detectedFaults_71 : decode cX3_detectedFaults 71 = .ok (.goto 4, 3) := by decide +kernel
theorem dX3_detectedFaults_74 : decode cX3_detectedFaults 74 = .ok (.iconst 0, 1) := by decide +kernel
theorem dX3_detectedFaults_75 : decode cX3_detectedFaults 75 = .ok (.iadd, 1) := by decide +kernel
theorem dX3_detectedFaults_76 : decode cX3_detectedFaults 76 = .ok (.istore 4, 2) := by decide +kernel
theorem dX3_detectedFaults_78 : decode cX3_detectedFaults 78 = .ok (.iinc 5 1, 3) := by decide +kernel
theorem dX3_detectedFaults_81 : decode cX3_detectedFaults 81 = .ok (.goto (-44), 3) := by decide +kernel
theorem dX3_detectedFaults_84 : decode cX3_detectedFaults 84 = .ok (.iload 4, 2) := by decide +kernel
theorem dX3_detectedFaults_86 : decode cX3_detectedFaults 86 = .ok (.ireturn, 1) := by decide +kernel
set_option maxRecDepth 20000 in
theorem ggX3_save_X3_in : GoodIn wsX3_save wsX3_in := goodIn_r _ [7] (by decide +kernel) (by decide +kernel)
set_option maxRecDepth 20000 in
theorem gX3_save_X3_in : GoodIn wsX3_save (va_wsS RX3 39 yX3_in wsX3_in) := goodIn_app (goodIn_of _ (by decide +kernel)) ggX3_save_X3_in
set_option maxRecDepth 20000 in
theorem ggX3_save_X3_nodes : GoodIn wsX3_save wsX3_nodes := goodIn_r _ [11, 2, 12, 13, 14, 15, 16, 17, 18, 19] (by decide +kernel) (by decide +kernel)
set_option maxRecDepth 20000 in
theorem gX3_save_X3_nodes : GoodIn wsX3_save (wsV RX3 35 RX3 yX3_nodes wsX3_nodes) := goodIn_app (goodIn_of _ (by decide +kernel)) ggX3_save_X3_nodes
theorem dX3_save_0 : decode cX3_save 0 = .ok (.iload_n 1, 1) := by decide +kernel
theorem dX3_save_1 : decode cX3_save 1 = .ok (.iconst 0, 1) := by decide +kernel
theorem dX3_save_2 : decode cX3_save 2 = .ok (.iconst 1, 1) := by decide +kernel
theorem dX3_save_3 : decode cX3_save 3 = .ok (.invokestatic 39, 3) := by decide +kernel
theorem dX3_save_6 : decode cX3_save 6 = .ok (.ifCond .ne 6, 3) := by decide +kernel
theorem dX3_save_9 : decode cX3_save 9 = .ok (.bipush (-3), 2) := by decide +kernel
theorem dX3_save_11 : decode cX3_save 11 = .ok (.ireturn, 1) := by decide +kernel
theorem dX3_save_12 : decode cX3_save 12 = .ok (.iconst 0, 1) := by decide +kernel
theorem dX3_save_13 : decode cX3_save 13 = .ok (.istore_n 2, 1) := by decide +kernel
theorem dX3_save_14 : decode cX3_save 14 = .ok (.iload_n 2, 1) := by decide +kernel
theorem dX3_save_15 : decode cX3_save 15 = .ok (.sipush 290, 3) := by decide +kernel
theorem dX3_save_18 : decode cX3_save 18 = .ok (.if_icmp .ge 27, 3) := by decide +kernel
theorem dX3_save_21 : decode cX3_save 21 = .ok (.aload_n 0, 1) := by decide +kernel
theorem dX3_save_22 : decode cX3_save 22 = .ok (.getfield 13, 3) := by decide +kernel
theorem dX3_save_25 : decode cX3_save 25 = .ok (.sipush 290, 3) := by decide +kernel
theorem dX3_save_28 : decode cX3_save 28 = .ok (.iload_n 1, 1) := by decide +kernel
theorem dX3_save_29 : decode cX3_save 29 = .ok (.imul, 1) := by decide +kernel
theorem dX3_save_30 : decode cX3_save 30 = .ok (.iload_n 2, 1) := by decide +kernel
theorem dX3_save_31 : decode cX3_save 31 = .ok (.iadd, 1) := by decide +kernel
theorem dX3_save_32 : decode cX3_save 32 = .ok (.aload_n 0, 1) := by decide +kernel
theorem dX3_save_33 : decode cX3_save 33 = .ok (.getfield 7, 3) := by decide +kernel
theorem dX3_save_36 : decode cX3_save 36 = .ok (.iload_n 2, 1) := by decide +kernel
theorem dX3_save_37 : decode cX3_save 37 = .ok (.iaload, 1) := by decide +kernel
theorem dX3_save_38 : decode cX3_save 38 = .ok (.iastore, 1) := by decide +kernel
theorem dX3_save_39 : decode cX3_save 39 = .ok (.iinc 2 1, 3) := by decide +kernel
theorem dX3_save_42 : decode cX3_save 42 = .ok (.goto (-28), 3) := by decide +kernel
theorem dX3_save_45 : decode cX3_save 45 = .ok (.aload_n 0, 1) := by decide +kernel
theorem dX3_save_46 : decode cX3_save 46 = .ok (.getfield 16, 3) := by decide +kernel
theorem dX3_save_49 : decode cX3_save 49 = .ok (.iload_n 1, 1) := by decide +kernel
theorem dX3_save_50 : decode cX3_save 50 = .ok (.iconst 1, 1) := by decide +kernel
theorem dX3_save_51 : decode cX3_save 51 = .ok (.bastore, 1) := by decide +kernel
theorem dX3_save_52 : decode cX3_save 52 = .ok (.aload_n 0, 1) := by decide +kernel
theorem dX3_save_53 : decode cX3_save 53 = .ok (.invokevirtual 35, 3) := by decide +kernel
theorem dX3_save_56 : decode cX3_save 56 = .ok (.ireturn, 1) := by decide +kernel
set_option maxRecDepth 20000 in
theorem ggX3_restore_X3_in : GoodIn wsX3_restore wsX3_in := goodIn_r _ [7] (by decide +kernel) (by decide +kernel)
set_option maxRecDepth 20000 in
theorem gX3_restore_X3_in : GoodIn wsX3_restore (va_wsS RX3 39 yX3_in wsX3_in) := goodIn_app (goodIn_of _ (by decide +kernel)) ggX3_restore_X3_in
set_option maxRecDepth 20000 in
theorem ggX3_restore_X3_nodes : GoodIn wsX3_restore wsX3_nodes := goodIn_r _ [11, 2, 12, 13, 14, 15, 16, 17, 18, 19] (by decide +kernel) (by decide +kernel)
set_option maxRecDepth 20000 in
theorem gX3_restore_X3_nodes : GoodIn wsX3_restore (wsV RX3 35 RX3 yX3_nodes wsX3_nodes) := goodIn_app (goodIn_of _ (by decide +kernel)) ggX3_restore_X3_nodes
theorem dX3_restore_0 : decode cX3_restore 0 = .ok (.iload_n 1, 1) := by decide +kernel
theorem dX3_restore_1 : decode cX3_restore 1 = .ok (.iconst 0, 1) := by decide +kernel
theorem dX3_restore_2 : decode cX3_restore 2 = .ok (.iconst 1, 1) := by decide +kernel
theorem dX3_restore_3 : decode cX3_restore 3 = .ok (.invokestatic 39, 3) := by decide +kernel
theorem dX3_restore_6 : decode cX3_restore 6 = .ok (.ifCond .ne 6, 3) := by decide +kernel
theorem dX3_restore_9 : decode cX3_restore 9 = .ok (.bipush (-3), 2) := by decide +kernel
theorem dX3_restore_11 : decode cX3_restore 11 = .ok (.ireturn, 1) := by decide +kernel
theorem dX3_restore_12 : decode cX3_restore 12 = .ok (.aload_n 0, 1) := by decide +kernel
theorem dX3_restore_13 : decode cX3_restore 13 = .ok (.getfield 16, 3) := by decide +kernel
theorem dX3_restore_16 : decode cX3_restore 16 = .ok (.iload_n 1, 1) := by decide +kernel
theorem dX3_restore_17 : decode cX3_restore 17 = .ok (.baload, 1) := by decide +kernel
theorem dX3_restore_18 : decode cX3_restore 18 = .ok (.ifCond .ne 6, 3) := by decide +kernel
theorem dX3_restore_21 : decode cX3_restore 21 = .ok (.bipush (-9), 2) := by decide +kernel
theorem dX3_restore_23 : decode cX3_restore 23 = .ok (.ireturn, 1) := by decide +kernel
theorem dX3_restore_24 : decode cX3_restore 24 = .ok (.iconst 0, 1) := by decide +kernel
theorem dX3_restore_25 : decode cX3_restore 25 = .ok (.istore_n 2, 1) := by decide +kernel
theorem dX3_restore_26 : decode cX3_restore 26 = .ok (.iload_n 2, 1) := by decide +kernel
theorem dX3_restore_27 : decode cX3_restore 27 = .ok (.sipush 290, 3) := by decide +kernel
theorem dX3_restore_30 : decode cX3_restore 30 = .ok (.if_icmp .ge 27, 3) := by decide +kernel
theorem dX3_restore_33 : decode cX3_restore 33 = .ok (.aload_n 0, 1) := by decide +kernel
theorem dX3_restore_34 : decode cX3_restore 34 = .ok (.getfield 7, 3) := by decide +kernel
theorem dX3_restore_37 : decode cX3_restore 37 = .ok (.iload_n 2, 1) := by decide +kernel
theorem dX3_restore_38 : decode cX3_restore 38 = .ok (.aload_n 0, 1) := by decide +kernel
theorem dX3_restore_39 : decode cX3_restore 39 = .ok (.getfield 13, 3) := by decide +kernel
theorem dX3_restore_42 : decode cX3_restore 42 = .ok (.sipush 290, 3) := by decide +kernel
theorem dX3_restore_45 : decode cX3_restore 45 = .ok (.iload_n 1, 1) := by decide +kernel
theorem dX3_restore_46 : decode cX3_restore 46 = .ok (.imul, 1) := by decide +kernel
theorem dX3_restore_47 : decode cX3_restore 47 = .ok (.iload_n 2, 1) := by decide +kernel
theorem dX3_restore_48 : decode cX3_restore 48 = .ok (.iadd, 1) := by decide +kernel
theorem dX3_restore_49 : decode cX3_restore 49 = .ok (.iaload, 1) := by decide +kernel
theorem dX3_restore_50 : decode cX3_restore 50 = .ok (.iastore, 1) := by decide +kernel
theorem dX3_restore_51 : decode cX3_restore 51 = .ok (.iinc 2 1, 3) := by decide +kernel
theorem dX3_restore_54 : decode cX3_restore 54 = .ok (.goto (-28), 3) := by decide +kernel
theorem dX3_restore_57 : decode cX3_restore 57 = .ok (.aload_n 0, 1) := by decide +kernel
theorem dX3_restore_58 : decode cX3_restore 58 = .ok (.invokevirtual 35, 3) := by decide +kernel
theorem dX3_restore_61 : decode cX3_restore 61 = .ok (.ireturn, 1) := by decide +kernel
end
section
theorem dJ6_numberOfTrailingZeros_0f7a4_0 : decode cJ6_numberOfTrailingZeros_0f7a4 0 = .ok (.iload_n 0, 1) := by decide +kernel
theorem dJ6_numberOfTrailingZeros_0f7a4_1 : decode cJ6_numberOfTrailingZeros_0f7a4 1 = .ok (.iconst (-1), 1) := by decide +kernel
theorem dJ6_numberOfTrailingZeros_0f7a4_2 : decode cJ6_numberOfTrailingZeros_0f7a4 2 = .ok (.ixor, 1) := by decide +kernel
theorem dJ6_numberOfTrailingZeros_0f7a4_3 : decode cJ6_numberOfTrailingZeros_0f7a4 3 = .ok (.iload_n 0, 1) := by decide +kernel
theorem dJ6_numberOfTrailingZeros_0f7a4_4 : decode cJ6_numberOfTrailingZeros_0f7a4 4 = .ok (.iconst 1, 1) := by decide +kernel
theorem dJ6_numberOfTrailingZeros_0f7a4_5 : decode cJ6_numberOfTrailingZeros_0f7a4 5 = .ok (.isub, 1) := by decide +kernel
theorem dJ6_numberOfTrailingZeros_0f7a4_6 : decode cJ6_numberOfTrailingZeros_0f7a4 6 = .ok (.iand, 1) := by decide +kernel
theorem dJ6_numberOfTrailingZeros_0f7a4_7 : decode cJ6_numberOfTrailingZeros_0f7a4 7 = .ok (.istore_n 0, 1) := by decide +kernel
theorem dJ6_numberOfTrailingZeros_0f7a4_8 : decode cJ6_numberOfTrailingZeros_0f7a4 8 = .ok (.iload_n 0, 1) := by decide +kernel
theorem dJ6_numberOfTrailingZeros_0f7a4_9 : decode cJ6_numberOfTrailingZeros_0f7a4 9 = .ok (.ifCond .gt 8, 3) := by decide +kernel
theorem dJ6_numberOfTrailingZeros_0f7a4_12 : decode cJ6_numberOfTrailingZeros_0f7a4 12 = .ok (.iload_n 0, 1) := by decide +kernel
theorem dJ6_numberOfTrailingZeros_0f7a4_13 : decode cJ6_numberOfTrailingZeros_0f7a4 13 = .ok (.bipush 32, 2) := by decide +kernel
theorem dJ6_numberOfTrailingZeros_0f7a4_15 : decode cJ6_numberOfTrailingZeros_0f7a4 15 = .ok (.iand, 1) := by decide +kernel
theorem dJ6_numberOfTrailingZeros_0f7a4_16 : decode cJ6_numberOfTrailingZeros_0f7a4 16 = .ok (.ireturn, 1) := by decide +kernel
theorem dJ6_numberOfTrailingZeros_0f7a4_17 : decode cJ6_numberOfTrailingZeros_0f7a4 17 = .ok (.iconst 1, 1) := by decide +kernel
theorem dJ6_numberOfTrailingZeros_0f7a4_18 : decode cJ6_numberOfTrailingZeros_0f7a4 18 = .ok (.istore_n 1, 1) := by decide +kernel
theorem dJ6_numberOfTrailingZeros_0f7a4_19 : decode cJ6_numberOfTrailingZeros_0f7a4 19 = .ok (.iload_n 0, 1) := by decide +kernel
theorem dJ6_numberOfTrailingZeros_0f7a4_20 : decode cJ6_numberOfTrailingZeros_0f7a4 20 = .ok (.ldc_w 264, 3) := by decide +kernel
theorem dJ6_numberOfTrailingZeros_0f7a4_23 : decode cJ6_numberOfTrailingZeros_0f7a4 23 = .ok (.if_icmp .le 11, 3) := by decide +kernel
theorem dJ6_numberOfTrailingZeros_0f7a4_26 : decode cJ6_numberOfTrailingZeros_0f7a4 26 = .ok (.iinc 1 16, 3) := by decide +kernel
theorem dJ6_numberOfTrailingZeros_0f7a4_29 : decode cJ6_numberOfTrailingZeros_0f7a4 29 = .ok (.iload_n 0, 1) := by decide +kernel
theorem dJ6_numberOfTrailingZeros_0f7a4_30 : decode cJ6_numberOfTrailingZeros_0f7a4 30 = .ok (.bipush 16, 2) := by decide +kernel
theorem dJ6_numberOfTrailingZeros_0f7a4_32 : decode cJ6_numberOfTrailingZeros_0f7a4 32 = .ok (.iushr, 1) := by decide +kernel
theorem dJ6_numberOfTrailingZeros_0f7a4_33 : decode cJ6_numberOfTrailingZeros_0f7a4 33 = .ok (.istore_n 0, 1) := by decide +kernel
theorem dJ6_numberOfTrailingZeros_0f7a4_34 : decode cJ6_numberOfTrailingZeros_0f7a4 34 = .ok (.iload_n 0, 1) := by decide +kernel
theorem dJ6_numberOfTrailingZeros_0f7a4_35 : decode cJ6_numberOfTrailingZeros_0f7a4 35 = .ok (.sipush 256, 3) := by decide +kernel
theorem dJ6_numberOfTrailingZeros_0f7a4_38 : decode cJ6_numberOfTrailingZeros_0f7a4 38 = .ok (.if_icmp .le 11, 3) := by decide +kernel
theorem dJ6_numberOfTrailingZeros_0f7a4_41 : decode cJ6_numberOfTrailingZeros_0f7a4 41 = .ok (.iinc 1 8, 3) := by decide +kernel
theorem dJ6_numberOfTrailingZeros_0f7a4_44 : decode cJ6_numberOfTrailingZeros_0f7a4 44 = .ok (.iload_n 0, 1) := by decide +kernel
theorem dJ6_numberOfTrailingZeros_0f7a4_45 : decode cJ6_numberOfTrailingZeros_0f7a4 45 = .ok (.bipush 8, 2) := by decide +kernel
theorem dJ6_numberOfTrailingZeros_0f7a4_47 : decode cJ6_numberOfTrailingZeros_0f7a4 47 = .ok (.iushr, 1) := by decide +kernel
theorem dJ6_numberOfTrailingZeros_0f7a4_48 : decode cJ6_numberOfTrailingZeros_0f7a4 48 = .ok (.istore_n 0, 1) := by decide +kernel
theorem dJ6_numberOfTrailingZeros_0f7a4_49 : decode cJ6_numberOfTrailingZeros_0f7a4 49 = .ok (.iload_n 0, 1) := by decide +kernel
theorem dJ6_numberOfTrailingZeros_0f7a4_50 : decode cJ6_numberOfTrailingZeros_0f7a4 50 = .ok (.bipush 16, 2) := by decide +kernel
theorem dJ6_numberOfTrailingZeros_0f7a4_52 : decode cJ6_numberOfTrailingZeros_0f7a4 52 = .ok (.if_icmp .le 10, 3) := by decide +kernel
theorem dJ6_numberOfTrailingZeros_0f7a4_55 : decode cJ6_numberOfTrailingZeros_0f7a4 55 = .ok (.iinc 1 4, 3) := by decide +kernel
theorem dJ6_numberOfTrailingZeros_0f7a4_58 : decode cJ6_numberOfTrailingZeros_0f7a4 58 = .ok (.iload_n 0, 1) := by decide +kernel
theorem dJ6_numberOfTrailingZeros_0f7a4_59 : decode cJ6_numberOfTrailingZeros_0f7a4 59 = .ok (.iconst 4, 1) := by decide +kernel
theorem dJ6_numberOfTrailingZeros_0f7a4_60 : decode cJ6_numberOfTrailingZeros_0f7a4 60 = .ok (.iushr, 1) := by decide +kernel
theorem dJ6_numberOfTrailingZeros_0f7a4_61 : decode cJ6_numberOfTrailingZeros_0f7a4 61 = .ok (.istore_n 0, 1) := by decide +kernel
theorem dJ6_numberOfTrailingZeros_0f7a4_62 : decode cJ6_numberOfTrailingZeros_0f7a4 62 = .ok (.iload_n 0, 1) := by decide +kernel
theorem dJ6_numberOfTrailingZeros_0f7a4_63 : decode cJ6_numberOfTrailingZeros_0f7a4 63 = .ok (.iconst 4, 1) := by decide +kernel
theorem dJ6_numberOfTrailingZeros_0f7a4_64 : decode cJ6_numberOfTrailingZeros_0f7a4 64 = .ok (.if_icmp .le 10, 3) := by decide +kernel
theorem dJ6_numberOfTrailingZeros_0f7a4_67 : decode cJ6_numberOfTrailingZeros_0f7a4 67 = .ok (.iinc 1 2, 3) := by decide +kernel
theorem dJ6_numberOfTrailingZeros_0f7a4_70 : decode cJ6_numberOfTrailingZeros_0f7a4 70 = .ok (.iload_n 0, 1) := by decide +kernel
theorem dJ6_numberOfTrailingZeros_0f7a4_71 : decode cJ6_numberOfTrailingZeros_0f7a4 71 = .ok (.iconst 2, 1) := by decide +kernel
theorem dJ6_numberOfTrailingZeros_0f7a4_72 : decode cJ6_numberOfTrailingZeros_0f7a4 72 = .ok (.iushr, 1) := by decide +kernel
theorem dJ6_numberOfTrailingZeros_0f7a4_73 : decode cJ6_numberOfTrailingZeros_0f7a4 73 = .ok (.istore_n 0, 1) := by decide +kernel
theorem dJ6_numberOfTrailingZeros_0f7a4_74 : decode cJ6_numberOfTrailingZeros_0f7a4 74 = .ok (.iload_n 1, 1) := by decide +kernel
theorem dJ6_numberOfTrailingZeros_0f7a4_75 : decode cJ6_numberOfTrailingZeros_0f7a4 75 = .ok (.iload_n 0, 1) := by decide +kernel
theorem dJ6_numberOfTrailingZeros_0f7a4_76 : decode cJ6_numberOfTrailingZeros_0f7a4 76 = .ok (.iconst 1, 1) := by decide +kernel
theorem dJ6_numberOfTrailingZeros_0f7a4_77 : decode cJ6_numberOfTrailingZeros_0f7a4 77 = .ok (.iushr, 1) := by decide +kernel
theorem dJ6_numberOfTrailingZeros_0f7a4_78 : decode cJ6_numberOfTrailingZeros_0f7a4 78 = .ok (.iadd, 1) := by decide +kernel
theorem dJ6_numberOfTrailingZeros_0f7a4_79 : decode cJ6_numberOfTrailingZeros_0f7a4 79 = .ok (.ireturn, 1) := by decide +kernel
theorem dJ6_bitCount_0f7a4_0 : decode cJ6_bitCount_0f7a4 0 = .ok (.iload_n 0, 1) := by decide +kernel
theorem dJ6_bitCount_0f7a4_1 : decode cJ6_bitCount_0f7a4 1 = .ok (.iload_n 0, 1) := by decide +kernel
theorem dJ6_bitCount_0f7a4_2 : decode cJ6_bitCount_0f7a4 2 = .ok (.iconst 1, 1) := by decide +kernel
theorem dJ6_bitCount_0f7a4_3 : decode cJ6_bitCount_0f7a4 3 = .ok (.iushr, 1) := by decide +kernel
theorem dJ6_bitCount_0f7a4_4 : decode cJ6_bitCount_0f7a4 4 = .ok (.ldc_w 265, 3) := by decide +kernel
theorem dJ6_bitCount_0f7a4_7 : decode cJ6_bitCount_0f7a4 7 = .ok (.iand, 1) := by decide +kernel
theorem dJ6_bitCount_0f7a4_8 : decode cJ6_bitCount_0f7a4 8 = .ok (.isub, 1) := by decide +kernel
theorem dJ6_bitCount_0f7a4_9 : decode cJ6_bitCount_0f7a4 9 = .ok (.istore_n 0, 1) := by decide +kernel
theorem dJ6_bitCount_0f7a4_10 : decode cJ6_bitCount_0f7a4 10 = .ok (.iload_n 0, 1) := by decide +kernel
theorem dJ6_bitCount_0f7a4_11 : decode cJ6_bitCount_0f7a4 11 = .ok (.ldc_w 266, 3) := by decide +kernel
theorem dJ6_bitCount_0f7a4_14 : decode cJ6_bitCount_0f7a4 14 = .ok (.iand, 1) := by decide +kernel
theorem dJ6_bitCount_0f7a4_15 : decode cJ6_bitCount_0f7a4 15 = .ok (.iload_n 0, 1) := by decide +kernel
theorem dJ6_bitCount_0f7a4_16 : decode cJ6_bitCount_0f7a4 16 = .ok (.iconst 2, 1) := by decide +kernel
theorem dJ6_bitCount_0f7a4_17 : decode cJ6_bitCount_0f7a4 17 = .ok (.iushr, 1) := by decide +kernel
theorem dJ6_bitCount_0f7a4_18 : decode cJ6_bitCount_0f7a4 18 = .ok (.ldc_w 266, 3) := by decide +kernel
theorem dJ6_bitCount_0f7a4_21 : decode cJ6_bitCount_0f7a4 21 = .ok (.iand, 1) := by decide +kernel
theorem dJ6_bitCount_0f7a4_22 : decode cJ6_bitCount_0f7a4 22 = .ok (.iadd, 1) := by decide +kernel
theorem dJ6_bitCount_0f7a4_23 : decode cJ6_bitCount_0f7a4 23 = .ok (.istore_n 0, 1) := by decide +kernel
theorem dJ6_bitCount_0f7a4_24 : decode cJ6_bitCount_0f7a4 24 = .ok (.iload_n 0, 1) := by decide +kernel
theorem dJ6_bitCount_0f7a4_25 : decode cJ6_bitCount_0f7a4 25 = .ok (.iload_n 0, 1) := by decide +kernel
theorem dJ6_bitCount_0f7a4_26 : decode cJ6_bitCount_0f7a4 26 = .ok (.iconst 4, 1) := by decide +kernel
theorem dJ6_bitCount_0f7a4_27 : decode cJ6_bitCount_0f7a4 27 = .ok (.iushr, 1) := by decide +kernel
theorem dJ6_bitCount_0f7a4_28 : decode cJ6_bitCount_0f7a4 28 = .ok (.iadd, 1) := by decide +kernel
theorem dJ6_bitCount_0f7a4_29 : decode cJ6_bitCount_0f7a4 29 = .ok (.ldc_w 267, 3) := by decide +kernel
theorem dJ6_bitCount_0f7a4_32 : decode cJ6_bitCount_0f7a4 32 = .ok (.iand, 1) := by decide +kernel
theorem dJ6_bitCount_0f7a4_33 : decode cJ6_bitCount_0f7a4 33 = .ok (.istore_n 0, 1) := by decide +kernel
theorem dJ6_bitCount_0f7a4_34 : decode cJ6_bitCount_0f7a4 34 = .ok (.iload_n 0, 1) := by decide +kernel
theorem dJ6_bitCount_0f7a4_35 : decode cJ6_bitCount_0f7a4 35 = .ok (.iload_n 0, 1) := by decide +kernel
theorem dJ6_bitCount_0f7a4_36 : decode cJ6_bitCount_0f7a4 36 = .ok (.bipush 8, 2) := by decide +kernel
theorem dJ6_bitCount_0f7a4_38 : decode cJ6_bitCount_0f7a4 38 = .ok (.iushr, 1) := by decide +kernel
theorem dJ6_bitCount_0f7a4_39 : decode cJ6_bitCount_0f7a4 39 = .ok (.iadd, 1) := by decide +kernel
theorem dJ6_bitCount_0f7a4_40 : decode cJ6_bitCount_0f7a4 40 = .ok (.istore_n 0, 1) := by decide +kernel
theorem dJ6_bitCount_0f7a4_41 : decode cJ6_bitCount_0f7a4 41 = .ok (.iload_n 0, 1) := by decide +kernel
theorem dJ6_bitCount_0f7a4_42 : decode cJ6_bitCount_0f7a4 42 = .ok (.iload_n 0, 1) := by decide +kernel
theorem dJ6_bitCount_0f7a4_43 : decode cJ6_bitCount_0f7a4 43 = .ok (.bipush 16, 2) := by decide +kernel
theorem dJ6_bitCount_0f7a4_45 : decode cJ6_bitCount_0f7a4 45 = .ok (.iushr, 1) := by decide +kernel
theorem dJ6_bitCount_0f7a4_46 : decode cJ6_bitCount_0f7a4 46 = .ok (.iadd, 1) := by decide +kernel
theorem dJ6_bitCount_0f7a4_47 : decode cJ6_bitCount_0f7a4 47 = .ok (.istore_n 0, 1) := by decide +kernel
theorem dJ6_bitCount_0f7a4_48 : decode cJ6_bitCount_0f7a4 48 = .ok (.iload_n 0, 1) := by decide +kernel
theorem dJ6_bitCount_0f7a4_49 : decode cJ6_bitCount_0f7a4 49 = .ok (.bipush 63, 2) := by decide +kernel
theorem dJ6_bitCount_0f7a4_51 : decode cJ6_bitCount_0f7a4 51 = .ok (.iand, 1) := by decide +kernel
theorem dJ6_bitCount_0f7a4_52 : decode cJ6_bitCount_0f7a4 52 = .ok (.ireturn, 1) := by decide +kernel
theorem dJ9_max_7cf53_0 : decode cJ9_max_7cf53 0 = .ok (.iload_n 0, 1) := by decide +kernel
theorem dJ9_max_7cf53_1 : decode cJ9_max_7cf53 1 = .ok (.iload_n 1, 1) := by decide +kernel
theorem dJ9_max_7cf53_2 : decode cJ9_max_7cf53 2 = .ok (.if_icmp .lt 7, 3) := by decide +kernel
theorem dJ9_max_7cf53_5 : decode cJ9_max_7cf53 5 = .ok (.iload_n 0, 1) := by decide +kernel
theorem dJ9_max_7cf53_6 : decode cJ9_max_7cf53 6 = .ok (.goto 4, 3) := by decide +kernel
theorem dJ9_max_7cf53_9 : decode cJ9_max_7cf53 9 = .ok (.iload_n 1, 1) := by decide +kernel
theorem dJ9_max_7cf53_10 : decode cJ9_max_7cf53 10 = .ok (.ireturn, 1) := by decide +kernel
end
section
/-! rows of one's own over the kit's: numbers as nI, Booleans as bI; contracts of one form, their begin, call and end -/
abbrev vwCl : List vw_C := [(RX0, TX0, 13), (RX1, TX1, 5), (RX2, TX2, 4), (RX3, TX3, 8)]
section MKA
variable {p : Program} {l : Launch} {e : Env} {R : Room} {s : State} {m : MethodId} {args : Array Value} {below : List Frame} {meth : Method} {c : Code} {H : Heap} {locs : List Loc} {cells slots : Nat} {Q : State → Prop}
variable {cc : ByteArray} {pc : Nat} {ls : Array Slot} {rest : List Value} {D : va_G} {cl : List vw_C} {A : Nat → Prop} {a : Nat} {tys : List (ClassId × FieldType)} {ws : va_W} {H0 : Heap}
theorem my_cast {x y : Int32} (h : x = y) (k : W p l e R s m args below meth c H locs cells slots Q (F0 m pc ls (.int y :: rest))) : W p l e R s m args below meth c H locs cells slots Q (F0 m pc ls (.int x :: rest)) := by rw [h]; exact k
theorem my_iadd (hx : p.tables.exec = Jvm.exec) (hb : c.code = cc) {x y : Nat} (hdg : decode cc pc = .ok (.iadd, 1)) (k : W p l e R s m args below meth c H locs cells slots Q (F0 m (pc + 1) ls (.int (nI (x + y)) :: rest))) : W p l e R s m args below meth c H locs cells slots Q (F0 m pc ls (.int (nI y) :: .int (nI x) :: rest)) := lv_iadd hx hb hdg (my_cast (nI_add x y) k)
theorem my_isub (hx : p.tables.exec = Jvm.exec) (hb : c.code = cc) {x y : Nat} (h : y ≤ x) (hdg : decode cc pc = .ok (.isub, 1)) (k : W p l e R s m args below meth c H locs cells slots Q (F0 m (pc + 1) ls (.int (nI (x - y)) :: rest))) : W p l e R s m args below meth c H locs cells slots Q (F0 m pc ls (.int (nI y) :: .int (nI x) :: rest)) := lv_isub hx hb hdg (my_cast (pk_sub h) k)
theorem my_imul (hx : p.tables.exec = Jvm.exec) (hb : c.code = cc) {x y : Nat} (hdg : decode cc pc = .ok (.imul, 1)) (k : W p l e R s m args below meth c H locs cells slots Q (F0 m (pc + 1) ls (.int (nI (x * y)) :: rest))) : W p l e R s m args below meth c H locs cells slots Q (F0 m pc ls (.int (nI y) :: .int (nI x) :: rest)) := lv_imul hx hb hdg (my_cast (pk_mul x y) k)
theorem my_idiv (hx : p.tables.exec = Jvm.exec) (hb : c.code = cc) {x y : Nat} (h : x < 2 ^ 31) (h0 : 0 < y) (hy : y < 2 ^ 31) (hdg : decode cc pc = .ok (.idiv, 1)) (k : W p l e R s m args below meth c H locs cells slots Q (F0 m (pc + 1) ls (.int (nI (x / y)) :: rest))) : W p l e R s m args below meth c H locs cells slots Q (F0 m pc ls (.int (nI y) :: .int (nI x) :: rest)) := lv_idiv hx hb hdg (nI_ne0 h0 hy) (my_cast (pk_div h h0 hy) k)
theorem my_irem (hx : p.tables.exec = Jvm.exec) (hb : c.code = cc) {x y : Nat} (h : x < 2 ^ 31) (h0 : 0 < y) (hy : y < 2 ^ 31) (hdg : decode cc pc = .ok (.irem, 1)) (k : W p l e R s m args below meth c H locs cells slots Q (F0 m (pc + 1) ls (.int (nI (x % y)) :: rest))) : W p l e R s m args below meth c H locs cells slots Q (F0 m pc ls (.int (nI y) :: .int (nI x) :: rest)) := lv_irem hx hb hdg (nI_ne0 h0 hy) (my_cast (pk_rem h h0 hy) k)
theorem my_iinc (hx : p.tables.exec = Jvm.exec) (hb : c.code = cc) {i nL k x d : Nat} {n : Int} {lv lv' : List (Nat × Value)} (hdg : decode cc pc = .ok (.iinc i n, 3)) (h : lv_has ls nL lv) (hk : lv[k]? = some (i, .int (nI x))) (hv : Int32.ofInt n = nI d) (hn : i < nL) (hl : (i, Value.int (nI (x + d))) :: lv.filter (fun q => !(q.1 == i) && !(q.1 + 1 == i && q.2.category == 2)) = lv')
    (kk : ∀ ls' : Array Slot, lv_has ls' nL lv' → W p l e R s m args below meth c H locs cells slots Q (F0 m (pc + 3) ls' rest)) : W p l e R s m args below meth c H locs cells slots Q (F0 m pc ls rest) := lv_iinc hx hb hdg h hk (by rw [hv, nI_add]) hn hl kk
/-- branches over numbers that are small -/
theorem my_icmp_eq (hx : p.tables.exec = Jvm.exec) (hb : c.code = cc) {x y : Nat} (h1 : x < 2 ^ 31) (h2 : y < 2 ^ 31) {off : Int} {tgt : Nat} (hdg : decode cc pc = .ok (.if_icmp .eq off, 3)) (ht : (pc : Int) + off = (tgt : Int)) (kt : x = y → W p l e R s m args below meth c H locs cells slots Q (F0 m tgt ls rest)) (kf : x ≠ y → W p l e R s m args below meth c H locs cells slots Q (F0 m (pc + 3) ls rest)) : W p l e R s m args below meth c H locs cells slots Q (F0 m pc ls (.int (nI y) :: .int (nI x) :: rest)) := lv_icmp_eq hx hb hdg ht (fun h => kt ((nI_eq h1 h2).mp h)) (fun h => kf (fun z => h ((nI_eq h1 h2).mpr z)))
theorem my_icmp_ne (hx : p.tables.exec = Jvm.exec) (hb : c.code = cc) {x y : Nat} (h1 : x < 2 ^ 31) (h2 : y < 2 ^ 31) {off : Int} {tgt : Nat} (hdg : decode cc pc = .ok (.if_icmp .ne off, 3)) (ht : (pc : Int) + off = (tgt : Int)) (kt : x ≠ y → W p l e R s m args below meth c H locs cells slots Q (F0 m tgt ls rest)) (kf : x = y → W p l e R s m args below meth c H locs cells slots Q (F0 m (pc + 3) ls rest)) : W p l e R s m args below meth c H locs cells slots Q (F0 m pc ls (.int (nI y) :: .int (nI x) :: rest)) := lv_icmp_ne hx hb hdg ht (fun h => kt (fun z => h ((nI_eq h1 h2).mpr z))) (fun h => kf ((nI_eq h1 h2).mp h))
theorem my_icmp_lt (hx : p.tables.exec = Jvm.exec) (hb : c.code = cc) {x y : Nat} (h1 : x < 2 ^ 31) (h2 : y < 2 ^ 31) {off : Int} {tgt : Nat} (hdg : decode cc pc = .ok (.if_icmp .lt off, 3)) (ht : (pc : Int) + off = (tgt : Int)) (kt : x < y → W p l e R s m args below meth c H locs cells slots Q (F0 m tgt ls rest)) (kf : y ≤ x → W p l e R s m args below meth c H locs cells slots Q (F0 m (pc + 3) ls rest)) : W p l e R s m args below meth c H locs cells slots Q (F0 m pc ls (.int (nI y) :: .int (nI x) :: rest)) := lv_icmp_lt hx hb hdg ht (fun h => kt ((nI_ltI h1 h2).mp h)) (fun h => kf (Nat.not_lt.mp (fun z => h ((nI_ltI h1 h2).mpr z))))
theorem my_icmp_ge (hx : p.tables.exec = Jvm.exec) (hb : c.code = cc) {x y : Nat} (h1 : x < 2 ^ 31) (h2 : y < 2 ^ 31) {off : Int} {tgt : Nat} (hdg : decode cc pc = .ok (.if_icmp .ge off, 3)) (ht : (pc : Int) + off = (tgt : Int)) (kt : y ≤ x → W p l e R s m args below meth c H locs cells slots Q (F0 m tgt ls rest)) (kf : x < y → W p l e R s m args below meth c H locs cells slots Q (F0 m (pc + 3) ls rest)) : W p l e R s m args below meth c H locs cells slots Q (F0 m pc ls (.int (nI y) :: .int (nI x) :: rest)) := lv_icmp_ge hx hb hdg ht (fun h => kt ((nI_leI h2 h1).mp h)) (fun h => kf (Nat.not_le.mp (fun z => h ((nI_leI h2 h1).mpr z))))
theorem my_icmp_gt (hx : p.tables.exec = Jvm.exec) (hb : c.code = cc) {x y : Nat} (h1 : x < 2 ^ 31) (h2 : y < 2 ^ 31) {off : Int} {tgt : Nat} (hdg : decode cc pc = .ok (.if_icmp .gt off, 3)) (ht : (pc : Int) + off = (tgt : Int)) (kt : y < x → W p l e R s m args below meth c H locs cells slots Q (F0 m tgt ls rest)) (kf : x ≤ y → W p l e R s m args below meth c H locs cells slots Q (F0 m (pc + 3) ls rest)) : W p l e R s m args below meth c H locs cells slots Q (F0 m pc ls (.int (nI y) :: .int (nI x) :: rest)) := lv_icmp_gt hx hb hdg ht (fun h => kt ((nI_ltI h2 h1).mp h)) (fun h => kf (Nat.not_lt.mp (fun z => h ((nI_ltI h2 h1).mpr z))))
theorem my_icmp_le (hx : p.tables.exec = Jvm.exec) (hb : c.code = cc) {x y : Nat} (h1 : x < 2 ^ 31) (h2 : y < 2 ^ 31) {off : Int} {tgt : Nat} (hdg : decode cc pc = .ok (.if_icmp .le off, 3)) (ht : (pc : Int) + off = (tgt : Int)) (kt : x ≤ y → W p l e R s m args below meth c H locs cells slots Q (F0 m tgt ls rest)) (kf : y < x → W p l e R s m args below meth c H locs cells slots Q (F0 m (pc + 3) ls rest)) : W p l e R s m args below meth c H locs cells slots Q (F0 m pc ls (.int (nI y) :: .int (nI x) :: rest)) := lv_icmp_le hx hb hdg ht (fun h => kt ((nI_leI h1 h2).mp h)) (fun h => kf (Nat.not_le.mp (fun z => h ((nI_leI h1 h2).mpr z))))
theorem my_if_eqN (hx : p.tables.exec = Jvm.exec) (hb : c.code = cc) {x : Nat} (h1 : x < 2 ^ 31) {off : Int} {tgt : Nat} (hdg : decode cc pc = .ok (.ifCond .eq off, 3)) (ht : (pc : Int) + off = (tgt : Int)) (kt : x = 0 → W p l e R s m args below meth c H locs cells slots Q (F0 m tgt ls rest)) (kf : x ≠ 0 → W p l e R s m args below meth c H locs cells slots Q (F0 m (pc + 3) ls rest)) : W p l e R s m args below meth c H locs cells slots Q (F0 m pc ls (.int (nI x) :: rest)) := lv_if_eq hx hb hdg ht (fun h => kt ((nI_eq h1 (by omega)).mp (h.trans nI_0.symm))) (fun h => kf (fun z => h (by rw [z]; exact nI_0)))
theorem my_if_neN (hx : p.tables.exec = Jvm.exec) (hb : c.code = cc) {x : Nat} (h1 : x < 2 ^ 31) {off : Int} {tgt : Nat} (hdg : decode cc pc = .ok (.ifCond .ne off, 3)) (ht : (pc : Int) + off = (tgt : Int)) (kt : x ≠ 0 → W p l e R s m args below meth c H locs cells slots Q (F0 m tgt ls rest)) (kf : x = 0 → W p l e R s m args below meth c H locs cells slots Q (F0 m (pc + 3) ls rest)) : W p l e R s m args below meth c H locs cells slots Q (F0 m pc ls (.int (nI x) :: rest)) := lv_if_ne hx hb hdg ht (fun h => kt (fun z => h (by rw [z]; exact nI_0))) (fun h => kf ((nI_eq h1 (by omega)).mp (h.trans nI_0.symm)))
theorem my_if_eqB (hx : p.tables.exec = Jvm.exec) (hb : c.code = cc) {x : Bool} {off : Int} {tgt : Nat} (hdg : decode cc pc = .ok (.ifCond .eq off, 3)) (ht : (pc : Int) + off = (tgt : Int)) (kt : x = false → W p l e R s m args below meth c H locs cells slots Q (F0 m tgt ls rest)) (kf : x = true → W p l e R s m args below meth c H locs cells slots Q (F0 m (pc + 3) ls rest)) : W p l e R s m args below meth c H locs cells slots Q (F0 m pc ls (.int (bI x) :: rest)) := lv_if_eq hx hb hdg ht (fun h => kt (bI_0.mp h)) (fun h => kf (bI_n0.mp h))
theorem my_if_neB (hx : p.tables.exec = Jvm.exec) (hb : c.code = cc) {x : Bool} {off : Int} {tgt : Nat} (hdg : decode cc pc = .ok (.ifCond .ne off, 3)) (ht : (pc : Int) + off = (tgt : Int)) (kt : x = true → W p l e R s m args below meth c H locs cells slots Q (F0 m tgt ls rest)) (kf : x = false → W p l e R s m args below meth c H locs cells slots Q (F0 m (pc + 3) ls rest)) : W p l e R s m args below meth c H locs cells slots Q (F0 m pc ls (.int (bI x) :: rest)) := lv_if_ne hx hb hdg ht (fun h => kt (bI_n0.mp h)) (fun h => kf (bI_0.mp h))
/-- arrays by numbers -/
theorem my_iald (hx : p.tables.exec = Jvm.exec) (hb : c.code = cc) (hK : va_K D cl tys s) (hP : va_P D cl ws H) (q0 t0 : Nat) {cA : ClassId} {n i : Nat} {f : Nat → Int32} (ha : ws[q0]? = some (a, .inl (cA, n, .inl f))) (ht : tys[t0]? = some (cA, .int)) (hi : i < n) (hn : n < 2 ^ 31) (hdg : decode cc pc = .ok (.iaload, 1))
    (kk : W p l e R s m args below meth c H locs cells slots Q (F0 m (pc + 1) ls (.int (f i) :: rest))) : W p l e R s m args below meth c H locs cells slots Q (F0 m pc ls (.int (nI i) :: .ref a :: rest)) := va_iald hx hb hK hP q0 t0 ha ht (vp_in_nI hi hn) hdg (by rw [nI_clamp (by omega)]; exact kk)
theorem my_iast (hx : p.tables.exec = Jvm.exec) (hb : c.code = cc) (hK : va_K D cl tys s) (hP : va_P D cl ws H) (hD : va_D A ws) (hS : va_S A H0 H locs) (q0 t0 : Nat) {cA : ClassId} {n i : Nat} {f : Nat → Int32} (ha : ws[q0]? = some (a, .inl (cA, n, .inl f))) (ht : tys[t0]? = some (cA, .int)) {x : Int32} (hi : i < n) (hn : n < 2 ^ 31) (hdg : decode cc pc = .ok (.iastore, 1)) {ws' : va_W} (hw : ws.set q0 (a, .inl (cA, n, .inl (upd f i x))) = ws')
    (kk : ∀ (H1 : Heap) (locs1 : List Loc), va_P D cl ws' H1 → va_D A ws' → va_S A H0 H1 locs1 → W p l e R s m args below meth c H1 locs1 cells slots Q (F0 m (pc + 1) ls rest)) : W p l e R s m args below meth c H locs cells slots Q (F0 m pc ls (.int x :: .int (nI i) :: .ref a :: rest)) := by
  subst hw
  refine va_iast hx hb hK hP hD hS q0 t0 ha ht (vp_in_nI hi hn) hdg fun H1 locs1 h1 h2 h3 => ?_
  rw [nI_clamp (show i < 2 ^ 31 by omega)] at h1 h2
  exact kk H1 locs1 h1 h2 h3
/-- into a row of numbers: hw by nA_up -/
theorem my_iastN (hx : p.tables.exec = Jvm.exec) (hb : c.code = cc) (hK : va_K D cl tys s) (hP : va_P D cl ws H) (hD : va_D A ws) (hS : va_S A H0 H locs) (q0 t0 : Nat) {cA : ClassId} {n i x : Nat} {g : Nat → Nat} (ha : ws[q0]? = some (a, .inl (cA, n, .inl (nA g)))) (ht : tys[t0]? = some (cA, .int)) (hi : i < n) (hn : n < 2 ^ 31) (hdg : decode cc pc = .ok (.iastore, 1)) {ws' : va_W} (hw : ws.set q0 (a, .inl (cA, n, .inl (nA (up1 g i x)))) = ws')
    (kk : ∀ (H1 : Heap) (locs1 : List Loc), va_P D cl ws' H1 → va_D A ws' → va_S A H0 H1 locs1 → W p l e R s m args below meth c H1 locs1 cells slots Q (F0 m (pc + 1) ls rest)) : W p l e R s m args below meth c H locs cells slots Q (F0 m pc ls (.int (nI x) :: .int (nI i) :: .ref a :: rest)) := my_iast hx hb hK hP hD hS q0 t0 ha ht hi hn hdg (by rw [nA_up]; exact hw) kk
theorem my_aldr (hexec : p.tables.exec = Jvm.exec) (hb : c.code = cc) (hK : va_K D cl tys s) (hP : va_P D cl ws H) (q0 t0 : Nat) {cA : ClassId} {ty : FieldType} {n i : Nat} {f : Nat → Option Nat} (ha : ws[q0]? = some (a, .inl (cA, n, .inr (.inr (.inr (.inr f)))))) (ht : tys[t0]? = some (cA, ty)) (hr : ty.isReference = true) (hi : i < n) (hn : n < 2 ^ 31) (hdg : decode cc pc = .ok (.aaload, 1)) {v : Value} (hv : va_rf (f i) = v)
    (kk : W p l e R s m args below meth c H locs cells slots Q (F0 m (pc + 1) ls (v :: rest))) : W p l e R s m args below meth c H locs cells slots Q (F0 m pc ls (.int (nI i) :: .ref a :: rest)) := by
  have hc : (nI i).toNatClampNeg = i := nI_clamp (by omega)
  have hin : vp_in (nI i) n := vp_in_nI hi hn
  exact W.aald (v := v) (ty := ty) hexec hb (hP q0 _ ha) ((hK.2 t0 _ ht).1 n (fun j => va_rf (f j))) hr (fun q => by cases q) (by show ¬ ((nI i) < 0 ∨ (arrV _ _ _).slots.size ≤ _); rw [arrV_size]; exact hin) (by show (arrV _ _ _).slots[_]? = _; rw [hc, arrV_read _ _ hi, hv]) rfl rfl hdg kk
theorem my_alen (hexec : p.tables.exec = Jvm.exec) (hb : c.code = cc) (hK : va_K D cl tys s) (hP : va_P D cl ws H) (q0 t0 : Nat) {cA : ClassId} {x : vp_A} (ha : ws[q0]? = some (a, .inl (cA, x))) {ty : FieldType} (ht : tys[t0]? = some (cA, ty)) {n : Nat} (hv : x.1 = n) (hdg : decode cc pc = .ok (.arraylength, 1))
    (kk : W p l e R s m args below meth c H locs cells slots Q (F0 m (pc + 1) ls (.int (nI n) :: rest))) : W p l e R s m args below meth c H locs cells slots Q (F0 m pc ls (.ref a :: rest)) := va_alen hexec hb hK hP q0 t0 ha ht (v := nI n) (by rw [hv]; rfl) hdg kk
theorem my_zald (hx : p.tables.exec = Jvm.exec) (hb : c.code = cc) (hK : va_K D cl tys s) (hP : va_P D cl ws H) (q0 t0 : Nat) {cA : ClassId} {n i : Nat} {f : Nat → Int32} (ha : ws[q0]? = some (a, .inl (cA, n, .inl f))) (ht : tys[t0]? = some (cA, .boolean)) (hi : i < n) (hn : n < 2 ^ 31) (hdg : decode cc pc = .ok (.baload, 1))
    (kk : W p l e R s m args below meth c H locs cells slots Q (F0 m (pc + 1) ls (.int (f i) :: rest))) : W p l e R s m args below meth c H locs cells slots Q (F0 m pc ls (.int (nI i) :: .ref a :: rest)) := va_zald hx hb hK hP q0 t0 ha ht (vp_in_nI hi hn) hdg (by rw [nI_clamp (by omega)]; exact kk)
theorem my_zast (hx : p.tables.exec = Jvm.exec) (hb : c.code = cc) (hK : va_K D cl tys s) (hP : va_P D cl ws H) (hD : va_D A ws) (hS : va_S A H0 H locs) (q0 t0 : Nat) {cA : ClassId} {n i : Nat} {f : Nat → Int32} (ha : ws[q0]? = some (a, .inl (cA, n, .inl f))) (ht : tys[t0]? = some (cA, .boolean)) {x : Int32} (hnar : vp_nar .boolean x = x) (hi : i < n) (hn : n < 2 ^ 31) (hdg : decode cc pc = .ok (.bastore, 1)) {ws' : va_W} (hw : ws.set q0 (a, .inl (cA, n, .inl (upd f i x))) = ws')
    (kk : ∀ (H1 : Heap) (locs1 : List Loc), va_P D cl ws' H1 → va_D A ws' → va_S A H0 H1 locs1 → W p l e R s m args below meth c H1 locs1 cells slots Q (F0 m (pc + 1) ls rest)) : W p l e R s m args below meth c H locs cells slots Q (F0 m pc ls (.int x :: .int (nI i) :: .ref a :: rest)) := by
  subst hw
  refine va_zast hx hb hK hP hD hS q0 t0 ha ht (vp_in_nI hi hn) hdg fun H1 locs1 h1 h2 h3 => ?_
  rw [nI_clamp (show i < 2 ^ 31 by omega), hnar] at h1 h2
  exact kk H1 locs1 h1 h2 h3
end MKA
/-- contents of a row count up to its length alone -/
theorem my_arrV {cA : ClassId} {n : Nat} {F G : Nat → Value} (h : ∀ j, j < n → F j = G j) : arrV cA n F = arrV cA n G := by
  have e : ∀ F : Nat → Value, (arrV cA n F).slots.size = n := fun F => arrV_size ..
  have hs : (arrV cA n F).slots = (arrV cA n G).slots := by
    apply Array.ext_getElem?
    intro i
    by_cases hi : i < n
    · rw [arrV_read _ _ hi, arrV_read _ _ hi, h i hi]
    · rw [Array.getElem?_eq_none (by rw [e]; omega), Array.getElem?_eq_none (by rw [e]; omega)]
  show ({ cls := (arrV cA n F).cls, slots := (arrV cA n F).slots, vm := (arrV cA n F).vm } : Cell) = _
  rw [hs]
  rfl
theorem my_congr {D : va_G} {cl : List vw_C} {ws : va_W} {H : Heap} (hP : va_P D cl ws H) (q0 : Nat) {a n : Nat} {cA : ClassId} {f g : Nat → Int32} (ha : ws[q0]? = some (a, .inl (cA, n, .inl f))) (h : ∀ j, j < n → f j = g j) {ws' : va_W} (hw : ws.set q0 (a, .inl (cA, n, .inl g)) = ws') : va_P D cl ws' H := by
  subst hw
  intro k q hk
  by_cases e : k = q0
  · subst e
    have hl : k < ws.length := (List.getElem?_eq_some_iff.mp ha).1
    rw [List.getElem?_set_self hl] at hk
    cases hk
    have := hP k _ ha
    show H[a]? = some (vp_cell cA (n, .inl g))
    have h2 : H[a]? = some (vp_cell cA (n, .inl f)) := this
    rw [h2, vp_cell_i, vp_cell_i, my_arrV (fun j hj => by rw [h j hj])]
  · rw [List.getElem?_set_ne (fun z => e z.symm)] at hk
    exact hP k q hk
/-- the end of a method that answers an int -/
def QI {S : Type} (D : va_G) (tys : List (ClassId × FieldType)) (A : Nat → Prop) (val : S → Int32) (P : S → Prop) (w2 : S → va_W) : Array Value → State → Outcome → State → Prop := va_Qi (fun r u => r = val u ∧ P u) (fun u t => va_P D vwCl (w2 u) t.heap ∧ va_K D vwCl tys t ∧ va_D A (w2 u)) A
def QV {S : Type} (D : va_G) (tys : List (ClassId × FieldType)) (A : Nat → Prop) (P : S → Prop) (w2 : S → va_W) : Array Value → State → Outcome → State → Prop := va_Qv P (fun u t => va_P D vwCl (w2 u) t.heap ∧ va_K D vwCl tys t ∧ va_D A (w2 u)) A
def PC (D : va_G) (tys : List (ClassId × FieldType)) (av : List Value) (w : va_W) (sz : Nat) : Array Value → State → Prop := va_Pc av (fun U => U.heap.size = sz ∧ va_P D vwCl w U.heap ∧ va_K D vwCl tys U ∧ va_D (fun _ => True) w)
/-- contracts: from any heap with the world w, the answer is val u and the world w2 u, for a u with P u -/
def CI {S : Type} (l : Launch) (D : va_G) (tys : List (ClassId × FieldType)) (y : MethodName) (wy : List Cond) (rm : Room) (av : List Value) (w : va_W) (val : S → Int32) (P : S → Prop) (w2 : S → va_W) : Prop := ∀ sz : Nat, Met l y wy rm (PC D tys av w sz) (QI D tys (va_A w sz) val P w2) rm.cells rm.slots (va_A w sz)
def CV {S : Type} (l : Launch) (D : va_G) (tys : List (ClassId × FieldType)) (y : MethodName) (wy : List Cond) (rm : Room) (av : List Value) (w : va_W) (P : S → Prop) (w2 : S → va_W) : Prop := ∀ sz : Nat, Met l y wy rm (PC D tys av w sz) (QV D tys (va_A w sz) P w2) rm.cells rm.slots (va_A w sz)
theorem CI.of {S : Type} {l : Launch} {D : va_G} {tys : List (ClassId × FieldType)} {y : MethodName} {wy wy' : List Cond} {rm : Room} {av : List Value} {w : va_W} {val : S → Int32} {P : S → Prop} {w2 : S → va_W} {cc : ByteArray} {maxL : Nat} {rt : FieldType} (hy : plainName y.cls = true) (hw : wy = Cond.code y cc maxL (some rt) :: wy') (hln : (lg_sl av).length ≤ maxL) {lv : List (Nat × Value)} (hlv : lv_args 0 av = lv) (hrt : rt = .int ∨ (rt = .boolean ∧ ∀ u, narrow .boolean (.int (val u)) = .int (val u)))
    (body : ∀ (p : Program) (e : Env) (s : State) (m : MethodId) (ar : Array Value) (below : List Frame) (meth : Method) (c : Code) (A : Nat → Prop) (Qz : State → Prop) (ls : Array Slot), p.tables.exec = Jvm.exec → c.code = cc → c.maxLocals = maxL → s.vm.findClass y.cls = some m.cls → (∀ w ∈ wy, w.before ar s = true) → meth.name = y.name → (∀ q, s.heap.size ≤ q → A q) → va_S A s.heap s.heap [] → va_P D vwCl w s.heap → va_K D vwCl tys s → va_D A w → lv_has ls maxL lv →
      (∀ (u : S) (v : Int32) (w3 : va_W) (H : Heap) (locs : List Loc) (cells slots pc : Nat) (ls : Array Slot), v = val u → P u → w2 u = w3 → va_P D vwCl w3 H → va_D A w3 → va_S A s.heap H locs → cells ≤ rm.cells → slots ≤ rm.slots → decode cc pc = .ok (.ireturn, 1) → W p l e rm s m ar below meth c H locs cells slots Qz (F0 m pc ls [.int v])) →
      W p l e rm s m ar below meth c s.heap [] 0 0 Qz (F0 m 0 ls [])) : CI l D tys y wy rm av w val P w2 := by
  intro sz
  refine Met.ofW (cc := cc) (maxL := maxL) (ret := some rt) hy hw ?_
  intro p e s m args below meth c s₁ B hml hv
  obtain ⟨rfl, hsz, hP, hK, hD0⟩ := hv
  have hx := B.exec
  have hb := B.bytes
  have hr := B.returns
  have hts := atoms_spec (ws := wy) B.pre
  have hown : s.vm.findClass y.cls = some m.cls := findClass_of_methodNamed B.named
  have hlocks := B.notSynchronized
  have hnm : meth.name = y.name := (name_of_methodNamed B.named B.method).1
  subst hsz
  have hD := hD0.self (sz := s.heap.size)
  have hA : ∀ q : Nat, s.heap.size ≤ q → va_A w s.heap.size q := fun q h => Or.inr h
  have hl := lv_entry av (n := maxL) hln
  rw [lg_entry_eq]
  rw [hlv] at hl
  refine body p e s m av.toArray below meth c (va_A w s.heap.size) _ _ hx hb hml hown hts hnm hA va_S.rf hP hK hD hl ?_
  intro u v w3 H locs cells slots pc ls hv hPu hw3 hP3 hD3 hS3 hcl hsl hdg
  subst hw3
  refine W.widen hcl hsl ?_
  have hq : ∀ t : State, t.heap = H → s.WarmedH t.vm → QI D tys (va_A w s.heap.size) val P w2 av.toArray s (.returned (some (.int v))) t := fun t ht hW => ⟨⟨v, u, rfl, ⟨hv, hPu⟩, by rw [ht]; exact hP3, va_K.moved hW.alike hK, hD3⟩, hS3.F ht⟩
  rcases hrt with rfl | ⟨rfl, hn⟩
  · exact W.iret (v := v) hx hb hr hq hS3.2.2 hdg
  · exact W.zret (v := v) hx hb hr (by rw [hv]; exact hn u) hq hS3.2.2 hdg
theorem CV.of {S : Type} {l : Launch} {D : va_G} {tys : List (ClassId × FieldType)} {y : MethodName} {wy wy' : List Cond} {rm : Room} {av : List Value} {w : va_W} {P : S → Prop} {w2 : S → va_W} {cc : ByteArray} {maxL : Nat} (hy : plainName y.cls = true) (hw : wy = Cond.code y cc maxL none :: wy') (hln : (lg_sl av).length ≤ maxL) {lv : List (Nat × Value)} (hlv : lv_args 0 av = lv)
    (body : ∀ (p : Program) (e : Env) (s : State) (m : MethodId) (ar : Array Value) (below : List Frame) (meth : Method) (c : Code) (A : Nat → Prop) (Qz : State → Prop) (ls : Array Slot), p.tables.exec = Jvm.exec → c.code = cc → c.maxLocals = maxL → s.vm.findClass y.cls = some m.cls → (∀ w ∈ wy, w.before ar s = true) → meth.name = y.name → (∀ q, s.heap.size ≤ q → A q) → va_S A s.heap s.heap [] → va_P D vwCl w s.heap → va_K D vwCl tys s → va_D A w → lv_has ls maxL lv →
      (∀ (u : S) (w3 : va_W) (H : Heap) (locs : List Loc) (cells slots pc : Nat) (ls : Array Slot), P u → w2 u = w3 → va_P D vwCl w3 H → va_D A w3 → va_S A s.heap H locs → cells ≤ rm.cells → slots ≤ rm.slots → decode cc pc = .ok (.return_, 1) → W p l e rm s m ar below meth c H locs cells slots Qz (F0 m pc ls [])) →
      W p l e rm s m ar below meth c s.heap [] 0 0 Qz (F0 m 0 ls [])) : CV l D tys y wy rm av w P w2 := by
  intro sz
  refine Met.ofW (cc := cc) (maxL := maxL) (ret := none) hy hw ?_
  intro p e s m args below meth c s₁ B hml hv
  obtain ⟨rfl, hsz, hP, hK, hD0⟩ := hv
  have hx := B.exec
  have hb := B.bytes
  have hr := B.returns
  have hts := atoms_spec (ws := wy) B.pre
  have hown : s.vm.findClass y.cls = some m.cls := findClass_of_methodNamed B.named
  have hlocks := B.notSynchronized
  have hnm : meth.name = y.name := (name_of_methodNamed B.named B.method).1
  subst hsz
  have hD := hD0.self (sz := s.heap.size)
  have hA : ∀ q : Nat, s.heap.size ≤ q → va_A w s.heap.size q := fun q h => Or.inr h
  have hl := lv_entry av (n := maxL) hln
  rw [lg_entry_eq]
  rw [hlv] at hl
  refine body p e s m av.toArray below meth c (va_A w s.heap.size) _ _ hx hb hml hown hts hnm hA va_S.rf hP hK hD hl ?_
  intro u w3 H locs cells slots pc ls hPu hw3 hP3 hD3 hS3 hcl hsl hdg
  subst hw3
  refine W.widen hcl hsl ?_
  exact W.vret hx hb hr (fun t ht hW => ⟨⟨u, rfl, hPu, by rw [ht]; exact hP3, va_K.moved hW.alike hK, hD3⟩, hS3.F ht⟩) hS3.2.2 hdg
theorem PC.blind {D : va_G} {tys : List (ClassId × FieldType)} {av : List Value} {w : va_W} {sz : Nat} : FrameBlind (PC D tys av w sz) := fun a U g mk q => by
  obtain ⟨q0, q1, qP, qK, qD⟩ := q
  exact ⟨q0, q1, qP, va_K.moved (u := U) (U := U.calling g mk a) (Vm.Alike.refl U.vm) qK, qD⟩
section MKC
variable {p : Program} {l : Launch} {e : Env} {R : Room} {s : State} {m : MethodId} {args : Array Value} {below : List Frame} {meth : Method} {c : Code} {H : Heap} {locs : List Loc} {cells slots : Nat} {Q : State → Prop}
variable {cc : ByteArray} {pc : Nat} {ls : Array Slot} {rest : List Value} {D : va_G} {A : Nat → Prop} {tys tyc : List (ClassId × FieldType)} {H0 : Heap} {S : Type}
variable {y : MethodName} {wy : List Cond} {rm : Room} {val : S → Int32} {P : S → Prop} {w2 w3 : S → va_W} {ws wc wr : va_W} {bytes : ByteArray} {maxL nL n index : Nat} {ret : Option FieldType} {own C : String} {Ts : List Cond} {b : Nat} {As : List Value}
/-- what a call leaves: the caller's other cells, the callee's new ones, in the order that the caller wants -/
theorem my_back {H1 : Heap} (hP : va_P D vwCl ws H) (hD : va_D A ws) (hF : ∀ q, va_A wc H.size q → A q) (isC isR : List Nat) (hC : isC.map (fun i => ws[i]?) = wc.map some) (hR : isR.map (fun i => ws[i]?) = wr.map some) (hn : va_nd isR = true) (hdis : ∀ i ∈ isR, i ∉ isC) (hk : ∀ q : Nat, q < H.size → ¬ va_A wc H.size q → H1[q]? = H[q]?) {w1 : va_W} (hP1 : va_P D vwCl w1 H1) (hD1 : va_D (va_A wc H.size) w1) (pm : List Nat) (hpn : va_nd pm = true) {wz : va_W} (hpm : pm.map (fun i => (wr ++ w1)[i]?) = wz.map some) : va_P D vwCl wz H1 ∧ va_D A wz := by
  obtain ⟨h1, h2⟩ := va_join hP hD isC isR hC hR hn hdis hk hF hP1 hD1
  refine ⟨fun k q hq => ?_, h2.sub pm hpn hpm⟩
  have h3 : (pm.map (fun i => (wr ++ w1)[i]?))[k]? = some (some q) := by rw [hpm, List.getElem?_map, hq]; rfl
  rw [List.getElem?_map] at h3
  cases hi : pm[k]? with
  | none => rw [hi] at h3; cases h3
  | some i => rw [hi] at h3; exact h1 i q (Option.some.inj h3)
theorem my_sub {isC : List Nat} (hP : va_P D vwCl ws H) (hC : isC.map (fun i => ws[i]?) = wc.map some) : va_P D vwCl wc H := fun k q hq => by
  have h3 : (isC.map (fun i => ws[i]?))[k]? = some (some q) := by rw [hC, List.getElem?_map, hq]; rfl
  rw [List.getElem?_map] at h3
  cases hi : isC[k]? with
  | none => rw [hi] at h3; cases h3
  | some i => rw [hi] at h3; exact hP i q (Option.some.inj h3)
theorem CI.callV (ct : CI l D tys y wy rm (.ref b :: As) wc val P w2) (hfx : CallFix p m c cc nL s args Ts own) (cw : CallW R s args own C index y bytes maxL ret wy rm rm.cells rm.slots n) (hn : As.length = n) (hls : ls.size = nL) (hst : (rest.map fun v => v.category).sum ≤ 8) (hdg : decode cc pc = .ok (.invokevirtual index, 3)) (hf : cells + rm.cells ≤ R.cells ∧ slots + rm.slots ≤ R.slots)
    (hA : ∀ q, H0.size ≤ q → A q) (hS : va_S A H0 H locs) (hP : va_P D vwCl ws H) (hK : va_K D vwCl tys s) (hD : va_D A ws) (isC isR : List Nat) (hC : isC.map (fun i => ws[i]?) = wc.map some) (hR : isR.map (fun i => ws[i]?) = (isR.filterMap (fun i => ws[i]?)).map some) (hnc : va_nd isC = true) (hnr : va_nd isR = true) (hdis : ∀ i ∈ isR, i ∉ isC) (qc ci : Nat) {fs : List Value} {T : u_T} {N : Nat} (hqc : wc[qc]? = some (b, .inr (ci, fs))) (hci : vwCl[ci]? = some (C, T, N)) (pm : List Nat) (hpn : va_nd pm = true) (hpm : ∀ u, pm.map (fun i => (isR.filterMap (fun i => ws[i]?) ++ w2 u)[i]?) = (w3 u).map some)
    {st : List Value} (hst2 : st = As.reverse ++ .ref b :: rest)
    (kk : ∀ (u : S) (H1 : Heap) (locs1 : List Loc), P u → va_P D vwCl (w3 u) H1 → va_D A (w3 u) → va_S A H0 H1 locs1 → W p l e R s m args below meth c H1 locs1 (cells + rm.cells) (slots + rm.slots) Q (F0 m (pc + 3) ls (.int (val u) :: rest))) : W p l e R s m args below meth c H locs cells slots Q (F0 m pc ls st) := by
  subst hst2
  have hPc := my_sub hP hC
  have hDc := hD.sub isC hnc hC
  have hFc := va_free (wc := wc) hD hS hA isC hC
  refine va_calli (va_runV (As := As) (rest := rest) hfx (ct H.size) cw ⟨PC.blind, va_recv hK hPc hci hqc, fun U hU hW => ⟨rfl, by rw [hU], by rw [hU]; exact hPc, va_K.moved hW.alike hK, hDc.weaken (fun _ _ _ _ => trivial)⟩⟩ rfl hn hls rfl (lv_room hst) hdg hf) hS (fun q _ h => hFc q h) hFc (fun r u t H1 locs1 ht hvm hw hB hz1 hk1 hS1 => ?_)
  obtain ⟨rfl, hw⟩ := hw
  obtain ⟨hP1, hK1, hD1⟩ := hB
  rw [ht] at hP1
  obtain ⟨g1, g2⟩ := my_back hP hD hFc isC isR hC hR hnr hdis hk1 hP1 hD1 pm hpn (hpm u)
  exact kk u H1 locs1 hw g1 g2 hS1
theorem CV.callV (ct : CV l D tys y wy rm (.ref b :: As) wc P w2) (hfx : CallFix p m c cc nL s args Ts own) (cw : CallW R s args own C index y bytes maxL ret wy rm rm.cells rm.slots n) (hn : As.length = n) (hls : ls.size = nL) (hst : (rest.map fun v => v.category).sum ≤ 8) (hdg : decode cc pc = .ok (.invokevirtual index, 3)) (hf : cells + rm.cells ≤ R.cells ∧ slots + rm.slots ≤ R.slots)
    (hA : ∀ q, H0.size ≤ q → A q) (hS : va_S A H0 H locs) (hP : va_P D vwCl ws H) (hK : va_K D vwCl tys s) (hD : va_D A ws) (isC isR : List Nat) (hC : isC.map (fun i => ws[i]?) = wc.map some) (hR : isR.map (fun i => ws[i]?) = (isR.filterMap (fun i => ws[i]?)).map some) (hnc : va_nd isC = true) (hnr : va_nd isR = true) (hdis : ∀ i ∈ isR, i ∉ isC) (qc ci : Nat) {fs : List Value} {T : u_T} {N : Nat} (hqc : wc[qc]? = some (b, .inr (ci, fs))) (hci : vwCl[ci]? = some (C, T, N)) (pm : List Nat) (hpn : va_nd pm = true) (hpm : ∀ u, pm.map (fun i => (isR.filterMap (fun i => ws[i]?) ++ w2 u)[i]?) = (w3 u).map some)
    {st : List Value} (hst2 : st = As.reverse ++ .ref b :: rest)
    (kk : ∀ (u : S) (H1 : Heap) (locs1 : List Loc), P u → va_P D vwCl (w3 u) H1 → va_D A (w3 u) → va_S A H0 H1 locs1 → W p l e R s m args below meth c H1 locs1 (cells + rm.cells) (slots + rm.slots) Q (F0 m (pc + 3) ls rest)) : W p l e R s m args below meth c H locs cells slots Q (F0 m pc ls st) := by
  subst hst2
  have hPc := my_sub hP hC
  have hDc := hD.sub isC hnc hC
  have hFc := va_free (wc := wc) hD hS hA isC hC
  refine va_callv (va_runV (As := As) (rest := rest) hfx (ct H.size) cw ⟨PC.blind, va_recv hK hPc hci hqc, fun U hU hW => ⟨rfl, by rw [hU], by rw [hU]; exact hPc, va_K.moved hW.alike hK, hDc.weaken (fun _ _ _ _ => trivial)⟩⟩ rfl hn hls rfl (lv_room hst) hdg hf) hS (fun q _ h => hFc q h) hFc (fun u t H1 locs1 ht hvm hw hB hz1 hk1 hS1 => ?_)
  obtain ⟨hP1, hK1, hD1⟩ := hB
  rw [ht] at hP1
  obtain ⟨g1, g2⟩ := my_back hP hD hFc isC isR hC hR hnr hdis hk1 hP1 hD1 pm hpn (hpm u)
  exact kk u H1 locs1 hw g1 g2 hS1
theorem CI.callS (ct : CI l D tys y wy rm As wc val P w2) (hfx : CallFix p m c cc nL s args Ts own) (cw : CallB R s args own index y bytes maxL ret wy rm rm.cells rm.slots n ∧ (Cond.static y).before args s = true) (hn : As.length = n) (hls : ls.size = nL) (hst : (rest.map fun v => v.category).sum ≤ 8) (hdg : decode cc pc = .ok (.invokestatic index, 3)) (hf : cells + rm.cells ≤ R.cells ∧ slots + rm.slots ≤ R.slots)
    (hA : ∀ q, H0.size ≤ q → A q) (hS : va_S A H0 H locs) (hP : va_P D vwCl ws H) (hK : va_K D vwCl tys s) (hD : va_D A ws) (isC isR : List Nat) (hC : isC.map (fun i => ws[i]?) = wc.map some) (hR : isR.map (fun i => ws[i]?) = (isR.filterMap (fun i => ws[i]?)).map some) (hnc : va_nd isC = true) (hnr : va_nd isR = true) (hdis : ∀ i ∈ isR, i ∉ isC) (pm : List Nat) (hpn : va_nd pm = true) (hpm : ∀ u, pm.map (fun i => (isR.filterMap (fun i => ws[i]?) ++ w2 u)[i]?) = (w3 u).map some)
    {st : List Value} (hst2 : st = As.reverse ++ rest)
    (kk : ∀ (u : S) (H1 : Heap) (locs1 : List Loc), P u → va_P D vwCl (w3 u) H1 → va_D A (w3 u) → va_S A H0 H1 locs1 → W p l e R s m args below meth c H1 locs1 (cells + rm.cells) (slots + rm.slots) Q (F0 m (pc + 3) ls (.int (val u) :: rest))) : W p l e R s m args below meth c H locs cells slots Q (F0 m pc ls st) := by
  subst hst2
  have hPc := my_sub hP hC
  have hDc := hD.sub isC hnc hC
  have hFc := va_free (wc := wc) hD hS hA isC hC
  refine va_calli (va_runS (As := As) (rest := rest) hfx (ct H.size) cw ⟨PC.blind, fun U hU hW => ⟨rfl, by rw [hU], by rw [hU]; exact hPc, va_K.moved hW.alike hK, hDc.weaken (fun _ _ _ _ => trivial)⟩⟩ rfl hn hls rfl (lv_room hst) hdg hf) hS (fun q _ h => hFc q h) hFc (fun r u t H1 locs1 ht hvm hw hB hz1 hk1 hS1 => ?_)
  obtain ⟨rfl, hw⟩ := hw
  obtain ⟨hP1, hK1, hD1⟩ := hB
  rw [ht] at hP1
  obtain ⟨g1, g2⟩ := my_back hP hD hFc isC isR hC hR hnr hdis hk1 hP1 hD1 pm hpn (hpm u)
  exact kk u H1 locs1 hw g1 g2 hS1
theorem CV.callS (ct : CV l D tys y wy rm As wc P w2) (hfx : CallFix p m c cc nL s args Ts own) (cw : CallB R s args own index y bytes maxL ret wy rm rm.cells rm.slots n ∧ (Cond.static y).before args s = true) (hn : As.length = n) (hls : ls.size = nL) (hst : (rest.map fun v => v.category).sum ≤ 8) (hdg : decode cc pc = .ok (.invokestatic index, 3)) (hf : cells + rm.cells ≤ R.cells ∧ slots + rm.slots ≤ R.slots)
    (hA : ∀ q, H0.size ≤ q → A q) (hS : va_S A H0 H locs) (hP : va_P D vwCl ws H) (hK : va_K D vwCl tys s) (hD : va_D A ws) (isC isR : List Nat) (hC : isC.map (fun i => ws[i]?) = wc.map some) (hR : isR.map (fun i => ws[i]?) = (isR.filterMap (fun i => ws[i]?)).map some) (hnc : va_nd isC = true) (hnr : va_nd isR = true) (hdis : ∀ i ∈ isR, i ∉ isC) (pm : List Nat) (hpn : va_nd pm = true) (hpm : ∀ u, pm.map (fun i => (isR.filterMap (fun i => ws[i]?) ++ w2 u)[i]?) = (w3 u).map some)
    {st : List Value} (hst2 : st = As.reverse ++ rest)
    (kk : ∀ (u : S) (H1 : Heap) (locs1 : List Loc), P u → va_P D vwCl (w3 u) H1 → va_D A (w3 u) → va_S A H0 H1 locs1 → W p l e R s m args below meth c H1 locs1 (cells + rm.cells) (slots + rm.slots) Q (F0 m (pc + 3) ls rest)) : W p l e R s m args below meth c H locs cells slots Q (F0 m pc ls st) := by
  subst hst2
  have hPc := my_sub hP hC
  have hDc := hD.sub isC hnc hC
  have hFc := va_free (wc := wc) hD hS hA isC hC
  refine va_callv (va_runS (As := As) (rest := rest) hfx (ct H.size) cw ⟨PC.blind, fun U hU hW => ⟨rfl, by rw [hU], by rw [hU]; exact hPc, va_K.moved hW.alike hK, hDc.weaken (fun _ _ _ _ => trivial)⟩⟩ rfl hn hls rfl (lv_room hst) hdg hf) hS (fun q _ h => hFc q h) hFc (fun u t H1 locs1 ht hvm hw hB hz1 hk1 hS1 => ?_)
  obtain ⟨hP1, hK1, hD1⟩ := hB
  rw [ht] at hP1
  obtain ⟨g1, g2⟩ := my_back hP hD hFc isC isR hC hR hnr hdis hk1 hP1 hD1 pm hpn (hpm u)
  exact kk u H1 locs1 hw g1 g2 hS1
end MKC
theorem nar_bI (b : Bool) : narrow .boolean (.int (bI b)) = .int (bI b) := by cases b <;> decide
theorem vnar_bI (b : Bool) : vp_nar .boolean (bI b) = bI b := by cases b <;> decide
/-- the array classes that the worlds use -/
abbrev tyL (cI cZ cR cG : ClassId) : List (ClassId × FieldType) := [(cI, .int), (cZ, .boolean), (cR, .object RX0), (cG, .array .int)]
section MKD
variable {p : Program} {l : Launch} {e : Env} {R : Room} {s : State} {m : MethodId} {args : Array Value} {below : List Frame} {meth : Method} {c : Code} {H : Heap} {locs : List Loc} {cells slots : Nat} {Q : State → Prop}
variable {cc : ByteArray} {pc : Nat} {ls : Array Slot} {rest : List Value}
theorem my_icmp_neI (hx : p.tables.exec = Jvm.exec) (hb : c.code = cc) {x y : Int32} {off : Int} {tgt : Nat} (hdg : decode cc pc = .ok (.if_icmp .ne off, 3)) (ht : (pc : Int) + off = (tgt : Int)) (kt : x ≠ y → W p l e R s m args below meth c H locs cells slots Q (F0 m tgt ls rest)) (kf : x = y → W p l e R s m args below meth c H locs cells slots Q (F0 m (pc + 3) ls rest)) : W p l e R s m args below meth c H locs cells slots Q (F0 m pc ls (.int y :: .int x :: rest)) := lv_icmp_ne hx hb hdg ht (fun h => kt h) (fun h => kf h)
theorem my_if_neI (hx : p.tables.exec = Jvm.exec) (hb : c.code = cc) {x : Int32} {off : Int} {tgt : Nat} (hdg : decode cc pc = .ok (.ifCond .ne off, 3)) (ht : (pc : Int) + off = (tgt : Int)) (kt : x ≠ 0 → W p l e R s m args below meth c H locs cells slots Q (F0 m tgt ls rest)) (kf : x = 0 → W p l e R s m args below meth c H locs cells slots Q (F0 m (pc + 3) ls rest)) : W p l e R s m args below meth c H locs cells slots Q (F0 m pc ls (.int x :: rest)) := lv_if_ne hx hb hdg ht (fun h => kt h) (fun h => kf h)
end MKD
end
section
/-! the calls over a circuit's numbers: answers and next circuits; the reference's worlds -/
def inB (x lo hi : Int32) : Bool := decide (lo ≤ x ∧ x ≤ hi)
def inN (x : Int32) (k : Nat) : Bool := decide (0 ≤ x.toInt ∧ x.toInt < (k : Int))
def inR (x : Int32) (lo hi : Nat) : Bool := decide ((lo : Int) ≤ x.toInt ∧ x.toInt ≤ (hi : Int))
theorem inB_N {x : Int32} {k : Nat} (hk : k < 2 ^ 30) : inB x (nI 0) (nI k - nI 1) = inN x k := by
  unfold inB inN
  apply decide_eq_decide.mpr
  rw [Int32.le_iff_toInt_le, Int32.le_iff_toInt_le, pk_sub_toInt hk (by omega), nI_toInt (by omega)]
  omega
theorem inB_R {x : Int32} {a b : Nat} (ha : a < 2 ^ 31) (hb : b < 2 ^ 31) : inB x (nI a) (nI b) = inR x a b := by
  unfold inB inR
  apply decide_eq_decide.mpr
  rw [Int32.le_iff_toInt_le, Int32.le_iff_toInt_le, nI_toInt ha, nI_toInt hb]
theorem inN_at {x : Int32} {k : Nat} (h : inN x k = true) : ∃ j, j < k ∧ j < 2 ^ 31 ∧ x = nI j ∧ x.toNatClampNeg = j := by
  have h := of_decide_eq_true h
  have hr : x.toInt < 2147483648 := (by have := Int32.toInt_lt x; omega)
  have hj : x.toInt.toNat < 2 ^ 31 := by omega
  have e : x = nI x.toInt.toNat := by
    apply Int32.toInt_inj.mp
    rw [nI_toInt hj]
    omega
  refine ⟨x.toInt.toNat, by omega, hj, e, ?_⟩
  rw [e, nI_clamp hj, nI_toInt hj]
  omega
theorem inR_at {x : Int32} {a b : Nat} (h : inR x a b = true) : ∃ j, a ≤ j ∧ j ≤ b ∧ j < 2 ^ 31 ∧ x = nI j ∧ x.toNatClampNeg = j := by
  have h := of_decide_eq_true h
  have hr : x.toInt < 2147483648 := (by have := Int32.toInt_lt x; omega)
  have hj : x.toInt.toNat < 2 ^ 31 := by omega
  have e : x = nI x.toInt.toNat := by
    apply Int32.toInt_inj.mp
    rw [nI_toInt hj]
    omega
  refine ⟨x.toInt.toNat, by omega, by omega, hj, e, ?_⟩
  rw [e, nI_clamp hj, nI_toInt hj]
  omega
theorem inN_nI {j k : Nat} (hj : j < 2 ^ 31) : inN (nI j) k = decide (j < k) := by
  unfold inN
  apply decide_eq_decide.mpr
  rw [nI_toInt hj]
  omega
/-- a user's number, as far as it is none too small -/
abbrev nx (x : Int32) : Nat := x.toNatClampNeg
def addN (g : Nat → Nat) (z : Nat) : Nat → Nat := up1 (up1 (up1 g (2 + g 0) z) (26 + g 0) 2) 0 (g 0 + 1)
def aAddI (g : Nat → Nat) : Int32 := if g 0 = 24 then -6 else nI (g 0)
def gAddI (g : Nat → Nat) : Nat → Nat := if g 0 = 24 then g else addN g 0
def aAddS (g : Nat → Nat) (x : Int32) : Int32 := if inR x 1 3 = true then (if g 0 = 24 then -6 else nI (g 0)) else -3
def gAddS (g : Nat → Nat) (x : Int32) : Nat → Nat := if inR x 1 3 = true then (if g 0 = 24 then g else addN g (nx x)) else g
def addT (g : Nat → Nat) (ty st ga on ot : Nat) : Nat → Nat := up1 (up1 (up1 (up1 (up1 (up1 (up1 g (50 + g 1) ty) (90 + g 1) st) (130 + g 1) ga) (170 + g 1) on) (210 + g 1) ot) (250 + g 1) 0) 1 (g 1 + 1)
def okT (g : Nat → Nat) (ga on ot : Int32) : Bool := inN ga (g 0) && (inN on (g 0) && inN ot (g 0))
def aAddT (g : Nat → Nat) (ty st ga on ot : Int32) : Int32 := if okT g ga on ot = true then (if on = ot then -4 else if (inR ty 0 2 && inR st 1 3) = true then (if g 1 = 40 then -6 else nI (g 1)) else -3) else -1
def gAddT (g : Nat → Nat) (ty st ga on ot : Int32) : Nat → Nat := if okT g ga on ot = true then (if on = ot then g else if (inR ty 0 2 && inR st 1 3) = true then (if g 1 = 40 then g else addT g (nx ty) (nx st) (nx ga) (nx on) (nx ot)) else g) else g
def inp (g : Nat → Nat) (n : Nat) : Bool := decide (n < g 0) && decide (g (2 + n) = 0)
def aSetV (f : Bool) (g : Nat → Nat) (x v : Int32) : Int32 := if inN x (g 0) = true then (if decide (g (2 + nx x) = 0) = f then (if inR v 0 2 = true then nI (g (26 + nx x)) else -3) else -5) else -1
def gSetV (f : Bool) (g : Nat → Nat) (x v : Int32) : Nat → Nat := if inN x (g 0) = true then (if decide (g (2 + nx x) = 0) = f then (if inR v 0 2 = true then up1 g (26 + nx x) (nx v) else g) else g) else g
/-- how many of the first n -/
def ct (p : Nat → Bool) : Nat → Nat
  | 0 => 0
  | n + 1 => ct p n + (if p n = true then 1 else 0)
theorem ct_le (p : Nat → Bool) : ∀ n, ct p n ≤ n
  | 0 => Nat.le_refl _
  | n + 1 => by
    have := ct_le p n
    rw [ct]
    split <;> omega
theorem ct_cong {p q : Nat → Bool} : ∀ {n : Nat}, (∀ k, k < n → p k = q k) → ct p n = ct q n
  | 0, _ => rfl
  | n + 1, h => by rw [ct, ct, ct_cong (fun k hk => h k (by omega)), h n (by omega)]
def kno (g : Nat → Nat) (n : Nat) : Bool := decide (g (2 + n) ≠ 0) && decide (g (26 + n) ≠ 2)
/-- the first k nodes forgotten -/
def forK (g : Nat → Nat) (k : Nat) : Nat → Nat := fun j => if 26 ≤ j ∧ j < 26 + k ∧ g (2 + (j - 26)) ≠ 0 then 2 else g j
def aFor (g : Nat → Nat) : Int32 := nI (ct (kno g) (g 0))
def aVal (g : Nat → Nat) (x : Int32) : Int32 := if inN x (g 0) = true then nI (g (26 + nx x)) else -1
def vlu (g : Nat → Nat) (v n : Nat) : Bool := decide (g (26 + n) = v)
def aWith (g : Nat → Nat) (v : Int32) : Int32 := if inR v 0 2 = true then mk (vlu g (nx v)) (g 0) else -3
def aSw (g : Nat → Nat) (x : Int32) : Int32 := if inN x (g 1) = true then nI (swS g (nx x)) else -2
def aFlt (g : Nat → Nat) (x v : Int32) : Int32 := if inN x (g 1) = true then (if inR v 0 2 = true then nI (g (250 + nx x)) else -3) else -2
def gFlt (g : Nat → Nat) (x v : Int32) : Nat → Nat := if inN x (g 1) = true then (if inR v 0 2 = true then up1 g (250 + nx x) (nx v) else g) else g
def flw (g : Nat → Nat) (t : Nat) : Bool := decide (g (250 + t) ≠ 0)
def clrK (g : Nat → Nat) (k : Nat) : Nat → Nat := fun j => if 250 ≤ j ∧ j < 250 + k then 0 else g j
def aClr (g : Nat → Nat) : Int32 := nI (ct (flw g) (g 1))
theorem forK_s {g : Nat → Nat} {k : Nat} (h : g (2 + k) ≠ 0) : up1 (forK g k) (26 + k) 2 = forK g (k + 1) := by
  funext j
  unfold up1 forK
  by_cases e : j = 26 + k
  · subst e
    rw [if_pos rfl, if_pos ⟨by omega, by omega, by rw [show 26 + k - 26 = k by omega]; exact h⟩]
  · rw [if_neg e]
    by_cases c : 26 ≤ j ∧ j < 26 + k ∧ g (2 + (j - 26)) ≠ 0
    · rw [if_pos c, if_pos ⟨c.1, by omega, c.2.2⟩]
    · rw [if_neg c, if_neg (fun z => c ⟨z.1, by omega, z.2.2⟩)]
theorem forK_n {g : Nat → Nat} {k : Nat} (h : g (2 + k) = 0) : forK g k = forK g (k + 1) := by
  funext j
  unfold forK
  by_cases c : 26 ≤ j ∧ j < 26 + k ∧ g (2 + (j - 26)) ≠ 0
  · rw [if_pos c, if_pos ⟨c.1, by omega, c.2.2⟩]
  · rw [if_neg c, if_neg (fun z => c ⟨z.1, by
      have : j ≠ 26 + k := fun q => z.2.2 (by rw [q, show 26 + k - 26 = k by omega]; exact h)
      omega, z.2.2⟩)]
theorem forK_0 (g : Nat → Nat) : forK g 0 = g := by
  funext j
  unfold forK
  rw [if_neg (by omega)]
theorem forK_lo {g : Nat → Nat} {k j : Nat} (h : j < 26 ∨ 26 + k ≤ j) : forK g k j = g j := if_neg (by omega)
theorem clrK_0 (g : Nat → Nat) : clrK g 0 = g := by
  funext j
  unfold clrK
  rw [if_neg (by omega)]
theorem clrK_s (g : Nat → Nat) (k : Nat) : up1 (clrK g k) (250 + k) 0 = clrK g (k + 1) := by
  funext j
  unfold up1 clrK
  by_cases e : j = 250 + k
  · subst e
    rw [if_pos rfl, if_pos ⟨by omega, by omega⟩]
  · rw [if_neg e]
    by_cases c : 250 ≤ j ∧ j < 250 + k
    · rw [if_pos c, if_pos ⟨c.1, by omega⟩]
    · rw [if_neg c, if_neg (fun z => c ⟨z.1, by omega⟩)]
theorem clrK_lo {g : Nat → Nat} {k j : Nat} (h : j < 250 ∨ 250 + k ≤ j) : clrK g k j = g j := if_neg (by omega)
/-- the reference's object and rows -/
abbrev mO (ad : Nat → Nat) : Nat × va_E := (ad 0, .inr (3, [.ref (ad 1), .ref (ad 2), .ref (ad 3), .ref (ad 4), .ref (ad 5), .ref (ad 6), .ref (ad 7), .ref (ad 8)]))
abbrev sW (cI : ClassId) (ad : Nat → Nat) (g : Nat → Nat) : va_W := [mO ad, (ad 1, .inl (cI, 290, .inl (nA g)))]
abbrev dW (cI : ClassId) (ad : Nat → Nat) (g de ss : Nat → Nat) : va_W := [mO ad, (ad 1, .inl (cI, 290, .inl (nA g))), (ad 4, .inl (cI, 24, .inl (nA de))), (ad 7, .inl (cI, 40, .inl (nA ss)))]
abbrev gW (cI : ClassId) (ad : Nat → Nat) (r : Nat) (g de ss row : Nat → Nat) : va_W := [mO ad, (ad 1, .inl (cI, 290, .inl (nA g))), (ad 4, .inl (cI, 24, .inl (nA de))), (ad 7, .inl (cI, 40, .inl (nA ss))), (r, .inl (cI, 24, .inl (nA row)))]
abbrev lW (cI : ClassId) (ad : Nat → Nat) (g de ss up dn : Nat → Nat) : va_W := [mO ad, (ad 1, .inl (cI, 290, .inl (nA g))), (ad 4, .inl (cI, 24, .inl (nA de))), (ad 7, .inl (cI, 40, .inl (nA ss))), (ad 5, .inl (cI, 24, .inl (nA up))), (ad 6, .inl (cI, 24, .inl (nA dn)))]
abbrev pW (cI : ClassId) (ad : Nat → Nat) (g de ss up dn be : Nat → Nat) : va_W := [mO ad, (ad 1, .inl (cI, 290, .inl (nA g))), (ad 4, .inl (cI, 24, .inl (nA de))), (ad 7, .inl (cI, 40, .inl (nA ss))), (ad 5, .inl (cI, 24, .inl (nA up))), (ad 6, .inl (cI, 24, .inl (nA dn))), (ad 8, .inl (cI, 290, .inl (nA be)))]
abbrev kW (cI : ClassId) (ad : Nat → Nat) (g be : Nat → Nat) : va_W := [mO ad, (ad 1, .inl (cI, 290, .inl (nA g))), (ad 8, .inl (cI, 290, .inl (nA be)))]
abbrev vW (cI cZ : ClassId) (ad : Nat → Nat) (g sl : Nat → Nat) (sv : Nat → Int32) : va_W := [mO ad, (ad 1, .inl (cI, 290, .inl (nA g))), (ad 2, .inl (cI, 580, .inl (nA sl))), (ad 3, .inl (cZ, 2, .inl sv))]
end
section
/-! the reference's rounds over all transistors: what grows, until nothing does -/
theorem up1_same (f : Nat → Nat) (k : Nat) : up1 f k (f k) = f := by
  funext j
  by_cases h : j = k
  · subst h; exact up1_s
  · exact up1_n h
def gv (g row : Nat → Nat) (t a : Nat) : Nat := min (g (90 + t) + 3) (row a)
def grD (g de : Nat → Nat) (t a b : Nat) : Bool := !decide (g (2 + b) = 0) && decide (de b < gv g de t a)
def nxD (g de : Nat → Nat) (t a b : Nat) : Nat → Nat := if grD g de t a b = true then up1 de b (gv g de t a) else de
def grU (g q row : Nat → Nat) (t a b : Nat) : Bool := !decide (g (2 + b) = 0) && (decide (row b < gv g row t a) && decide (q b ≤ gv g row t a))
def nxU (g q row : Nat → Nat) (t a b : Nat) : Nat → Nat := if grU g q row t a b = true then up1 row b (gv g row t a) else row
/-- what is still to be grown -/
def sm (f : Nat → Nat) : Nat → Nat
  | 0 => 0
  | n + 1 => sm f n + (7 - f n)
theorem sm_up {f : Nat → Nat} {b v : Nat} (h1 : f b < v) (h2 : v ≤ 7) : ∀ n, (b < n → sm (up1 f b v) n < sm f n) ∧ (n ≤ b → sm (up1 f b v) n = sm f n)
  | 0 => ⟨fun h => absurd h (Nat.not_lt_zero _), fun _ => rfl⟩
  | n + 1 => by
    have ih := sm_up h1 h2 n
    refine ⟨fun h => ?_, fun h => ?_⟩
    · rw [sm, sm]
      by_cases e : b = n
      · subst e
        rw [ih.2 (Nat.le_refl _), up1_s]
        omega
      · have := ih.1 (by omega)
        rw [up1_n (show n ≠ b by omega)]
        omega
    · rw [sm, sm, ih.2 (by omega), up1_n (show n ≠ b by omega)]
/-- between the start and the least solution -/
def DI (g de : Nat → Nat) : Prop := ∀ n, n < g 0 → bas g n ≤ de n ∧ de n ≤ qF g n
def CloD (g de : Nat → Nat) (k : Nat) : Prop := ∀ t, t < k → swS g t = 1 → ∀ a b, edg g t a b → g (2 + b) ≠ 0 → min (g (90 + t) + 3) (de a) ≤ de b
theorem DI_nx {g de : Nat → Nat} (ok : okG g) (h : DI g de) {t a b : Nat} (ht : t < g 1) (hs : swS g t = 1) (he : edg g t a b) : DI g (nxD g de t a b) := by
  unfold nxD
  split
  · rename_i hg
    unfold grD at hg
    simp at hg
    have hl := edg_lt ok ht he
    have hq := (PreQ_q ok).2 t ht hs a b he hg.1
    intro n hn
    by_cases e : n = b
    · subst e
      rw [up1_s]
      have h1 := h n hn
      have h2 := h a hl.1
      unfold gv at hg ⊢
      omega
    · rw [up1_n e]
      exact h n hn
  · exact h
theorem nxD_sm {g de : Nat → Nat} (ok : okG g) (h : DI g de) {t a b : Nat} (ht : t < g 1) (he : edg g t a b) : (grD g de t a b = true → sm (nxD g de t a b) 24 < sm de 24) ∧ (grD g de t a b = false → nxD g de t a b = de) := by
  have hl := edg_lt ok ht he
  have h0 := ok.1
  refine ⟨fun hg => ?_, fun hg => ?_⟩
  · unfold nxD
    rw [if_pos hg]
    unfold grD at hg
    simp at hg
    have h2 := h a hl.1
    have h3 := q_le7 ok a
    exact (sm_up hg.2 (by unfold gv; omega) 24).1 (by omega)
  · unfold nxD
    rw [if_neg (by rw [hg]; decide)]
/-- one transistor, both ways -/
theorem clo_stepD {g de : Nat → Nat} (ok : okG g) {t : Nat} (h : CloD g de t) (h1 : grD g de t (g (170 + t)) (g (210 + t)) = false) (h2 : grD g de t (g (210 + t)) (g (170 + t)) = false) : CloD g de (t + 1) := by
  intro u hu hs a b he hb
  rcases Nat.lt_or_ge u t with c | c
  · exact h u c hs a b he hb
  · have e : u = t := by omega
    subst e
    unfold grD gv at h1 h2
    rcases he with ⟨rfl, rfl⟩ | ⟨rfl, rfl⟩
    · simp [hb] at h1
      exact h1
    · simp [hb] at h2
      exact h2
theorem clo_skipD {g de : Nat → Nat} {t : Nat} (h : CloD g de t) (hn : swS g t ≠ 1) : CloD g de (t + 1) := by
  intro u hu hs a b he hb
  rcases Nat.lt_or_ge u t with c | c
  · exact h u c hs a b he hb
  · exact absurd (by rw [← show u = t by omega]; exact hs) hn
theorem DI_end {g de : Nat → Nat} (h : DI g de) (hc : CloD g de (g 1)) : ∀ n, n < g 0 → de n = qF g n := fun n hn => Nat.le_antisymm (h n hn).2 (q_le ⟨fun n hn => (h n hn).1, hc⟩ n)
def UI (g : Nat → Nat) (s : Nat) (row : Nat → Nat) : Prop := ∀ n, n < g 0 → ((g (26 + n) = s ∨ g (26 + n) = 2) → qF g n ≤ bas g n → bas g n ≤ row n) ∧ row n ≤ uF g s n
def CloU (g q row : Nat → Nat) (k : Nat) : Prop := ∀ t, t < k → swS g t ≠ 0 → ∀ a b, edg g t a b → g (2 + b) ≠ 0 → q b ≤ min (g (90 + t) + 3) (row a) → min (g (90 + t) + 3) (row a) ≤ row b
theorem UI_nx {g q row : Nat → Nat} (ok : okG g) {s : Nat} (hq : ∀ n, n < g 0 → q n = qF g n) (h : UI g s row) {t a b : Nat} (ht : t < g 1) (hs : swS g t ≠ 0) (he : edg g t a b) : UI g s (nxU g q row t a b) := by
  unfold nxU
  split
  · rename_i hg
    unfold grU at hg
    simp at hg
    have hl := edg_lt ok ht he
    intro n hn
    by_cases e : n = b
    · subst e
      rw [up1_s]
      have h1 := h n hn
      have h2 := (h a hl.1).2
      have h3 := hq n hn
      have hu := (PreU_u ok s).2 t ht hs a n he hg.1
      unfold gv at hg ⊢
      refine ⟨fun hv hb => ?_, ?_⟩
      · have := h1.1 hv hb
        omega
      · omega
    · rw [up1_n e]
      exact h n hn
  · exact h
theorem nxU_sm {g q row : Nat → Nat} (ok : okG g) {s : Nat} (h : UI g s row) {t a b : Nat} (ht : t < g 1) (he : edg g t a b) : (grU g q row t a b = true → sm (nxU g q row t a b) 24 < sm row 24) ∧ (grU g q row t a b = false → nxU g q row t a b = row) := by
  have hl := edg_lt ok ht he
  have h0 := ok.1
  refine ⟨fun hg => ?_, fun hg => ?_⟩
  · unfold nxU
    rw [if_pos hg]
    unfold grU at hg
    simp at hg
    have h2 := (h a hl.1).2
    have h3 := u_le7 ok s a
    exact (sm_up hg.2.1 (by unfold gv; omega) 24).1 (by omega)
  · unfold nxU
    rw [if_neg (by rw [hg]; decide)]
theorem clo_stepU {g q row : Nat → Nat} {t : Nat} (h : CloU g q row t) (h1 : grU g q row t (g (170 + t)) (g (210 + t)) = false) (h2 : grU g q row t (g (210 + t)) (g (170 + t)) = false) : CloU g q row (t + 1) := by
  intro u hu hs a b he hb hq
  rcases Nat.lt_or_ge u t with c | c
  · exact h u c hs a b he hb hq
  · have e : u = t := by omega
    subst e
    unfold grU gv at h1 h2
    refine Nat.le_of_not_lt fun z => ?_
    rcases he with ⟨rfl, rfl⟩ | ⟨rfl, rfl⟩
    · rw [decide_eq_false hb, decide_eq_true z, decide_eq_true hq] at h1
      cases h1
    · rw [decide_eq_false hb, decide_eq_true z, decide_eq_true hq] at h2
      cases h2
theorem clo_skipU {g q row : Nat → Nat} {t : Nat} (h : CloU g q row t) (hn : swS g t = 0) : CloU g q row (t + 1) := by
  intro u hu hs a b he hb hq
  rcases Nat.lt_or_ge u t with c | c
  · exact h u c hs a b he hb hq
  · exact absurd (by rw [show u = t by omega]; exact hn) hs
theorem UI_end {g q row : Nat → Nat} {s : Nat} (hq : ∀ n, n < g 0 → q n = qF g n) (ok : okG g) (h : UI g s row) (hc : CloU g q row (g 1)) : ∀ n, n < g 0 → row n = uF g s n := fun n hn => Nat.le_antisymm (h n hn).2 (u_le ⟨fun n hn => (h n hn).1, fun t ht hs a b he hb hz => hc t ht hs a b he hb (by rw [hq b (edg_lt ok ht he).2]; exact hz)⟩ n)
/-- the state of a round: m tells whether something has grown since f0 -/
def RdD (g f0 f : Nat → Nat) (m : Bool) (t : Nat) : Prop := DI g f ∧ (m = true → sm f 24 < sm f0 24) ∧ (m = false → sm f 24 ≤ sm f0 24 ∧ CloD g f t)
def RdU (g : Nat → Nat) (s : Nat) (q f0 f : Nat → Nat) (m : Bool) (t : Nat) : Prop := UI g s f ∧ (m = true → sm f 24 < sm f0 24) ∧ (m = false → sm f 24 ≤ sm f0 24 ∧ CloU g q f t)
theorem RdD_0 {g f : Nat → Nat} (h : DI g f) : RdD g f f false 0 := ⟨h, fun z => (by cases z), fun _ => ⟨Nat.le_refl _, fun t ht => absurd ht (Nat.not_lt_zero t)⟩⟩
theorem RdU_0 {g : Nat → Nat} {s : Nat} {q f : Nat → Nat} (h : UI g s f) : RdU g s q f f false 0 := ⟨h, fun z => (by cases z), fun _ => ⟨Nat.le_refl _, fun t ht => absurd ht (Nat.not_lt_zero t)⟩⟩
theorem edg_1 (g : Nat → Nat) (t : Nat) : edg g t (g (170 + t)) (g (210 + t)) := Or.inl ⟨rfl, rfl⟩
theorem edg_2 (g : Nat → Nat) (t : Nat) : edg g t (g (210 + t)) (g (170 + t)) := Or.inr ⟨rfl, rfl⟩
theorem RdD_s {g f0 f : Nat → Nat} (ok : okG g) {m : Bool} {t : Nat} (ht : t < g 1) (hs : swS g t = 1) (h : RdD g f0 f m t) {r1 r2 : Bool} (e1 : grD g f t (g (170 + t)) (g (210 + t)) = r1) (e2 : grD g (nxD g f t (g (170 + t)) (g (210 + t))) t (g (210 + t)) (g (170 + t)) = r2) : RdD g f0 (nxD g (nxD g f t (g (170 + t)) (g (210 + t))) t (g (210 + t)) (g (170 + t))) (r2 || (r1 || m)) (t + 1) := by
  have d1 := DI_nx ok h.1 ht hs (edg_1 g t)
  have d2 := DI_nx ok d1 ht hs (edg_2 g t)
  have s1 := nxD_sm ok h.1 ht (edg_1 g t)
  have s2 := nxD_sm ok d1 ht (edg_2 g t)
  refine ⟨d2, fun hm => ?_, fun hm => ?_⟩
  · have hle : sm f 24 ≤ sm f0 24 := by
      cases m
      · exact (h.2.2 rfl).1
      · exact Nat.le_of_lt (h.2.1 rfl)
    cases r2
    · cases r1
      · rw [s2.2 e2, s1.2 e1]
        exact h.2.1 (by simpa using hm)
      · rw [s2.2 e2]
        have := s1.1 e1
        omega
    · have := s2.1 e2
      cases r1
      · rw [s1.2 e1] at this ⊢
        omega
      · have := s1.1 e1
        omega
  · simp at hm
    obtain ⟨h2, h1, h0⟩ := hm
    subst h2; subst h1; subst h0
    rw [s2.2 e2, s1.2 e1]
    rw [s1.2 e1] at e2
    exact ⟨(h.2.2 rfl).1, clo_stepD ok (h.2.2 rfl).2 e1 e2⟩
theorem RdD_k {g f0 f : Nat → Nat} {m : Bool} {t : Nat} (hn : swS g t ≠ 1) (h : RdD g f0 f m t) : RdD g f0 f m (t + 1) := ⟨h.1, h.2.1, fun z => ⟨(h.2.2 z).1, clo_skipD (h.2.2 z).2 hn⟩⟩
theorem RdU_s {g q f0 f : Nat → Nat} (ok : okG g) {s : Nat} (hq : ∀ n, n < g 0 → q n = qF g n) {m : Bool} {t : Nat} (ht : t < g 1) (hs : swS g t ≠ 0) (h : RdU g s q f0 f m t) {r1 r2 : Bool} (e1 : grU g q f t (g (170 + t)) (g (210 + t)) = r1) (e2 : grU g q (nxU g q f t (g (170 + t)) (g (210 + t))) t (g (210 + t)) (g (170 + t)) = r2) : RdU g s q f0 (nxU g q (nxU g q f t (g (170 + t)) (g (210 + t))) t (g (210 + t)) (g (170 + t))) (r2 || (r1 || m)) (t + 1) := by
  have d1 := UI_nx ok hq h.1 ht hs (edg_1 g t)
  have d2 := UI_nx ok hq d1 ht hs (edg_2 g t)
  have s1 := nxU_sm (q := q) ok h.1 ht (edg_1 g t)
  have s2 := nxU_sm (q := q) ok d1 ht (edg_2 g t)
  refine ⟨d2, fun hm => ?_, fun hm => ?_⟩
  · have hle : sm f 24 ≤ sm f0 24 := by
      cases m
      · exact (h.2.2 rfl).1
      · exact Nat.le_of_lt (h.2.1 rfl)
    cases r2
    · cases r1
      · rw [s2.2 e2, s1.2 e1]
        exact h.2.1 (by simpa using hm)
      · rw [s2.2 e2]
        have := s1.1 e1
        omega
    · have := s2.1 e2
      cases r1
      · rw [s1.2 e1] at this ⊢
        omega
      · have := s1.1 e1
        omega
  · simp at hm
    obtain ⟨h2, h1, h0⟩ := hm
    subst h2; subst h1; subst h0
    rw [s2.2 e2, s1.2 e1]
    rw [s1.2 e1] at e2
    exact ⟨(h.2.2 rfl).1, clo_stepU (h.2.2 rfl).2 e1 e2⟩
theorem RdU_k {g q f0 f : Nat → Nat} {s : Nat} {m : Bool} {t : Nat} (hn : swS g t = 0) (h : RdU g s q f0 f m t) : RdU g s q f0 f m (t + 1) := ⟨h.1, h.2.1, fun z => ⟨(h.2.2 z).1, clo_skipU (h.2.2 z).2 hn⟩⟩
theorem fill_s {F f : Nat → Nat} {n v : Nat} (h : ∀ j, j < n → f j = F j) (hv : v = F n) : ∀ j, j < n + 1 → up1 f n v j = F j := fun j hj => by
  by_cases e : j = n
  · subst e; rw [up1_s]; exact hv
  · rw [up1_n e]; exact h j (by omega)
theorem fill_0 {F f : Nat → Nat} : ∀ j, j < 0 → f j = F j := fun j h => absurd h (Nat.not_lt_zero j)
theorem DI_0 {g f : Nat → Nat} (ok : okG g) {n : Nat} (hn : g 0 ≤ n) (h : ∀ j, j < n → f j = bas g j) : DI g f := fun j hj => by
  rw [h j (by omega)]
  exact ⟨Nat.le_refl _, (PreQ_q ok).1 j hj⟩
noncomputable def ub (g : Nat → Nat) (s j : Nat) : Nat := if (g (26 + j) = s ∨ g (26 + j) = 2) ∧ qF g j ≤ bas g j then bas g j else 0
theorem UI_0 {g f : Nat → Nat} {s : Nat} (ok : okG g) {n : Nat} (hn : g 0 ≤ n) (h : ∀ j, j < n → f j = ub g s j) : UI g s f := fun j hj => by
  rw [h j (by omega)]
  unfold ub
  refine ⟨fun hv hb => by rw [if_pos ⟨hv, hb⟩]; exact Nat.le_refl _, ?_⟩
  split
  · rename_i hc
    exact (PreU_u ok s).1 j hj hc.1 hc.2
  · exact Nat.zero_le _
theorem RdD_mu {g f0 f : Nat → Nat} {m : Bool} {t : Nat} (h : RdD g f0 f m t) : 2 * sm f 24 + (if m = true then 1 else 0) < 2 * sm f0 24 + 1 := by
  cases m
  · have := (h.2.2 rfl).1
    rw [if_neg (by decide)]
    omega
  · have := h.2.1 rfl
    rw [if_pos rfl]
    omega
theorem RdU_mu {g q f0 f : Nat → Nat} {s : Nat} {m : Bool} {t : Nat} (h : RdU g s q f0 f m t) : 2 * sm f 24 + (if m = true then 1 else 0) < 2 * sm f0 24 + 1 := by
  cases m
  · have := (h.2.2 rfl).1
    rw [if_neg (by decide)]
    omega
  · have := h.2.1 rfl
    rw [if_pos rfl]
    omega
end
section
abbrev rm_X3_in : Room := { frames := 0, cells := 0, slots := 0, locals := 0 }
set_option maxHeartbeats 4000000 in
set_option maxRecDepth 100000 in
theorem c_X3_in (l : Launch) (dC : Nat → ClassId) (dI : Nat → Nat → Nat) (cI cZ cR cG : ClassId) (x lo hi : Int32) : CI l (dC, dI) (tyL cI cZ cR cG) yX3_in wsX3_in rm_X3_in [.int x, .int lo, .int hi] ([]) (S := Unit) (fun _ => bI (inB x lo hi)) (fun _ => True) (fun _ => []) := by
  refine CI.of (cc := cX3_in) (maxL := 3) (rt := .boolean) (lv := [(0, .int x), (1, .int lo), (2, .int hi)]) (by decide) rfl (Nat.le_of_ble_eq_true rfl) rfl (Or.inr ⟨rfl, fun _ => nar_bI _⟩) ?_
  intro p e s m ar below meth c A Qz ls hx hb hml hown hts hnm hA hS hP hK hD hl ret
  refine lv_iload_n hx hb dX3_in_0 rfl (lv_at hl 0 rfl) ?_
  refine lv_iload_n hx hb dX3_in_1 rfl (lv_at hl 1 rfl) ?_
  refine lv_icmp_lt (x := x) (y := lo) (tgt := 14) hx hb dX3_in_2 (by decide) (fun c_1 => ?_) (fun c_1 => ?_)
  · refine lv_iconst (v := nI 0) hx hb dX3_in_14 (by decide) ?_
    exact ret () _ _ _ _ _ _ _ _ (by unfold inB; rw [decide_eq_false (fun z => absurd c_1 (Int32.not_lt.mpr z.1))]; rfl) (trivial) (rfl) hP hD hS (Nat.le_of_ble_eq_true rfl) (Nat.le_of_ble_eq_true rfl) dX3_in_15
  · refine lv_iload_n hx hb dX3_in_5 rfl (lv_at hl 0 rfl) ?_
    refine lv_iload_n hx hb dX3_in_6 rfl (lv_at hl 2 rfl) ?_
    refine lv_icmp_gt (x := x) (y := hi) (tgt := 14) hx hb dX3_in_7 (by decide) (fun c_2 => ?_) (fun c_2 => ?_)
    · refine lv_iconst (v := nI 0) hx hb dX3_in_14 (by decide) ?_
      exact ret () _ _ _ _ _ _ _ _ (by unfold inB; rw [decide_eq_false (fun z => absurd c_2 (Int32.not_lt.mpr z.2))]; rfl) (trivial) (rfl) hP hD hS (Nat.le_of_ble_eq_true rfl) (Nat.le_of_ble_eq_true rfl) dX3_in_15
    · refine lv_iconst (v := nI 1) hx hb dX3_in_10 (by decide) ?_
      refine lv_goto (tgt := 15) hx hb dX3_in_11 (by decide) ?_
      exact ret () _ _ _ _ _ _ _ _ (by unfold inB; rw [decide_eq_true ⟨Int32.not_lt.mp c_1, Int32.not_lt.mp c_2⟩]; rfl) (trivial) (rfl) hP hD hS (Nat.le_of_ble_eq_true rfl) (Nat.le_of_ble_eq_true rfl) dX3_in_15
theorem c_X3_inR (l : Launch) (dC : Nat → ClassId) (dI : Nat → Nat → Nat) (cI cZ cR cG : ClassId) (x : Int32) (a b : Nat) (ha : a < 2 ^ 31) (hb : b < 2 ^ 31) : CI l (dC, dI) (tyL cI cZ cR cG) yX3_in wsX3_in rm_X3_in [.int x, .int (nI a), .int (nI b)] ([]) (S := Unit) (fun _ => bI (inR x a b)) (fun _ => True) (fun _ => []) := by
  have h := c_X3_in l dC dI cI cZ cR cG x (nI a) (nI b)
  rw [inB_R ha hb] at h
  exact h
abbrev rm_X3_nodes : Room := { frames := 0, cells := 0, slots := 0, locals := 0 }
set_option maxHeartbeats 4000000 in
set_option maxRecDepth 100000 in
theorem c_X3_nodes (l : Launch) (dC : Nat → ClassId) (dI : Nat → Nat → Nat) (cI cZ cR cG : ClassId) (ad : Nat → Nat) (g : Nat → Nat) : CI l (dC, dI) (tyL cI cZ cR cG) yX3_nodes wsX3_nodes rm_X3_nodes [.ref (ad 0)] (sW cI ad g) (S := Unit) (fun _ => nI (g 0)) (fun _ => True) (fun _ => sW cI ad g) := by
  refine CI.of (cc := cX3_nodes) (maxL := 1) (rt := .int) (lv := [(0, .ref (ad 0))]) (by decide) rfl (Nat.le_of_ble_eq_true rfl) rfl (Or.inl rfl) ?_
  intro p e s m ar below meth c A Qz ls hx hb hml hown hts hnm hA hS hP hK hD hl ret
  refine lv_aload_n hx hb dX3_nodes_0 rfl (lv_at hl 0 rfl) ?_
  refine va_get (D := (dC, dI)) (ci := 3) (v := .ref (ad 1)) (C := RX3) (T := TX3) (N := 8) hx hb hts (fun _ h9 => List.mem_cons_of_mem _ (List.mem_append_right _ h9)) hown hK hP 0 rfl rfl 0 (by decide) (hts (.fieldLink RX3 7 "SwitchLevelSimulatorModel" "state" "[I") (List.mem_of_getElem? (i := 1) rfl)) (fun _ h9 => h9) rfl dX3_nodes_1 ?_
  refine lv_iconst (v := nI 0) hx hb dX3_nodes_4 (by decide) ?_
  refine my_iald (i := 0) hx hb hK hP 1 0 rfl rfl (by omega) (by decide) dX3_nodes_5 ?_
  exact ret () _ _ _ _ _ _ _ _ (rfl) (trivial) (rfl) hP hD hS (Nat.le_of_ble_eq_true rfl) (Nat.le_of_ble_eq_true rfl) dX3_nodes_6
abbrev rm_X3_many : Room := { frames := 0, cells := 0, slots := 0, locals := 0 }
set_option maxHeartbeats 4000000 in
set_option maxRecDepth 100000 in
theorem c_X3_many (l : Launch) (dC : Nat → ClassId) (dI : Nat → Nat → Nat) (cI cZ cR cG : ClassId) (ad : Nat → Nat) (g : Nat → Nat) : CI l (dC, dI) (tyL cI cZ cR cG) yX3_many wsX3_many rm_X3_many [.ref (ad 0)] (sW cI ad g) (S := Unit) (fun _ => nI (g 1)) (fun _ => True) (fun _ => sW cI ad g) := by
  refine CI.of (cc := cX3_many) (maxL := 1) (rt := .int) (lv := [(0, .ref (ad 0))]) (by decide) rfl (Nat.le_of_ble_eq_true rfl) rfl (Or.inl rfl) ?_
  intro p e s m ar below meth c A Qz ls hx hb hml hown hts hnm hA hS hP hK hD hl ret
  refine lv_aload_n hx hb dX3_many_0 rfl (lv_at hl 0 rfl) ?_
  refine va_get (D := (dC, dI)) (ci := 3) (v := .ref (ad 1)) (C := RX3) (T := TX3) (N := 8) hx hb hts (fun _ h9 => List.mem_cons_of_mem _ (List.mem_append_right _ h9)) hown hK hP 0 rfl rfl 0 (by decide) (hts (.fieldLink RX3 7 "SwitchLevelSimulatorModel" "state" "[I") (List.mem_of_getElem? (i := 1) rfl)) (fun _ h9 => h9) rfl dX3_many_1 ?_
  refine lv_iconst (v := nI 1) hx hb dX3_many_4 (by decide) ?_
  refine my_iald (i := 1) hx hb hK hP 1 0 rfl rfl (by omega) (by decide) dX3_many_5 ?_
  exact ret () _ _ _ _ _ _ _ _ (rfl) (trivial) (rfl) hP hD hS (Nat.le_of_ble_eq_true rfl) (Nat.le_of_ble_eq_true rfl) dX3_many_6
abbrev rm_X3_isNode : Room := { frames := 1, cells := 0, slots := 0, locals := 22 }
set_option maxHeartbeats 4000000 in
set_option maxRecDepth 100000 in
theorem c_X3_isNode (l : Launch) (dC : Nat → ClassId) (dI : Nat → Nat → Nat) (cI cZ cR cG : ClassId) (ad : Nat → Nat) (g : Nat → Nat) (x : Int32) (hk : g 0 ≤ 24) : CI l (dC, dI) (tyL cI cZ cR cG) yX3_isNode wsX3_isNode rm_X3_isNode [.ref (ad 0), .int x] (sW cI ad g) (S := Unit) (fun _ => bI (inN x (g 0))) (fun _ => True) (fun _ => sW cI ad g) := by
  refine CI.of (cc := cX3_isNode) (maxL := 2) (rt := .boolean) (lv := [(0, .ref (ad 0)), (1, .int x)]) (by decide) rfl (Nat.le_of_ble_eq_true rfl) rfl (Or.inr ⟨rfl, fun _ => nar_bI _⟩) ?_
  intro p e s m ar below meth c A Qz ls hx hb hml hown hts hnm hA hS hP hK hD hl ret
  refine lv_iload_n hx hb dX3_isNode_0 rfl (lv_at hl 1 rfl) ?_
  refine lv_iconst (v := nI 0) hx hb dX3_isNode_1 (by decide) ?_
  refine lv_aload_n hx hb dX3_isNode_2 rfl (lv_at hl 0 rfl) ?_
  refine CI.callV (As := []) (rest := [.int (nI 0), .int x]) (w3 := (fun _ => sW cI ad g)) (c_X3_nodes l dC dI cI cZ cR cG ad g) ⟨hx, hb, hml, hown, hts⟩ (cwV 0 hts gX3_isNode_X3_nodes rfl rfl rfl (by decide +kernel) ⟨Nat.le_of_ble_eq_true rfl, Nat.le_of_ble_eq_true rfl⟩) rfl hl.1 (Nat.le_of_ble_eq_true rfl) dX3_isNode_3 ⟨Nat.le_of_ble_eq_true rfl, Nat.le_of_ble_eq_true rfl⟩ hA hS hP hK hD [0, 1] [] rfl rfl (by decide) (by decide) (by decide) 0 3 rfl rfl [0, 1] (by decide) (fun _ => rfl) rfl (fun _ H locs hp_1 hP hD hS => ?_)
  refine lv_iconst (v := nI 1) hx hb dX3_isNode_6 (by decide) ?_
  refine lv_isub hx hb dX3_isNode_7 ?_
  refine CI.callS (As := [.int x, .int (nI 0), .int ((nI (g 0)) - (nI 1))]) (rest := []) (w3 := (fun _ => sW cI ad g)) (c_X3_in l dC dI cI cZ cR cG x (nI 0) ((nI (g 0)) - (nI 1))) ⟨hx, hb, hml, hown, hts⟩ (va_cwS 3 hts gX3_isNode_X3_in rfl rfl rfl (by decide +kernel) ⟨Nat.le_of_ble_eq_true rfl, Nat.le_of_ble_eq_true rfl⟩) rfl hl.1 (Nat.le_of_ble_eq_true rfl) dX3_isNode_8 ⟨Nat.le_of_ble_eq_true rfl, Nat.le_of_ble_eq_true rfl⟩ hA hS hP hK hD [] [0, 1] rfl rfl (by decide) (by decide) (by decide) [0, 1] (by decide) (fun _ => rfl) rfl (fun _ H locs hp_2 hP hD hS => ?_)
  exact ret () _ _ _ _ _ _ _ _ (congrArg bI (inB_N (by omega))) (trivial) (rfl) hP hD hS (Nat.le_of_ble_eq_true rfl) (Nat.le_of_ble_eq_true rfl) dX3_isNode_11
abbrev rm_X3_isTransistor : Room := { frames := 1, cells := 0, slots := 0, locals := 22 }
set_option maxHeartbeats 4000000 in
set_option maxRecDepth 100000 in
theorem c_X3_isTransistor (l : Launch) (dC : Nat → ClassId) (dI : Nat → Nat → Nat) (cI cZ cR cG : ClassId) (ad : Nat → Nat) (g : Nat → Nat) (x : Int32) (hk : g 1 ≤ 40) : CI l (dC, dI) (tyL cI cZ cR cG) yX3_isTransistor wsX3_isTransistor rm_X3_isTransistor [.ref (ad 0), .int x] (sW cI ad g) (S := Unit) (fun _ => bI (inN x (g 1))) (fun _ => True) (fun _ => sW cI ad g) := by
  refine CI.of (cc := cX3_isTransistor) (maxL := 2) (rt := .boolean) (lv := [(0, .ref (ad 0)), (1, .int x)]) (by decide) rfl (Nat.le_of_ble_eq_true rfl) rfl (Or.inr ⟨rfl, fun _ => nar_bI _⟩) ?_
  intro p e s m ar below meth c A Qz ls hx hb hml hown hts hnm hA hS hP hK hD hl ret
  refine lv_iload_n hx hb dX3_isTransistor_0 rfl (lv_at hl 1 rfl) ?_
  refine lv_iconst (v := nI 0) hx hb dX3_isTransistor_1 (by decide) ?_
  refine lv_aload_n hx hb dX3_isTransistor_2 rfl (lv_at hl 0 rfl) ?_
  refine CI.callV (As := []) (rest := [.int (nI 0), .int x]) (w3 := (fun _ => sW cI ad g)) (c_X3_many l dC dI cI cZ cR cG ad g) ⟨hx, hb, hml, hown, hts⟩ (cwV 0 hts gX3_isTransistor_X3_many rfl rfl rfl (by decide +kernel) ⟨Nat.le_of_ble_eq_true rfl, Nat.le_of_ble_eq_true rfl⟩) rfl hl.1 (Nat.le_of_ble_eq_true rfl) dX3_isTransistor_3 ⟨Nat.le_of_ble_eq_true rfl, Nat.le_of_ble_eq_true rfl⟩ hA hS hP hK hD [0, 1] [] rfl rfl (by decide) (by decide) (by decide) 0 3 rfl rfl [0, 1] (by decide) (fun _ => rfl) rfl (fun _ H locs hp_1 hP hD hS => ?_)
  refine lv_iconst (v := nI 1) hx hb dX3_isTransistor_6 (by decide) ?_
  refine lv_isub hx hb dX3_isTransistor_7 ?_
  refine CI.callS (As := [.int x, .int (nI 0), .int ((nI (g 1)) - (nI 1))]) (rest := []) (w3 := (fun _ => sW cI ad g)) (c_X3_in l dC dI cI cZ cR cG x (nI 0) ((nI (g 1)) - (nI 1))) ⟨hx, hb, hml, hown, hts⟩ (va_cwS 3 hts gX3_isTransistor_X3_in rfl rfl rfl (by decide +kernel) ⟨Nat.le_of_ble_eq_true rfl, Nat.le_of_ble_eq_true rfl⟩) rfl hl.1 (Nat.le_of_ble_eq_true rfl) dX3_isTransistor_8 ⟨Nat.le_of_ble_eq_true rfl, Nat.le_of_ble_eq_true rfl⟩ hA hS hP hK hD [] [0, 1] rfl rfl (by decide) (by decide) (by decide) [0, 1] (by decide) (fun _ => rfl) rfl (fun _ H locs hp_2 hP hD hS => ?_)
  exact ret () _ _ _ _ _ _ _ _ (congrArg bI (inB_N (by omega))) (trivial) (rfl) hP hD hS (Nat.le_of_ble_eq_true rfl) (Nat.le_of_ble_eq_true rfl) dX3_isTransistor_11
abbrev rm_X3_isInput : Room := { frames := 0, cells := 0, slots := 0, locals := 0 }
set_option maxHeartbeats 4000000 in
set_option maxRecDepth 100000 in
theorem c_X3_isInput (l : Launch) (dC : Nat → ClassId) (dI : Nat → Nat → Nat) (cI cZ cR cG : ClassId) (ad : Nat → Nat) (g : Nat → Nat) (j : Nat) (hj : j < 24) (h3 : g (2 + j) ≤ 3) : CI l (dC, dI) (tyL cI cZ cR cG) yX3_isInput wsX3_isInput rm_X3_isInput [.ref (ad 0), .int (nI j)] (sW cI ad g) (S := Unit) (fun _ => bI (decide (g (2 + j) = 0))) (fun _ => True) (fun _ => sW cI ad g) := by
  refine CI.of (cc := cX3_isInput) (maxL := 2) (rt := .boolean) (lv := [(0, .ref (ad 0)), (1, .int (nI j))]) (by decide) rfl (Nat.le_of_ble_eq_true rfl) rfl (Or.inr ⟨rfl, fun _ => nar_bI _⟩) ?_
  intro p e s m ar below meth c A Qz ls hx hb hml hown hts hnm hA hS hP hK hD hl ret
  refine lv_aload_n hx hb dX3_isInput_0 rfl (lv_at hl 0 rfl) ?_
  refine va_get (D := (dC, dI)) (ci := 3) (v := .ref (ad 1)) (C := RX3) (T := TX3) (N := 8) hx hb hts (fun _ h9 => List.mem_cons_of_mem _ (List.mem_append_right _ h9)) hown hK hP 0 rfl rfl 0 (by decide) (hts (.fieldLink RX3 7 "SwitchLevelSimulatorModel" "state" "[I") (List.mem_of_getElem? (i := 1) rfl)) (fun _ h9 => h9) rfl dX3_isInput_1 ?_
  refine lv_iconst (v := nI 2) hx hb dX3_isInput_4 (by decide) ?_
  refine lv_iload_n hx hb dX3_isInput_5 rfl (lv_at hl 1 rfl) ?_
  refine my_iadd (x := 2) (y := j) hx hb dX3_isInput_6 ?_
  refine my_iald (i := (2 + j)) hx hb hK hP 1 0 rfl rfl (by omega) (by decide) dX3_isInput_7 ?_
  refine my_if_neN (x := (g (2 + j))) (tgt := 15) hx hb (by omega) dX3_isInput_8 (by decide) (fun c_1 => ?_) (fun c_1 => ?_)
  · refine lv_iconst (v := nI 0) hx hb dX3_isInput_15 (by decide) ?_
    exact ret () _ _ _ _ _ _ _ _ (by rw [decide_eq_false c_1]; rfl) (trivial) (rfl) hP hD hS (Nat.le_of_ble_eq_true rfl) (Nat.le_of_ble_eq_true rfl) dX3_isInput_16
  · refine lv_iconst (v := nI 1) hx hb dX3_isInput_11 (by decide) ?_
    refine lv_goto (tgt := 16) hx hb dX3_isInput_12 (by decide) ?_
    exact ret () _ _ _ _ _ _ _ _ (by rw [decide_eq_true c_1]; rfl) (trivial) (rfl) hP hD hS (Nat.le_of_ble_eq_true rfl) (Nat.le_of_ble_eq_true rfl) dX3_isInput_16
abbrev rm_X3_set : Room := { frames := 0, cells := 0, slots := 0, locals := 0 }
set_option maxHeartbeats 4000000 in
set_option maxRecDepth 100000 in
theorem c_X3_set (l : Launch) (dC : Nat → ClassId) (dI : Nat → Nat → Nat) (cI cZ cR cG : ClassId) (ad : Nat → Nat) (g : Nat → Nat) (j x : Nat) (hj : j < 290) : CI l (dC, dI) (tyL cI cZ cR cG) yX3_set wsX3_set rm_X3_set [.ref (ad 0), .int (nI j), .int (nI x)] (sW cI ad g) (S := Unit) (fun _ => nI (g j)) (fun _ => True) (fun _ => sW cI ad (up1 g j x)) := by
  refine CI.of (cc := cX3_set) (maxL := 4) (rt := .int) (lv := [(0, .ref (ad 0)), (1, .int (nI j)), (2, .int (nI x))]) (by decide) rfl (Nat.le_of_ble_eq_true rfl) rfl (Or.inl rfl) ?_
  intro p e s m ar below meth c A Qz ls hx hb hml hown hts hnm hA hS hP hK hD hl ret
  refine lv_aload_n hx hb dX3_set_0 rfl (lv_at hl 0 rfl) ?_
  refine va_get (D := (dC, dI)) (ci := 3) (v := .ref (ad 1)) (C := RX3) (T := TX3) (N := 8) hx hb hts (fun _ h9 => List.mem_cons_of_mem _ (List.mem_append_right _ h9)) hown hK hP 0 rfl rfl 0 (by decide) (hts (.fieldLink RX3 7 "SwitchLevelSimulatorModel" "state" "[I") (List.mem_of_getElem? (i := 1) rfl)) (fun _ h9 => h9) rfl dX3_set_1 ?_
  refine lv_iload_n hx hb dX3_set_4 rfl (lv_at hl 1 rfl) ?_
  refine my_iald (i := j) hx hb hK hP 1 0 rfl rfl (by omega) (by decide) dX3_set_5 ?_
  refine lv_istore_n (lv' := [(3, .int (nI (g j))), (0, .ref (ad 0)), (1, .int (nI j)), (2, .int (nI x))]) hx hb dX3_set_6 rfl hl (by decide) rfl (fun ls hl => ?_)
  refine lv_aload_n hx hb dX3_set_7 rfl (lv_at hl 1 rfl) ?_
  refine va_get (D := (dC, dI)) (ci := 3) (v := .ref (ad 1)) (C := RX3) (T := TX3) (N := 8) hx hb hts (fun _ h9 => List.mem_cons_of_mem _ (List.mem_append_right _ h9)) hown hK hP 0 rfl rfl 0 (by decide) (hts (.fieldLink RX3 7 "SwitchLevelSimulatorModel" "state" "[I") (List.mem_of_getElem? (i := 1) rfl)) (fun _ h9 => h9) rfl dX3_set_8 ?_
  refine lv_iload_n hx hb dX3_set_11 rfl (lv_at hl 2 rfl) ?_
  refine lv_iload_n hx hb dX3_set_12 rfl (lv_at hl 3 rfl) ?_
  refine my_iastN (i := j) (x := x) (g := g) (ws' := sW cI ad (up1 g j x)) hx hb hK hP hD hS 1 0 rfl rfl (by omega) (by decide) dX3_set_13 rfl (fun H locs hP hD hS => ?_)
  refine lv_iload_n hx hb dX3_set_14 rfl (lv_at hl 0 rfl) ?_
  exact ret () _ _ _ _ _ _ _ _ (rfl) (trivial) (rfl) hP hD hS (Nat.le_of_ble_eq_true rfl) (Nat.le_of_ble_eq_true rfl) dX3_set_15
abbrev rm_X3_addNode : Room := { frames := 1, cells := 0, slots := 0, locals := 20 }
set_option maxHeartbeats 4000000 in
set_option maxRecDepth 100000 in
theorem c_X3_addNode (l : Launch) (dC : Nat → ClassId) (dI : Nat → Nat → Nat) (cI cZ cR cG : ClassId) (ad : Nat → Nat) (g : Nat → Nat) (z : Nat) (hk : g 0 < 24) : CI l (dC, dI) (tyL cI cZ cR cG) yX3_addNode wsX3_addNode rm_X3_addNode [.ref (ad 0), .int (nI z)] (sW cI ad g) (S := Unit) (fun _ => nI (g 0)) (fun _ => True) (fun _ => sW cI ad (addN g z)) := by
  refine CI.of (cc := cX3_addNode) (maxL := 3) (rt := .int) (lv := [(0, .ref (ad 0)), (1, .int (nI z))]) (by decide) rfl (Nat.le_of_ble_eq_true rfl) rfl (Or.inl rfl) ?_
  intro p e s m ar below meth c A Qz ls hx hb hml hown hts hnm hA hS hP hK hD hl ret
  refine lv_aload_n hx hb dX3_addNode_0 rfl (lv_at hl 0 rfl) ?_
  refine CI.callV (As := []) (rest := []) (w3 := (fun _ => sW cI ad g)) (c_X3_nodes l dC dI cI cZ cR cG ad g) ⟨hx, hb, hml, hown, hts⟩ (cwV 0 hts gX3_addNode_X3_nodes rfl rfl rfl (by decide +kernel) ⟨Nat.le_of_ble_eq_true rfl, Nat.le_of_ble_eq_true rfl⟩) rfl hl.1 (Nat.le_of_ble_eq_true rfl) dX3_addNode_1 ⟨Nat.le_of_ble_eq_true rfl, Nat.le_of_ble_eq_true rfl⟩ hA hS hP hK hD [0, 1] [] rfl rfl (by decide) (by decide) (by decide) 0 3 rfl rfl [0, 1] (by decide) (fun _ => rfl) rfl (fun _ H locs hp_1 hP hD hS => ?_)
  refine lv_istore_n (lv' := [(2, .int (nI (g 0))), (0, .ref (ad 0)), (1, .int (nI z))]) hx hb dX3_addNode_4 rfl hl (by decide) rfl (fun ls hl => ?_)
  refine lv_aload_n hx hb dX3_addNode_5 rfl (lv_at hl 1 rfl) ?_
  refine va_get (D := (dC, dI)) (ci := 3) (v := .ref (ad 1)) (C := RX3) (T := TX3) (N := 8) hx hb hts (fun _ h9 => List.mem_cons_of_mem _ (List.mem_append_right _ h9)) hown hK hP 0 rfl rfl 0 (by decide) (hts (.fieldLink RX3 7 "SwitchLevelSimulatorModel" "state" "[I") (List.mem_of_getElem? (i := 1) rfl)) (fun _ h9 => h9) rfl dX3_addNode_6 ?_
  refine lv_iconst (v := nI 2) hx hb dX3_addNode_9 (by decide) ?_
  refine lv_iload_n hx hb dX3_addNode_10 rfl (lv_at hl 0 rfl) ?_
  refine my_iadd (x := 2) (y := (g 0)) hx hb dX3_addNode_11 ?_
  refine lv_iload_n hx hb dX3_addNode_12 rfl (lv_at hl 2 rfl) ?_
  refine my_iastN (i := (2 + g 0)) (x := z) (g := g) (ws' := sW cI ad (up1 g (2 + g 0) z)) hx hb hK hP hD hS 1 0 rfl rfl (by omega) (by decide) dX3_addNode_13 rfl (fun H locs hP hD hS => ?_)
  refine lv_aload_n hx hb dX3_addNode_14 rfl (lv_at hl 1 rfl) ?_
  refine va_get (D := (dC, dI)) (ci := 3) (v := .ref (ad 1)) (C := RX3) (T := TX3) (N := 8) hx hb hts (fun _ h9 => List.mem_cons_of_mem _ (List.mem_append_right _ h9)) hown hK hP 0 rfl rfl 0 (by decide) (hts (.fieldLink RX3 7 "SwitchLevelSimulatorModel" "state" "[I") (List.mem_of_getElem? (i := 1) rfl)) (fun _ h9 => h9) rfl dX3_addNode_15 ?_
  refine lv_bipush (v := nI 26) hx hb dX3_addNode_18 (by decide) ?_
  refine lv_iload_n hx hb dX3_addNode_20 rfl (lv_at hl 0 rfl) ?_
  refine my_iadd (x := 26) (y := (g 0)) hx hb dX3_addNode_21 ?_
  refine lv_iconst (v := nI 2) hx hb dX3_addNode_22 (by decide) ?_
  refine my_iastN (i := (26 + g 0)) (x := 2) (g := (up1 g (2 + g 0) z)) (ws' := sW cI ad (up1 (up1 g (2 + g 0) z) (26 + g 0) 2)) hx hb hK hP hD hS 1 0 rfl rfl (by omega) (by decide) dX3_addNode_23 rfl (fun H locs hP hD hS => ?_)
  refine lv_aload_n hx hb dX3_addNode_24 rfl (lv_at hl 1 rfl) ?_
  refine va_get (D := (dC, dI)) (ci := 3) (v := .ref (ad 1)) (C := RX3) (T := TX3) (N := 8) hx hb hts (fun _ h9 => List.mem_cons_of_mem _ (List.mem_append_right _ h9)) hown hK hP 0 rfl rfl 0 (by decide) (hts (.fieldLink RX3 7 "SwitchLevelSimulatorModel" "state" "[I") (List.mem_of_getElem? (i := 1) rfl)) (fun _ h9 => h9) rfl dX3_addNode_25 ?_
  refine lv_iconst (v := nI 0) hx hb dX3_addNode_28 (by decide) ?_
  refine lv_dup2_11 hx hb dX3_addNode_29 rfl rfl ?_
  refine my_iald (i := 0) hx hb hK hP 1 0 rfl rfl (by omega) (by decide) dX3_addNode_30 ?_
  refine lv_iconst (v := nI 1) hx hb dX3_addNode_31 (by decide) ?_
  refine my_iadd (x := ((up1 (up1 g (2 + g 0) z) (26 + g 0) 2) 0)) (y := 1) hx hb dX3_addNode_32 ?_
  refine my_iastN (i := 0) (x := (((up1 (up1 g (2 + g 0) z) (26 + g 0) 2) 0) + 1)) (g := (up1 (up1 g (2 + g 0) z) (26 + g 0) 2)) (ws' := sW cI ad (up1 (up1 (up1 g (2 + g 0) z) (26 + g 0) 2) 0 (((up1 (up1 g (2 + g 0) z) (26 + g 0) 2) 0) + 1))) hx hb hK hP hD hS 1 0 rfl rfl (by omega) (by decide) dX3_addNode_33 rfl (fun H locs hP hD hS => ?_)
  refine lv_iload_n hx hb dX3_addNode_34 rfl (lv_at hl 0 rfl) ?_
  exact ret () _ _ _ _ _ _ _ _ (rfl) (trivial) (by unfold addN; rw [show up1 (up1 g (2 + g 0) z) (26 + g 0) 2 0 = g 0 from by rw [up1_n (by omega), up1_n (by omega)]]) hP hD hS (Nat.le_of_ble_eq_true rfl) (Nat.le_of_ble_eq_true rfl) dX3_addNode_35
end
section
abbrev rm_X3_addInput : Room := { frames := 2, cells := 0, slots := 0, locals := 42 }
set_option maxHeartbeats 4000000 in
set_option maxRecDepth 100000 in
theorem c_X3_addInput (l : Launch) (dC : Nat → ClassId) (dI : Nat → Nat → Nat) (cI cZ cR cG : ClassId) (ad : Nat → Nat) (g : Nat → Nat) (ok : okG g) : CI l (dC, dI) (tyL cI cZ cR cG) yX3_addInput wsX3_addInput rm_X3_addInput [.ref (ad 0)] (sW cI ad g) (S := Unit) (fun _ => aAddI g) (fun _ => True) (fun _ => sW cI ad (gAddI g)) := by
  refine CI.of (cc := cX3_addInput) (maxL := 1) (rt := .int) (lv := [(0, .ref (ad 0))]) (by decide) rfl (Nat.le_of_ble_eq_true rfl) rfl (Or.inl rfl) ?_
  intro p e s m ar below meth c A Qz ls hx hb hml hown hts hnm hA hS hP hK hD hl ret
  have h0 := ok.1
  have h1 := ok.2.1
  refine lv_aload_n hx hb dX3_addInput_0 rfl (lv_at hl 0 rfl) ?_
  refine CI.callV (As := []) (rest := []) (w3 := (fun _ => sW cI ad g)) (c_X3_nodes l dC dI cI cZ cR cG ad g) ⟨hx, hb, hml, hown, hts⟩ (cwV 0 hts gX3_addInput_X3_nodes rfl rfl rfl (by decide +kernel) ⟨Nat.le_of_ble_eq_true rfl, Nat.le_of_ble_eq_true rfl⟩) rfl hl.1 (Nat.le_of_ble_eq_true rfl) dX3_addInput_1 ⟨Nat.le_of_ble_eq_true rfl, Nat.le_of_ble_eq_true rfl⟩ hA hS hP hK hD [0, 1] [] rfl rfl (by decide) (by decide) (by decide) 0 3 rfl rfl [0, 1] (by decide) (fun _ => rfl) rfl (fun _ H locs hp_1 hP hD hS => ?_)
  refine lv_bipush (v := nI 24) hx hb dX3_addInput_4 (by decide) ?_
  refine my_icmp_ne (x := (g 0)) (y := 24) (tgt := 14) hx hb (by omega) (by omega) dX3_addInput_6 (by decide) (fun c_2 => ?_) (fun c_2 => ?_)
  · refine lv_aload_n hx hb dX3_addInput_14 rfl (lv_at hl 0 rfl) ?_
    refine lv_iconst (v := nI 0) hx hb dX3_addInput_15 (by decide) ?_
    refine CI.callV (As := [.int (nI 0)]) (rest := []) (w3 := (fun _ => sW cI ad (addN g 0))) (c_X3_addNode l dC dI cI cZ cR cG ad g 0 (by omega)) ⟨hx, hb, hml, hown, hts⟩ (cwV 1 hts gX3_addInput_X3_addNode rfl rfl rfl (by decide +kernel) ⟨Nat.le_of_ble_eq_true rfl, Nat.le_of_ble_eq_true rfl⟩) rfl hl.1 (Nat.le_of_ble_eq_true rfl) dX3_addInput_16 ⟨Nat.le_of_ble_eq_true rfl, Nat.le_of_ble_eq_true rfl⟩ hA hS hP hK hD [0, 1] [] rfl rfl (by decide) (by decide) (by decide) 0 3 rfl rfl [0, 1] (by decide) (fun _ => rfl) rfl (fun _ H locs hp_3 hP hD hS => ?_)
    exact ret () _ _ _ _ _ _ _ _ (by show _ = aAddI g; unfold aAddI; rw [if_neg c_2]) (trivial) (by show sW cI ad (gAddI g) = _; unfold gAddI; rw [if_neg c_2]) hP hD hS (Nat.le_of_ble_eq_true rfl) (Nat.le_of_ble_eq_true rfl) dX3_addInput_19
  · refine lv_bipush (v := -6) hx hb dX3_addInput_9 (by decide) ?_
    refine lv_goto (tgt := 19) hx hb dX3_addInput_11 (by decide) ?_
    exact ret () _ _ _ _ _ _ _ _ (by show _ = aAddI g; unfold aAddI; rw [if_pos c_2]) (trivial) (by show sW cI ad (gAddI g) = _; unfold gAddI; rw [if_pos c_2]) hP hD hS (Nat.le_of_ble_eq_true rfl) (Nat.le_of_ble_eq_true rfl) dX3_addInput_19
abbrev rm_X3_addStorage : Room := { frames := 2, cells := 0, slots := 0, locals := 42 }
set_option maxHeartbeats 4000000 in
set_option maxRecDepth 100000 in
theorem c_X3_addStorage (l : Launch) (dC : Nat → ClassId) (dI : Nat → Nat → Nat) (cI cZ cR cG : ClassId) (ad : Nat → Nat) (g : Nat → Nat) (x : Int32) (ok : okG g) : CI l (dC, dI) (tyL cI cZ cR cG) yX3_addStorage wsX3_addStorage rm_X3_addStorage [.ref (ad 0), .int x] (sW cI ad g) (S := Unit) (fun _ => aAddS g x) (fun _ => True) (fun _ => sW cI ad (gAddS g x)) := by
  refine CI.of (cc := cX3_addStorage) (maxL := 2) (rt := .int) (lv := [(0, .ref (ad 0)), (1, .int x)]) (by decide) rfl (Nat.le_of_ble_eq_true rfl) rfl (Or.inl rfl) ?_
  intro p e s m ar below meth c A Qz ls hx hb hml hown hts hnm hA hS hP hK hD hl ret
  have h0 := ok.1
  have h1 := ok.2.1
  refine lv_iload_n hx hb dX3_addStorage_0 rfl (lv_at hl 1 rfl) ?_
  refine lv_iconst (v := nI 1) hx hb dX3_addStorage_1 (by decide) ?_
  refine lv_iconst (v := nI 3) hx hb dX3_addStorage_2 (by decide) ?_
  refine CI.callS (As := [.int x, .int (nI 1), .int (nI 3)]) (rest := []) (w3 := (fun _ => sW cI ad g)) (c_X3_inR l dC dI cI cZ cR cG x 1 3 (by decide) (by decide)) ⟨hx, hb, hml, hown, hts⟩ (va_cwS 3 hts gX3_addStorage_X3_in rfl rfl rfl (by decide +kernel) ⟨Nat.le_of_ble_eq_true rfl, Nat.le_of_ble_eq_true rfl⟩) rfl hl.1 (Nat.le_of_ble_eq_true rfl) dX3_addStorage_3 ⟨Nat.le_of_ble_eq_true rfl, Nat.le_of_ble_eq_true rfl⟩ hA hS hP hK hD [] [0, 1] rfl rfl (by decide) (by decide) (by decide) [0, 1] (by decide) (fun _ => rfl) rfl (fun _ H locs hp_1 hP hD hS => ?_)
  refine my_if_neB (x := (inR x 1 3)) (tgt := 12) hx hb dX3_addStorage_6 (by decide) (fun c_2 => ?_) (fun c_2 => ?_)
  · refine lv_aload_n hx hb dX3_addStorage_12 rfl (lv_at hl 0 rfl) ?_
    refine CI.callV (As := []) (rest := []) (w3 := (fun _ => sW cI ad g)) (c_X3_nodes l dC dI cI cZ cR cG ad g) ⟨hx, hb, hml, hown, hts⟩ (cwV 0 hts gX3_addStorage_X3_nodes rfl rfl rfl (by decide +kernel) ⟨Nat.le_of_ble_eq_true rfl, Nat.le_of_ble_eq_true rfl⟩) rfl hl.1 (Nat.le_of_ble_eq_true rfl) dX3_addStorage_13 ⟨Nat.le_of_ble_eq_true rfl, Nat.le_of_ble_eq_true rfl⟩ hA hS hP hK hD [0, 1] [] rfl rfl (by decide) (by decide) (by decide) 0 3 rfl rfl [0, 1] (by decide) (fun _ => rfl) rfl (fun _ H locs hp_3 hP hD hS => ?_)
    refine lv_bipush (v := nI 24) hx hb dX3_addStorage_16 (by decide) ?_
    refine my_icmp_ne (x := (g 0)) (y := 24) (tgt := 26) hx hb (by omega) (by omega) dX3_addStorage_18 (by decide) (fun c_4 => ?_) (fun c_4 => ?_)
    · obtain ⟨j, hj1, hj2, hj3, rfl, hjc⟩ := inR_at c_2
      refine lv_aload_n hx hb dX3_addStorage_26 rfl (lv_at hl 0 rfl) ?_
      refine lv_iload_n hx hb dX3_addStorage_27 rfl (lv_at hl 1 rfl) ?_
      refine CI.callV (As := [.int (nI j)]) (rest := []) (w3 := (fun _ => sW cI ad (addN g j))) (c_X3_addNode l dC dI cI cZ cR cG ad g j (by omega)) ⟨hx, hb, hml, hown, hts⟩ (cwV 1 hts gX3_addStorage_X3_addNode rfl rfl rfl (by decide +kernel) ⟨Nat.le_of_ble_eq_true rfl, Nat.le_of_ble_eq_true rfl⟩) rfl hl.1 (Nat.le_of_ble_eq_true rfl) dX3_addStorage_28 ⟨Nat.le_of_ble_eq_true rfl, Nat.le_of_ble_eq_true rfl⟩ hA hS hP hK hD [0, 1] [] rfl rfl (by decide) (by decide) (by decide) 0 3 rfl rfl [0, 1] (by decide) (fun _ => rfl) rfl (fun _ H locs hp_5 hP hD hS => ?_)
      exact ret () _ _ _ _ _ _ _ _ (by show _ = aAddS g (nI j); unfold aAddS; rw [if_pos c_2, if_neg c_4]) (trivial) (by show sW cI ad (gAddS g (nI j)) = _; unfold gAddS; rw [if_pos c_2, if_neg c_4, show nx (nI j) = j from hjc]) hP hD hS (Nat.le_of_ble_eq_true rfl) (Nat.le_of_ble_eq_true rfl) dX3_addStorage_31
    · refine lv_bipush (v := -6) hx hb dX3_addStorage_21 (by decide) ?_
      refine lv_goto (tgt := 31) hx hb dX3_addStorage_23 (by decide) ?_
      exact ret () _ _ _ _ _ _ _ _ (by show _ = aAddS g x; unfold aAddS; rw [if_pos c_2, if_pos c_4]) (trivial) (by show sW cI ad (gAddS g x) = _; unfold gAddS; rw [if_pos c_2, if_pos c_4]) hP hD hS (Nat.le_of_ble_eq_true rfl) (Nat.le_of_ble_eq_true rfl) dX3_addStorage_31
  · refine lv_bipush (v := -3) hx hb dX3_addStorage_9 (by decide) ?_
    exact ret () _ _ _ _ _ _ _ _ (by show _ = aAddS g x; unfold aAddS; rw [if_neg (by rw [c_2]; decide)]) (trivial) (by show sW cI ad (gAddS g x) = _; unfold gAddS; rw [if_neg (by rw [c_2]; decide)]) hP hD hS (Nat.le_of_ble_eq_true rfl) (Nat.le_of_ble_eq_true rfl) dX3_addStorage_11
abbrev rm_X3_addTransistor : Room := { frames := 2, cells := 0, slots := 0, locals := 43 }
set_option maxHeartbeats 4000000 in
set_option maxRecDepth 100000 in
theorem c_X3_addTransistor (l : Launch) (dC : Nat → ClassId) (dI : Nat → Nat → Nat) (cI cZ cR cG : ClassId) (ad : Nat → Nat) (g : Nat → Nat) (ty sg ga on ot : Int32) (ok : okG g) : CI l (dC, dI) (tyL cI cZ cR cG) yX3_addTransistor wsX3_addTransistor rm_X3_addTransistor [.ref (ad 0), .int ty, .int sg, .int ga, .int on, .int ot] (sW cI ad g) (S := Unit) (fun _ => aAddT g ty sg ga on ot) (fun _ => True) (fun _ => sW cI ad (gAddT g ty sg ga on ot)) := by
  refine CI.of (cc := cX3_addTransistor) (maxL := 7) (rt := .int) (lv := [(0, .ref (ad 0)), (1, .int ty), (2, .int sg), (3, .int ga), (4, .int on), (5, .int ot)]) (by decide) rfl (Nat.le_of_ble_eq_true rfl) rfl (Or.inl rfl) ?_
  intro p e s m ar below meth c A Qz ls hx hb hml hown hts hnm hA hS hP hK hD hl ret
  have h0 := ok.1
  have h1 := ok.2.1
  refine lv_aload_n hx hb dX3_addTransistor_0 rfl (lv_at hl 0 rfl) ?_
  refine lv_iload_n hx hb dX3_addTransistor_1 rfl (lv_at hl 3 rfl) ?_
  refine CI.callV (As := [.int ga]) (rest := []) (w3 := (fun _ => sW cI ad g)) (c_X3_isNode l dC dI cI cZ cR cG ad g ga (ok.1)) ⟨hx, hb, hml, hown, hts⟩ (cwV 1 hts gX3_addTransistor_X3_isNode rfl rfl rfl (by decide +kernel) ⟨Nat.le_of_ble_eq_true rfl, Nat.le_of_ble_eq_true rfl⟩) rfl hl.1 (Nat.le_of_ble_eq_true rfl) dX3_addTransistor_2 ⟨Nat.le_of_ble_eq_true rfl, Nat.le_of_ble_eq_true rfl⟩ hA hS hP hK hD [0, 1] [] rfl rfl (by decide) (by decide) (by decide) 0 3 rfl rfl [0, 1] (by decide) (fun _ => rfl) rfl (fun _ H locs hp_1 hP hD hS => ?_)
  refine my_if_eqB (x := (inN ga (g 0))) (tgt := 26) hx hb dX3_addTransistor_5 (by decide) (fun c_2 => ?_) (fun c_2 => ?_)
  · refine lv_iconst (v := -1) hx hb dX3_addTransistor_26 (by decide) ?_
    exact ret () _ _ _ _ _ _ _ _ (by show _ = aAddT g ty sg ga on ot; unfold aAddT okT; rw [c_2]; rfl) (trivial) (by show sW cI ad (gAddT g ty sg ga on ot) = _; unfold gAddT okT; rw [c_2]; rfl) hP hD hS (Nat.le_of_ble_eq_true rfl) (Nat.le_of_ble_eq_true rfl) dX3_addTransistor_27
  · refine lv_aload_n hx hb dX3_addTransistor_8 rfl (lv_at hl 0 rfl) ?_
    refine lv_iload hx hb dX3_addTransistor_9 (lv_at hl 4 rfl) ?_
    refine CI.callV (As := [.int on]) (rest := []) (w3 := (fun _ => sW cI ad g)) (c_X3_isNode l dC dI cI cZ cR cG ad g on (ok.1)) ⟨hx, hb, hml, hown, hts⟩ (cwV 1 hts gX3_addTransistor_X3_isNode rfl rfl rfl (by decide +kernel) ⟨Nat.le_of_ble_eq_true rfl, Nat.le_of_ble_eq_true rfl⟩) rfl hl.1 (Nat.le_of_ble_eq_true rfl) dX3_addTransistor_11 ⟨Nat.le_of_ble_eq_true rfl, Nat.le_of_ble_eq_true rfl⟩ hA hS hP hK hD [0, 1] [] rfl rfl (by decide) (by decide) (by decide) 0 3 rfl rfl [0, 1] (by decide) (fun _ => rfl) rfl (fun _ H locs hp_3 hP hD hS => ?_)
    refine my_if_eqB (x := (inN on (g 0))) (tgt := 26) hx hb dX3_addTransistor_14 (by decide) (fun c_4 => ?_) (fun c_4 => ?_)
    · refine lv_iconst (v := -1) hx hb dX3_addTransistor_26 (by decide) ?_
      exact ret () _ _ _ _ _ _ _ _ (by show _ = aAddT g ty sg ga on ot; unfold aAddT okT; rw [c_2, c_4]; rfl) (trivial) (by show sW cI ad (gAddT g ty sg ga on ot) = _; unfold gAddT okT; rw [c_2, c_4]; rfl) hP hD hS (Nat.le_of_ble_eq_true rfl) (Nat.le_of_ble_eq_true rfl) dX3_addTransistor_27
    · refine lv_aload_n hx hb dX3_addTransistor_17 rfl (lv_at hl 0 rfl) ?_
      refine lv_iload hx hb dX3_addTransistor_18 (lv_at hl 5 rfl) ?_
      refine CI.callV (As := [.int ot]) (rest := []) (w3 := (fun _ => sW cI ad g)) (c_X3_isNode l dC dI cI cZ cR cG ad g ot (ok.1)) ⟨hx, hb, hml, hown, hts⟩ (cwV 1 hts gX3_addTransistor_X3_isNode rfl rfl rfl (by decide +kernel) ⟨Nat.le_of_ble_eq_true rfl, Nat.le_of_ble_eq_true rfl⟩) rfl hl.1 (Nat.le_of_ble_eq_true rfl) dX3_addTransistor_20 ⟨Nat.le_of_ble_eq_true rfl, Nat.le_of_ble_eq_true rfl⟩ hA hS hP hK hD [0, 1] [] rfl rfl (by decide) (by decide) (by decide) 0 3 rfl rfl [0, 1] (by decide) (fun _ => rfl) rfl (fun _ H locs hp_5 hP hD hS => ?_)
      refine my_if_neB (x := (inN ot (g 0))) (tgt := 28) hx hb dX3_addTransistor_23 (by decide) (fun c_6 => ?_) (fun c_6 => ?_)
      · refine lv_iload hx hb dX3_addTransistor_28 (lv_at hl 4 rfl) ?_
        refine lv_iload hx hb dX3_addTransistor_30 (lv_at hl 5 rfl) ?_
        refine my_icmp_neI (x := on) (y := ot) (tgt := 38) hx hb dX3_addTransistor_32 (by decide) (fun c_7 => ?_) (fun c_7 => ?_)
        · refine lv_iload_n hx hb dX3_addTransistor_38 rfl (lv_at hl 1 rfl) ?_
          refine lv_iconst (v := nI 0) hx hb dX3_addTransistor_39 (by decide) ?_
          refine lv_iconst (v := nI 2) hx hb dX3_addTransistor_40 (by decide) ?_
          refine CI.callS (As := [.int ty, .int (nI 0), .int (nI 2)]) (rest := []) (w3 := (fun _ => sW cI ad g)) (c_X3_inR l dC dI cI cZ cR cG ty 0 2 (by decide) (by decide)) ⟨hx, hb, hml, hown, hts⟩ (va_cwS 3 hts gX3_addTransistor_X3_in rfl rfl rfl (by decide +kernel) ⟨Nat.le_of_ble_eq_true rfl, Nat.le_of_ble_eq_true rfl⟩) rfl hl.1 (Nat.le_of_ble_eq_true rfl) dX3_addTransistor_41 ⟨Nat.le_of_ble_eq_true rfl, Nat.le_of_ble_eq_true rfl⟩ hA hS hP hK hD [] [0, 1] rfl rfl (by decide) (by decide) (by decide) [0, 1] (by decide) (fun _ => rfl) rfl (fun _ H locs hp_8 hP hD hS => ?_)
          refine my_if_eqB (x := (inR ty 0 2)) (tgt := 56) hx hb dX3_addTransistor_44 (by decide) (fun c_9 => ?_) (fun c_9 => ?_)
          · refine lv_bipush (v := -3) hx hb dX3_addTransistor_56 (by decide) ?_
            exact ret () _ _ _ _ _ _ _ _ (by show _ = aAddT g ty sg ga on ot; unfold aAddT okT; rw [if_pos (by rw [c_2, c_4, c_6]; rfl), if_neg c_7, if_neg (by rw [c_9]; simp)]) (trivial) (by show sW cI ad (gAddT g ty sg ga on ot) = _; unfold gAddT okT; rw [if_pos (by rw [c_2, c_4, c_6]; rfl), if_neg c_7, if_neg (by rw [c_9]; simp)]) hP hD hS (Nat.le_of_ble_eq_true rfl) (Nat.le_of_ble_eq_true rfl) dX3_addTransistor_58
          · refine lv_iload_n hx hb dX3_addTransistor_47 rfl (lv_at hl 2 rfl) ?_
            refine lv_iconst (v := nI 1) hx hb dX3_addTransistor_48 (by decide) ?_
            refine lv_iconst (v := nI 3) hx hb dX3_addTransistor_49 (by decide) ?_
            refine CI.callS (As := [.int sg, .int (nI 1), .int (nI 3)]) (rest := []) (w3 := (fun _ => sW cI ad g)) (c_X3_inR l dC dI cI cZ cR cG sg 1 3 (by decide) (by decide)) ⟨hx, hb, hml, hown, hts⟩ (va_cwS 3 hts gX3_addTransistor_X3_in rfl rfl rfl (by decide +kernel) ⟨Nat.le_of_ble_eq_true rfl, Nat.le_of_ble_eq_true rfl⟩) rfl hl.1 (Nat.le_of_ble_eq_true rfl) dX3_addTransistor_50 ⟨Nat.le_of_ble_eq_true rfl, Nat.le_of_ble_eq_true rfl⟩ hA hS hP hK hD [] [0, 1] rfl rfl (by decide) (by decide) (by decide) [0, 1] (by decide) (fun _ => rfl) rfl (fun _ H locs hp_10 hP hD hS => ?_)
            refine my_if_neB (x := (inR sg 1 3)) (tgt := 59) hx hb dX3_addTransistor_53 (by decide) (fun c_11 => ?_) (fun c_11 => ?_)
            · refine lv_aload_n hx hb dX3_addTransistor_59 rfl (lv_at hl 0 rfl) ?_
              refine CI.callV (As := []) (rest := []) (w3 := (fun _ => sW cI ad g)) (c_X3_many l dC dI cI cZ cR cG ad g) ⟨hx, hb, hml, hown, hts⟩ (cwV 0 hts gX3_addTransistor_X3_many rfl rfl rfl (by decide +kernel) ⟨Nat.le_of_ble_eq_true rfl, Nat.le_of_ble_eq_true rfl⟩) rfl hl.1 (Nat.le_of_ble_eq_true rfl) dX3_addTransistor_60 ⟨Nat.le_of_ble_eq_true rfl, Nat.le_of_ble_eq_true rfl⟩ hA hS hP hK hD [0, 1] [] rfl rfl (by decide) (by decide) (by decide) 0 3 rfl rfl [0, 1] (by decide) (fun _ => rfl) rfl (fun _ H locs hp_12 hP hD hS => ?_)
              refine lv_bipush (v := nI 40) hx hb dX3_addTransistor_63 (by decide) ?_
              refine my_icmp_ne (x := (g 1)) (y := 40) (tgt := 71) hx hb (by omega) (by omega) dX3_addTransistor_65 (by decide) (fun c_13 => ?_) (fun c_13 => ?_)
              · obtain ⟨jg, hjg1, hjg2, rfl, hjgc⟩ := inN_at c_2
                obtain ⟨jo, hjo1, hjo2, rfl, hjoc⟩ := inN_at c_4
                obtain ⟨jt, hjt1, hjt2, rfl, hjtc⟩ := inN_at c_6
                obtain ⟨jy, hjy1, hjy2, hjy3, rfl, hjyc⟩ := inR_at c_9
                obtain ⟨js, hjs1, hjs2, hjs3, rfl, hjsc⟩ := inR_at c_11
                refine lv_aload_n hx hb dX3_addTransistor_71 rfl (lv_at hl 0 rfl) ?_
                refine CI.callV (As := []) (rest := []) (w3 := (fun _ => sW cI ad g)) (c_X3_many l dC dI cI cZ cR cG ad g) ⟨hx, hb, hml, hown, hts⟩ (cwV 0 hts gX3_addTransistor_X3_many rfl rfl rfl (by decide +kernel) ⟨Nat.le_of_ble_eq_true rfl, Nat.le_of_ble_eq_true rfl⟩) rfl hl.1 (Nat.le_of_ble_eq_true rfl) dX3_addTransistor_72 ⟨Nat.le_of_ble_eq_true rfl, Nat.le_of_ble_eq_true rfl⟩ hA hS hP hK hD [0, 1] [] rfl rfl (by decide) (by decide) (by decide) 0 3 rfl rfl [0, 1] (by decide) (fun _ => rfl) rfl (fun _ H locs hp_14 hP hD hS => ?_)
                refine lv_istore (lv' := [(6, .int (nI (g 1))), (0, .ref (ad 0)), (1, .int (nI jy)), (2, .int (nI js)), (3, .int (nI jg)), (4, .int (nI jo)), (5, .int (nI jt))]) hx hb dX3_addTransistor_75 hl (by decide) rfl (fun ls hl => ?_)
                refine lv_aload_n hx hb dX3_addTransistor_77 rfl (lv_at hl 1 rfl) ?_
                refine va_get (D := (dC, dI)) (ci := 3) (v := .ref (ad 1)) (C := RX3) (T := TX3) (N := 8) hx hb hts (fun _ h9 => List.mem_cons_of_mem _ (List.mem_append_right _ h9)) hown hK hP 0 rfl rfl 0 (by decide) (hts (.fieldLink RX3 7 "SwitchLevelSimulatorModel" "state" "[I") (List.mem_of_getElem? (i := 1) rfl)) (fun _ h9 => h9) rfl dX3_addTransistor_78 ?_
                refine lv_bipush (v := nI 50) hx hb dX3_addTransistor_81 (by decide) ?_
                refine lv_iload hx hb dX3_addTransistor_83 (lv_at hl 0 rfl) ?_
                refine my_iadd (x := 50) (y := (g 1)) hx hb dX3_addTransistor_85 ?_
                refine lv_iload_n hx hb dX3_addTransistor_86 rfl (lv_at hl 2 rfl) ?_
                refine my_iastN (i := (50 + g 1)) (x := jy) (g := g) (ws' := sW cI ad (up1 g (50 + g 1) jy)) hx hb hK hP hD hS 1 0 rfl rfl (by omega) (by decide) dX3_addTransistor_87 rfl (fun H locs hP hD hS => ?_)
                refine lv_aload_n hx hb dX3_addTransistor_88 rfl (lv_at hl 1 rfl) ?_
                refine va_get (D := (dC, dI)) (ci := 3) (v := .ref (ad 1)) (C := RX3) (T := TX3) (N := 8) hx hb hts (fun _ h9 => List.mem_cons_of_mem _ (List.mem_append_right _ h9)) hown hK hP 0 rfl rfl 0 (by decide) (hts (.fieldLink RX3 7 "SwitchLevelSimulatorModel" "state" "[I") (List.mem_of_getElem? (i := 1) rfl)) (fun _ h9 => h9) rfl dX3_addTransistor_89 ?_
                refine lv_bipush (v := nI 90) hx hb dX3_addTransistor_92 (by decide) ?_
                refine lv_iload hx hb dX3_addTransistor_94 (lv_at hl 0 rfl) ?_
                refine my_iadd (x := 90) (y := (g 1)) hx hb dX3_addTransistor_96 ?_
                refine lv_iload_n hx hb dX3_addTransistor_97 rfl (lv_at hl 3 rfl) ?_
                refine my_iastN (i := (90 + g 1)) (x := js) (g := (up1 g (50 + g 1) jy)) (ws' := sW cI ad (up1 (up1 g (50 + g 1) jy) (90 + g 1) js)) hx hb hK hP hD hS 1 0 rfl rfl (by omega) (by decide) dX3_addTransistor_98 rfl (fun H locs hP hD hS => ?_)
                refine lv_aload_n hx hb dX3_addTransistor_99 rfl (lv_at hl 1 rfl) ?_
                refine va_get (D := (dC, dI)) (ci := 3) (v := .ref (ad 1)) (C := RX3) (T := TX3) (N := 8) hx hb hts (fun _ h9 => List.mem_cons_of_mem _ (List.mem_append_right _ h9)) hown hK hP 0 rfl rfl 0 (by decide) (hts (.fieldLink RX3 7 "SwitchLevelSimulatorModel" "state" "[I") (List.mem_of_getElem? (i := 1) rfl)) (fun _ h9 => h9) rfl dX3_addTransistor_100 ?_
                refine lv_sipush (v := nI 130) hx hb dX3_addTransistor_103 (by decide) ?_
                refine lv_iload hx hb dX3_addTransistor_106 (lv_at hl 0 rfl) ?_
                refine my_iadd (x := 130) (y := (g 1)) hx hb dX3_addTransistor_108 ?_
                refine lv_iload_n hx hb dX3_addTransistor_109 rfl (lv_at hl 4 rfl) ?_
                refine my_iastN (i := (130 + g 1)) (x := jg) (g := (up1 (up1 g (50 + g 1) jy) (90 + g 1) js)) (ws' := sW cI ad (up1 (up1 (up1 g (50 + g 1) jy) (90 + g 1) js) (130 + g 1) jg)) hx hb hK hP hD hS 1 0 rfl rfl (by omega) (by decide) dX3_addTransistor_110 rfl (fun H locs hP hD hS => ?_)
                refine lv_aload_n hx hb dX3_addTransistor_111 rfl (lv_at hl 1 rfl) ?_
                refine va_get (D := (dC, dI)) (ci := 3) (v := .ref (ad 1)) (C := RX3) (T := TX3) (N := 8) hx hb hts (fun _ h9 => List.mem_cons_of_mem _ (List.mem_append_right _ h9)) hown hK hP 0 rfl rfl 0 (by decide) (hts (.fieldLink RX3 7 "SwitchLevelSimulatorModel" "state" "[I") (List.mem_of_getElem? (i := 1) rfl)) (fun _ h9 => h9) rfl dX3_addTransistor_112 ?_
                refine lv_sipush (v := nI 170) hx hb dX3_addTransistor_115 (by decide) ?_
                refine lv_iload hx hb dX3_addTransistor_118 (lv_at hl 0 rfl) ?_
                refine my_iadd (x := 170) (y := (g 1)) hx hb dX3_addTransistor_120 ?_
                refine lv_iload hx hb dX3_addTransistor_121 (lv_at hl 5 rfl) ?_
                refine my_iastN (i := (170 + g 1)) (x := jo) (g := (up1 (up1 (up1 g (50 + g 1) jy) (90 + g 1) js) (130 + g 1) jg)) (ws' := sW cI ad (up1 (up1 (up1 (up1 g (50 + g 1) jy) (90 + g 1) js) (130 + g 1) jg) (170 + g 1) jo)) hx hb hK hP hD hS 1 0 rfl rfl (by omega) (by decide) dX3_addTransistor_123 rfl (fun H locs hP hD hS => ?_)
                refine lv_aload_n hx hb dX3_addTransistor_124 rfl (lv_at hl 1 rfl) ?_
                refine va_get (D := (dC, dI)) (ci := 3) (v := .ref (ad 1)) (C := RX3) (T := TX3) (N := 8) hx hb hts (fun _ h9 => List.mem_cons_of_mem _ (List.mem_append_right _ h9)) hown hK hP 0 rfl rfl 0 (by decide) (hts (.fieldLink RX3 7 "SwitchLevelSimulatorModel" "state" "[I") (List.mem_of_getElem? (i := 1) rfl)) (fun _ h9 => h9) rfl dX3_addTransistor_125 ?_
                refine lv_sipush (v := nI 210) hx hb dX3_addTransistor_128 (by decide) ?_
                refine lv_iload hx hb dX3_addTransistor_131 (lv_at hl 0 rfl) ?_
                refine my_iadd (x := 210) (y := (g 1)) hx hb dX3_addTransistor_133 ?_
                refine lv_iload hx hb dX3_addTransistor_134 (lv_at hl 6 rfl) ?_
                refine my_iastN (i := (210 + g 1)) (x := jt) (g := (up1 (up1 (up1 (up1 g (50 + g 1) jy) (90 + g 1) js) (130 + g 1) jg) (170 + g 1) jo)) (ws' := sW cI ad (up1 (up1 (up1 (up1 (up1 g (50 + g 1) jy) (90 + g 1) js) (130 + g 1) jg) (170 + g 1) jo) (210 + g 1) jt)) hx hb hK hP hD hS 1 0 rfl rfl (by omega) (by decide) dX3_addTransistor_136 rfl (fun H locs hP hD hS => ?_)
                refine lv_aload_n hx hb dX3_addTransistor_137 rfl (lv_at hl 1 rfl) ?_
                refine va_get (D := (dC, dI)) (ci := 3) (v := .ref (ad 1)) (C := RX3) (T := TX3) (N := 8) hx hb hts (fun _ h9 => List.mem_cons_of_mem _ (List.mem_append_right _ h9)) hown hK hP 0 rfl rfl 0 (by decide) (hts (.fieldLink RX3 7 "SwitchLevelSimulatorModel" "state" "[I") (List.mem_of_getElem? (i := 1) rfl)) (fun _ h9 => h9) rfl dX3_addTransistor_138 ?_
                refine lv_sipush (v := nI 250) hx hb dX3_addTransistor_141 (by decide) ?_
                refine lv_iload hx hb dX3_addTransistor_144 (lv_at hl 0 rfl) ?_
                refine my_iadd (x := 250) (y := (g 1)) hx hb dX3_addTransistor_146 ?_
                refine lv_iconst (v := nI 0) hx hb dX3_addTransistor_147 (by decide) ?_
                refine my_iastN (i := (250 + g 1)) (x := 0) (g := (up1 (up1 (up1 (up1 (up1 g (50 + g 1) jy) (90 + g 1) js) (130 + g 1) jg) (170 + g 1) jo) (210 + g 1) jt)) (ws' := sW cI ad (up1 (up1 (up1 (up1 (up1 (up1 g (50 + g 1) jy) (90 + g 1) js) (130 + g 1) jg) (170 + g 1) jo) (210 + g 1) jt) (250 + g 1) 0)) hx hb hK hP hD hS 1 0 rfl rfl (by omega) (by decide) dX3_addTransistor_148 rfl (fun H locs hP hD hS => ?_)
                refine lv_aload_n hx hb dX3_addTransistor_149 rfl (lv_at hl 1 rfl) ?_
                refine va_get (D := (dC, dI)) (ci := 3) (v := .ref (ad 1)) (C := RX3) (T := TX3) (N := 8) hx hb hts (fun _ h9 => List.mem_cons_of_mem _ (List.mem_append_right _ h9)) hown hK hP 0 rfl rfl 0 (by decide) (hts (.fieldLink RX3 7 "SwitchLevelSimulatorModel" "state" "[I") (List.mem_of_getElem? (i := 1) rfl)) (fun _ h9 => h9) rfl dX3_addTransistor_150 ?_
                refine lv_iconst (v := nI 1) hx hb dX3_addTransistor_153 (by decide) ?_
                refine lv_dup2_11 hx hb dX3_addTransistor_154 rfl rfl ?_
                refine my_iald (i := 1) hx hb hK hP 1 0 rfl rfl (by omega) (by decide) dX3_addTransistor_155 ?_
                refine lv_iconst (v := nI 1) hx hb dX3_addTransistor_156 (by decide) ?_
                refine my_iadd (x := ((up1 (up1 (up1 (up1 (up1 (up1 g (50 + g 1) jy) (90 + g 1) js) (130 + g 1) jg) (170 + g 1) jo) (210 + g 1) jt) (250 + g 1) 0) 1)) (y := 1) hx hb dX3_addTransistor_157 ?_
                refine my_iastN (i := 1) (x := (((up1 (up1 (up1 (up1 (up1 (up1 g (50 + g 1) jy) (90 + g 1) js) (130 + g 1) jg) (170 + g 1) jo) (210 + g 1) jt) (250 + g 1) 0) 1) + 1)) (g := (up1 (up1 (up1 (up1 (up1 (up1 g (50 + g 1) jy) (90 + g 1) js) (130 + g 1) jg) (170 + g 1) jo) (210 + g 1) jt) (250 + g 1) 0)) (ws' := sW cI ad (up1 (up1 (up1 (up1 (up1 (up1 (up1 g (50 + g 1) jy) (90 + g 1) js) (130 + g 1) jg) (170 + g 1) jo) (210 + g 1) jt) (250 + g 1) 0) 1 (((up1 (up1 (up1 (up1 (up1 (up1 g (50 + g 1) jy) (90 + g 1) js) (130 + g 1) jg) (170 + g 1) jo) (210 + g 1) jt) (250 + g 1) 0) 1) + 1))) hx hb hK hP hD hS 1 0 rfl rfl (by omega) (by decide) dX3_addTransistor_158 rfl (fun H locs hP hD hS => ?_)
                refine lv_iload hx hb dX3_addTransistor_159 (lv_at hl 0 rfl) ?_
                have hone : up1 (up1 (up1 (up1 (up1 (up1 g (50 + g 1) jy) (90 + g 1) js) (130 + g 1) jg) (170 + g 1) jo) (210 + g 1) jt) (250 + g 1) 0 1 = g 1 := by rw [up1_n (by omega), up1_n (by omega), up1_n (by omega), up1_n (by omega), up1_n (by omega), up1_n (by omega)]
                exact ret () _ _ _ _ _ _ _ _ (by show _ = aAddT g (nI jy) (nI js) (nI jg) (nI jo) (nI jt); unfold aAddT okT; rw [if_pos (by rw [c_2, c_4, c_6]; rfl), if_neg c_7, if_pos (by rw [c_9, c_11]; rfl), if_neg c_13]) (trivial) (by show sW cI ad (gAddT g (nI jy) (nI js) (nI jg) (nI jo) (nI jt)) = _; unfold gAddT okT; rw [if_pos (by rw [c_2, c_4, c_6]; rfl), if_neg c_7, if_pos (by rw [c_9, c_11]; rfl), if_neg c_13]; unfold nx; rw [hjyc, hjsc, hjgc, hjoc, hjtc]; unfold addT; rw [hone]) hP hD hS (Nat.le_of_ble_eq_true rfl) (Nat.le_of_ble_eq_true rfl) dX3_addTransistor_161
              · refine lv_bipush (v := -6) hx hb dX3_addTransistor_68 (by decide) ?_
                exact ret () _ _ _ _ _ _ _ _ (by show _ = aAddT g ty sg ga on ot; unfold aAddT okT; rw [if_pos (by rw [c_2, c_4, c_6]; rfl), if_neg c_7, if_pos (by rw [c_9, c_11]; rfl), if_pos c_13]) (trivial) (by show sW cI ad (gAddT g ty sg ga on ot) = _; unfold gAddT okT; rw [if_pos (by rw [c_2, c_4, c_6]; rfl), if_neg c_7, if_pos (by rw [c_9, c_11]; rfl), if_pos c_13]) hP hD hS (Nat.le_of_ble_eq_true rfl) (Nat.le_of_ble_eq_true rfl) dX3_addTransistor_70
            · refine lv_bipush (v := -3) hx hb dX3_addTransistor_56 (by decide) ?_
              exact ret () _ _ _ _ _ _ _ _ (by show _ = aAddT g ty sg ga on ot; unfold aAddT okT; rw [if_pos (by rw [c_2, c_4, c_6]; rfl), if_neg c_7, if_neg (by rw [c_9, c_11]; simp)]) (trivial) (by show sW cI ad (gAddT g ty sg ga on ot) = _; unfold gAddT okT; rw [if_pos (by rw [c_2, c_4, c_6]; rfl), if_neg c_7, if_neg (by rw [c_9, c_11]; simp)]) hP hD hS (Nat.le_of_ble_eq_true rfl) (Nat.le_of_ble_eq_true rfl) dX3_addTransistor_58
        · refine lv_bipush (v := -4) hx hb dX3_addTransistor_35 (by decide) ?_
          exact ret () _ _ _ _ _ _ _ _ (by show _ = aAddT g ty sg ga on ot; unfold aAddT okT; rw [if_pos (by rw [c_2, c_4, c_6]; rfl), if_pos c_7]) (trivial) (by show sW cI ad (gAddT g ty sg ga on ot) = _; unfold gAddT okT; rw [if_pos (by rw [c_2, c_4, c_6]; rfl), if_pos c_7]) hP hD hS (Nat.le_of_ble_eq_true rfl) (Nat.le_of_ble_eq_true rfl) dX3_addTransistor_37
      · refine lv_iconst (v := -1) hx hb dX3_addTransistor_26 (by decide) ?_
        exact ret () _ _ _ _ _ _ _ _ (by show _ = aAddT g ty sg ga on ot; unfold aAddT okT; rw [c_2, c_4, c_6]; rfl) (trivial) (by show sW cI ad (gAddT g ty sg ga on ot) = _; unfold gAddT okT; rw [c_2, c_4, c_6]; rfl) hP hD hS (Nat.le_of_ble_eq_true rfl) (Nat.le_of_ble_eq_true rfl) dX3_addTransistor_27
abbrev rm_X3_nodeCount : Room := { frames := 1, cells := 0, slots := 0, locals := 20 }
set_option maxHeartbeats 4000000 in
set_option maxRecDepth 100000 in
theorem c_X3_nodeCount (l : Launch) (dC : Nat → ClassId) (dI : Nat → Nat → Nat) (cI cZ cR cG : ClassId) (ad : Nat → Nat) (g : Nat → Nat) : CI l (dC, dI) (tyL cI cZ cR cG) yX3_nodeCount wsX3_nodeCount rm_X3_nodeCount [.ref (ad 0)] (sW cI ad g) (S := Unit) (fun _ => nI (g 0)) (fun _ => True) (fun _ => sW cI ad g) := by
  refine CI.of (cc := cX3_nodeCount) (maxL := 1) (rt := .int) (lv := [(0, .ref (ad 0))]) (by decide) rfl (Nat.le_of_ble_eq_true rfl) rfl (Or.inl rfl) ?_
  intro p e s m ar below meth c A Qz ls hx hb hml hown hts hnm hA hS hP hK hD hl ret
  refine lv_aload_n hx hb dX3_nodeCount_0 rfl (lv_at hl 0 rfl) ?_
  refine CI.callV (As := []) (rest := []) (w3 := (fun _ => sW cI ad g)) (c_X3_nodes l dC dI cI cZ cR cG ad g) ⟨hx, hb, hml, hown, hts⟩ (cwV 0 hts gX3_nodeCount_X3_nodes rfl rfl rfl (by decide +kernel) ⟨Nat.le_of_ble_eq_true rfl, Nat.le_of_ble_eq_true rfl⟩) rfl hl.1 (Nat.le_of_ble_eq_true rfl) dX3_nodeCount_1 ⟨Nat.le_of_ble_eq_true rfl, Nat.le_of_ble_eq_true rfl⟩ hA hS hP hK hD [0, 1] [] rfl rfl (by decide) (by decide) (by decide) 0 3 rfl rfl [0, 1] (by decide) (fun _ => rfl) rfl (fun _ H locs hp_1 hP hD hS => ?_)
  exact ret () _ _ _ _ _ _ _ _ (rfl) (trivial) (rfl) hP hD hS (Nat.le_of_ble_eq_true rfl) (Nat.le_of_ble_eq_true rfl) dX3_nodeCount_4
abbrev rm_X3_transistorCount : Room := { frames := 1, cells := 0, slots := 0, locals := 20 }
set_option maxHeartbeats 4000000 in
set_option maxRecDepth 100000 in
theorem c_X3_transistorCount (l : Launch) (dC : Nat → ClassId) (dI : Nat → Nat → Nat) (cI cZ cR cG : ClassId) (ad : Nat → Nat) (g : Nat → Nat) : CI l (dC, dI) (tyL cI cZ cR cG) yX3_transistorCount wsX3_transistorCount rm_X3_transistorCount [.ref (ad 0)] (sW cI ad g) (S := Unit) (fun _ => nI (g 1)) (fun _ => True) (fun _ => sW cI ad g) := by
  refine CI.of (cc := cX3_transistorCount) (maxL := 1) (rt := .int) (lv := [(0, .ref (ad 0))]) (by decide) rfl (Nat.le_of_ble_eq_true rfl) rfl (Or.inl rfl) ?_
  intro p e s m ar below meth c A Qz ls hx hb hml hown hts hnm hA hS hP hK hD hl ret
  refine lv_aload_n hx hb dX3_transistorCount_0 rfl (lv_at hl 0 rfl) ?_
  refine CI.callV (As := []) (rest := []) (w3 := (fun _ => sW cI ad g)) (c_X3_many l dC dI cI cZ cR cG ad g) ⟨hx, hb, hml, hown, hts⟩ (cwV 0 hts gX3_transistorCount_X3_many rfl rfl rfl (by decide +kernel) ⟨Nat.le_of_ble_eq_true rfl, Nat.le_of_ble_eq_true rfl⟩) rfl hl.1 (Nat.le_of_ble_eq_true rfl) dX3_transistorCount_1 ⟨Nat.le_of_ble_eq_true rfl, Nat.le_of_ble_eq_true rfl⟩ hA hS hP hK hD [0, 1] [] rfl rfl (by decide) (by decide) (by decide) 0 3 rfl rfl [0, 1] (by decide) (fun _ => rfl) rfl (fun _ H locs hp_1 hP hD hS => ?_)
  exact ret () _ _ _ _ _ _ _ _ (rfl) (trivial) (rfl) hP hD hS (Nat.le_of_ble_eq_true rfl) (Nat.le_of_ble_eq_true rfl) dX3_transistorCount_4
abbrev rm_X3_inputs : Room := { frames := 1, cells := 0, slots := 0, locals := 21 }
set_option maxHeartbeats 4000000 in
set_option maxRecDepth 100000 in
theorem c_X3_inputs (l : Launch) (dC : Nat → ClassId) (dI : Nat → Nat → Nat) (cI cZ cR cG : ClassId) (ad : Nat → Nat) (g : Nat → Nat) (ok : okG g) : CI l (dC, dI) (tyL cI cZ cR cG) yX3_inputs wsX3_inputs rm_X3_inputs [.ref (ad 0)] (sW cI ad g) (S := Unit) (fun _ => mk (fun k => decide (g (2 + k) = 0)) (g 0)) (fun _ => True) (fun _ => sW cI ad g) := by
  refine CI.of (cc := cX3_inputs) (maxL := 3) (rt := .int) (lv := [(0, .ref (ad 0))]) (by decide) rfl (Nat.le_of_ble_eq_true rfl) rfl (Or.inl rfl) ?_
  intro p e s m ar below meth c A Qz ls hx hb hml hown hts hnm hA hS hP hK hD hl ret
  have h0 := ok.1
  have h1 := ok.2.1
  refine lv_iconst (v := nI 0) hx hb dX3_inputs_0 (by decide) ?_
  refine lv_istore_n (lv' := [(1, .int (nI 0)), (0, .ref (ad 0))]) hx hb dX3_inputs_1 rfl hl (by decide) rfl (fun ls hl => ?_)
  refine lv_iconst (v := nI 0) hx hb dX3_inputs_2 (by decide) ?_
  refine lv_istore_n (lv' := [(2, .int (nI 0)), (1, .int (nI 0)), (0, .ref (ad 0))]) hx hb dX3_inputs_3 rfl hl (by decide) rfl (fun ls hl => ?_)
  have key_4 : ∀ (fu : Nat) (n : Nat), (g 0 - n) < fu → (n ≤ g 0) → ∀ (H : Heap) (locs : List Loc) (ls : Array Slot), va_P (dC, dI) vwCl (sW cI ad g) H → va_D A (sW cI ad g) → va_S A s.heap H locs → lv_has ls 3 [(2, .int (nI n)), (1, .int (mk (fun k => decide (g (2 + k) = 0)) n)), (0, .ref (ad 0))] → W p l e rm_X3_inputs s m ar below meth c H locs 0 0 Qz (F0 m 4 ls []) := by
    intro fu
    induction fu with
    | zero => intro n hmu; exact absurd hmu (Nat.not_lt_zero _)
    | succ fu ih_4 =>
      intro n hmu_4 hn H locs ls hP hD hS hl
      refine lv_iload_n hx hb dX3_inputs_4 rfl (lv_at hl 0 rfl) ?_
      refine lv_aload_n hx hb dX3_inputs_5 rfl (lv_at hl 2 rfl) ?_
      refine CI.callV (As := []) (rest := [.int (nI n)]) (w3 := (fun _ => sW cI ad g)) (c_X3_nodes l dC dI cI cZ cR cG ad g) ⟨hx, hb, hml, hown, hts⟩ (cwV 0 hts gX3_inputs_X3_nodes rfl rfl rfl (by decide +kernel) ⟨Nat.le_of_ble_eq_true rfl, Nat.le_of_ble_eq_true rfl⟩) rfl hl.1 (Nat.le_of_ble_eq_true rfl) dX3_inputs_6 ⟨Nat.le_of_ble_eq_true rfl, Nat.le_of_ble_eq_true rfl⟩ hA hS hP hK hD [0, 1] [] rfl rfl (by decide) (by decide) (by decide) 0 3 rfl rfl [0, 1] (by decide) (fun _ => rfl) rfl (fun _ H locs hp_2 hP hD hS => ?_)
      refine my_icmp_ge (x := n) (y := (g 0)) (tgt := 36) hx hb (by omega) (by omega) dX3_inputs_9 (by decide) (fun c_3 => ?_) (fun c_3 => ?_)
      · refine lv_iload_n hx hb dX3_inputs_36 rfl (lv_at hl 1 rfl) ?_
        exact ret () _ _ _ _ _ _ _ _ (by show mk (fun k => decide (g (2 + k) = 0)) n = mk (fun k => decide (g (2 + k) = 0)) (g 0); rw [show n = g 0 by omega]) (trivial) (rfl) hP hD hS (Nat.le_of_ble_eq_true rfl) (Nat.le_of_ble_eq_true rfl) dX3_inputs_37
      · refine lv_iload_n hx hb dX3_inputs_12 rfl (lv_at hl 1 rfl) ?_
        refine lv_aload_n hx hb dX3_inputs_13 rfl (lv_at hl 2 rfl) ?_
        refine lv_iload_n hx hb dX3_inputs_14 rfl (lv_at hl 0 rfl) ?_
        refine CI.callV (As := [.int (nI n)]) (rest := [.int (mk (fun k => decide (g (2 + k) = 0)) n)]) (w3 := (fun _ => sW cI ad g)) (c_X3_isInput l dC dI cI cZ cR cG ad g n (by omega) ((ok.2.2.1 _ (by omega)).1)) ⟨hx, hb, hml, hown, hts⟩ (cwV 1 hts gX3_inputs_X3_isInput rfl rfl rfl (by decide +kernel) ⟨Nat.le_of_ble_eq_true rfl, Nat.le_of_ble_eq_true rfl⟩) rfl hl.1 (Nat.le_of_ble_eq_true rfl) dX3_inputs_15 ⟨Nat.le_of_ble_eq_true rfl, Nat.le_of_ble_eq_true rfl⟩ hA hS hP hK hD [0, 1] [] rfl rfl (by decide) (by decide) (by decide) 0 3 rfl rfl [0, 1] (by decide) (fun _ => rfl) rfl (fun _ H locs hp_4 hP hD hS => ?_)
        refine my_if_eqB (x := (decide (g (2 + n) = 0))) (tgt := 27) hx hb dX3_inputs_18 (by decide) (fun c_5 => ?_) (fun c_5 => ?_)
        · refine lv_iconst (v := nI 0) hx hb dX3_inputs_27 (by decide) ?_
          refine lv_ior hx hb dX3_inputs_28 ?_
          refine my_cast (show (mk (fun k => decide (g (2 + k) = 0)) n) ||| (nI 0) = mk (fun k => decide (g (2 + k) = 0)) (n + 1) from by show _ = mk (fun k => decide (g (2 + k) = 0)) n ||| (if decide (g (2 + n) = 0) = true then (1 : Int32) <<< (nI n &&& 31) else 0); rw [if_neg (by rw [c_5]; decide)]; try rfl) ?_
          refine lv_istore_n (lv' := [(1, .int (mk (fun k => decide (g (2 + k) = 0)) (n + 1))), (2, .int (nI n)), (0, .ref (ad 0))]) hx hb dX3_inputs_29 rfl hl (by decide) rfl (fun ls hl => ?_)
          refine my_iinc (k := 1) (x := n) (d := 1) (lv' := [(2, .int (nI (n + 1))), (1, .int (mk (fun k => decide (g (2 + k) = 0)) (n + 1))), (0, .ref (ad 0))]) hx hb dX3_inputs_30 hl rfl (by decide) (by decide) rfl (fun ls hl => ?_)
          refine lv_goto (tgt := 4) hx hb dX3_inputs_33 (by decide) ?_
          exact ih_4 (n + 1) (by omega) (by omega) _ _ _ hP hD hS (lv_sub hl [0, 1, 2] rfl)
        · refine lv_iconst (v := nI 1) hx hb dX3_inputs_21 (by decide) ?_
          refine lv_iload_n hx hb dX3_inputs_22 rfl (lv_at hl 0 rfl) ?_
          refine lv_ishl hx hb dX3_inputs_23 ?_
          refine lv_goto (tgt := 28) hx hb dX3_inputs_24 (by decide) ?_
          refine lv_ior hx hb dX3_inputs_28 ?_
          refine my_cast (show (mk (fun k => decide (g (2 + k) = 0)) n) ||| ((1 : Int32) <<< (nI n &&& 31)) = mk (fun k => decide (g (2 + k) = 0)) (n + 1) from by show _ = mk (fun k => decide (g (2 + k) = 0)) n ||| (if decide (g (2 + n) = 0) = true then (1 : Int32) <<< (nI n &&& 31) else 0); rw [if_pos c_5]; try rfl) ?_
          refine lv_istore_n (lv' := [(1, .int (mk (fun k => decide (g (2 + k) = 0)) (n + 1))), (2, .int (nI n)), (0, .ref (ad 0))]) hx hb dX3_inputs_29 rfl hl (by decide) rfl (fun ls hl => ?_)
          refine my_iinc (k := 1) (x := n) (d := 1) (lv' := [(2, .int (nI (n + 1))), (1, .int (mk (fun k => decide (g (2 + k) = 0)) (n + 1))), (0, .ref (ad 0))]) hx hb dX3_inputs_30 hl rfl (by decide) (by decide) rfl (fun ls hl => ?_)
          refine lv_goto (tgt := 4) hx hb dX3_inputs_33 (by decide) ?_
          exact ih_4 (n + 1) (by omega) (by omega) _ _ _ hP hD hS (lv_sub hl [0, 1, 2] rfl)
  exact key_4 _ 0 (Nat.lt_succ_self _) (Nat.zero_le _) _ _ _ hP hD hS (lv_sub hl [0, 1, 2] rfl)
abbrev rm_X3_setInput : Room := { frames := 2, cells := 0, slots := 0, locals := 43 }
set_option maxHeartbeats 4000000 in
set_option maxRecDepth 100000 in
theorem c_X3_setInput (l : Launch) (dC : Nat → ClassId) (dI : Nat → Nat → Nat) (cI cZ cR cG : ClassId) (ad : Nat → Nat) (g : Nat → Nat) (x v : Int32) (ok : okG g) : CI l (dC, dI) (tyL cI cZ cR cG) yX3_setInput wsX3_setInput rm_X3_setInput [.ref (ad 0), .int x, .int v] (sW cI ad g) (S := Unit) (fun _ => aSetV true g x v) (fun _ => True) (fun _ => sW cI ad (gSetV true g x v)) := by
  refine CI.of (cc := cX3_setInput) (maxL := 3) (rt := .int) (lv := [(0, .ref (ad 0)), (1, .int x), (2, .int v)]) (by decide) rfl (Nat.le_of_ble_eq_true rfl) rfl (Or.inl rfl) ?_
  intro p e s m ar below meth c A Qz ls hx hb hml hown hts hnm hA hS hP hK hD hl ret
  have h0 := ok.1
  have h1 := ok.2.1
  refine lv_aload_n hx hb dX3_setInput_0 rfl (lv_at hl 0 rfl) ?_
  refine lv_iload_n hx hb dX3_setInput_1 rfl (lv_at hl 1 rfl) ?_
  refine CI.callV (As := [.int x]) (rest := []) (w3 := (fun _ => sW cI ad g)) (c_X3_isNode l dC dI cI cZ cR cG ad g x (ok.1)) ⟨hx, hb, hml, hown, hts⟩ (cwV 1 hts gX3_setInput_X3_isNode rfl rfl rfl (by decide +kernel) ⟨Nat.le_of_ble_eq_true rfl, Nat.le_of_ble_eq_true rfl⟩) rfl hl.1 (Nat.le_of_ble_eq_true rfl) dX3_setInput_2 ⟨Nat.le_of_ble_eq_true rfl, Nat.le_of_ble_eq_true rfl⟩ hA hS hP hK hD [0, 1] [] rfl rfl (by decide) (by decide) (by decide) 0 3 rfl rfl [0, 1] (by decide) (fun _ => rfl) rfl (fun _ H locs hp_1 hP hD hS => ?_)
  refine my_if_neB (x := (inN x (g 0))) (tgt := 10) hx hb dX3_setInput_5 (by decide) (fun c_2 => ?_) (fun c_2 => ?_)
  · obtain ⟨j, hj1, hj2, rfl, hjc⟩ := inN_at c_2
    refine lv_aload_n hx hb dX3_setInput_10 rfl (lv_at hl 0 rfl) ?_
    refine lv_iload_n hx hb dX3_setInput_11 rfl (lv_at hl 1 rfl) ?_
    refine CI.callV (As := [.int (nI j)]) (rest := []) (w3 := (fun _ => sW cI ad g)) (c_X3_isInput l dC dI cI cZ cR cG ad g j (by omega) ((ok.2.2.1 _ (by omega)).1)) ⟨hx, hb, hml, hown, hts⟩ (cwV 1 hts gX3_setInput_X3_isInput rfl rfl rfl (by decide +kernel) ⟨Nat.le_of_ble_eq_true rfl, Nat.le_of_ble_eq_true rfl⟩) rfl hl.1 (Nat.le_of_ble_eq_true rfl) dX3_setInput_12 ⟨Nat.le_of_ble_eq_true rfl, Nat.le_of_ble_eq_true rfl⟩ hA hS hP hK hD [0, 1] [] rfl rfl (by decide) (by decide) (by decide) 0 3 rfl rfl [0, 1] (by decide) (fun _ => rfl) rfl (fun _ H locs hp_3 hP hD hS => ?_)
    refine my_if_neB (x := (decide (g (2 + j) = 0))) (tgt := 21) hx hb dX3_setInput_15 (by decide) (fun c_4 => ?_) (fun c_4 => ?_)
    · refine lv_iload_n hx hb dX3_setInput_21 rfl (lv_at hl 2 rfl) ?_
      refine lv_iconst (v := nI 0) hx hb dX3_setInput_22 (by decide) ?_
      refine lv_iconst (v := nI 2) hx hb dX3_setInput_23 (by decide) ?_
      refine CI.callS (As := [.int v, .int (nI 0), .int (nI 2)]) (rest := []) (w3 := (fun _ => sW cI ad g)) (c_X3_inR l dC dI cI cZ cR cG v 0 2 (by decide) (by decide)) ⟨hx, hb, hml, hown, hts⟩ (va_cwS 3 hts gX3_setInput_X3_in rfl rfl rfl (by decide +kernel) ⟨Nat.le_of_ble_eq_true rfl, Nat.le_of_ble_eq_true rfl⟩) rfl hl.1 (Nat.le_of_ble_eq_true rfl) dX3_setInput_24 ⟨Nat.le_of_ble_eq_true rfl, Nat.le_of_ble_eq_true rfl⟩ hA hS hP hK hD [] [0, 1] rfl rfl (by decide) (by decide) (by decide) [0, 1] (by decide) (fun _ => rfl) rfl (fun _ H locs hp_5 hP hD hS => ?_)
      refine my_if_eqB (x := (inR v 0 2)) (tgt := 42) hx hb dX3_setInput_27 (by decide) (fun c_6 => ?_) (fun c_6 => ?_)
      · refine lv_bipush (v := -3) hx hb dX3_setInput_42 (by decide) ?_
        exact ret () _ _ _ _ _ _ _ _ (by show _ = aSetV true g (nI j) v; unfold aSetV; rw [if_pos c_2, if_pos (by rw [show nx (nI j) = j from hjc, c_4]), if_neg (by rw [c_6]; decide)]) (trivial) (by show sW cI ad (gSetV true g (nI j) v) = _; unfold gSetV; rw [if_pos c_2, if_pos (by rw [show nx (nI j) = j from hjc, c_4]), if_neg (by rw [c_6]; decide)]) hP hD hS (Nat.le_of_ble_eq_true rfl) (Nat.le_of_ble_eq_true rfl) dX3_setInput_44
      · obtain ⟨k, hk1, hk2, hk3, rfl, hkc⟩ := inR_at c_6
        refine lv_aload_n hx hb dX3_setInput_30 rfl (lv_at hl 0 rfl) ?_
        refine lv_bipush (v := nI 26) hx hb dX3_setInput_31 (by decide) ?_
        refine lv_iload_n hx hb dX3_setInput_33 rfl (lv_at hl 1 rfl) ?_
        refine my_iadd (x := 26) (y := j) hx hb dX3_setInput_34 ?_
        refine lv_iload_n hx hb dX3_setInput_35 rfl (lv_at hl 2 rfl) ?_
        refine CI.callV (As := [.int (nI (26 + j)), .int (nI k)]) (rest := []) (w3 := (fun _ => sW cI ad (up1 g (26 + j) k))) (c_X3_set l dC dI cI cZ cR cG ad g (26 + j) k (by omega)) ⟨hx, hb, hml, hown, hts⟩ (cwV 2 hts gX3_setInput_X3_set rfl rfl rfl (by decide +kernel) ⟨Nat.le_of_ble_eq_true rfl, Nat.le_of_ble_eq_true rfl⟩) rfl hl.1 (Nat.le_of_ble_eq_true rfl) dX3_setInput_36 ⟨Nat.le_of_ble_eq_true rfl, Nat.le_of_ble_eq_true rfl⟩ hA hS hP hK hD [0, 1] [] rfl rfl (by decide) (by decide) (by decide) 0 3 rfl rfl [0, 1] (by decide) (fun _ => rfl) rfl (fun _ H locs hp_7 hP hD hS => ?_)
        refine lv_goto (tgt := 44) hx hb dX3_setInput_39 (by decide) ?_
        exact ret () _ _ _ _ _ _ _ _ (by show _ = aSetV true g (nI j) (nI k); unfold aSetV; rw [if_pos c_2, if_pos (by rw [show nx (nI j) = j from hjc, c_4]), if_pos c_6, show nx (nI j) = j from hjc]) (trivial) (by show sW cI ad (gSetV true g (nI j) (nI k)) = _; unfold gSetV; rw [if_pos c_2, if_pos (by rw [show nx (nI j) = j from hjc, c_4]), if_pos c_6, show nx (nI j) = j from hjc, show nx (nI k) = k from hkc]) hP hD hS (Nat.le_of_ble_eq_true rfl) (Nat.le_of_ble_eq_true rfl) dX3_setInput_44
    · refine lv_bipush (v := -5) hx hb dX3_setInput_18 (by decide) ?_
      exact ret () _ _ _ _ _ _ _ _ (by show _ = aSetV true g (nI j) v; unfold aSetV; rw [if_pos c_2, if_neg (by rw [show nx (nI j) = j from hjc, c_4]; decide)]) (trivial) (by show sW cI ad (gSetV true g (nI j) v) = _; unfold gSetV; rw [if_pos c_2, if_neg (by rw [show nx (nI j) = j from hjc, c_4]; decide)]) hP hD hS (Nat.le_of_ble_eq_true rfl) (Nat.le_of_ble_eq_true rfl) dX3_setInput_20
  · refine lv_iconst (v := -1) hx hb dX3_setInput_8 (by decide) ?_
    exact ret () _ _ _ _ _ _ _ _ (by show _ = aSetV true g x v; unfold aSetV; rw [if_neg (by rw [c_2]; decide)]) (trivial) (by show sW cI ad (gSetV true g x v) = _; unfold gSetV; rw [if_neg (by rw [c_2]; decide)]) hP hD hS (Nat.le_of_ble_eq_true rfl) (Nat.le_of_ble_eq_true rfl) dX3_setInput_9
abbrev rm_X3_setCharge : Room := { frames := 2, cells := 0, slots := 0, locals := 43 }
set_option maxHeartbeats 4000000 in
set_option maxRecDepth 100000 in
theorem c_X3_setCharge (l : Launch) (dC : Nat → ClassId) (dI : Nat → Nat → Nat) (cI cZ cR cG : ClassId) (ad : Nat → Nat) (g : Nat → Nat) (x v : Int32) (ok : okG g) : CI l (dC, dI) (tyL cI cZ cR cG) yX3_setCharge wsX3_setCharge rm_X3_setCharge [.ref (ad 0), .int x, .int v] (sW cI ad g) (S := Unit) (fun _ => aSetV false g x v) (fun _ => True) (fun _ => sW cI ad (gSetV false g x v)) := by
  refine CI.of (cc := cX3_setCharge) (maxL := 3) (rt := .int) (lv := [(0, .ref (ad 0)), (1, .int x), (2, .int v)]) (by decide) rfl (Nat.le_of_ble_eq_true rfl) rfl (Or.inl rfl) ?_
  intro p e s m ar below meth c A Qz ls hx hb hml hown hts hnm hA hS hP hK hD hl ret
  have h0 := ok.1
  have h1 := ok.2.1
  refine lv_aload_n hx hb dX3_setCharge_0 rfl (lv_at hl 0 rfl) ?_
  refine lv_iload_n hx hb dX3_setCharge_1 rfl (lv_at hl 1 rfl) ?_
  refine CI.callV (As := [.int x]) (rest := []) (w3 := (fun _ => sW cI ad g)) (c_X3_isNode l dC dI cI cZ cR cG ad g x (ok.1)) ⟨hx, hb, hml, hown, hts⟩ (cwV 1 hts gX3_setCharge_X3_isNode rfl rfl rfl (by decide +kernel) ⟨Nat.le_of_ble_eq_true rfl, Nat.le_of_ble_eq_true rfl⟩) rfl hl.1 (Nat.le_of_ble_eq_true rfl) dX3_setCharge_2 ⟨Nat.le_of_ble_eq_true rfl, Nat.le_of_ble_eq_true rfl⟩ hA hS hP hK hD [0, 1] [] rfl rfl (by decide) (by decide) (by decide) 0 3 rfl rfl [0, 1] (by decide) (fun _ => rfl) rfl (fun _ H locs hp_1 hP hD hS => ?_)
  refine my_if_neB (x := (inN x (g 0))) (tgt := 10) hx hb dX3_setCharge_5 (by decide) (fun c_2 => ?_) (fun c_2 => ?_)
  · obtain ⟨j, hj1, hj2, rfl, hjc⟩ := inN_at c_2
    refine lv_aload_n hx hb dX3_setCharge_10 rfl (lv_at hl 0 rfl) ?_
    refine lv_iload_n hx hb dX3_setCharge_11 rfl (lv_at hl 1 rfl) ?_
    refine CI.callV (As := [.int (nI j)]) (rest := []) (w3 := (fun _ => sW cI ad g)) (c_X3_isInput l dC dI cI cZ cR cG ad g j (by omega) ((ok.2.2.1 _ (by omega)).1)) ⟨hx, hb, hml, hown, hts⟩ (cwV 1 hts gX3_setCharge_X3_isInput rfl rfl rfl (by decide +kernel) ⟨Nat.le_of_ble_eq_true rfl, Nat.le_of_ble_eq_true rfl⟩) rfl hl.1 (Nat.le_of_ble_eq_true rfl) dX3_setCharge_12 ⟨Nat.le_of_ble_eq_true rfl, Nat.le_of_ble_eq_true rfl⟩ hA hS hP hK hD [0, 1] [] rfl rfl (by decide) (by decide) (by decide) 0 3 rfl rfl [0, 1] (by decide) (fun _ => rfl) rfl (fun _ H locs hp_3 hP hD hS => ?_)
    refine my_if_eqB (x := (decide (g (2 + j) = 0))) (tgt := 21) hx hb dX3_setCharge_15 (by decide) (fun c_4 => ?_) (fun c_4 => ?_)
    · refine lv_iload_n hx hb dX3_setCharge_21 rfl (lv_at hl 2 rfl) ?_
      refine lv_iconst (v := nI 0) hx hb dX3_setCharge_22 (by decide) ?_
      refine lv_iconst (v := nI 2) hx hb dX3_setCharge_23 (by decide) ?_
      refine CI.callS (As := [.int v, .int (nI 0), .int (nI 2)]) (rest := []) (w3 := (fun _ => sW cI ad g)) (c_X3_inR l dC dI cI cZ cR cG v 0 2 (by decide) (by decide)) ⟨hx, hb, hml, hown, hts⟩ (va_cwS 3 hts gX3_setCharge_X3_in rfl rfl rfl (by decide +kernel) ⟨Nat.le_of_ble_eq_true rfl, Nat.le_of_ble_eq_true rfl⟩) rfl hl.1 (Nat.le_of_ble_eq_true rfl) dX3_setCharge_24 ⟨Nat.le_of_ble_eq_true rfl, Nat.le_of_ble_eq_true rfl⟩ hA hS hP hK hD [] [0, 1] rfl rfl (by decide) (by decide) (by decide) [0, 1] (by decide) (fun _ => rfl) rfl (fun _ H locs hp_5 hP hD hS => ?_)
      refine my_if_eqB (x := (inR v 0 2)) (tgt := 42) hx hb dX3_setCharge_27 (by decide) (fun c_6 => ?_) (fun c_6 => ?_)
      · refine lv_bipush (v := -3) hx hb dX3_setCharge_42 (by decide) ?_
        exact ret () _ _ _ _ _ _ _ _ (by show _ = aSetV false g (nI j) v; unfold aSetV; rw [if_pos c_2, if_pos (by rw [show nx (nI j) = j from hjc, c_4]), if_neg (by rw [c_6]; decide)]) (trivial) (by show sW cI ad (gSetV false g (nI j) v) = _; unfold gSetV; rw [if_pos c_2, if_pos (by rw [show nx (nI j) = j from hjc, c_4]), if_neg (by rw [c_6]; decide)]) hP hD hS (Nat.le_of_ble_eq_true rfl) (Nat.le_of_ble_eq_true rfl) dX3_setCharge_44
      · obtain ⟨k, hk1, hk2, hk3, rfl, hkc⟩ := inR_at c_6
        refine lv_aload_n hx hb dX3_setCharge_30 rfl (lv_at hl 0 rfl) ?_
        refine lv_bipush (v := nI 26) hx hb dX3_setCharge_31 (by decide) ?_
        refine lv_iload_n hx hb dX3_setCharge_33 rfl (lv_at hl 1 rfl) ?_
        refine my_iadd (x := 26) (y := j) hx hb dX3_setCharge_34 ?_
        refine lv_iload_n hx hb dX3_setCharge_35 rfl (lv_at hl 2 rfl) ?_
        refine CI.callV (As := [.int (nI (26 + j)), .int (nI k)]) (rest := []) (w3 := (fun _ => sW cI ad (up1 g (26 + j) k))) (c_X3_set l dC dI cI cZ cR cG ad g (26 + j) k (by omega)) ⟨hx, hb, hml, hown, hts⟩ (cwV 2 hts gX3_setCharge_X3_set rfl rfl rfl (by decide +kernel) ⟨Nat.le_of_ble_eq_true rfl, Nat.le_of_ble_eq_true rfl⟩) rfl hl.1 (Nat.le_of_ble_eq_true rfl) dX3_setCharge_36 ⟨Nat.le_of_ble_eq_true rfl, Nat.le_of_ble_eq_true rfl⟩ hA hS hP hK hD [0, 1] [] rfl rfl (by decide) (by decide) (by decide) 0 3 rfl rfl [0, 1] (by decide) (fun _ => rfl) rfl (fun _ H locs hp_7 hP hD hS => ?_)
        refine lv_goto (tgt := 44) hx hb dX3_setCharge_39 (by decide) ?_
        exact ret () _ _ _ _ _ _ _ _ (by show _ = aSetV false g (nI j) (nI k); unfold aSetV; rw [if_pos c_2, if_pos (by rw [show nx (nI j) = j from hjc, c_4]), if_pos c_6, show nx (nI j) = j from hjc]) (trivial) (by show sW cI ad (gSetV false g (nI j) (nI k)) = _; unfold gSetV; rw [if_pos c_2, if_pos (by rw [show nx (nI j) = j from hjc, c_4]), if_pos c_6, show nx (nI j) = j from hjc, show nx (nI k) = k from hkc]) hP hD hS (Nat.le_of_ble_eq_true rfl) (Nat.le_of_ble_eq_true rfl) dX3_setCharge_44
    · refine lv_bipush (v := -5) hx hb dX3_setCharge_18 (by decide) ?_
      exact ret () _ _ _ _ _ _ _ _ (by show _ = aSetV false g (nI j) v; unfold aSetV; rw [if_pos c_2, if_neg (by rw [show nx (nI j) = j from hjc, c_4]; decide)]) (trivial) (by show sW cI ad (gSetV false g (nI j) v) = _; unfold gSetV; rw [if_pos c_2, if_neg (by rw [show nx (nI j) = j from hjc, c_4]; decide)]) hP hD hS (Nat.le_of_ble_eq_true rfl) (Nat.le_of_ble_eq_true rfl) dX3_setCharge_20
  · refine lv_iconst (v := -1) hx hb dX3_setCharge_8 (by decide) ?_
    exact ret () _ _ _ _ _ _ _ _ (by show _ = aSetV false g x v; unfold aSetV; rw [if_neg (by rw [c_2]; decide)]) (trivial) (by show sW cI ad (gSetV false g x v) = _; unfold gSetV; rw [if_neg (by rw [c_2]; decide)]) hP hD hS (Nat.le_of_ble_eq_true rfl) (Nat.le_of_ble_eq_true rfl) dX3_setCharge_9
abbrev rm_X3_forget : Room := { frames := 1, cells := 0, slots := 0, locals := 21 }
set_option maxHeartbeats 4000000 in
set_option maxRecDepth 100000 in
theorem c_X3_forget (l : Launch) (dC : Nat → ClassId) (dI : Nat → Nat → Nat) (cI cZ cR cG : ClassId) (ad : Nat → Nat) (g : Nat → Nat) (ok : okG g) : CI l (dC, dI) (tyL cI cZ cR cG) yX3_forget wsX3_forget rm_X3_forget [.ref (ad 0)] (sW cI ad g) (S := Unit) (fun _ => aFor g) (fun _ => True) (fun _ => sW cI ad (forK g (g 0))) := by
  refine CI.of (cc := cX3_forget) (maxL := 3) (rt := .int) (lv := [(0, .ref (ad 0))]) (by decide) rfl (Nat.le_of_ble_eq_true rfl) rfl (Or.inl rfl) ?_
  intro p e s m ar below meth c A Qz ls hx hb hml hown hts hnm hA hS hP hK hD hl ret
  have h0 := ok.1
  have h1 := ok.2.1
  refine lv_iconst (v := nI 0) hx hb dX3_forget_0 (by decide) ?_
  refine lv_istore_n (lv' := [(1, .int (nI 0)), (0, .ref (ad 0))]) hx hb dX3_forget_1 rfl hl (by decide) rfl (fun ls hl => ?_)
  refine lv_iconst (v := nI 0) hx hb dX3_forget_2 (by decide) ?_
  refine lv_istore_n (lv' := [(2, .int (nI 0)), (1, .int (nI 0)), (0, .ref (ad 0))]) hx hb dX3_forget_3 rfl hl (by decide) rfl (fun ls hl => ?_)
  rw [← forK_0 g] at hP hD
  have key_4 : ∀ (fu : Nat) (n : Nat), (g 0 - n) < fu → (n ≤ g 0) → ∀ (H : Heap) (locs : List Loc) (ls : Array Slot), va_P (dC, dI) vwCl (sW cI ad (forK g n)) H → va_D A (sW cI ad (forK g n)) → va_S A s.heap H locs → lv_has ls 3 [(2, .int (nI n)), (1, .int (nI (ct (kno g) n))), (0, .ref (ad 0))] → W p l e rm_X3_forget s m ar below meth c H locs 0 0 Qz (F0 m 4 ls []) := by
    intro fu
    induction fu with
    | zero => intro n hmu; exact absurd hmu (Nat.not_lt_zero _)
    | succ fu ih_4 =>
      intro n hmu_4 hn H locs ls hP hD hS hl
      refine lv_iload_n hx hb dX3_forget_4 rfl (lv_at hl 0 rfl) ?_
      refine lv_aload_n hx hb dX3_forget_5 rfl (lv_at hl 2 rfl) ?_
      refine CI.callV (As := []) (rest := [.int (nI n)]) (w3 := (fun _ => sW cI ad (forK g n))) (c_X3_nodes l dC dI cI cZ cR cG ad (forK g n)) ⟨hx, hb, hml, hown, hts⟩ (cwV 0 hts gX3_forget_X3_nodes rfl rfl rfl (by decide +kernel) ⟨Nat.le_of_ble_eq_true rfl, Nat.le_of_ble_eq_true rfl⟩) rfl hl.1 (Nat.le_of_ble_eq_true rfl) dX3_forget_6 ⟨Nat.le_of_ble_eq_true rfl, Nat.le_of_ble_eq_true rfl⟩ hA hS hP hK hD [0, 1] [] rfl rfl (by decide) (by decide) (by decide) 0 3 rfl rfl [0, 1] (by decide) (fun _ => rfl) rfl (fun _ H locs hp_2 hP hD hS => ?_)
      refine my_cast (show nI ((forK g n) 0) = nI (g 0) from by rw [forK_lo (Or.inl (by omega))]) ?_
      refine my_icmp_ge (x := n) (y := (g 0)) (tgt := 57) hx hb (by omega) (by omega) dX3_forget_9 (by decide) (fun c_3 => ?_) (fun c_3 => ?_)
      · refine lv_iload_n hx hb dX3_forget_57 rfl (lv_at hl 1 rfl) ?_
        exact ret () _ _ _ _ _ _ _ _ (by show nI (ct (kno g) n) = nI (ct (kno g) (g 0)); rw [show n = g 0 by omega]) (trivial) (by show sW cI ad (forK g (g 0)) = _; rw [show n = g 0 by omega]) hP hD hS (Nat.le_of_ble_eq_true rfl) (Nat.le_of_ble_eq_true rfl) dX3_forget_58
      · refine lv_aload_n hx hb dX3_forget_12 rfl (lv_at hl 2 rfl) ?_
        refine lv_iload_n hx hb dX3_forget_13 rfl (lv_at hl 0 rfl) ?_
        refine CI.callV (As := [.int (nI n)]) (rest := []) (w3 := (fun _ => sW cI ad (forK g n))) (c_X3_isInput l dC dI cI cZ cR cG ad (forK g n) n (by omega) (by rw [forK_lo (Or.inl (by omega))]; exact (ok.2.2.1 _ (by omega)).1)) ⟨hx, hb, hml, hown, hts⟩ (cwV 1 hts gX3_forget_X3_isInput rfl rfl rfl (by decide +kernel) ⟨Nat.le_of_ble_eq_true rfl, Nat.le_of_ble_eq_true rfl⟩) rfl hl.1 (Nat.le_of_ble_eq_true rfl) dX3_forget_14 ⟨Nat.le_of_ble_eq_true rfl, Nat.le_of_ble_eq_true rfl⟩ hA hS hP hK hD [0, 1] [] rfl rfl (by decide) (by decide) (by decide) 0 3 rfl rfl [0, 1] (by decide) (fun _ => rfl) rfl (fun _ H locs hp_4 hP hD hS => ?_)
        refine my_cast (show bI (decide ((forK g n) (2 + n) = 0)) = bI (decide (g (2 + n) = 0)) from by rw [forK_lo (Or.inl (by omega))]) ?_
        refine my_if_neB (x := (decide (g (2 + n) = 0))) (tgt := 51) hx hb dX3_forget_17 (by decide) (fun c_5 => ?_) (fun c_5 => ?_)
        · refine my_iinc (k := 0) (x := n) (d := 1) (lv' := [(2, .int (nI (n + 1))), (1, .int (nI (ct (kno g) n))), (0, .ref (ad 0))]) hx hb dX3_forget_51 hl rfl (by decide) (by decide) rfl (fun ls hl => ?_)
          refine lv_goto (tgt := 4) hx hb dX3_forget_54 (by decide) ?_
          have hcn : ct (kno g) n = ct (kno g) (n + 1) := by show _ = ct (kno g) n + (if kno g n = true then 1 else 0); rw [if_neg (by unfold kno; simp at c_5; simp [c_5])]; rfl
          rw [forK_n (of_decide_eq_true c_5)] at hP hD
          rw [hcn] at hl
          exact ih_4 (n + 1) (by omega) (by omega) _ _ _ hP hD hS (lv_sub hl [0, 1, 2] rfl)
        · refine lv_iload_n hx hb dX3_forget_20 rfl (lv_at hl 1 rfl) ?_
          refine lv_aload_n hx hb dX3_forget_21 rfl (lv_at hl 2 rfl) ?_
          refine va_get (D := (dC, dI)) (ci := 3) (v := .ref (ad 1)) (C := RX3) (T := TX3) (N := 8) hx hb hts (fun _ h9 => List.mem_cons_of_mem _ (List.mem_append_right _ h9)) hown hK hP 0 rfl rfl 0 (by decide) (hts (.fieldLink RX3 7 "SwitchLevelSimulatorModel" "state" "[I") (List.mem_of_getElem? (i := 1) rfl)) (fun _ h9 => h9) rfl dX3_forget_22 ?_
          refine lv_bipush (v := nI 26) hx hb dX3_forget_25 (by decide) ?_
          refine lv_iload_n hx hb dX3_forget_27 rfl (lv_at hl 0 rfl) ?_
          refine my_iadd (x := 26) (y := n) hx hb dX3_forget_28 ?_
          refine my_iald (i := (26 + n)) hx hb hK hP 1 0 rfl rfl (by omega) (by decide) dX3_forget_29 ?_
          refine my_cast (show nI ((forK g n) (26 + n)) = nI (g (26 + n)) from by rw [forK_lo (Or.inr (by omega))]) ?_
          refine lv_iconst (v := nI 2) hx hb dX3_forget_30 (by decide) ?_
          refine my_icmp_eq (x := (g (26 + n))) (y := 2) (tgt := 38) hx hb (by have := (ok.2.2.1 n (by omega)).2; omega) (by omega) dX3_forget_31 (by decide) (fun c_6 => ?_) (fun c_6 => ?_)
          · refine lv_iconst (v := nI 0) hx hb dX3_forget_38 (by decide) ?_
            refine my_iadd (x := (ct (kno g) n)) (y := 0) hx hb dX3_forget_39 ?_
            refine my_cast (show nI (ct (kno g) n + 0) = nI (ct (kno g) (n + 1)) from by congr 1; show _ = ct (kno g) n + (if kno g n = true then 1 else 0); rw [if_neg (by unfold kno; simp [c_6])]) ?_
            refine lv_istore_n (lv' := [(1, .int (nI (ct (kno g) (n + 1)))), (2, .int (nI n)), (0, .ref (ad 0))]) hx hb dX3_forget_40 rfl hl (by decide) rfl (fun ls hl => ?_)
            refine lv_aload_n hx hb dX3_forget_41 rfl (lv_at hl 2 rfl) ?_
            refine va_get (D := (dC, dI)) (ci := 3) (v := .ref (ad 1)) (C := RX3) (T := TX3) (N := 8) hx hb hts (fun _ h9 => List.mem_cons_of_mem _ (List.mem_append_right _ h9)) hown hK hP 0 rfl rfl 0 (by decide) (hts (.fieldLink RX3 7 "SwitchLevelSimulatorModel" "state" "[I") (List.mem_of_getElem? (i := 1) rfl)) (fun _ h9 => h9) rfl dX3_forget_42 ?_
            refine lv_bipush (v := nI 26) hx hb dX3_forget_45 (by decide) ?_
            refine lv_iload_n hx hb dX3_forget_47 rfl (lv_at hl 1 rfl) ?_
            refine my_iadd (x := 26) (y := n) hx hb dX3_forget_48 ?_
            refine lv_iconst (v := nI 2) hx hb dX3_forget_49 (by decide) ?_
            refine my_iastN (i := (26 + n)) (x := 2) (g := (forK g n)) (ws' := sW cI ad (up1 (forK g n) (26 + n) 2)) hx hb hK hP hD hS 1 0 rfl rfl (by omega) (by decide) dX3_forget_50 rfl (fun H locs hP hD hS => ?_)
            refine my_iinc (k := 1) (x := n) (d := 1) (lv' := [(2, .int (nI (n + 1))), (1, .int (nI (ct (kno g) (n + 1)))), (0, .ref (ad 0))]) hx hb dX3_forget_51 hl rfl (by decide) (by decide) rfl (fun ls hl => ?_)
            refine lv_goto (tgt := 4) hx hb dX3_forget_54 (by decide) ?_
            rw [forK_s (of_decide_eq_false c_5)] at hP hD
            exact ih_4 (n + 1) (by omega) (by omega) _ _ _ hP hD hS (lv_sub hl [0, 1, 2] rfl)
          · refine lv_iconst (v := nI 1) hx hb dX3_forget_34 (by decide) ?_
            refine lv_goto (tgt := 39) hx hb dX3_forget_35 (by decide) ?_
            refine my_iadd (x := (ct (kno g) n)) (y := 1) hx hb dX3_forget_39 ?_
            refine my_cast (show nI (ct (kno g) n + 1) = nI (ct (kno g) (n + 1)) from by congr 1; show _ = ct (kno g) n + (if kno g n = true then 1 else 0); rw [if_pos (by unfold kno; simp at c_5; simp [c_5, c_6])]) ?_
            refine lv_istore_n (lv' := [(1, .int (nI (ct (kno g) (n + 1)))), (2, .int (nI n)), (0, .ref (ad 0))]) hx hb dX3_forget_40 rfl hl (by decide) rfl (fun ls hl => ?_)
            refine lv_aload_n hx hb dX3_forget_41 rfl (lv_at hl 2 rfl) ?_
            refine va_get (D := (dC, dI)) (ci := 3) (v := .ref (ad 1)) (C := RX3) (T := TX3) (N := 8) hx hb hts (fun _ h9 => List.mem_cons_of_mem _ (List.mem_append_right _ h9)) hown hK hP 0 rfl rfl 0 (by decide) (hts (.fieldLink RX3 7 "SwitchLevelSimulatorModel" "state" "[I") (List.mem_of_getElem? (i := 1) rfl)) (fun _ h9 => h9) rfl dX3_forget_42 ?_
            refine lv_bipush (v := nI 26) hx hb dX3_forget_45 (by decide) ?_
            refine lv_iload_n hx hb dX3_forget_47 rfl (lv_at hl 1 rfl) ?_
            refine my_iadd (x := 26) (y := n) hx hb dX3_forget_48 ?_
            refine lv_iconst (v := nI 2) hx hb dX3_forget_49 (by decide) ?_
            refine my_iastN (i := (26 + n)) (x := 2) (g := (forK g n)) (ws' := sW cI ad (up1 (forK g n) (26 + n) 2)) hx hb hK hP hD hS 1 0 rfl rfl (by omega) (by decide) dX3_forget_50 rfl (fun H locs hP hD hS => ?_)
            refine my_iinc (k := 1) (x := n) (d := 1) (lv' := [(2, .int (nI (n + 1))), (1, .int (nI (ct (kno g) (n + 1)))), (0, .ref (ad 0))]) hx hb dX3_forget_51 hl rfl (by decide) (by decide) rfl (fun ls hl => ?_)
            refine lv_goto (tgt := 4) hx hb dX3_forget_54 (by decide) ?_
            rw [forK_s (of_decide_eq_false c_5)] at hP hD
            exact ih_4 (n + 1) (by omega) (by omega) _ _ _ hP hD hS (lv_sub hl [0, 1, 2] rfl)
  exact key_4 _ 0 (Nat.lt_succ_self _) (Nat.zero_le _) _ _ _ hP hD hS (lv_sub hl [0, 1, 2] rfl)
abbrev rm_X3_value : Room := { frames := 2, cells := 0, slots := 0, locals := 43 }
set_option maxHeartbeats 4000000 in
set_option maxRecDepth 100000 in
theorem c_X3_value (l : Launch) (dC : Nat → ClassId) (dI : Nat → Nat → Nat) (cI cZ cR cG : ClassId) (ad : Nat → Nat) (g : Nat → Nat) (x : Int32) (ok : okG g) : CI l (dC, dI) (tyL cI cZ cR cG) yX3_value wsX3_value rm_X3_value [.ref (ad 0), .int x] (sW cI ad g) (S := Unit) (fun _ => aVal g x) (fun _ => True) (fun _ => sW cI ad g) := by
  refine CI.of (cc := cX3_value) (maxL := 2) (rt := .int) (lv := [(0, .ref (ad 0)), (1, .int x)]) (by decide) rfl (Nat.le_of_ble_eq_true rfl) rfl (Or.inl rfl) ?_
  intro p e s m ar below meth c A Qz ls hx hb hml hown hts hnm hA hS hP hK hD hl ret
  have h0 := ok.1
  have h1 := ok.2.1
  refine lv_aload_n hx hb dX3_value_0 rfl (lv_at hl 0 rfl) ?_
  refine lv_iload_n hx hb dX3_value_1 rfl (lv_at hl 1 rfl) ?_
  refine CI.callV (As := [.int x]) (rest := []) (w3 := (fun _ => sW cI ad g)) (c_X3_isNode l dC dI cI cZ cR cG ad g x (ok.1)) ⟨hx, hb, hml, hown, hts⟩ (cwV 1 hts gX3_value_X3_isNode rfl rfl rfl (by decide +kernel) ⟨Nat.le_of_ble_eq_true rfl, Nat.le_of_ble_eq_true rfl⟩) rfl hl.1 (Nat.le_of_ble_eq_true rfl) dX3_value_2 ⟨Nat.le_of_ble_eq_true rfl, Nat.le_of_ble_eq_true rfl⟩ hA hS hP hK hD [0, 1] [] rfl rfl (by decide) (by decide) (by decide) 0 3 rfl rfl [0, 1] (by decide) (fun _ => rfl) rfl (fun _ H locs hp_1 hP hD hS => ?_)
  refine my_if_eqB (x := (inN x (g 0))) (tgt := 20) hx hb dX3_value_5 (by decide) (fun c_2 => ?_) (fun c_2 => ?_)
  · refine lv_iconst (v := -1) hx hb dX3_value_20 (by decide) ?_
    exact ret () _ _ _ _ _ _ _ _ (by show _ = aVal g x; unfold aVal; rw [if_neg (by rw [c_2]; decide)]) (trivial) (rfl) hP hD hS (Nat.le_of_ble_eq_true rfl) (Nat.le_of_ble_eq_true rfl) dX3_value_21
  · obtain ⟨j, hj1, hj2, rfl, hjc⟩ := inN_at c_2
    refine lv_aload_n hx hb dX3_value_8 rfl (lv_at hl 0 rfl) ?_
    refine va_get (D := (dC, dI)) (ci := 3) (v := .ref (ad 1)) (C := RX3) (T := TX3) (N := 8) hx hb hts (fun _ h9 => List.mem_cons_of_mem _ (List.mem_append_right _ h9)) hown hK hP 0 rfl rfl 0 (by decide) (hts (.fieldLink RX3 7 "SwitchLevelSimulatorModel" "state" "[I") (List.mem_of_getElem? (i := 1) rfl)) (fun _ h9 => h9) rfl dX3_value_9 ?_
    refine lv_bipush (v := nI 26) hx hb dX3_value_12 (by decide) ?_
    refine lv_iload_n hx hb dX3_value_14 rfl (lv_at hl 1 rfl) ?_
    refine my_iadd (x := 26) (y := j) hx hb dX3_value_15 ?_
    refine my_iald (i := (26 + j)) hx hb hK hP 1 0 rfl rfl (by omega) (by decide) dX3_value_16 ?_
    refine lv_goto (tgt := 21) hx hb dX3_value_17 (by decide) ?_
    exact ret () _ _ _ _ _ _ _ _ (by show _ = aVal g (nI j); unfold aVal; rw [if_pos c_2, show nx (nI j) = j from hjc]; try rfl) (trivial) (rfl) hP hD hS (Nat.le_of_ble_eq_true rfl) (Nat.le_of_ble_eq_true rfl) dX3_value_21
abbrev rm_X3_nodesWith : Room := { frames := 1, cells := 0, slots := 0, locals := 22 }
set_option maxHeartbeats 4000000 in
set_option maxRecDepth 100000 in
theorem c_X3_nodesWith (l : Launch) (dC : Nat → ClassId) (dI : Nat → Nat → Nat) (cI cZ cR cG : ClassId) (ad : Nat → Nat) (g : Nat → Nat) (x : Int32) (ok : okG g) : CI l (dC, dI) (tyL cI cZ cR cG) yX3_nodesWith wsX3_nodesWith rm_X3_nodesWith [.ref (ad 0), .int x] (sW cI ad g) (S := Unit) (fun _ => aWith g x) (fun _ => True) (fun _ => sW cI ad g) := by
  refine CI.of (cc := cX3_nodesWith) (maxL := 4) (rt := .int) (lv := [(0, .ref (ad 0)), (1, .int x)]) (by decide) rfl (Nat.le_of_ble_eq_true rfl) rfl (Or.inl rfl) ?_
  intro p e s m ar below meth c A Qz ls hx hb hml hown hts hnm hA hS hP hK hD hl ret
  have h0 := ok.1
  have h1 := ok.2.1
  refine lv_iload_n hx hb dX3_nodesWith_0 rfl (lv_at hl 1 rfl) ?_
  refine lv_iconst (v := nI 0) hx hb dX3_nodesWith_1 (by decide) ?_
  refine lv_iconst (v := nI 2) hx hb dX3_nodesWith_2 (by decide) ?_
  refine CI.callS (As := [.int x, .int (nI 0), .int (nI 2)]) (rest := []) (w3 := (fun _ => sW cI ad g)) (c_X3_inR l dC dI cI cZ cR cG x 0 2 (by decide) (by decide)) ⟨hx, hb, hml, hown, hts⟩ (va_cwS 3 hts gX3_nodesWith_X3_in rfl rfl rfl (by decide +kernel) ⟨Nat.le_of_ble_eq_true rfl, Nat.le_of_ble_eq_true rfl⟩) rfl hl.1 (Nat.le_of_ble_eq_true rfl) dX3_nodesWith_3 ⟨Nat.le_of_ble_eq_true rfl, Nat.le_of_ble_eq_true rfl⟩ hA hS hP hK hD [] [0, 1] rfl rfl (by decide) (by decide) (by decide) [0, 1] (by decide) (fun _ => rfl) rfl (fun _ H locs hp_1 hP hD hS => ?_)
  refine my_if_neB (x := (inR x 0 2)) (tgt := 12) hx hb dX3_nodesWith_6 (by decide) (fun c_2 => ?_) (fun c_2 => ?_)
  · obtain ⟨j, hj1, hj2, hj3, rfl, hjc⟩ := inR_at c_2
    refine lv_iconst (v := nI 0) hx hb dX3_nodesWith_12 (by decide) ?_
    refine lv_istore_n (lv' := [(2, .int (nI 0)), (0, .ref (ad 0)), (1, .int (nI j))]) hx hb dX3_nodesWith_13 rfl hl (by decide) rfl (fun ls hl => ?_)
    refine lv_iconst (v := nI 0) hx hb dX3_nodesWith_14 (by decide) ?_
    refine lv_istore_n (lv' := [(3, .int (nI 0)), (2, .int (nI 0)), (0, .ref (ad 0)), (1, .int (nI j))]) hx hb dX3_nodesWith_15 rfl hl (by decide) rfl (fun ls hl => ?_)
    have key_16 : ∀ (fu : Nat) (n : Nat), (g 0 - n) < fu → (n ≤ g 0) → ∀ (H : Heap) (locs : List Loc) (ls : Array Slot), va_P (dC, dI) vwCl (sW cI ad g) H → va_D A (sW cI ad g) → va_S A s.heap H locs → lv_has ls 4 [(3, .int (nI n)), (2, .int (mk (vlu g j) n)), (0, .ref (ad 0)), (1, .int (nI j))] → W p l e rm_X3_nodesWith s m ar below meth c H locs 0 0 Qz (F0 m 16 ls []) := by
      intro fu
      induction fu with
      | zero => intro n hmu; exact absurd hmu (Nat.not_lt_zero _)
      | succ fu ih_16 =>
        intro n hmu_16 hn H locs ls hP hD hS hl
        refine lv_iload_n hx hb dX3_nodesWith_16 rfl (lv_at hl 0 rfl) ?_
        refine lv_aload_n hx hb dX3_nodesWith_17 rfl (lv_at hl 2 rfl) ?_
        refine CI.callV (As := []) (rest := [.int (nI n)]) (w3 := (fun _ => sW cI ad g)) (c_X3_nodes l dC dI cI cZ cR cG ad g) ⟨hx, hb, hml, hown, hts⟩ (cwV 0 hts gX3_nodesWith_X3_nodes rfl rfl rfl (by decide +kernel) ⟨Nat.le_of_ble_eq_true rfl, Nat.le_of_ble_eq_true rfl⟩) rfl hl.1 (Nat.le_of_ble_eq_true rfl) dX3_nodesWith_18 ⟨Nat.le_of_ble_eq_true rfl, Nat.le_of_ble_eq_true rfl⟩ hA hS hP hK hD [0, 1] [] rfl rfl (by decide) (by decide) (by decide) 0 3 rfl rfl [0, 1] (by decide) (fun _ => rfl) rfl (fun _ H locs hp_4 hP hD hS => ?_)
        refine my_icmp_ge (x := n) (y := (g 0)) (tgt := 53) hx hb (by omega) (by omega) dX3_nodesWith_21 (by decide) (fun c_5 => ?_) (fun c_5 => ?_)
        · refine lv_iload_n hx hb dX3_nodesWith_53 rfl (lv_at hl 1 rfl) ?_
          exact ret () _ _ _ _ _ _ _ _ (by show _ = aWith g (nI j); unfold aWith; rw [if_pos c_2, show nx (nI j) = j from hjc, show n = g 0 by omega]) (trivial) (rfl) hP hD hS (Nat.le_of_ble_eq_true rfl) (Nat.le_of_ble_eq_true rfl) dX3_nodesWith_54
        · refine lv_iload_n hx hb dX3_nodesWith_24 rfl (lv_at hl 1 rfl) ?_
          refine lv_aload_n hx hb dX3_nodesWith_25 rfl (lv_at hl 2 rfl) ?_
          refine va_get (D := (dC, dI)) (ci := 3) (v := .ref (ad 1)) (C := RX3) (T := TX3) (N := 8) hx hb hts (fun _ h9 => List.mem_cons_of_mem _ (List.mem_append_right _ h9)) hown hK hP 0 rfl rfl 0 (by decide) (hts (.fieldLink RX3 7 "SwitchLevelSimulatorModel" "state" "[I") (List.mem_of_getElem? (i := 1) rfl)) (fun _ h9 => h9) rfl dX3_nodesWith_26 ?_
          refine lv_bipush (v := nI 26) hx hb dX3_nodesWith_29 (by decide) ?_
          refine lv_iload_n hx hb dX3_nodesWith_31 rfl (lv_at hl 0 rfl) ?_
          refine my_iadd (x := 26) (y := n) hx hb dX3_nodesWith_32 ?_
          refine my_iald (i := (26 + n)) hx hb hK hP 1 0 rfl rfl (by omega) (by decide) dX3_nodesWith_33 ?_
          refine lv_iload_n hx hb dX3_nodesWith_34 rfl (lv_at hl 3 rfl) ?_
          refine my_icmp_ne (x := (g (26 + n))) (y := j) (tgt := 44) hx hb (by have := (ok.2.2.1 n (by omega)).2; omega) (by omega) dX3_nodesWith_35 (by decide) (fun c_6 => ?_) (fun c_6 => ?_)
          · refine lv_iconst (v := nI 0) hx hb dX3_nodesWith_44 (by decide) ?_
            refine lv_ior hx hb dX3_nodesWith_45 ?_
            refine my_cast (show (mk (vlu g j) n) ||| (nI 0) = mk (vlu g j) (n + 1) from by show _ = mk (vlu g j) n ||| (if vlu g j n = true then (1 : Int32) <<< (nI n &&& 31) else 0); rw [if_neg (by unfold vlu; rw [decide_eq_false c_6]; decide)]; try rfl) ?_
            refine lv_istore_n (lv' := [(2, .int (mk (vlu g j) (n + 1))), (3, .int (nI n)), (0, .ref (ad 0)), (1, .int (nI j))]) hx hb dX3_nodesWith_46 rfl hl (by decide) rfl (fun ls hl => ?_)
            refine my_iinc (k := 1) (x := n) (d := 1) (lv' := [(3, .int (nI (n + 1))), (2, .int (mk (vlu g j) (n + 1))), (0, .ref (ad 0)), (1, .int (nI j))]) hx hb dX3_nodesWith_47 hl rfl (by decide) (by decide) rfl (fun ls hl => ?_)
            refine lv_goto (tgt := 16) hx hb dX3_nodesWith_50 (by decide) ?_
            exact ih_16 (n + 1) (by omega) (by omega) _ _ _ hP hD hS (lv_sub hl [0, 1, 2, 3] rfl)
          · refine lv_iconst (v := nI 1) hx hb dX3_nodesWith_38 (by decide) ?_
            refine lv_iload_n hx hb dX3_nodesWith_39 rfl (lv_at hl 0 rfl) ?_
            refine lv_ishl hx hb dX3_nodesWith_40 ?_
            refine lv_goto (tgt := 45) hx hb dX3_nodesWith_41 (by decide) ?_
            refine lv_ior hx hb dX3_nodesWith_45 ?_
            refine my_cast (show (mk (vlu g j) n) ||| ((1 : Int32) <<< (nI n &&& 31)) = mk (vlu g j) (n + 1) from by show _ = mk (vlu g j) n ||| (if vlu g j n = true then (1 : Int32) <<< (nI n &&& 31) else 0); rw [if_pos (by unfold vlu; exact decide_eq_true c_6)]; try rfl) ?_
            refine lv_istore_n (lv' := [(2, .int (mk (vlu g j) (n + 1))), (3, .int (nI n)), (0, .ref (ad 0)), (1, .int (nI j))]) hx hb dX3_nodesWith_46 rfl hl (by decide) rfl (fun ls hl => ?_)
            refine my_iinc (k := 1) (x := n) (d := 1) (lv' := [(3, .int (nI (n + 1))), (2, .int (mk (vlu g j) (n + 1))), (0, .ref (ad 0)), (1, .int (nI j))]) hx hb dX3_nodesWith_47 hl rfl (by decide) (by decide) rfl (fun ls hl => ?_)
            refine lv_goto (tgt := 16) hx hb dX3_nodesWith_50 (by decide) ?_
            exact ih_16 (n + 1) (by omega) (by omega) _ _ _ hP hD hS (lv_sub hl [0, 1, 2, 3] rfl)
    exact key_16 _ 0 (Nat.lt_succ_self _) (Nat.zero_le _) _ _ _ hP hD hS (lv_sub hl [0, 1, 2, 3] rfl)
  · refine lv_bipush (v := -3) hx hb dX3_nodesWith_9 (by decide) ?_
    exact ret () _ _ _ _ _ _ _ _ (by show _ = aWith g x; unfold aWith; rw [if_neg (by rw [c_2]; decide)]) (trivial) (rfl) hP hD hS (Nat.le_of_ble_eq_true rfl) (Nat.le_of_ble_eq_true rfl) dX3_nodesWith_11
abbrev rm_X3_stateOf : Room := { frames := 0, cells := 0, slots := 0, locals := 0 }
set_option maxHeartbeats 4000000 in
set_option maxRecDepth 100000 in
theorem c_X3_stateOf (l : Launch) (dC : Nat → ClassId) (dI : Nat → Nat → Nat) (cI cZ cR cG : ClassId) (ad : Nat → Nat) (g : Nat → Nat) (t : Nat) (ok : okG g) (ht : t < g 1) : CI l (dC, dI) (tyL cI cZ cR cG) yX3_stateOf wsX3_stateOf rm_X3_stateOf [.ref (ad 0), .int (nI t)] (sW cI ad g) (S := Unit) (fun _ => nI (swS g t)) (fun _ => True) (fun _ => sW cI ad g) := by
  refine CI.of (cc := cX3_stateOf) (maxL := 4) (rt := .int) (lv := [(0, .ref (ad 0)), (1, .int (nI t))]) (by decide) rfl (Nat.le_of_ble_eq_true rfl) rfl (Or.inl rfl) ?_
  intro p e s m ar below meth c A Qz ls hx hb hml hown hts hnm hA hS hP hK hD hl ret
  have h0 := ok.1
  have h1 := ok.2.1
  have hT := ok.2.2.2 t ht
  have hG := (ok.2.2.1 _ hT.2.2.2.1).2
  refine lv_aload_n hx hb dX3_stateOf_0 rfl (lv_at hl 0 rfl) ?_
  refine va_get (D := (dC, dI)) (ci := 3) (v := .ref (ad 1)) (C := RX3) (T := TX3) (N := 8) hx hb hts (fun _ h9 => List.mem_cons_of_mem _ (List.mem_append_right _ h9)) hown hK hP 0 rfl rfl 0 (by decide) (hts (.fieldLink RX3 7 "SwitchLevelSimulatorModel" "state" "[I") (List.mem_of_getElem? (i := 1) rfl)) (fun _ h9 => h9) rfl dX3_stateOf_1 ?_
  refine lv_sipush (v := nI 250) hx hb dX3_stateOf_4 (by decide) ?_
  refine lv_iload_n hx hb dX3_stateOf_7 rfl (lv_at hl 1 rfl) ?_
  refine my_iadd (x := 250) (y := t) hx hb dX3_stateOf_8 ?_
  refine my_iald (i := (250 + t)) hx hb hK hP 1 0 rfl rfl (by omega) (by decide) dX3_stateOf_9 ?_
  refine lv_istore_n (lv' := [(2, .int (nI (g (250 + t)))), (0, .ref (ad 0)), (1, .int (nI t))]) hx hb dX3_stateOf_10 rfl hl (by decide) rfl (fun ls hl => ?_)
  refine lv_iload_n hx hb dX3_stateOf_11 rfl (lv_at hl 0 rfl) ?_
  refine my_if_eqN (x := (g (250 + t))) (tgt := 26) hx hb (by omega) dX3_stateOf_12 (by decide) (fun c_1 => ?_) (fun c_1 => ?_)
  · refine lv_aload_n hx hb dX3_stateOf_26 rfl (lv_at hl 1 rfl) ?_
    refine va_get (D := (dC, dI)) (ci := 3) (v := .ref (ad 1)) (C := RX3) (T := TX3) (N := 8) hx hb hts (fun _ h9 => List.mem_cons_of_mem _ (List.mem_append_right _ h9)) hown hK hP 0 rfl rfl 0 (by decide) (hts (.fieldLink RX3 7 "SwitchLevelSimulatorModel" "state" "[I") (List.mem_of_getElem? (i := 1) rfl)) (fun _ h9 => h9) rfl dX3_stateOf_27 ?_
    refine lv_bipush (v := nI 50) hx hb dX3_stateOf_30 (by decide) ?_
    refine lv_iload_n hx hb dX3_stateOf_32 rfl (lv_at hl 2 rfl) ?_
    refine my_iadd (x := 50) (y := t) hx hb dX3_stateOf_33 ?_
    refine my_iald (i := (50 + t)) hx hb hK hP 1 0 rfl rfl (by omega) (by decide) dX3_stateOf_34 ?_
    refine lv_iconst (v := nI 2) hx hb dX3_stateOf_35 (by decide) ?_
    refine my_icmp_ne (x := (g (50 + t))) (y := 2) (tgt := 41) hx hb (by omega) (by omega) dX3_stateOf_36 (by decide) (fun c_2 => ?_) (fun c_2 => ?_)
    · refine lv_aload_n hx hb dX3_stateOf_41 rfl (lv_at hl 1 rfl) ?_
      refine va_get (D := (dC, dI)) (ci := 3) (v := .ref (ad 1)) (C := RX3) (T := TX3) (N := 8) hx hb hts (fun _ h9 => List.mem_cons_of_mem _ (List.mem_append_right _ h9)) hown hK hP 0 rfl rfl 0 (by decide) (hts (.fieldLink RX3 7 "SwitchLevelSimulatorModel" "state" "[I") (List.mem_of_getElem? (i := 1) rfl)) (fun _ h9 => h9) rfl dX3_stateOf_42 ?_
      refine lv_bipush (v := nI 26) hx hb dX3_stateOf_45 (by decide) ?_
      refine lv_aload_n hx hb dX3_stateOf_47 rfl (lv_at hl 1 rfl) ?_
      refine va_get (D := (dC, dI)) (ci := 3) (v := .ref (ad 1)) (C := RX3) (T := TX3) (N := 8) hx hb hts (fun _ h9 => List.mem_cons_of_mem _ (List.mem_append_right _ h9)) hown hK hP 0 rfl rfl 0 (by decide) (hts (.fieldLink RX3 7 "SwitchLevelSimulatorModel" "state" "[I") (List.mem_of_getElem? (i := 1) rfl)) (fun _ h9 => h9) rfl dX3_stateOf_48 ?_
      refine lv_sipush (v := nI 130) hx hb dX3_stateOf_51 (by decide) ?_
      refine lv_iload_n hx hb dX3_stateOf_54 rfl (lv_at hl 2 rfl) ?_
      refine my_iadd (x := 130) (y := t) hx hb dX3_stateOf_55 ?_
      refine my_iald (i := (130 + t)) hx hb hK hP 1 0 rfl rfl (by omega) (by decide) dX3_stateOf_56 ?_
      refine my_iadd (x := 26) (y := (g (130 + t))) hx hb dX3_stateOf_57 ?_
      refine my_iald (i := (26 + (g (130 + t)))) hx hb hK hP 1 0 rfl rfl (by omega) (by decide) dX3_stateOf_58 ?_
      refine lv_istore_n (lv' := [(3, .int (nI (g (26 + (g (130 + t)))))), (2, .int (nI (g (250 + t)))), (0, .ref (ad 0)), (1, .int (nI t))]) hx hb dX3_stateOf_59 rfl hl (by decide) rfl (fun ls hl => ?_)
      refine lv_iload_n hx hb dX3_stateOf_60 rfl (lv_at hl 0 rfl) ?_
      refine lv_iconst (v := nI 2) hx hb dX3_stateOf_61 (by decide) ?_
      refine my_icmp_ne (x := (g (26 + (g (130 + t))))) (y := 2) (tgt := 69) hx hb (by omega) (by omega) dX3_stateOf_62 (by decide) (fun c_3 => ?_) (fun c_3 => ?_)
      · refine lv_iload_n hx hb dX3_stateOf_69 rfl (lv_at hl 0 rfl) ?_
        refine lv_iconst (v := nI 1) hx hb dX3_stateOf_70 (by decide) ?_
        refine my_icmp_ne (x := (g (26 + (g (130 + t))))) (y := 1) (tgt := 78) hx hb (by omega) (by omega) dX3_stateOf_71 (by decide) (fun c_4 => ?_) (fun c_4 => ?_)
        · refine lv_iconst (v := nI 0) hx hb dX3_stateOf_78 (by decide) ?_
          refine lv_aload_n hx hb dX3_stateOf_79 rfl (lv_at hl 2 rfl) ?_
          refine va_get (D := (dC, dI)) (ci := 3) (v := .ref (ad 1)) (C := RX3) (T := TX3) (N := 8) hx hb hts (fun _ h9 => List.mem_cons_of_mem _ (List.mem_append_right _ h9)) hown hK hP 0 rfl rfl 0 (by decide) (hts (.fieldLink RX3 7 "SwitchLevelSimulatorModel" "state" "[I") (List.mem_of_getElem? (i := 1) rfl)) (fun _ h9 => h9) rfl dX3_stateOf_80 ?_
          refine lv_bipush (v := nI 50) hx hb dX3_stateOf_83 (by decide) ?_
          refine lv_iload_n hx hb dX3_stateOf_85 rfl (lv_at hl 3 rfl) ?_
          refine my_iadd (x := 50) (y := t) hx hb dX3_stateOf_86 ?_
          refine my_iald (i := (50 + t)) hx hb hK hP 1 0 rfl rfl (by omega) (by decide) dX3_stateOf_87 ?_
          refine my_if_neN (x := (g (50 + t))) (tgt := 95) hx hb (by omega) dX3_stateOf_88 (by decide) (fun c_5 => ?_) (fun c_5 => ?_)
          · refine lv_iconst (v := nI 0) hx hb dX3_stateOf_95 (by decide) ?_
            refine my_icmp_ne (x := 0) (y := 0) (tgt := 103) hx hb (by omega) (by omega) dX3_stateOf_96 (by decide) (fun c_6 => absurd c_6 (by decide)) (fun _ => ?_)
            refine lv_iconst (v := nI 1) hx hb dX3_stateOf_99 (by decide) ?_
            refine lv_goto (tgt := 104) hx hb dX3_stateOf_100 (by decide) ?_
            exact ret () _ _ _ _ _ _ _ _ (by show _ = nI (swS g t); congr 1; simp [swS, c_1, c_2, c_3, c_4, c_5]) (trivial) (rfl) hP hD hS (Nat.le_of_ble_eq_true rfl) (Nat.le_of_ble_eq_true rfl) dX3_stateOf_104
          · refine lv_iconst (v := nI 1) hx hb dX3_stateOf_91 (by decide) ?_
            refine lv_goto (tgt := 96) hx hb dX3_stateOf_92 (by decide) ?_
            refine my_icmp_ne (x := 0) (y := 1) (tgt := 103) hx hb (by omega) (by omega) dX3_stateOf_96 (by decide) (fun _ => ?_) (fun c_7 => absurd c_7 (by decide))
            refine lv_iconst (v := nI 0) hx hb dX3_stateOf_103 (by decide) ?_
            exact ret () _ _ _ _ _ _ _ _ (by show _ = nI (swS g t); congr 1; simp [swS, c_1, c_2, c_3, c_4, c_5]) (trivial) (rfl) hP hD hS (Nat.le_of_ble_eq_true rfl) (Nat.le_of_ble_eq_true rfl) dX3_stateOf_104
        · refine lv_iconst (v := nI 1) hx hb dX3_stateOf_74 (by decide) ?_
          refine lv_goto (tgt := 79) hx hb dX3_stateOf_75 (by decide) ?_
          refine lv_aload_n hx hb dX3_stateOf_79 rfl (lv_at hl 2 rfl) ?_
          refine va_get (D := (dC, dI)) (ci := 3) (v := .ref (ad 1)) (C := RX3) (T := TX3) (N := 8) hx hb hts (fun _ h9 => List.mem_cons_of_mem _ (List.mem_append_right _ h9)) hown hK hP 0 rfl rfl 0 (by decide) (hts (.fieldLink RX3 7 "SwitchLevelSimulatorModel" "state" "[I") (List.mem_of_getElem? (i := 1) rfl)) (fun _ h9 => h9) rfl dX3_stateOf_80 ?_
          refine lv_bipush (v := nI 50) hx hb dX3_stateOf_83 (by decide) ?_
          refine lv_iload_n hx hb dX3_stateOf_85 rfl (lv_at hl 3 rfl) ?_
          refine my_iadd (x := 50) (y := t) hx hb dX3_stateOf_86 ?_
          refine my_iald (i := (50 + t)) hx hb hK hP 1 0 rfl rfl (by omega) (by decide) dX3_stateOf_87 ?_
          refine my_if_neN (x := (g (50 + t))) (tgt := 95) hx hb (by omega) dX3_stateOf_88 (by decide) (fun c_8 => ?_) (fun c_8 => ?_)
          · refine lv_iconst (v := nI 0) hx hb dX3_stateOf_95 (by decide) ?_
            refine my_icmp_ne (x := 1) (y := 0) (tgt := 103) hx hb (by omega) (by omega) dX3_stateOf_96 (by decide) (fun _ => ?_) (fun c_9 => absurd c_9 (by decide))
            refine lv_iconst (v := nI 0) hx hb dX3_stateOf_103 (by decide) ?_
            exact ret () _ _ _ _ _ _ _ _ (by show _ = nI (swS g t); congr 1; simp [swS, c_1, c_2, c_3, c_4, c_8]) (trivial) (rfl) hP hD hS (Nat.le_of_ble_eq_true rfl) (Nat.le_of_ble_eq_true rfl) dX3_stateOf_104
          · refine lv_iconst (v := nI 1) hx hb dX3_stateOf_91 (by decide) ?_
            refine lv_goto (tgt := 96) hx hb dX3_stateOf_92 (by decide) ?_
            refine my_icmp_ne (x := 1) (y := 1) (tgt := 103) hx hb (by omega) (by omega) dX3_stateOf_96 (by decide) (fun c_10 => absurd c_10 (by decide)) (fun _ => ?_)
            refine lv_iconst (v := nI 1) hx hb dX3_stateOf_99 (by decide) ?_
            refine lv_goto (tgt := 104) hx hb dX3_stateOf_100 (by decide) ?_
            exact ret () _ _ _ _ _ _ _ _ (by show _ = nI (swS g t); congr 1; simp [swS, c_1, c_2, c_3, c_4, c_8]) (trivial) (rfl) hP hD hS (Nat.le_of_ble_eq_true rfl) (Nat.le_of_ble_eq_true rfl) dX3_stateOf_104
      · refine lv_iconst (v := nI 2) hx hb dX3_stateOf_65 (by decide) ?_
        refine lv_goto (tgt := 104) hx hb dX3_stateOf_66 (by decide) ?_
        exact ret () _ _ _ _ _ _ _ _ (by show _ = nI (swS g t); congr 1; simp [swS, c_1, c_2, c_3]) (trivial) (rfl) hP hD hS (Nat.le_of_ble_eq_true rfl) (Nat.le_of_ble_eq_true rfl) dX3_stateOf_104
    · refine lv_iconst (v := nI 1) hx hb dX3_stateOf_39 (by decide) ?_
      exact ret () _ _ _ _ _ _ _ _ (by show _ = nI (swS g t); congr 1; simp [swS, c_1, c_2]) (trivial) (rfl) hP hD hS (Nat.le_of_ble_eq_true rfl) (Nat.le_of_ble_eq_true rfl) dX3_stateOf_40
  · refine lv_iload_n hx hb dX3_stateOf_15 rfl (lv_at hl 0 rfl) ?_
    refine lv_iconst (v := nI 1) hx hb dX3_stateOf_16 (by decide) ?_
    refine my_icmp_ne (x := (g (250 + t))) (y := 1) (tgt := 24) hx hb (by omega) (by omega) dX3_stateOf_17 (by decide) (fun c_11 => ?_) (fun c_11 => ?_)
    · refine lv_iconst (v := nI 1) hx hb dX3_stateOf_24 (by decide) ?_
      exact ret () _ _ _ _ _ _ _ _ (by show _ = nI (swS g t); congr 1; simp [swS, c_1, c_11]) (trivial) (rfl) hP hD hS (Nat.le_of_ble_eq_true rfl) (Nat.le_of_ble_eq_true rfl) dX3_stateOf_25
    · refine lv_iconst (v := nI 0) hx hb dX3_stateOf_20 (by decide) ?_
      refine lv_goto (tgt := 25) hx hb dX3_stateOf_21 (by decide) ?_
      exact ret () _ _ _ _ _ _ _ _ (by show _ = nI (swS g t); congr 1; simp [swS, c_1, c_11]) (trivial) (rfl) hP hD hS (Nat.le_of_ble_eq_true rfl) (Nat.le_of_ble_eq_true rfl) dX3_stateOf_25
abbrev rm_X3_switchState : Room := { frames := 2, cells := 0, slots := 0, locals := 43 }
set_option maxHeartbeats 4000000 in
set_option maxRecDepth 100000 in
theorem c_X3_switchState (l : Launch) (dC : Nat → ClassId) (dI : Nat → Nat → Nat) (cI cZ cR cG : ClassId) (ad : Nat → Nat) (g : Nat → Nat) (x : Int32) (ok : okG g) : CI l (dC, dI) (tyL cI cZ cR cG) yX3_switchState wsX3_switchState rm_X3_switchState [.ref (ad 0), .int x] (sW cI ad g) (S := Unit) (fun _ => aSw g x) (fun _ => True) (fun _ => sW cI ad g) := by
  refine CI.of (cc := cX3_switchState) (maxL := 2) (rt := .int) (lv := [(0, .ref (ad 0)), (1, .int x)]) (by decide) rfl (Nat.le_of_ble_eq_true rfl) rfl (Or.inl rfl) ?_
  intro p e s m ar below meth c A Qz ls hx hb hml hown hts hnm hA hS hP hK hD hl ret
  have h0 := ok.1
  have h1 := ok.2.1
  refine lv_aload_n hx hb dX3_switchState_0 rfl (lv_at hl 0 rfl) ?_
  refine lv_iload_n hx hb dX3_switchState_1 rfl (lv_at hl 1 rfl) ?_
  refine CI.callV (As := [.int x]) (rest := []) (w3 := (fun _ => sW cI ad g)) (c_X3_isTransistor l dC dI cI cZ cR cG ad g x (ok.2.1)) ⟨hx, hb, hml, hown, hts⟩ (cwV 1 hts gX3_switchState_X3_isTransistor rfl rfl rfl (by decide +kernel) ⟨Nat.le_of_ble_eq_true rfl, Nat.le_of_ble_eq_true rfl⟩) rfl hl.1 (Nat.le_of_ble_eq_true rfl) dX3_switchState_2 ⟨Nat.le_of_ble_eq_true rfl, Nat.le_of_ble_eq_true rfl⟩ hA hS hP hK hD [0, 1] [] rfl rfl (by decide) (by decide) (by decide) 0 3 rfl rfl [0, 1] (by decide) (fun _ => rfl) rfl (fun _ H locs hp_1 hP hD hS => ?_)
  refine my_if_eqB (x := (inN x (g 1))) (tgt := 16) hx hb dX3_switchState_5 (by decide) (fun c_2 => ?_) (fun c_2 => ?_)
  · refine lv_bipush (v := -2) hx hb dX3_switchState_16 (by decide) ?_
    exact ret () _ _ _ _ _ _ _ _ (by show _ = aSw g x; unfold aSw; rw [if_neg (by rw [c_2]; decide)]) (trivial) (rfl) hP hD hS (Nat.le_of_ble_eq_true rfl) (Nat.le_of_ble_eq_true rfl) dX3_switchState_18
  · obtain ⟨j, hj1, hj2, rfl, hjc⟩ := inN_at c_2
    refine lv_aload_n hx hb dX3_switchState_8 rfl (lv_at hl 0 rfl) ?_
    refine lv_iload_n hx hb dX3_switchState_9 rfl (lv_at hl 1 rfl) ?_
    refine CI.callV (As := [.int (nI j)]) (rest := []) (w3 := (fun _ => sW cI ad g)) (c_X3_stateOf l dC dI cI cZ cR cG ad g j (ok) (by omega)) ⟨hx, hb, hml, hown, hts⟩ (cwV 1 hts gX3_switchState_X3_stateOf rfl rfl rfl (by decide +kernel) ⟨Nat.le_of_ble_eq_true rfl, Nat.le_of_ble_eq_true rfl⟩) rfl hl.1 (Nat.le_of_ble_eq_true rfl) dX3_switchState_10 ⟨Nat.le_of_ble_eq_true rfl, Nat.le_of_ble_eq_true rfl⟩ hA hS hP hK hD [0, 1] [] rfl rfl (by decide) (by decide) (by decide) 0 3 rfl rfl [0, 1] (by decide) (fun _ => rfl) rfl (fun _ H locs hp_3 hP hD hS => ?_)
    refine lv_goto (tgt := 18) hx hb dX3_switchState_13 (by decide) ?_
    exact ret () _ _ _ _ _ _ _ _ (by show _ = aSw g (nI j); unfold aSw; rw [if_pos c_2, show nx (nI j) = j from hjc]) (trivial) (rfl) hP hD hS (Nat.le_of_ble_eq_true rfl) (Nat.le_of_ble_eq_true rfl) dX3_switchState_18
abbrev rm_X3_setFault : Room := { frames := 2, cells := 0, slots := 0, locals := 43 }
set_option maxHeartbeats 4000000 in
set_option maxRecDepth 100000 in
theorem c_X3_setFault (l : Launch) (dC : Nat → ClassId) (dI : Nat → Nat → Nat) (cI cZ cR cG : ClassId) (ad : Nat → Nat) (g : Nat → Nat) (x v : Int32) (ok : okG g) : CI l (dC, dI) (tyL cI cZ cR cG) yX3_setFault wsX3_setFault rm_X3_setFault [.ref (ad 0), .int x, .int v] (sW cI ad g) (S := Unit) (fun _ => aFlt g x v) (fun _ => True) (fun _ => sW cI ad (gFlt g x v)) := by
  refine CI.of (cc := cX3_setFault) (maxL := 3) (rt := .int) (lv := [(0, .ref (ad 0)), (1, .int x), (2, .int v)]) (by decide) rfl (Nat.le_of_ble_eq_true rfl) rfl (Or.inl rfl) ?_
  intro p e s m ar below meth c A Qz ls hx hb hml hown hts hnm hA hS hP hK hD hl ret
  have h0 := ok.1
  have h1 := ok.2.1
  refine lv_aload_n hx hb dX3_setFault_0 rfl (lv_at hl 0 rfl) ?_
  refine lv_iload_n hx hb dX3_setFault_1 rfl (lv_at hl 1 rfl) ?_
  refine CI.callV (As := [.int x]) (rest := []) (w3 := (fun _ => sW cI ad g)) (c_X3_isTransistor l dC dI cI cZ cR cG ad g x (ok.2.1)) ⟨hx, hb, hml, hown, hts⟩ (cwV 1 hts gX3_setFault_X3_isTransistor rfl rfl rfl (by decide +kernel) ⟨Nat.le_of_ble_eq_true rfl, Nat.le_of_ble_eq_true rfl⟩) rfl hl.1 (Nat.le_of_ble_eq_true rfl) dX3_setFault_2 ⟨Nat.le_of_ble_eq_true rfl, Nat.le_of_ble_eq_true rfl⟩ hA hS hP hK hD [0, 1] [] rfl rfl (by decide) (by decide) (by decide) 0 3 rfl rfl [0, 1] (by decide) (fun _ => rfl) rfl (fun _ H locs hp_1 hP hD hS => ?_)
  refine my_if_neB (x := (inN x (g 1))) (tgt := 11) hx hb dX3_setFault_5 (by decide) (fun c_2 => ?_) (fun c_2 => ?_)
  · obtain ⟨j, hj1, hj2, rfl, hjc⟩ := inN_at c_2
    refine lv_iload_n hx hb dX3_setFault_11 rfl (lv_at hl 2 rfl) ?_
    refine lv_iconst (v := nI 0) hx hb dX3_setFault_12 (by decide) ?_
    refine lv_iconst (v := nI 2) hx hb dX3_setFault_13 (by decide) ?_
    refine CI.callS (As := [.int v, .int (nI 0), .int (nI 2)]) (rest := []) (w3 := (fun _ => sW cI ad g)) (c_X3_inR l dC dI cI cZ cR cG v 0 2 (by decide) (by decide)) ⟨hx, hb, hml, hown, hts⟩ (va_cwS 3 hts gX3_setFault_X3_in rfl rfl rfl (by decide +kernel) ⟨Nat.le_of_ble_eq_true rfl, Nat.le_of_ble_eq_true rfl⟩) rfl hl.1 (Nat.le_of_ble_eq_true rfl) dX3_setFault_14 ⟨Nat.le_of_ble_eq_true rfl, Nat.le_of_ble_eq_true rfl⟩ hA hS hP hK hD [] [0, 1] rfl rfl (by decide) (by decide) (by decide) [0, 1] (by decide) (fun _ => rfl) rfl (fun _ H locs hp_3 hP hD hS => ?_)
    refine my_if_eqB (x := (inR v 0 2)) (tgt := 33) hx hb dX3_setFault_17 (by decide) (fun c_4 => ?_) (fun c_4 => ?_)
    · refine lv_bipush (v := -3) hx hb dX3_setFault_33 (by decide) ?_
      exact ret () _ _ _ _ _ _ _ _ (by show _ = aFlt g (nI j) v; unfold aFlt; rw [if_pos c_2, if_neg (by rw [c_4]; decide)]) (trivial) (by show sW cI ad (gFlt g (nI j) v) = _; unfold gFlt; rw [if_pos c_2, if_neg (by rw [c_4]; decide)]) hP hD hS (Nat.le_of_ble_eq_true rfl) (Nat.le_of_ble_eq_true rfl) dX3_setFault_35
    · obtain ⟨k, hk1, hk2, hk3, rfl, hkc⟩ := inR_at c_4
      refine lv_aload_n hx hb dX3_setFault_20 rfl (lv_at hl 0 rfl) ?_
      refine lv_sipush (v := nI 250) hx hb dX3_setFault_21 (by decide) ?_
      refine lv_iload_n hx hb dX3_setFault_24 rfl (lv_at hl 1 rfl) ?_
      refine my_iadd (x := 250) (y := j) hx hb dX3_setFault_25 ?_
      refine lv_iload_n hx hb dX3_setFault_26 rfl (lv_at hl 2 rfl) ?_
      refine CI.callV (As := [.int (nI (250 + j)), .int (nI k)]) (rest := []) (w3 := (fun _ => sW cI ad (up1 g (250 + j) k))) (c_X3_set l dC dI cI cZ cR cG ad g (250 + j) k (by omega)) ⟨hx, hb, hml, hown, hts⟩ (cwV 2 hts gX3_setFault_X3_set rfl rfl rfl (by decide +kernel) ⟨Nat.le_of_ble_eq_true rfl, Nat.le_of_ble_eq_true rfl⟩) rfl hl.1 (Nat.le_of_ble_eq_true rfl) dX3_setFault_27 ⟨Nat.le_of_ble_eq_true rfl, Nat.le_of_ble_eq_true rfl⟩ hA hS hP hK hD [0, 1] [] rfl rfl (by decide) (by decide) (by decide) 0 3 rfl rfl [0, 1] (by decide) (fun _ => rfl) rfl (fun _ H locs hp_5 hP hD hS => ?_)
      refine lv_goto (tgt := 35) hx hb dX3_setFault_30 (by decide) ?_
      exact ret () _ _ _ _ _ _ _ _ (by show _ = aFlt g (nI j) (nI k); unfold aFlt; rw [if_pos c_2, if_pos c_4, show nx (nI j) = j from hjc]) (trivial) (by show sW cI ad (gFlt g (nI j) (nI k)) = _; unfold gFlt; rw [if_pos c_2, if_pos c_4, show nx (nI j) = j from hjc, show nx (nI k) = k from hkc]) hP hD hS (Nat.le_of_ble_eq_true rfl) (Nat.le_of_ble_eq_true rfl) dX3_setFault_35
  · refine lv_bipush (v := -2) hx hb dX3_setFault_8 (by decide) ?_
    exact ret () _ _ _ _ _ _ _ _ (by show _ = aFlt g x v; unfold aFlt; rw [if_neg (by rw [c_2]; decide)]) (trivial) (by show sW cI ad (gFlt g x v) = _; unfold gFlt; rw [if_neg (by rw [c_2]; decide)]) hP hD hS (Nat.le_of_ble_eq_true rfl) (Nat.le_of_ble_eq_true rfl) dX3_setFault_10
abbrev rm_X3_clearFaults : Room := { frames := 1, cells := 0, slots := 0, locals := 20 }
set_option maxHeartbeats 4000000 in
set_option maxRecDepth 100000 in
theorem c_X3_clearFaults (l : Launch) (dC : Nat → ClassId) (dI : Nat → Nat → Nat) (cI cZ cR cG : ClassId) (ad : Nat → Nat) (g : Nat → Nat) (ok : okG g) : CI l (dC, dI) (tyL cI cZ cR cG) yX3_clearFaults wsX3_clearFaults rm_X3_clearFaults [.ref (ad 0)] (sW cI ad g) (S := Unit) (fun _ => aClr g) (fun _ => True) (fun _ => sW cI ad (clrK g (g 1))) := by
  refine CI.of (cc := cX3_clearFaults) (maxL := 3) (rt := .int) (lv := [(0, .ref (ad 0))]) (by decide) rfl (Nat.le_of_ble_eq_true rfl) rfl (Or.inl rfl) ?_
  intro p e s m ar below meth c A Qz ls hx hb hml hown hts hnm hA hS hP hK hD hl ret
  have h0 := ok.1
  have h1 := ok.2.1
  refine lv_iconst (v := nI 0) hx hb dX3_clearFaults_0 (by decide) ?_
  refine lv_istore_n (lv' := [(1, .int (nI 0)), (0, .ref (ad 0))]) hx hb dX3_clearFaults_1 rfl hl (by decide) rfl (fun ls hl => ?_)
  refine lv_iconst (v := nI 0) hx hb dX3_clearFaults_2 (by decide) ?_
  refine lv_istore_n (lv' := [(2, .int (nI 0)), (1, .int (nI 0)), (0, .ref (ad 0))]) hx hb dX3_clearFaults_3 rfl hl (by decide) rfl (fun ls hl => ?_)
  rw [← clrK_0 g] at hP hD
  have key_4 : ∀ (fu : Nat) (n : Nat), (g 1 - n) < fu → (n ≤ g 1) → ∀ (H : Heap) (locs : List Loc) (ls : Array Slot), va_P (dC, dI) vwCl (sW cI ad (clrK g n)) H → va_D A (sW cI ad (clrK g n)) → va_S A s.heap H locs → lv_has ls 3 [(2, .int (nI n)), (1, .int (nI (ct (flw g) n))), (0, .ref (ad 0))] → W p l e rm_X3_clearFaults s m ar below meth c H locs 0 0 Qz (F0 m 4 ls []) := by
    intro fu
    induction fu with
    | zero => intro n hmu; exact absurd hmu (Nat.not_lt_zero _)
    | succ fu ih_4 =>
      intro n hmu_4 hn H locs ls hP hD hS hl
      refine lv_iload_n hx hb dX3_clearFaults_4 rfl (lv_at hl 0 rfl) ?_
      refine lv_aload_n hx hb dX3_clearFaults_5 rfl (lv_at hl 2 rfl) ?_
      refine CI.callV (As := []) (rest := [.int (nI n)]) (w3 := (fun _ => sW cI ad (clrK g n))) (c_X3_many l dC dI cI cZ cR cG ad (clrK g n)) ⟨hx, hb, hml, hown, hts⟩ (cwV 0 hts gX3_clearFaults_X3_many rfl rfl rfl (by decide +kernel) ⟨Nat.le_of_ble_eq_true rfl, Nat.le_of_ble_eq_true rfl⟩) rfl hl.1 (Nat.le_of_ble_eq_true rfl) dX3_clearFaults_6 ⟨Nat.le_of_ble_eq_true rfl, Nat.le_of_ble_eq_true rfl⟩ hA hS hP hK hD [0, 1] [] rfl rfl (by decide) (by decide) (by decide) 0 3 rfl rfl [0, 1] (by decide) (fun _ => rfl) rfl (fun _ H locs hp_2 hP hD hS => ?_)
      refine my_cast (show nI ((clrK g n) 1) = nI (g 1) from by rw [clrK_lo (Or.inl (by omega))]) ?_
      refine my_icmp_ge (x := n) (y := (g 1)) (tgt := 50) hx hb (by omega) (by omega) dX3_clearFaults_9 (by decide) (fun c_3 => ?_) (fun c_3 => ?_)
      · refine lv_iload_n hx hb dX3_clearFaults_50 rfl (lv_at hl 1 rfl) ?_
        exact ret () _ _ _ _ _ _ _ _ (by show nI (ct (flw g) n) = nI (ct (flw g) (g 1)); rw [show n = g 1 by omega]) (trivial) (by show sW cI ad (clrK g (g 1)) = _; rw [show n = g 1 by omega]) hP hD hS (Nat.le_of_ble_eq_true rfl) (Nat.le_of_ble_eq_true rfl) dX3_clearFaults_51
      · refine lv_iload_n hx hb dX3_clearFaults_12 rfl (lv_at hl 1 rfl) ?_
        refine lv_aload_n hx hb dX3_clearFaults_13 rfl (lv_at hl 2 rfl) ?_
        refine va_get (D := (dC, dI)) (ci := 3) (v := .ref (ad 1)) (C := RX3) (T := TX3) (N := 8) hx hb hts (fun _ h9 => List.mem_cons_of_mem _ (List.mem_append_right _ h9)) hown hK hP 0 rfl rfl 0 (by decide) (hts (.fieldLink RX3 7 "SwitchLevelSimulatorModel" "state" "[I") (List.mem_of_getElem? (i := 1) rfl)) (fun _ h9 => h9) rfl dX3_clearFaults_14 ?_
        refine lv_sipush (v := nI 250) hx hb dX3_clearFaults_17 (by decide) ?_
        refine lv_iload_n hx hb dX3_clearFaults_20 rfl (lv_at hl 0 rfl) ?_
        refine my_iadd (x := 250) (y := n) hx hb dX3_clearFaults_21 ?_
        refine my_iald (i := (250 + n)) hx hb hK hP 1 0 rfl rfl (by omega) (by decide) dX3_clearFaults_22 ?_
        refine my_cast (show nI ((clrK g n) (250 + n)) = nI (g (250 + n)) from by rw [clrK_lo (Or.inr (by omega))]) ?_
        refine my_if_eqN (x := (g (250 + n))) (tgt := 30) hx hb (by have := ok.2.2.2 n (by omega); omega) dX3_clearFaults_23 (by decide) (fun c_4 => ?_) (fun c_4 => ?_)
        · refine lv_iconst (v := nI 0) hx hb dX3_clearFaults_30 (by decide) ?_
          refine my_iadd (x := (ct (flw g) n)) (y := 0) hx hb dX3_clearFaults_31 ?_
          refine my_cast (show nI (ct (flw g) n + 0) = nI (ct (flw g) (n + 1)) from by congr 1; show _ = ct (flw g) n + (if flw g n = true then 1 else 0); rw [if_neg (by unfold flw; simp [c_4])]) ?_
          refine lv_istore_n (lv' := [(1, .int (nI (ct (flw g) (n + 1)))), (2, .int (nI n)), (0, .ref (ad 0))]) hx hb dX3_clearFaults_32 rfl hl (by decide) rfl (fun ls hl => ?_)
          refine lv_aload_n hx hb dX3_clearFaults_33 rfl (lv_at hl 2 rfl) ?_
          refine va_get (D := (dC, dI)) (ci := 3) (v := .ref (ad 1)) (C := RX3) (T := TX3) (N := 8) hx hb hts (fun _ h9 => List.mem_cons_of_mem _ (List.mem_append_right _ h9)) hown hK hP 0 rfl rfl 0 (by decide) (hts (.fieldLink RX3 7 "SwitchLevelSimulatorModel" "state" "[I") (List.mem_of_getElem? (i := 1) rfl)) (fun _ h9 => h9) rfl dX3_clearFaults_34 ?_
          refine lv_sipush (v := nI 250) hx hb dX3_clearFaults_37 (by decide) ?_
          refine lv_iload_n hx hb dX3_clearFaults_40 rfl (lv_at hl 1 rfl) ?_
          refine my_iadd (x := 250) (y := n) hx hb dX3_clearFaults_41 ?_
          refine lv_iconst (v := nI 0) hx hb dX3_clearFaults_42 (by decide) ?_
          refine my_iastN (i := (250 + n)) (x := 0) (g := (clrK g n)) (ws' := sW cI ad (up1 (clrK g n) (250 + n) 0)) hx hb hK hP hD hS 1 0 rfl rfl (by omega) (by decide) dX3_clearFaults_43 rfl (fun H locs hP hD hS => ?_)
          refine my_iinc (k := 1) (x := n) (d := 1) (lv' := [(2, .int (nI (n + 1))), (1, .int (nI (ct (flw g) (n + 1)))), (0, .ref (ad 0))]) hx hb dX3_clearFaults_44 hl rfl (by decide) (by decide) rfl (fun ls hl => ?_)
          refine lv_goto (tgt := 4) hx hb dX3_clearFaults_47 (by decide) ?_
          rw [clrK_s g n] at hP hD
          exact ih_4 (n + 1) (by omega) (by omega) _ _ _ hP hD hS (lv_sub hl [0, 1, 2] rfl)
        · refine lv_iconst (v := nI 1) hx hb dX3_clearFaults_26 (by decide) ?_
          refine lv_goto (tgt := 31) hx hb dX3_clearFaults_27 (by decide) ?_
          refine my_iadd (x := (ct (flw g) n)) (y := 1) hx hb dX3_clearFaults_31 ?_
          refine my_cast (show nI (ct (flw g) n + 1) = nI (ct (flw g) (n + 1)) from by congr 1; show _ = ct (flw g) n + (if flw g n = true then 1 else 0); rw [if_pos (by unfold flw; simp [c_4])]) ?_
          refine lv_istore_n (lv' := [(1, .int (nI (ct (flw g) (n + 1)))), (2, .int (nI n)), (0, .ref (ad 0))]) hx hb dX3_clearFaults_32 rfl hl (by decide) rfl (fun ls hl => ?_)
          refine lv_aload_n hx hb dX3_clearFaults_33 rfl (lv_at hl 2 rfl) ?_
          refine va_get (D := (dC, dI)) (ci := 3) (v := .ref (ad 1)) (C := RX3) (T := TX3) (N := 8) hx hb hts (fun _ h9 => List.mem_cons_of_mem _ (List.mem_append_right _ h9)) hown hK hP 0 rfl rfl 0 (by decide) (hts (.fieldLink RX3 7 "SwitchLevelSimulatorModel" "state" "[I") (List.mem_of_getElem? (i := 1) rfl)) (fun _ h9 => h9) rfl dX3_clearFaults_34 ?_
          refine lv_sipush (v := nI 250) hx hb dX3_clearFaults_37 (by decide) ?_
          refine lv_iload_n hx hb dX3_clearFaults_40 rfl (lv_at hl 1 rfl) ?_
          refine my_iadd (x := 250) (y := n) hx hb dX3_clearFaults_41 ?_
          refine lv_iconst (v := nI 0) hx hb dX3_clearFaults_42 (by decide) ?_
          refine my_iastN (i := (250 + n)) (x := 0) (g := (clrK g n)) (ws' := sW cI ad (up1 (clrK g n) (250 + n) 0)) hx hb hK hP hD hS 1 0 rfl rfl (by omega) (by decide) dX3_clearFaults_43 rfl (fun H locs hP hD hS => ?_)
          refine my_iinc (k := 1) (x := n) (d := 1) (lv' := [(2, .int (nI (n + 1))), (1, .int (nI (ct (flw g) (n + 1)))), (0, .ref (ad 0))]) hx hb dX3_clearFaults_44 hl rfl (by decide) (by decide) rfl (fun ls hl => ?_)
          refine lv_goto (tgt := 4) hx hb dX3_clearFaults_47 (by decide) ?_
          rw [clrK_s g n] at hP hD
          exact ih_4 (n + 1) (by omega) (by omega) _ _ _ hP hD hS (lv_sub hl [0, 1, 2] rfl)
  exact key_4 _ 0 (Nat.lt_succ_self _) (Nat.zero_le _) _ _ _ hP hD hS (lv_sub hl [0, 1, 2] rfl)
abbrev rm_X3_lesser : Room := { frames := 0, cells := 0, slots := 0, locals := 0 }
set_option maxHeartbeats 4000000 in
set_option maxRecDepth 100000 in
theorem c_X3_lesser (l : Launch) (dC : Nat → ClassId) (dI : Nat → Nat → Nat) (cI cZ cR cG : ClassId) (x y : Nat) (h1 : x < 2 ^ 31) (h2 : y < 2 ^ 31) : CI l (dC, dI) (tyL cI cZ cR cG) yX3_lesser wsX3_lesser rm_X3_lesser [.int (nI x), .int (nI y)] ([]) (S := Unit) (fun _ => nI (min x y)) (fun _ => True) (fun _ => []) := by
  refine CI.of (cc := cX3_lesser) (maxL := 2) (rt := .int) (lv := [(0, .int (nI x)), (1, .int (nI y))]) (by decide) rfl (Nat.le_of_ble_eq_true rfl) rfl (Or.inl rfl) ?_
  intro p e s m ar below meth c A Qz ls hx hb hml hown hts hnm hA hS hP hK hD hl ret
  refine lv_iload_n hx hb dX3_lesser_0 rfl (lv_at hl 0 rfl) ?_
  refine lv_iload_n hx hb dX3_lesser_1 rfl (lv_at hl 1 rfl) ?_
  refine my_icmp_ge (x := x) (y := y) (tgt := 9) hx hb (by omega) (by omega) dX3_lesser_2 (by decide) (fun c_1 => ?_) (fun c_1 => ?_)
  · refine lv_iload_n hx hb dX3_lesser_9 rfl (lv_at hl 1 rfl) ?_
    exact ret () _ _ _ _ _ _ _ _ (by show _ = nI (min x y); rw [Nat.min_eq_right (by omega)]) (trivial) (rfl) hP hD hS (Nat.le_of_ble_eq_true rfl) (Nat.le_of_ble_eq_true rfl) dX3_lesser_10
  · refine lv_iload_n hx hb dX3_lesser_5 rfl (lv_at hl 0 rfl) ?_
    refine lv_goto (tgt := 10) hx hb dX3_lesser_6 (by decide) ?_
    exact ret () _ _ _ _ _ _ _ _ (by show _ = nI (min x y); rw [Nat.min_eq_left (by omega)]) (trivial) (rfl) hP hD hS (Nat.le_of_ble_eq_true rfl) (Nat.le_of_ble_eq_true rfl) dX3_lesser_10
abbrev rm_X3_signal : Room := { frames := 0, cells := 0, slots := 0, locals := 0 }
set_option maxHeartbeats 4000000 in
set_option maxRecDepth 100000 in
theorem c_X3_signal (l : Launch) (dC : Nat → ClassId) (dI : Nat → Nat → Nat) (cI cZ cR cG : ClassId) (ad : Nat → Nat) (g : Nat → Nat) (t : Nat) (ht : t < 40) : CI l (dC, dI) (tyL cI cZ cR cG) yX3_signal wsX3_signal rm_X3_signal [.ref (ad 0), .int (nI t)] (sW cI ad g) (S := Unit) (fun _ => nI (g (90 + t) + 3)) (fun _ => True) (fun _ => sW cI ad g) := by
  refine CI.of (cc := cX3_signal) (maxL := 2) (rt := .int) (lv := [(0, .ref (ad 0)), (1, .int (nI t))]) (by decide) rfl (Nat.le_of_ble_eq_true rfl) rfl (Or.inl rfl) ?_
  intro p e s m ar below meth c A Qz ls hx hb hml hown hts hnm hA hS hP hK hD hl ret
  refine lv_aload_n hx hb dX3_signal_0 rfl (lv_at hl 0 rfl) ?_
  refine va_get (D := (dC, dI)) (ci := 3) (v := .ref (ad 1)) (C := RX3) (T := TX3) (N := 8) hx hb hts (fun _ h9 => List.mem_cons_of_mem _ (List.mem_append_right _ h9)) hown hK hP 0 rfl rfl 0 (by decide) (hts (.fieldLink RX3 7 "SwitchLevelSimulatorModel" "state" "[I") (List.mem_of_getElem? (i := 1) rfl)) (fun _ h9 => h9) rfl dX3_signal_1 ?_
  refine lv_bipush (v := nI 90) hx hb dX3_signal_4 (by decide) ?_
  refine lv_iload_n hx hb dX3_signal_6 rfl (lv_at hl 1 rfl) ?_
  refine my_iadd (x := 90) (y := t) hx hb dX3_signal_7 ?_
  refine my_iald (i := (90 + t)) hx hb hK hP 1 0 rfl rfl (by omega) (by decide) dX3_signal_8 ?_
  refine lv_iconst (v := nI 3) hx hb dX3_signal_9 (by decide) ?_
  refine my_iadd (x := (g (90 + t))) (y := 3) hx hb dX3_signal_10 ?_
  exact ret () _ _ _ _ _ _ _ _ (rfl) (trivial) (rfl) hP hD hS (Nat.le_of_ble_eq_true rfl) (Nat.le_of_ble_eq_true rfl) dX3_signal_11
abbrev rm_X3_growDefinite : Room := { frames := 1, cells := 0, slots := 0, locals := 21 }
set_option maxHeartbeats 4000000 in
set_option maxRecDepth 100000 in
theorem c_X3_growDefinite (l : Launch) (dC : Nat → ClassId) (dI : Nat → Nat → Nat) (cI cZ cR cG : ClassId) (ad : Nat → Nat) (g de ss : Nat → Nat) (t a b : Nat) (ht : t < 40) (ha : a < 24) (hb' : b < 24) (h3 : g (2 + b) ≤ 3 ∧ g (90 + t) ≤ 3) (h7 : de a < 100 ∧ de b < 100) : CI l (dC, dI) (tyL cI cZ cR cG) yX3_growDefinite wsX3_growDefinite rm_X3_growDefinite [.ref (ad 0), .int (nI t), .int (nI a), .int (nI b)] (dW cI ad g de ss) (S := Unit) (fun _ => bI (grD g de t a b)) (fun _ => True) (fun _ => dW cI ad g (nxD g de t a b) ss) := by
  refine CI.of (cc := cX3_growDefinite) (maxL := 6) (rt := .boolean) (lv := [(0, .ref (ad 0)), (1, .int (nI t)), (2, .int (nI a)), (3, .int (nI b))]) (by decide) rfl (Nat.le_of_ble_eq_true rfl) rfl (Or.inr ⟨rfl, fun _ => nar_bI _⟩) ?_
  intro p e s m ar below meth c A Qz ls hx hb hml hown hts hnm hA hS hP hK hD hl ret
  refine lv_aload_n hx hb dX3_growDefinite_0 rfl (lv_at hl 0 rfl) ?_
  refine lv_iload_n hx hb dX3_growDefinite_1 rfl (lv_at hl 1 rfl) ?_
  refine CI.callV (As := [.int (nI t)]) (rest := []) (w3 := (fun _ => dW cI ad g de ss)) (c_X3_signal l dC dI cI cZ cR cG ad g t (by omega)) ⟨hx, hb, hml, hown, hts⟩ (cwV 1 hts gX3_growDefinite_X3_signal rfl rfl rfl (by decide +kernel) ⟨Nat.le_of_ble_eq_true rfl, Nat.le_of_ble_eq_true rfl⟩) rfl hl.1 (Nat.le_of_ble_eq_true rfl) dX3_growDefinite_2 ⟨Nat.le_of_ble_eq_true rfl, Nat.le_of_ble_eq_true rfl⟩ hA hS hP hK hD [0, 1] [2, 3] rfl rfl (by decide) (by decide) (by decide) 0 3 rfl rfl [2, 3, 0, 1] (by decide) (fun _ => rfl) rfl (fun _ H locs hp_1 hP hD hS => ?_)
  refine lv_aload_n hx hb dX3_growDefinite_5 rfl (lv_at hl 0 rfl) ?_
  refine va_get (D := (dC, dI)) (ci := 3) (v := .ref (ad 4)) (C := RX3) (T := TX3) (N := 8) hx hb hts (fun _ h9 => List.mem_cons_of_mem _ (List.mem_append_right _ h9)) hown hK hP 0 rfl rfl 3 (by decide) (hts (.fieldLink RX3 20 "SwitchLevelSimulatorModel" "definite" "[I") (List.mem_of_getElem? (i := 1) rfl)) (fun _ h9 => h9) rfl dX3_growDefinite_6 ?_
  refine lv_iload_n hx hb dX3_growDefinite_9 rfl (lv_at hl 2 rfl) ?_
  refine my_iald (i := a) hx hb hK hP 2 0 rfl rfl (by omega) (by decide) dX3_growDefinite_10 ?_
  refine CI.callS (As := [.int (nI (g (90 + t) + 3)), .int (nI (de a))]) (rest := []) (w3 := (fun _ => dW cI ad g de ss)) (c_X3_lesser l dC dI cI cZ cR cG (g (90 + t) + 3) (de a) (by omega) (by omega)) ⟨hx, hb, hml, hown, hts⟩ (va_cwS 2 hts gX3_growDefinite_X3_lesser rfl rfl rfl (by decide +kernel) ⟨Nat.le_of_ble_eq_true rfl, Nat.le_of_ble_eq_true rfl⟩) rfl hl.1 (Nat.le_of_ble_eq_true rfl) dX3_growDefinite_11 ⟨Nat.le_of_ble_eq_true rfl, Nat.le_of_ble_eq_true rfl⟩ hA hS hP hK hD [] [0, 1, 2, 3] rfl rfl (by decide) (by decide) (by decide) [0, 1, 2, 3] (by decide) (fun _ => rfl) rfl (fun _ H locs hp_2 hP hD hS => ?_)
  refine lv_istore (lv' := [(4, .int (nI (min (g (90 + t) + 3) (de a)))), (0, .ref (ad 0)), (1, .int (nI t)), (2, .int (nI a)), (3, .int (nI b))]) hx hb dX3_growDefinite_14 hl (by decide) rfl (fun ls hl => ?_)
  refine lv_aload_n hx hb dX3_growDefinite_16 rfl (lv_at hl 1 rfl) ?_
  refine lv_iload_n hx hb dX3_growDefinite_17 rfl (lv_at hl 4 rfl) ?_
  refine CI.callV (As := [.int (nI b)]) (rest := []) (w3 := (fun _ => dW cI ad g de ss)) (c_X3_isInput l dC dI cI cZ cR cG ad g b (by omega) (h3.1)) ⟨hx, hb, hml, hown, hts⟩ (cwV 1 hts gX3_growDefinite_X3_isInput rfl rfl rfl (by decide +kernel) ⟨Nat.le_of_ble_eq_true rfl, Nat.le_of_ble_eq_true rfl⟩) rfl hl.1 (Nat.le_of_ble_eq_true rfl) dX3_growDefinite_18 ⟨Nat.le_of_ble_eq_true rfl, Nat.le_of_ble_eq_true rfl⟩ hA hS hP hK hD [0, 1] [2, 3] rfl rfl (by decide) (by decide) (by decide) 0 3 rfl rfl [2, 3, 0, 1] (by decide) (fun _ => rfl) rfl (fun _ H locs hp_3 hP hD hS => ?_)
  refine my_if_neB (x := (decide (g (2 + b) = 0))) (tgt := 39) hx hb dX3_growDefinite_21 (by decide) (fun c_4 => ?_) (fun c_4 => ?_)
  · refine lv_iconst (v := nI 0) hx hb dX3_growDefinite_39 (by decide) ?_
    refine lv_istore (lv' := [(5, .int (nI 0)), (4, .int (nI (min (g (90 + t) + 3) (de a)))), (0, .ref (ad 0)), (1, .int (nI t)), (2, .int (nI a)), (3, .int (nI b))]) hx hb dX3_growDefinite_40 hl (by decide) rfl (fun ls hl => ?_)
    refine lv_aload_n hx hb dX3_growDefinite_42 rfl (lv_at hl 2 rfl) ?_
    refine va_get (D := (dC, dI)) (ci := 3) (v := .ref (ad 4)) (C := RX3) (T := TX3) (N := 8) hx hb hts (fun _ h9 => List.mem_cons_of_mem _ (List.mem_append_right _ h9)) hown hK hP 0 rfl rfl 3 (by decide) (hts (.fieldLink RX3 20 "SwitchLevelSimulatorModel" "definite" "[I") (List.mem_of_getElem? (i := 1) rfl)) (fun _ h9 => h9) rfl dX3_growDefinite_43 ?_
    refine lv_iload_n hx hb dX3_growDefinite_46 rfl (lv_at hl 5 rfl) ?_
    refine lv_iload hx hb dX3_growDefinite_47 (lv_at hl 0 rfl) ?_
    refine my_if_eqN (x := 0) (tgt := 57) hx hb (by omega) dX3_growDefinite_49 (by decide) (fun _ => ?_) (fun c_5 => absurd c_5 (by decide))
    refine lv_aload_n hx hb dX3_growDefinite_57 rfl (lv_at hl 2 rfl) ?_
    refine va_get (D := (dC, dI)) (ci := 3) (v := .ref (ad 4)) (C := RX3) (T := TX3) (N := 8) hx hb hts (fun _ h9 => List.mem_cons_of_mem _ (List.mem_append_right _ h9)) hown hK hP 0 rfl rfl 3 (by decide) (hts (.fieldLink RX3 20 "SwitchLevelSimulatorModel" "definite" "[I") (List.mem_of_getElem? (i := 1) rfl)) (fun _ h9 => h9) rfl dX3_growDefinite_58 ?_
    refine lv_iload_n hx hb dX3_growDefinite_61 rfl (lv_at hl 5 rfl) ?_
    refine my_iald (i := b) hx hb hK hP 2 0 rfl rfl (by omega) (by decide) dX3_growDefinite_62 ?_
    refine my_iastN (i := b) (x := (de b)) (g := de) (ws' := dW cI ad g (up1 de b (de b)) ss) hx hb hK hP hD hS 2 0 rfl rfl (by omega) (by decide) dX3_growDefinite_63 rfl (fun H locs hP hD hS => ?_)
    refine lv_iload hx hb dX3_growDefinite_64 (lv_at hl 0 rfl) ?_
    have hgr : grD g de t a b = false := by unfold grD; rw [c_4]; rfl
    exact ret () _ _ _ _ _ _ _ _ (by show _ = bI (grD g de t a b); rw [hgr]; rfl) (trivial) (by show dW cI ad g (nxD g de t a b) ss = _; unfold nxD; rw [if_neg (by rw [hgr]; decide), up1_same]) hP hD hS (Nat.le_of_ble_eq_true rfl) (Nat.le_of_ble_eq_true rfl) dX3_growDefinite_66
  · refine lv_iload hx hb dX3_growDefinite_24 (lv_at hl 0 rfl) ?_
    refine lv_aload_n hx hb dX3_growDefinite_26 rfl (lv_at hl 1 rfl) ?_
    refine va_get (D := (dC, dI)) (ci := 3) (v := .ref (ad 4)) (C := RX3) (T := TX3) (N := 8) hx hb hts (fun _ h9 => List.mem_cons_of_mem _ (List.mem_append_right _ h9)) hown hK hP 0 rfl rfl 3 (by decide) (hts (.fieldLink RX3 20 "SwitchLevelSimulatorModel" "definite" "[I") (List.mem_of_getElem? (i := 1) rfl)) (fun _ h9 => h9) rfl dX3_growDefinite_27 ?_
    refine lv_iload_n hx hb dX3_growDefinite_30 rfl (lv_at hl 4 rfl) ?_
    refine my_iald (i := b) hx hb hK hP 2 0 rfl rfl (by omega) (by decide) dX3_growDefinite_31 ?_
    refine my_icmp_le (x := (min (g (90 + t) + 3) (de a))) (y := (de b)) (tgt := 39) hx hb (by omega) (by omega) dX3_growDefinite_32 (by decide) (fun c_6 => ?_) (fun c_6 => ?_)
    · refine lv_iconst (v := nI 0) hx hb dX3_growDefinite_39 (by decide) ?_
      refine lv_istore (lv' := [(5, .int (nI 0)), (4, .int (nI (min (g (90 + t) + 3) (de a)))), (0, .ref (ad 0)), (1, .int (nI t)), (2, .int (nI a)), (3, .int (nI b))]) hx hb dX3_growDefinite_40 hl (by decide) rfl (fun ls hl => ?_)
      refine lv_aload_n hx hb dX3_growDefinite_42 rfl (lv_at hl 2 rfl) ?_
      refine va_get (D := (dC, dI)) (ci := 3) (v := .ref (ad 4)) (C := RX3) (T := TX3) (N := 8) hx hb hts (fun _ h9 => List.mem_cons_of_mem _ (List.mem_append_right _ h9)) hown hK hP 0 rfl rfl 3 (by decide) (hts (.fieldLink RX3 20 "SwitchLevelSimulatorModel" "definite" "[I") (List.mem_of_getElem? (i := 1) rfl)) (fun _ h9 => h9) rfl dX3_growDefinite_43 ?_
      refine lv_iload_n hx hb dX3_growDefinite_46 rfl (lv_at hl 5 rfl) ?_
      refine lv_iload hx hb dX3_growDefinite_47 (lv_at hl 0 rfl) ?_
      refine my_if_eqN (x := 0) (tgt := 57) hx hb (by omega) dX3_growDefinite_49 (by decide) (fun _ => ?_) (fun c_7 => absurd c_7 (by decide))
      refine lv_aload_n hx hb dX3_growDefinite_57 rfl (lv_at hl 2 rfl) ?_
      refine va_get (D := (dC, dI)) (ci := 3) (v := .ref (ad 4)) (C := RX3) (T := TX3) (N := 8) hx hb hts (fun _ h9 => List.mem_cons_of_mem _ (List.mem_append_right _ h9)) hown hK hP 0 rfl rfl 3 (by decide) (hts (.fieldLink RX3 20 "SwitchLevelSimulatorModel" "definite" "[I") (List.mem_of_getElem? (i := 1) rfl)) (fun _ h9 => h9) rfl dX3_growDefinite_58 ?_
      refine lv_iload_n hx hb dX3_growDefinite_61 rfl (lv_at hl 5 rfl) ?_
      refine my_iald (i := b) hx hb hK hP 2 0 rfl rfl (by omega) (by decide) dX3_growDefinite_62 ?_
      refine my_iastN (i := b) (x := (de b)) (g := de) (ws' := dW cI ad g (up1 de b (de b)) ss) hx hb hK hP hD hS 2 0 rfl rfl (by omega) (by decide) dX3_growDefinite_63 rfl (fun H locs hP hD hS => ?_)
      refine lv_iload hx hb dX3_growDefinite_64 (lv_at hl 0 rfl) ?_
      have hgr : grD g de t a b = false := by unfold grD gv; rw [decide_eq_false (Nat.not_lt.mpr c_6), Bool.and_false]
      exact ret () _ _ _ _ _ _ _ _ (by show _ = bI (grD g de t a b); rw [hgr]; rfl) (trivial) (by show dW cI ad g (nxD g de t a b) ss = _; unfold nxD; rw [if_neg (by rw [hgr]; decide), up1_same]) hP hD hS (Nat.le_of_ble_eq_true rfl) (Nat.le_of_ble_eq_true rfl) dX3_growDefinite_66
    · refine lv_iconst (v := nI 1) hx hb dX3_growDefinite_35 (by decide) ?_
      refine lv_goto (tgt := 40) hx hb dX3_growDefinite_36 (by decide) ?_
      refine lv_istore (lv' := [(5, .int (nI 1)), (4, .int (nI (min (g (90 + t) + 3) (de a)))), (0, .ref (ad 0)), (1, .int (nI t)), (2, .int (nI a)), (3, .int (nI b))]) hx hb dX3_growDefinite_40 hl (by decide) rfl (fun ls hl => ?_)
      refine lv_aload_n hx hb dX3_growDefinite_42 rfl (lv_at hl 2 rfl) ?_
      refine va_get (D := (dC, dI)) (ci := 3) (v := .ref (ad 4)) (C := RX3) (T := TX3) (N := 8) hx hb hts (fun _ h9 => List.mem_cons_of_mem _ (List.mem_append_right _ h9)) hown hK hP 0 rfl rfl 3 (by decide) (hts (.fieldLink RX3 20 "SwitchLevelSimulatorModel" "definite" "[I") (List.mem_of_getElem? (i := 1) rfl)) (fun _ h9 => h9) rfl dX3_growDefinite_43 ?_
      refine lv_iload_n hx hb dX3_growDefinite_46 rfl (lv_at hl 5 rfl) ?_
      refine lv_iload hx hb dX3_growDefinite_47 (lv_at hl 0 rfl) ?_
      refine my_if_eqN (x := 1) (tgt := 57) hx hb (by omega) dX3_growDefinite_49 (by decide) (fun c_8 => absurd c_8 (by decide)) (fun _ => ?_)
      refine lv_iload hx hb dX3_growDefinite_52 (lv_at hl 1 rfl) ?_
      refine lv_goto (tgt := 63) hx hb dX3_growDefinite_54 (by decide) ?_
      refine my_iastN (i := b) (x := (min (g (90 + t) + 3) (de a))) (g := de) (ws' := dW cI ad g (up1 de b (min (g (90 + t) + 3) (de a))) ss) hx hb hK hP hD hS 2 0 rfl rfl (by omega) (by decide) dX3_growDefinite_63 rfl (fun H locs hP hD hS => ?_)
      refine lv_iload hx hb dX3_growDefinite_64 (lv_at hl 0 rfl) ?_
      have hgr : grD g de t a b = true := by unfold grD gv; rw [c_4, decide_eq_true c_6]; rfl
      exact ret () _ _ _ _ _ _ _ _ (by show _ = bI (grD g de t a b); rw [hgr]; rfl) (trivial) (by show dW cI ad g (nxD g de t a b) ss = _; unfold nxD; rw [if_pos hgr]; rfl) hP hD hS (Nat.le_of_ble_eq_true rfl) (Nat.le_of_ble_eq_true rfl) dX3_growDefinite_66
end
section
abbrev rm_X3_layDefinite : Room := { frames := 2, cells := 0, slots := 0, locals := 46 }
set_option maxHeartbeats 4000000 in
set_option maxRecDepth 100000 in
theorem c_X3_layDefinite (l : Launch) (dC : Nat → ClassId) (dI : Nat → Nat → Nat) (cI cZ cR cG : ClassId) (ad : Nat → Nat) (g de ss : Nat → Nat) (ok : okG g) (hss : ∀ t, t < g 1 → ss t = swS g t) : CV l (dC, dI) (tyL cI cZ cR cG) yX3_layDefinite wsX3_layDefinite rm_X3_layDefinite [.ref (ad 0)] (dW cI ad g de ss) (S := Nat → Nat) (fun u => ∀ n, n < g 0 → u n = qF g n) (fun u => dW cI ad g u ss) := by
  refine CV.of (cc := cX3_layDefinite) (maxL := 3) (lv := [(0, .ref (ad 0))]) (by decide) rfl (Nat.le_of_ble_eq_true rfl) rfl ?_
  intro p e s m ar below meth c A Qz ls hx hb hml hown hts hnm hA hS hP hK hD hl ret
  have h0 := ok.1
  have h1 := ok.2.1
  refine lv_iconst (v := nI 0) hx hb dX3_layDefinite_0 (by decide) ?_
  refine lv_istore_n (lv' := [(1, .int (nI 0)), (0, .ref (ad 0))]) hx hb dX3_layDefinite_1 rfl hl (by decide) rfl (fun ls hl => ?_)
  have key_2 : ∀ (fu : Nat) (n : Nat) (f : Nat → Nat), (g 0 - n) < fu → (n ≤ g 0) → (∀ j, j < n → f j = bas g j) → ∀ (H : Heap) (locs : List Loc) (ls : Array Slot), va_P (dC, dI) vwCl (dW cI ad g f ss) H → va_D A (dW cI ad g f ss) → va_S A s.heap H locs → lv_has ls 3 [(1, .int (nI n)), (0, .ref (ad 0))] → W p l e rm_X3_layDefinite s m ar below meth c H locs 0 0 Qz (F0 m 2 ls []) := by
    intro fu
    induction fu with
    | zero => intro n f hmu; exact absurd hmu (Nat.not_lt_zero _)
    | succ fu ih_2 =>
      intro n f hmu_2 hn hf H locs ls hP hD hS hl
      refine lv_iload_n hx hb dX3_layDefinite_2 rfl (lv_at hl 0 rfl) ?_
      refine lv_aload_n hx hb dX3_layDefinite_3 rfl (lv_at hl 1 rfl) ?_
      refine CI.callV (As := []) (rest := [.int (nI n)]) (w3 := (fun _ => dW cI ad g f ss)) (c_X3_nodes l dC dI cI cZ cR cG ad g) ⟨hx, hb, hml, hown, hts⟩ (cwV 0 hts gX3_layDefinite_X3_nodes rfl rfl rfl (by decide +kernel) ⟨Nat.le_of_ble_eq_true rfl, Nat.le_of_ble_eq_true rfl⟩) rfl hl.1 (Nat.le_of_ble_eq_true rfl) dX3_layDefinite_4 ⟨Nat.le_of_ble_eq_true rfl, Nat.le_of_ble_eq_true rfl⟩ hA hS hP hK hD [0, 1] [2, 3] rfl rfl (by decide) (by decide) (by decide) 0 3 rfl rfl [2, 3, 0, 1] (by decide) (fun _ => rfl) rfl (fun _ H locs hp_2 hP hD hS => ?_)
      refine my_icmp_ge (x := n) (y := (g 0)) (tgt := 43) hx hb (by omega) (by omega) dX3_layDefinite_7 (by decide) (fun c_3 => ?_) (fun c_3 => ?_)
      · refine lv_iconst (v := nI 1) hx hb dX3_layDefinite_43 (by decide) ?_
        refine lv_istore_n (lv' := [(1, .int (nI 1)), (0, .ref (ad 0))]) hx hb dX3_layDefinite_44 rfl hl (by decide) rfl (fun ls hl => ?_)
        have key_45 : ∀ (fu : Nat) (f : Nat → Nat) (mo : Bool), (2 * sm f 24 + (if mo = true then 1 else 0)) < fu → (DI g f) → (mo = false → CloD g f (g 1)) → ∀ (H : Heap) (locs : List Loc) (ls : Array Slot), va_P (dC, dI) vwCl (dW cI ad g f ss) H → va_D A (dW cI ad g f ss) → va_S A s.heap H locs → lv_has ls 3 [(1, .int (bI mo)), (0, .ref (ad 0))] → W p l e rm_X3_layDefinite s m ar below meth c H locs 0 0 Qz (F0 m 45 ls []) := by
          intro fu
          induction fu with
          | zero => intro f mo hmu; exact absurd hmu (Nat.not_lt_zero _)
          | succ fu ih_45 =>
            intro f mo hmu_45 hDI hcl H locs ls hP hD hS hl
            refine lv_iload_n hx hb dX3_layDefinite_45 rfl (lv_at hl 0 rfl) ?_
            refine my_if_eqB (x := mo) (tgt := 156) hx hb dX3_layDefinite_46 (by decide) (fun c_5 => ?_) (fun c_5 => ?_)
            · exact ret f _ _ _ _ _ _ _ (DI_end hDI (hcl c_5)) (rfl) hP hD hS (Nat.le_of_ble_eq_true rfl) (Nat.le_of_ble_eq_true rfl) dX3_layDefinite_156
            · refine lv_iconst (v := nI 0) hx hb dX3_layDefinite_49 (by decide) ?_
              refine lv_istore_n (lv' := [(1, .int (nI 0)), (0, .ref (ad 0))]) hx hb dX3_layDefinite_50 rfl hl (by decide) rfl (fun ls hl => ?_)
              refine lv_iconst (v := nI 0) hx hb dX3_layDefinite_51 (by decide) ?_
              refine lv_istore_n (lv' := [(2, .int (nI 0)), (1, .int (nI 0)), (0, .ref (ad 0))]) hx hb dX3_layDefinite_52 rfl hl (by decide) rfl (fun ls hl => ?_)
              have key_53 : ∀ (fu : Nat) (t : Nat) (f1 : Nat → Nat) (m1 : Bool), (g 1 - t) < fu → (t ≤ g 1) → (RdD g f f1 m1 t) → ∀ (H : Heap) (locs : List Loc) (ls : Array Slot), va_P (dC, dI) vwCl (dW cI ad g f1 ss) H → va_D A (dW cI ad g f1 ss) → va_S A s.heap H locs → lv_has ls 3 [(2, .int (nI t)), (1, .int (bI m1)), (0, .ref (ad 0))] → W p l e rm_X3_layDefinite s m ar below meth c H locs 0 0 Qz (F0 m 53 ls []) := by
                intro fu
                induction fu with
                | zero => intro t f1 m1 hmu; exact absurd hmu (Nat.not_lt_zero _)
                | succ fu ih_53 =>
                  intro t f1 m1 hmu_53 ht hR H locs ls hP hD hS hl
                  refine lv_iload_n hx hb dX3_layDefinite_53 rfl (lv_at hl 0 rfl) ?_
                  refine lv_aload_n hx hb dX3_layDefinite_54 rfl (lv_at hl 2 rfl) ?_
                  refine CI.callV (As := []) (rest := [.int (nI t)]) (w3 := (fun _ => dW cI ad g f1 ss)) (c_X3_many l dC dI cI cZ cR cG ad g) ⟨hx, hb, hml, hown, hts⟩ (cwV 0 hts gX3_layDefinite_X3_many rfl rfl rfl (by decide +kernel) ⟨Nat.le_of_ble_eq_true rfl, Nat.le_of_ble_eq_true rfl⟩) rfl hl.1 (Nat.le_of_ble_eq_true rfl) dX3_layDefinite_55 ⟨Nat.le_of_ble_eq_true rfl, Nat.le_of_ble_eq_true rfl⟩ hA hS hP hK hD [0, 1] [2, 3] rfl rfl (by decide) (by decide) (by decide) 0 3 rfl rfl [2, 3, 0, 1] (by decide) (fun _ => rfl) rfl (fun _ H locs hp_7 hP hD hS => ?_)
                  refine my_icmp_ge (x := t) (y := (g 1)) (tgt := 153) hx hb (by omega) (by omega) dX3_layDefinite_58 (by decide) (fun c_8 => ?_) (fun c_8 => ?_)
                  · refine lv_goto (tgt := 45) hx hb dX3_layDefinite_153 (by decide) ?_
                    exact ih_45 f1 m1 (by have h9 := RdD_mu hR; rw [if_pos c_5] at hmu_45; omega) hR.1 (fun z => by rw [← show t = g 1 by omega]; exact (hR.2.2 z).2) _ _ _ hP hD hS (lv_sub hl [1, 2] rfl)
                  · have hst := hss t (by omega)
                    have hsl := swS_le g t
                    have hT := ok.2.2.2 t (by omega)
                    refine lv_aload_n hx hb dX3_layDefinite_61 rfl (lv_at hl 2 rfl) ?_
                    refine va_get (D := (dC, dI)) (ci := 3) (v := .ref (ad 7)) (C := RX3) (T := TX3) (N := 8) hx hb hts (fun _ h9 => List.mem_cons_of_mem _ (List.mem_append_right _ h9)) hown hK hP 0 rfl rfl 6 (by decide) (hts (.fieldLink RX3 29 "SwitchLevelSimulatorModel" "states" "[I") (List.mem_of_getElem? (i := 3) rfl)) (fun _ h9 => h9) rfl dX3_layDefinite_62 ?_
                    refine lv_iload_n hx hb dX3_layDefinite_65 rfl (lv_at hl 0 rfl) ?_
                    refine my_iald (i := t) hx hb hK hP 3 0 rfl rfl (by omega) (by decide) dX3_layDefinite_66 ?_
                    refine lv_iconst (v := nI 1) hx hb dX3_layDefinite_67 (by decide) ?_
                    refine my_icmp_ne (x := (ss t)) (y := 1) (tgt := 147) hx hb (by omega) (by omega) dX3_layDefinite_68 (by decide) (fun c_9 => ?_) (fun c_9 => ?_)
                    · refine my_iinc (k := 0) (x := t) (d := 1) (lv' := [(2, .int (nI (t + 1))), (1, .int (bI m1)), (0, .ref (ad 0))]) hx hb dX3_layDefinite_147 hl rfl (by decide) (by decide) rfl (fun ls hl => ?_)
                      refine lv_goto (tgt := 53) hx hb dX3_layDefinite_150 (by decide) ?_
                      exact ih_53 (t + 1) f1 m1 (by omega) (by omega) (RdD_k (by rw [← hst]; exact c_9) hR) _ _ _ hP hD hS (lv_sub hl [0, 1, 2] rfl)
                    · have c68 := c_9
                      refine lv_aload_n hx hb dX3_layDefinite_71 rfl (lv_at hl 2 rfl) ?_
                      refine lv_iload_n hx hb dX3_layDefinite_72 rfl (lv_at hl 0 rfl) ?_
                      refine lv_aload_n hx hb dX3_layDefinite_73 rfl (lv_at hl 2 rfl) ?_
                      refine va_get (D := (dC, dI)) (ci := 3) (v := .ref (ad 1)) (C := RX3) (T := TX3) (N := 8) hx hb hts (fun _ h9 => List.mem_cons_of_mem _ (List.mem_append_right _ h9)) hown hK hP 0 rfl rfl 0 (by decide) (hts (.fieldLink RX3 7 "SwitchLevelSimulatorModel" "state" "[I") (List.mem_of_getElem? (i := 2) rfl)) (fun _ h9 => h9) rfl dX3_layDefinite_74 ?_
                      refine lv_sipush (v := nI 170) hx hb dX3_layDefinite_77 (by decide) ?_
                      refine lv_iload_n hx hb dX3_layDefinite_80 rfl (lv_at hl 0 rfl) ?_
                      refine my_iadd (x := 170) (y := t) hx hb dX3_layDefinite_81 ?_
                      refine my_iald (i := (170 + t)) hx hb hK hP 1 0 rfl rfl (by omega) (by decide) dX3_layDefinite_82 ?_
                      refine lv_aload_n hx hb dX3_layDefinite_83 rfl (lv_at hl 2 rfl) ?_
                      refine va_get (D := (dC, dI)) (ci := 3) (v := .ref (ad 1)) (C := RX3) (T := TX3) (N := 8) hx hb hts (fun _ h9 => List.mem_cons_of_mem _ (List.mem_append_right _ h9)) hown hK hP 0 rfl rfl 0 (by decide) (hts (.fieldLink RX3 7 "SwitchLevelSimulatorModel" "state" "[I") (List.mem_of_getElem? (i := 2) rfl)) (fun _ h9 => h9) rfl dX3_layDefinite_84 ?_
                      refine lv_sipush (v := nI 210) hx hb dX3_layDefinite_87 (by decide) ?_
                      refine lv_iload_n hx hb dX3_layDefinite_90 rfl (lv_at hl 0 rfl) ?_
                      refine my_iadd (x := 210) (y := t) hx hb dX3_layDefinite_91 ?_
                      refine my_iald (i := (210 + t)) hx hb hK hP 1 0 rfl rfl (by omega) (by decide) dX3_layDefinite_92 ?_
                      refine CI.callV (As := [.int (nI t), .int (nI (g (170 + t))), .int (nI (g (210 + t)))]) (rest := []) (w3 := (fun _ => dW cI ad g (nxD g f1 t (g (170 + t)) (g (210 + t))) ss)) (c_X3_growDefinite l dC dI cI cZ cR cG ad g f1 ss t (g (170 + t)) (g (210 + t)) (by omega) (by have h9 := ok.2.2.2 t (by omega); omega) (by have h9 := ok.2.2.2 t (by omega); omega) (⟨(ok.2.2.1 _ (by have h9 := ok.2.2.2 t (by omega); omega)).1, by have h9 := ok.2.2.2 t (by omega); omega⟩) (⟨by have h9 := (hR.1 _ (show g (170 + t) < g 0 by omega)).2; have h8 := q_le7 ok (g (170 + t)); omega, by have h9 := (hR.1 _ (show g (210 + t) < g 0 by omega)).2; have h8 := q_le7 ok (g (210 + t)); omega⟩)) ⟨hx, hb, hml, hown, hts⟩ (cwV 3 hts gX3_layDefinite_X3_growDefinite rfl rfl rfl (by decide +kernel) ⟨Nat.le_of_ble_eq_true rfl, Nat.le_of_ble_eq_true rfl⟩) rfl hl.1 (Nat.le_of_ble_eq_true rfl) dX3_layDefinite_93 ⟨Nat.le_of_ble_eq_true rfl, Nat.le_of_ble_eq_true rfl⟩ hA hS hP hK hD [0, 1, 2, 3] [] rfl rfl (by decide) (by decide) (by decide) 0 3 rfl rfl [0, 1, 2, 3] (by decide) (fun _ => rfl) rfl (fun _ H locs hp_10 hP hD hS => ?_)
                      refine my_if_neB (x := (grD g f1 t (g (170 + t)) (g (210 + t)))) (tgt := 103) hx hb dX3_layDefinite_96 (by decide) (fun c_11 => ?_) (fun c_11 => ?_)
                      · refine lv_iconst (v := nI 1) hx hb dX3_layDefinite_103 (by decide) ?_
                        refine lv_goto (tgt := 108) hx hb dX3_layDefinite_104 (by decide) ?_
                        refine lv_istore_n (lv' := [(1, .int (nI 1)), (2, .int (nI t)), (0, .ref (ad 0))]) hx hb dX3_layDefinite_108 rfl hl (by decide) rfl (fun ls hl => ?_)
                        refine lv_aload_n hx hb dX3_layDefinite_109 rfl (lv_at hl 2 rfl) ?_
                        refine lv_iload_n hx hb dX3_layDefinite_110 rfl (lv_at hl 1 rfl) ?_
                        refine lv_aload_n hx hb dX3_layDefinite_111 rfl (lv_at hl 2 rfl) ?_
                        refine va_get (D := (dC, dI)) (ci := 3) (v := .ref (ad 1)) (C := RX3) (T := TX3) (N := 8) hx hb hts (fun _ h9 => List.mem_cons_of_mem _ (List.mem_append_right _ h9)) hown hK hP 0 rfl rfl 0 (by decide) (hts (.fieldLink RX3 7 "SwitchLevelSimulatorModel" "state" "[I") (List.mem_of_getElem? (i := 2) rfl)) (fun _ h9 => h9) rfl dX3_layDefinite_112 ?_
                        refine lv_sipush (v := nI 210) hx hb dX3_layDefinite_115 (by decide) ?_
                        refine lv_iload_n hx hb dX3_layDefinite_118 rfl (lv_at hl 1 rfl) ?_
                        refine my_iadd (x := 210) (y := t) hx hb dX3_layDefinite_119 ?_
                        refine my_iald (i := (210 + t)) hx hb hK hP 1 0 rfl rfl (by omega) (by decide) dX3_layDefinite_120 ?_
                        refine lv_aload_n hx hb dX3_layDefinite_121 rfl (lv_at hl 2 rfl) ?_
                        refine va_get (D := (dC, dI)) (ci := 3) (v := .ref (ad 1)) (C := RX3) (T := TX3) (N := 8) hx hb hts (fun _ h9 => List.mem_cons_of_mem _ (List.mem_append_right _ h9)) hown hK hP 0 rfl rfl 0 (by decide) (hts (.fieldLink RX3 7 "SwitchLevelSimulatorModel" "state" "[I") (List.mem_of_getElem? (i := 2) rfl)) (fun _ h9 => h9) rfl dX3_layDefinite_122 ?_
                        refine lv_sipush (v := nI 170) hx hb dX3_layDefinite_125 (by decide) ?_
                        refine lv_iload_n hx hb dX3_layDefinite_128 rfl (lv_at hl 1 rfl) ?_
                        refine my_iadd (x := 170) (y := t) hx hb dX3_layDefinite_129 ?_
                        refine my_iald (i := (170 + t)) hx hb hK hP 1 0 rfl rfl (by omega) (by decide) dX3_layDefinite_130 ?_
                        refine CI.callV (As := [.int (nI t), .int (nI (g (210 + t))), .int (nI (g (170 + t)))]) (rest := []) (w3 := (fun _ => dW cI ad g (nxD g (nxD g f1 t (g (170 + t)) (g (210 + t))) t (g (210 + t)) (g (170 + t))) ss)) (c_X3_growDefinite l dC dI cI cZ cR cG ad g (nxD g f1 t (g (170 + t)) (g (210 + t))) ss t (g (210 + t)) (g (170 + t)) (by omega) (by have h9 := ok.2.2.2 t (by omega); omega) (by have h9 := ok.2.2.2 t (by omega); omega) (⟨(ok.2.2.1 _ (by have h9 := ok.2.2.2 t (by omega); omega)).1, by have h9 := ok.2.2.2 t (by omega); omega⟩) (⟨by have h9 := ((DI_nx ok hR.1 (show t < g 1 by omega) (by rw [← hst]; exact c68) (edg_1 g t)) _ (show g (210 + t) < g 0 by omega)).2; have h8 := q_le7 ok (g (210 + t)); omega, by have h9 := ((DI_nx ok hR.1 (show t < g 1 by omega) (by rw [← hst]; exact c68) (edg_1 g t)) _ (show g (170 + t) < g 0 by omega)).2; have h8 := q_le7 ok (g (170 + t)); omega⟩)) ⟨hx, hb, hml, hown, hts⟩ (cwV 3 hts gX3_layDefinite_X3_growDefinite rfl rfl rfl (by decide +kernel) ⟨Nat.le_of_ble_eq_true rfl, Nat.le_of_ble_eq_true rfl⟩) rfl hl.1 (Nat.le_of_ble_eq_true rfl) dX3_layDefinite_131 ⟨Nat.le_of_ble_eq_true rfl, Nat.le_of_ble_eq_true rfl⟩ hA hS hP hK hD [0, 1, 2, 3] [] rfl rfl (by decide) (by decide) (by decide) 0 3 rfl rfl [0, 1, 2, 3] (by decide) (fun _ => rfl) rfl (fun _ H locs hp_12 hP hD hS => ?_)
                        refine my_if_neB (x := (grD g (nxD g f1 t (g (170 + t)) (g (210 + t))) t (g (210 + t)) (g (170 + t)))) (tgt := 141) hx hb dX3_layDefinite_134 (by decide) (fun c_13 => ?_) (fun c_13 => ?_)
                        · refine lv_iconst (v := nI 1) hx hb dX3_layDefinite_141 (by decide) ?_
                          refine lv_goto (tgt := 146) hx hb dX3_layDefinite_142 (by decide) ?_
                          refine lv_istore_n (lv' := [(1, .int (nI 1)), (2, .int (nI t)), (0, .ref (ad 0))]) hx hb dX3_layDefinite_146 rfl hl (by decide) rfl (fun ls hl => ?_)
                          refine my_iinc (k := 1) (x := t) (d := 1) (lv' := [(2, .int (nI (t + 1))), (1, .int (nI 1)), (0, .ref (ad 0))]) hx hb dX3_layDefinite_147 hl rfl (by decide) (by decide) rfl (fun ls hl => ?_)
                          refine lv_goto (tgt := 53) hx hb dX3_layDefinite_150 (by decide) ?_
                          exact ih_53 (t + 1) (nxD g (nxD g f1 t (g (170 + t)) (g (210 + t))) t (g (210 + t)) (g (170 + t))) true (by omega) (by omega) (by have h9 := RdD_s ok (show t < g 1 by omega) (by rw [← hst]; exact c_9) hR rfl rfl; simpa only [c_11, c_13, Bool.true_or, Bool.or_true, Bool.false_or, Bool.or_false] using h9) _ _ _ hP hD hS (lv_sub hl [0, 1, 2] rfl)
                        · refine lv_iload_n hx hb dX3_layDefinite_137 rfl (lv_at hl 0 rfl) ?_
                          refine my_if_eqN (x := 1) (tgt := 145) hx hb (by omega) dX3_layDefinite_138 (by decide) (fun c_14 => absurd c_14 (by decide)) (fun _ => ?_)
                          refine lv_iconst (v := nI 1) hx hb dX3_layDefinite_141 (by decide) ?_
                          refine lv_goto (tgt := 146) hx hb dX3_layDefinite_142 (by decide) ?_
                          refine lv_istore_n (lv' := [(1, .int (nI 1)), (2, .int (nI t)), (0, .ref (ad 0))]) hx hb dX3_layDefinite_146 rfl hl (by decide) rfl (fun ls hl => ?_)
                          refine my_iinc (k := 1) (x := t) (d := 1) (lv' := [(2, .int (nI (t + 1))), (1, .int (nI 1)), (0, .ref (ad 0))]) hx hb dX3_layDefinite_147 hl rfl (by decide) (by decide) rfl (fun ls hl => ?_)
                          refine lv_goto (tgt := 53) hx hb dX3_layDefinite_150 (by decide) ?_
                          exact ih_53 (t + 1) (nxD g (nxD g f1 t (g (170 + t)) (g (210 + t))) t (g (210 + t)) (g (170 + t))) true (by omega) (by omega) (by have h9 := RdD_s ok (show t < g 1 by omega) (by rw [← hst]; exact c_9) hR rfl rfl; simpa only [c_11, c_13, Bool.true_or, Bool.or_true, Bool.false_or, Bool.or_false] using h9) _ _ _ hP hD hS (lv_sub hl [0, 1, 2] rfl)
                      · refine lv_iload_n hx hb dX3_layDefinite_99 rfl (lv_at hl 1 rfl) ?_
                        refine my_if_eqB (x := m1) (tgt := 107) hx hb dX3_layDefinite_100 (by decide) (fun c_15 => ?_) (fun c_15 => ?_)
                        · refine lv_iconst (v := nI 0) hx hb dX3_layDefinite_107 (by decide) ?_
                          refine lv_istore_n (lv' := [(1, .int (nI 0)), (2, .int (nI t)), (0, .ref (ad 0))]) hx hb dX3_layDefinite_108 rfl hl (by decide) rfl (fun ls hl => ?_)
                          refine lv_aload_n hx hb dX3_layDefinite_109 rfl (lv_at hl 2 rfl) ?_
                          refine lv_iload_n hx hb dX3_layDefinite_110 rfl (lv_at hl 1 rfl) ?_
                          refine lv_aload_n hx hb dX3_layDefinite_111 rfl (lv_at hl 2 rfl) ?_
                          refine va_get (D := (dC, dI)) (ci := 3) (v := .ref (ad 1)) (C := RX3) (T := TX3) (N := 8) hx hb hts (fun _ h9 => List.mem_cons_of_mem _ (List.mem_append_right _ h9)) hown hK hP 0 rfl rfl 0 (by decide) (hts (.fieldLink RX3 7 "SwitchLevelSimulatorModel" "state" "[I") (List.mem_of_getElem? (i := 2) rfl)) (fun _ h9 => h9) rfl dX3_layDefinite_112 ?_
                          refine lv_sipush (v := nI 210) hx hb dX3_layDefinite_115 (by decide) ?_
                          refine lv_iload_n hx hb dX3_layDefinite_118 rfl (lv_at hl 1 rfl) ?_
                          refine my_iadd (x := 210) (y := t) hx hb dX3_layDefinite_119 ?_
                          refine my_iald (i := (210 + t)) hx hb hK hP 1 0 rfl rfl (by omega) (by decide) dX3_layDefinite_120 ?_
                          refine lv_aload_n hx hb dX3_layDefinite_121 rfl (lv_at hl 2 rfl) ?_
                          refine va_get (D := (dC, dI)) (ci := 3) (v := .ref (ad 1)) (C := RX3) (T := TX3) (N := 8) hx hb hts (fun _ h9 => List.mem_cons_of_mem _ (List.mem_append_right _ h9)) hown hK hP 0 rfl rfl 0 (by decide) (hts (.fieldLink RX3 7 "SwitchLevelSimulatorModel" "state" "[I") (List.mem_of_getElem? (i := 2) rfl)) (fun _ h9 => h9) rfl dX3_layDefinite_122 ?_
                          refine lv_sipush (v := nI 170) hx hb dX3_layDefinite_125 (by decide) ?_
                          refine lv_iload_n hx hb dX3_layDefinite_128 rfl (lv_at hl 1 rfl) ?_
                          refine my_iadd (x := 170) (y := t) hx hb dX3_layDefinite_129 ?_
                          refine my_iald (i := (170 + t)) hx hb hK hP 1 0 rfl rfl (by omega) (by decide) dX3_layDefinite_130 ?_
                          refine CI.callV (As := [.int (nI t), .int (nI (g (210 + t))), .int (nI (g (170 + t)))]) (rest := []) (w3 := (fun _ => dW cI ad g (nxD g (nxD g f1 t (g (170 + t)) (g (210 + t))) t (g (210 + t)) (g (170 + t))) ss)) (c_X3_growDefinite l dC dI cI cZ cR cG ad g (nxD g f1 t (g (170 + t)) (g (210 + t))) ss t (g (210 + t)) (g (170 + t)) (by omega) (by have h9 := ok.2.2.2 t (by omega); omega) (by have h9 := ok.2.2.2 t (by omega); omega) (⟨(ok.2.2.1 _ (by have h9 := ok.2.2.2 t (by omega); omega)).1, by have h9 := ok.2.2.2 t (by omega); omega⟩) (⟨by have h9 := ((DI_nx ok hR.1 (show t < g 1 by omega) (by rw [← hst]; exact c68) (edg_1 g t)) _ (show g (210 + t) < g 0 by omega)).2; have h8 := q_le7 ok (g (210 + t)); omega, by have h9 := ((DI_nx ok hR.1 (show t < g 1 by omega) (by rw [← hst]; exact c68) (edg_1 g t)) _ (show g (170 + t) < g 0 by omega)).2; have h8 := q_le7 ok (g (170 + t)); omega⟩)) ⟨hx, hb, hml, hown, hts⟩ (cwV 3 hts gX3_layDefinite_X3_growDefinite rfl rfl rfl (by decide +kernel) ⟨Nat.le_of_ble_eq_true rfl, Nat.le_of_ble_eq_true rfl⟩) rfl hl.1 (Nat.le_of_ble_eq_true rfl) dX3_layDefinite_131 ⟨Nat.le_of_ble_eq_true rfl, Nat.le_of_ble_eq_true rfl⟩ hA hS hP hK hD [0, 1, 2, 3] [] rfl rfl (by decide) (by decide) (by decide) 0 3 rfl rfl [0, 1, 2, 3] (by decide) (fun _ => rfl) rfl (fun _ H locs hp_16 hP hD hS => ?_)
                          refine my_if_neB (x := (grD g (nxD g f1 t (g (170 + t)) (g (210 + t))) t (g (210 + t)) (g (170 + t)))) (tgt := 141) hx hb dX3_layDefinite_134 (by decide) (fun c_17 => ?_) (fun c_17 => ?_)
                          · refine lv_iconst (v := nI 1) hx hb dX3_layDefinite_141 (by decide) ?_
                            refine lv_goto (tgt := 146) hx hb dX3_layDefinite_142 (by decide) ?_
                            refine lv_istore_n (lv' := [(1, .int (nI 1)), (2, .int (nI t)), (0, .ref (ad 0))]) hx hb dX3_layDefinite_146 rfl hl (by decide) rfl (fun ls hl => ?_)
                            refine my_iinc (k := 1) (x := t) (d := 1) (lv' := [(2, .int (nI (t + 1))), (1, .int (nI 1)), (0, .ref (ad 0))]) hx hb dX3_layDefinite_147 hl rfl (by decide) (by decide) rfl (fun ls hl => ?_)
                            refine lv_goto (tgt := 53) hx hb dX3_layDefinite_150 (by decide) ?_
                            exact ih_53 (t + 1) (nxD g (nxD g f1 t (g (170 + t)) (g (210 + t))) t (g (210 + t)) (g (170 + t))) true (by omega) (by omega) (by have h9 := RdD_s ok (show t < g 1 by omega) (by rw [← hst]; exact c_9) hR rfl rfl; simpa only [c_11, c_15, c_17, Bool.true_or, Bool.or_true, Bool.false_or, Bool.or_false] using h9) _ _ _ hP hD hS (lv_sub hl [0, 1, 2] rfl)
                          · refine lv_iload_n hx hb dX3_layDefinite_137 rfl (lv_at hl 0 rfl) ?_
                            refine my_if_eqN (x := 0) (tgt := 145) hx hb (by omega) dX3_layDefinite_138 (by decide) (fun _ => ?_) (fun c_18 => absurd c_18 (by decide))
                            refine lv_iconst (v := nI 0) hx hb dX3_layDefinite_145 (by decide) ?_
                            refine lv_istore_n (lv' := [(1, .int (nI 0)), (2, .int (nI t)), (0, .ref (ad 0))]) hx hb dX3_layDefinite_146 rfl hl (by decide) rfl (fun ls hl => ?_)
                            refine my_iinc (k := 1) (x := t) (d := 1) (lv' := [(2, .int (nI (t + 1))), (1, .int (nI 0)), (0, .ref (ad 0))]) hx hb dX3_layDefinite_147 hl rfl (by decide) (by decide) rfl (fun ls hl => ?_)
                            refine lv_goto (tgt := 53) hx hb dX3_layDefinite_150 (by decide) ?_
                            exact ih_53 (t + 1) (nxD g (nxD g f1 t (g (170 + t)) (g (210 + t))) t (g (210 + t)) (g (170 + t))) false (by omega) (by omega) (by have h9 := RdD_s ok (show t < g 1 by omega) (by rw [← hst]; exact c_9) hR rfl rfl; simpa only [c_11, c_15, c_17, Bool.true_or, Bool.or_true, Bool.false_or, Bool.or_false] using h9) _ _ _ hP hD hS (lv_sub hl [0, 1, 2] rfl)
                        · refine lv_iconst (v := nI 1) hx hb dX3_layDefinite_103 (by decide) ?_
                          refine lv_goto (tgt := 108) hx hb dX3_layDefinite_104 (by decide) ?_
                          refine lv_istore_n (lv' := [(1, .int (nI 1)), (2, .int (nI t)), (0, .ref (ad 0))]) hx hb dX3_layDefinite_108 rfl hl (by decide) rfl (fun ls hl => ?_)
                          refine lv_aload_n hx hb dX3_layDefinite_109 rfl (lv_at hl 2 rfl) ?_
                          refine lv_iload_n hx hb dX3_layDefinite_110 rfl (lv_at hl 1 rfl) ?_
                          refine lv_aload_n hx hb dX3_layDefinite_111 rfl (lv_at hl 2 rfl) ?_
                          refine va_get (D := (dC, dI)) (ci := 3) (v := .ref (ad 1)) (C := RX3) (T := TX3) (N := 8) hx hb hts (fun _ h9 => List.mem_cons_of_mem _ (List.mem_append_right _ h9)) hown hK hP 0 rfl rfl 0 (by decide) (hts (.fieldLink RX3 7 "SwitchLevelSimulatorModel" "state" "[I") (List.mem_of_getElem? (i := 2) rfl)) (fun _ h9 => h9) rfl dX3_layDefinite_112 ?_
                          refine lv_sipush (v := nI 210) hx hb dX3_layDefinite_115 (by decide) ?_
                          refine lv_iload_n hx hb dX3_layDefinite_118 rfl (lv_at hl 1 rfl) ?_
                          refine my_iadd (x := 210) (y := t) hx hb dX3_layDefinite_119 ?_
                          refine my_iald (i := (210 + t)) hx hb hK hP 1 0 rfl rfl (by omega) (by decide) dX3_layDefinite_120 ?_
                          refine lv_aload_n hx hb dX3_layDefinite_121 rfl (lv_at hl 2 rfl) ?_
                          refine va_get (D := (dC, dI)) (ci := 3) (v := .ref (ad 1)) (C := RX3) (T := TX3) (N := 8) hx hb hts (fun _ h9 => List.mem_cons_of_mem _ (List.mem_append_right _ h9)) hown hK hP 0 rfl rfl 0 (by decide) (hts (.fieldLink RX3 7 "SwitchLevelSimulatorModel" "state" "[I") (List.mem_of_getElem? (i := 2) rfl)) (fun _ h9 => h9) rfl dX3_layDefinite_122 ?_
                          refine lv_sipush (v := nI 170) hx hb dX3_layDefinite_125 (by decide) ?_
                          refine lv_iload_n hx hb dX3_layDefinite_128 rfl (lv_at hl 1 rfl) ?_
                          refine my_iadd (x := 170) (y := t) hx hb dX3_layDefinite_129 ?_
                          refine my_iald (i := (170 + t)) hx hb hK hP 1 0 rfl rfl (by omega) (by decide) dX3_layDefinite_130 ?_
                          refine CI.callV (As := [.int (nI t), .int (nI (g (210 + t))), .int (nI (g (170 + t)))]) (rest := []) (w3 := (fun _ => dW cI ad g (nxD g (nxD g f1 t (g (170 + t)) (g (210 + t))) t (g (210 + t)) (g (170 + t))) ss)) (c_X3_growDefinite l dC dI cI cZ cR cG ad g (nxD g f1 t (g (170 + t)) (g (210 + t))) ss t (g (210 + t)) (g (170 + t)) (by omega) (by have h9 := ok.2.2.2 t (by omega); omega) (by have h9 := ok.2.2.2 t (by omega); omega) (⟨(ok.2.2.1 _ (by have h9 := ok.2.2.2 t (by omega); omega)).1, by have h9 := ok.2.2.2 t (by omega); omega⟩) (⟨by have h9 := ((DI_nx ok hR.1 (show t < g 1 by omega) (by rw [← hst]; exact c68) (edg_1 g t)) _ (show g (210 + t) < g 0 by omega)).2; have h8 := q_le7 ok (g (210 + t)); omega, by have h9 := ((DI_nx ok hR.1 (show t < g 1 by omega) (by rw [← hst]; exact c68) (edg_1 g t)) _ (show g (170 + t) < g 0 by omega)).2; have h8 := q_le7 ok (g (170 + t)); omega⟩)) ⟨hx, hb, hml, hown, hts⟩ (cwV 3 hts gX3_layDefinite_X3_growDefinite rfl rfl rfl (by decide +kernel) ⟨Nat.le_of_ble_eq_true rfl, Nat.le_of_ble_eq_true rfl⟩) rfl hl.1 (Nat.le_of_ble_eq_true rfl) dX3_layDefinite_131 ⟨Nat.le_of_ble_eq_true rfl, Nat.le_of_ble_eq_true rfl⟩ hA hS hP hK hD [0, 1, 2, 3] [] rfl rfl (by decide) (by decide) (by decide) 0 3 rfl rfl [0, 1, 2, 3] (by decide) (fun _ => rfl) rfl (fun _ H locs hp_19 hP hD hS => ?_)
                          refine my_if_neB (x := (grD g (nxD g f1 t (g (170 + t)) (g (210 + t))) t (g (210 + t)) (g (170 + t)))) (tgt := 141) hx hb dX3_layDefinite_134 (by decide) (fun c_20 => ?_) (fun c_20 => ?_)
                          · refine lv_iconst (v := nI 1) hx hb dX3_layDefinite_141 (by decide) ?_
                            refine lv_goto (tgt := 146) hx hb dX3_layDefinite_142 (by decide) ?_
                            refine lv_istore_n (lv' := [(1, .int (nI 1)), (2, .int (nI t)), (0, .ref (ad 0))]) hx hb dX3_layDefinite_146 rfl hl (by decide) rfl (fun ls hl => ?_)
                            refine my_iinc (k := 1) (x := t) (d := 1) (lv' := [(2, .int (nI (t + 1))), (1, .int (nI 1)), (0, .ref (ad 0))]) hx hb dX3_layDefinite_147 hl rfl (by decide) (by decide) rfl (fun ls hl => ?_)
                            refine lv_goto (tgt := 53) hx hb dX3_layDefinite_150 (by decide) ?_
                            exact ih_53 (t + 1) (nxD g (nxD g f1 t (g (170 + t)) (g (210 + t))) t (g (210 + t)) (g (170 + t))) true (by omega) (by omega) (by have h9 := RdD_s ok (show t < g 1 by omega) (by rw [← hst]; exact c_9) hR rfl rfl; simpa only [c_11, c_15, c_20, Bool.true_or, Bool.or_true, Bool.false_or, Bool.or_false] using h9) _ _ _ hP hD hS (lv_sub hl [0, 1, 2] rfl)
                          · refine lv_iload_n hx hb dX3_layDefinite_137 rfl (lv_at hl 0 rfl) ?_
                            refine my_if_eqN (x := 1) (tgt := 145) hx hb (by omega) dX3_layDefinite_138 (by decide) (fun c_21 => absurd c_21 (by decide)) (fun _ => ?_)
                            refine lv_iconst (v := nI 1) hx hb dX3_layDefinite_141 (by decide) ?_
                            refine lv_goto (tgt := 146) hx hb dX3_layDefinite_142 (by decide) ?_
                            refine lv_istore_n (lv' := [(1, .int (nI 1)), (2, .int (nI t)), (0, .ref (ad 0))]) hx hb dX3_layDefinite_146 rfl hl (by decide) rfl (fun ls hl => ?_)
                            refine my_iinc (k := 1) (x := t) (d := 1) (lv' := [(2, .int (nI (t + 1))), (1, .int (nI 1)), (0, .ref (ad 0))]) hx hb dX3_layDefinite_147 hl rfl (by decide) (by decide) rfl (fun ls hl => ?_)
                            refine lv_goto (tgt := 53) hx hb dX3_layDefinite_150 (by decide) ?_
                            exact ih_53 (t + 1) (nxD g (nxD g f1 t (g (170 + t)) (g (210 + t))) t (g (210 + t)) (g (170 + t))) true (by omega) (by omega) (by have h9 := RdD_s ok (show t < g 1 by omega) (by rw [← hst]; exact c_9) hR rfl rfl; simpa only [c_11, c_15, c_20, Bool.true_or, Bool.or_true, Bool.false_or, Bool.or_false] using h9) _ _ _ hP hD hS (lv_sub hl [0, 1, 2] rfl)
              exact key_53 _ 0 f false (Nat.lt_succ_self _) (Nat.zero_le _) (RdD_0 hDI) _ _ _ hP hD hS (lv_sub hl [0, 1, 2] rfl)
        exact key_45 _ f true (Nat.lt_succ_self _) (DI_0 ok (by omega) hf) (fun z => (by cases z)) _ _ _ hP hD hS (lv_sub hl [0, 1] rfl)
      · refine lv_aload_n hx hb dX3_layDefinite_10 rfl (lv_at hl 1 rfl) ?_
        refine va_get (D := (dC, dI)) (ci := 3) (v := .ref (ad 4)) (C := RX3) (T := TX3) (N := 8) hx hb hts (fun _ h9 => List.mem_cons_of_mem _ (List.mem_append_right _ h9)) hown hK hP 0 rfl rfl 3 (by decide) (hts (.fieldLink RX3 20 "SwitchLevelSimulatorModel" "definite" "[I") (List.mem_of_getElem? (i := 1) rfl)) (fun _ h9 => h9) rfl dX3_layDefinite_11 ?_
        refine lv_iload_n hx hb dX3_layDefinite_14 rfl (lv_at hl 0 rfl) ?_
        refine lv_aload_n hx hb dX3_layDefinite_15 rfl (lv_at hl 1 rfl) ?_
        refine lv_iload_n hx hb dX3_layDefinite_16 rfl (lv_at hl 0 rfl) ?_
        refine CI.callV (As := [.int (nI n)]) (rest := [.int (nI n), .ref (ad 4)]) (w3 := (fun _ => dW cI ad g f ss)) (c_X3_isInput l dC dI cI cZ cR cG ad g n (by omega) ((ok.2.2.1 _ (by omega)).1)) ⟨hx, hb, hml, hown, hts⟩ (cwV 1 hts gX3_layDefinite_X3_isInput rfl rfl rfl (by decide +kernel) ⟨Nat.le_of_ble_eq_true rfl, Nat.le_of_ble_eq_true rfl⟩) rfl hl.1 (Nat.le_of_ble_eq_true rfl) dX3_layDefinite_17 ⟨Nat.le_of_ble_eq_true rfl, Nat.le_of_ble_eq_true rfl⟩ hA hS hP hK hD [0, 1] [2, 3] rfl rfl (by decide) (by decide) (by decide) 0 3 rfl rfl [2, 3, 0, 1] (by decide) (fun _ => rfl) rfl (fun _ H locs hp_22 hP hD hS => ?_)
        refine my_if_eqB (x := (decide (g (2 + n) = 0))) (tgt := 28) hx hb dX3_layDefinite_20 (by decide) (fun c_23 => ?_) (fun c_23 => ?_)
        · refine lv_aload_n hx hb dX3_layDefinite_28 rfl (lv_at hl 1 rfl) ?_
          refine va_get (D := (dC, dI)) (ci := 3) (v := .ref (ad 1)) (C := RX3) (T := TX3) (N := 8) hx hb hts (fun _ h9 => List.mem_cons_of_mem _ (List.mem_append_right _ h9)) hown hK hP 0 rfl rfl 0 (by decide) (hts (.fieldLink RX3 7 "SwitchLevelSimulatorModel" "state" "[I") (List.mem_of_getElem? (i := 2) rfl)) (fun _ h9 => h9) rfl dX3_layDefinite_29 ?_
          refine lv_iconst (v := nI 2) hx hb dX3_layDefinite_32 (by decide) ?_
          refine lv_iload_n hx hb dX3_layDefinite_33 rfl (lv_at hl 0 rfl) ?_
          refine my_iadd (x := 2) (y := n) hx hb dX3_layDefinite_34 ?_
          refine my_iald (i := (2 + n)) hx hb hK hP 1 0 rfl rfl (by omega) (by decide) dX3_layDefinite_35 ?_
          refine my_iastN (i := n) (x := (g (2 + n))) (g := f) (ws' := dW cI ad g (up1 f n (g (2 + n))) ss) hx hb hK hP hD hS 2 0 rfl rfl (by omega) (by decide) dX3_layDefinite_36 rfl (fun H locs hP hD hS => ?_)
          refine my_iinc (k := 0) (x := n) (d := 1) (lv' := [(1, .int (nI (n + 1))), (0, .ref (ad 0))]) hx hb dX3_layDefinite_37 hl rfl (by decide) (by decide) rfl (fun ls hl => ?_)
          refine lv_goto (tgt := 2) hx hb dX3_layDefinite_40 (by decide) ?_
          exact ih_2 (n + 1) (up1 f n (g (2 + n))) (by omega) (by omega) (fill_s hf (by unfold bas; rw [if_neg (of_decide_eq_false c_23)])) _ _ _ hP hD hS (lv_sub hl [0, 1] rfl)
        · refine lv_bipush (v := nI 7) hx hb dX3_layDefinite_23 (by decide) ?_
          refine lv_goto (tgt := 36) hx hb dX3_layDefinite_25 (by decide) ?_
          refine my_iastN (i := n) (x := 7) (g := f) (ws' := dW cI ad g (up1 f n 7) ss) hx hb hK hP hD hS 2 0 rfl rfl (by omega) (by decide) dX3_layDefinite_36 rfl (fun H locs hP hD hS => ?_)
          refine my_iinc (k := 0) (x := n) (d := 1) (lv' := [(1, .int (nI (n + 1))), (0, .ref (ad 0))]) hx hb dX3_layDefinite_37 hl rfl (by decide) (by decide) rfl (fun ls hl => ?_)
          refine lv_goto (tgt := 2) hx hb dX3_layDefinite_40 (by decide) ?_
          exact ih_2 (n + 1) (up1 f n 7) (by omega) (by omega) (fill_s hf (by unfold bas; rw [if_pos (of_decide_eq_true c_23)])) _ _ _ hP hD hS (lv_sub hl [0, 1] rfl)
  exact key_2 _ 0 de (Nat.lt_succ_self _) (Nat.zero_le _) fill_0 _ _ _ hP hD hS (lv_sub hl [0, 1] rfl)
abbrev rm_X3_grow : Room := { frames := 1, cells := 0, slots := 0, locals := 21 }
set_option maxHeartbeats 4000000 in
set_option maxRecDepth 100000 in
theorem c_X3_grow (l : Launch) (dC : Nat → ClassId) (dI : Nat → Nat → Nat) (cI cZ cR cG : ClassId) (ad : Nat → Nat) (r : Nat) (g de ss row : Nat → Nat) (t a b : Nat) (ht : t < 40) (ha : a < 24) (hb' : b < 24) (h3 : g (2 + b) ≤ 3 ∧ g (90 + t) ≤ 3) (h7 : row a < 100 ∧ row b < 100 ∧ de b < 100) : CI l (dC, dI) (tyL cI cZ cR cG) yX3_grow wsX3_grow rm_X3_grow [.ref (ad 0), .ref r, .int (nI t), .int (nI a), .int (nI b)] (gW cI ad r g de ss row) (S := Unit) (fun _ => bI (grU g de row t a b)) (fun _ => True) (fun _ => gW cI ad r g de ss (nxU g de row t a b)) := by
  refine CI.of (cc := cX3_grow) (maxL := 7) (rt := .boolean) (lv := [(0, .ref (ad 0)), (1, .ref r), (2, .int (nI t)), (3, .int (nI a)), (4, .int (nI b))]) (by decide) rfl (Nat.le_of_ble_eq_true rfl) rfl (Or.inr ⟨rfl, fun _ => nar_bI _⟩) ?_
  intro p e s m ar below meth c A Qz ls hx hb hml hown hts hnm hA hS hP hK hD hl ret
  refine lv_aload_n hx hb dX3_grow_0 rfl (lv_at hl 0 rfl) ?_
  refine lv_iload_n hx hb dX3_grow_1 rfl (lv_at hl 2 rfl) ?_
  refine CI.callV (As := [.int (nI t)]) (rest := []) (w3 := (fun _ => gW cI ad r g de ss row)) (c_X3_signal l dC dI cI cZ cR cG ad g t (by omega)) ⟨hx, hb, hml, hown, hts⟩ (cwV 1 hts gX3_grow_X3_signal rfl rfl rfl (by decide +kernel) ⟨Nat.le_of_ble_eq_true rfl, Nat.le_of_ble_eq_true rfl⟩) rfl hl.1 (Nat.le_of_ble_eq_true rfl) dX3_grow_2 ⟨Nat.le_of_ble_eq_true rfl, Nat.le_of_ble_eq_true rfl⟩ hA hS hP hK hD [0, 1] [2, 3, 4] rfl rfl (by decide) (by decide) (by decide) 0 3 rfl rfl [3, 4, 0, 1, 2] (by decide) (fun _ => rfl) rfl (fun _ H locs hp_1 hP hD hS => ?_)
  refine lv_aload_n hx hb dX3_grow_5 rfl (lv_at hl 1 rfl) ?_
  refine lv_iload_n hx hb dX3_grow_6 rfl (lv_at hl 3 rfl) ?_
  refine my_iald (i := a) hx hb hK hP 4 0 rfl rfl (by omega) (by decide) dX3_grow_7 ?_
  refine CI.callS (As := [.int (nI (g (90 + t) + 3)), .int (nI (row a))]) (rest := []) (w3 := (fun _ => gW cI ad r g de ss row)) (c_X3_lesser l dC dI cI cZ cR cG (g (90 + t) + 3) (row a) (by omega) (by omega)) ⟨hx, hb, hml, hown, hts⟩ (va_cwS 2 hts gX3_grow_X3_lesser rfl rfl rfl (by decide +kernel) ⟨Nat.le_of_ble_eq_true rfl, Nat.le_of_ble_eq_true rfl⟩) rfl hl.1 (Nat.le_of_ble_eq_true rfl) dX3_grow_8 ⟨Nat.le_of_ble_eq_true rfl, Nat.le_of_ble_eq_true rfl⟩ hA hS hP hK hD [] [0, 1, 2, 3, 4] rfl rfl (by decide) (by decide) (by decide) [0, 1, 2, 3, 4] (by decide) (fun _ => rfl) rfl (fun _ H locs hp_2 hP hD hS => ?_)
  refine lv_istore (lv' := [(5, .int (nI (min (g (90 + t) + 3) (row a)))), (0, .ref (ad 0)), (1, .ref r), (2, .int (nI t)), (3, .int (nI a)), (4, .int (nI b))]) hx hb dX3_grow_11 hl (by decide) rfl (fun ls hl => ?_)
  refine lv_aload_n hx hb dX3_grow_13 rfl (lv_at hl 1 rfl) ?_
  refine lv_iload hx hb dX3_grow_14 (lv_at hl 5 rfl) ?_
  refine CI.callV (As := [.int (nI b)]) (rest := []) (w3 := (fun _ => gW cI ad r g de ss row)) (c_X3_isInput l dC dI cI cZ cR cG ad g b (by omega) (h3.1)) ⟨hx, hb, hml, hown, hts⟩ (cwV 1 hts gX3_grow_X3_isInput rfl rfl rfl (by decide +kernel) ⟨Nat.le_of_ble_eq_true rfl, Nat.le_of_ble_eq_true rfl⟩) rfl hl.1 (Nat.le_of_ble_eq_true rfl) dX3_grow_16 ⟨Nat.le_of_ble_eq_true rfl, Nat.le_of_ble_eq_true rfl⟩ hA hS hP hK hD [0, 1] [2, 3, 4] rfl rfl (by decide) (by decide) (by decide) 0 3 rfl rfl [3, 4, 0, 1, 2] (by decide) (fun _ => rfl) rfl (fun _ H locs hp_3 hP hD hS => ?_)
  refine my_if_neB (x := (decide (g (2 + b) = 0))) (tgt := 47) hx hb dX3_grow_19 (by decide) (fun c_4 => ?_) (fun c_4 => ?_)
  · refine lv_iconst (v := nI 0) hx hb dX3_grow_47 (by decide) ?_
    refine lv_istore (lv' := [(6, .int (nI 0)), (5, .int (nI (min (g (90 + t) + 3) (row a)))), (0, .ref (ad 0)), (1, .ref r), (2, .int (nI t)), (3, .int (nI a)), (4, .int (nI b))]) hx hb dX3_grow_48 hl (by decide) rfl (fun ls hl => ?_)
    refine lv_aload_n hx hb dX3_grow_50 rfl (lv_at hl 3 rfl) ?_
    refine lv_iload hx hb dX3_grow_51 (lv_at hl 6 rfl) ?_
    refine lv_iload hx hb dX3_grow_53 (lv_at hl 0 rfl) ?_
    refine my_if_eqN (x := 0) (tgt := 63) hx hb (by omega) dX3_grow_55 (by decide) (fun _ => ?_) (fun c_5 => absurd c_5 (by decide))
    refine lv_aload_n hx hb dX3_grow_63 rfl (lv_at hl 3 rfl) ?_
    refine lv_iload hx hb dX3_grow_64 (lv_at hl 6 rfl) ?_
    refine my_iald (i := b) hx hb hK hP 4 0 rfl rfl (by omega) (by decide) dX3_grow_66 ?_
    refine my_iastN (i := b) (x := (row b)) (g := row) (ws' := gW cI ad r g de ss (up1 row b (row b))) hx hb hK hP hD hS 4 0 rfl rfl (by omega) (by decide) dX3_grow_67 rfl (fun H locs hP hD hS => ?_)
    refine lv_iload hx hb dX3_grow_68 (lv_at hl 0 rfl) ?_
    have hgr : grU g de row t a b = false := by unfold grU; rw [c_4]; rfl
    exact ret () _ _ _ _ _ _ _ _ (by show _ = bI (grU g de row t a b); rw [hgr]; rfl) (trivial) (by show gW cI ad r g de ss (nxU g de row t a b) = _; unfold nxU; rw [if_neg (by rw [hgr]; decide), up1_same]) hP hD hS (Nat.le_of_ble_eq_true rfl) (Nat.le_of_ble_eq_true rfl) dX3_grow_70
  · refine lv_iload hx hb dX3_grow_22 (lv_at hl 0 rfl) ?_
    refine lv_aload_n hx hb dX3_grow_24 rfl (lv_at hl 2 rfl) ?_
    refine lv_iload hx hb dX3_grow_25 (lv_at hl 5 rfl) ?_
    refine my_iald (i := b) hx hb hK hP 4 0 rfl rfl (by omega) (by decide) dX3_grow_27 ?_
    refine my_icmp_le (x := (min (g (90 + t) + 3) (row a))) (y := (row b)) (tgt := 47) hx hb (by omega) (by omega) dX3_grow_28 (by decide) (fun c_6 => ?_) (fun c_6 => ?_)
    · refine lv_iconst (v := nI 0) hx hb dX3_grow_47 (by decide) ?_
      refine lv_istore (lv' := [(6, .int (nI 0)), (5, .int (nI (min (g (90 + t) + 3) (row a)))), (0, .ref (ad 0)), (1, .ref r), (2, .int (nI t)), (3, .int (nI a)), (4, .int (nI b))]) hx hb dX3_grow_48 hl (by decide) rfl (fun ls hl => ?_)
      refine lv_aload_n hx hb dX3_grow_50 rfl (lv_at hl 3 rfl) ?_
      refine lv_iload hx hb dX3_grow_51 (lv_at hl 6 rfl) ?_
      refine lv_iload hx hb dX3_grow_53 (lv_at hl 0 rfl) ?_
      refine my_if_eqN (x := 0) (tgt := 63) hx hb (by omega) dX3_grow_55 (by decide) (fun _ => ?_) (fun c_7 => absurd c_7 (by decide))
      refine lv_aload_n hx hb dX3_grow_63 rfl (lv_at hl 3 rfl) ?_
      refine lv_iload hx hb dX3_grow_64 (lv_at hl 6 rfl) ?_
      refine my_iald (i := b) hx hb hK hP 4 0 rfl rfl (by omega) (by decide) dX3_grow_66 ?_
      refine my_iastN (i := b) (x := (row b)) (g := row) (ws' := gW cI ad r g de ss (up1 row b (row b))) hx hb hK hP hD hS 4 0 rfl rfl (by omega) (by decide) dX3_grow_67 rfl (fun H locs hP hD hS => ?_)
      refine lv_iload hx hb dX3_grow_68 (lv_at hl 0 rfl) ?_
      have hgr : grU g de row t a b = false := by unfold grU gv; rw [decide_eq_false (Nat.not_lt.mpr c_6), Bool.false_and, Bool.and_false]
      exact ret () _ _ _ _ _ _ _ _ (by show _ = bI (grU g de row t a b); rw [hgr]; rfl) (trivial) (by show gW cI ad r g de ss (nxU g de row t a b) = _; unfold nxU; rw [if_neg (by rw [hgr]; decide), up1_same]) hP hD hS (Nat.le_of_ble_eq_true rfl) (Nat.le_of_ble_eq_true rfl) dX3_grow_70
    · refine lv_iload hx hb dX3_grow_31 (lv_at hl 0 rfl) ?_
      refine lv_aload_n hx hb dX3_grow_33 rfl (lv_at hl 1 rfl) ?_
      refine va_get (D := (dC, dI)) (ci := 3) (v := .ref (ad 4)) (C := RX3) (T := TX3) (N := 8) hx hb hts (fun _ h9 => List.mem_cons_of_mem _ (List.mem_append_right _ h9)) hown hK hP 0 rfl rfl 3 (by decide) (hts (.fieldLink RX3 20 "SwitchLevelSimulatorModel" "definite" "[I") (List.mem_of_getElem? (i := 1) rfl)) (fun _ h9 => h9) rfl dX3_grow_34 ?_
      refine lv_iload hx hb dX3_grow_37 (lv_at hl 5 rfl) ?_
      refine my_iald (i := b) hx hb hK hP 2 0 rfl rfl (by omega) (by decide) dX3_grow_39 ?_
      refine my_icmp_lt (x := (min (g (90 + t) + 3) (row a))) (y := (de b)) (tgt := 47) hx hb (by omega) (by omega) dX3_grow_40 (by decide) (fun c_8 => ?_) (fun c_8 => ?_)
      · refine lv_iconst (v := nI 0) hx hb dX3_grow_47 (by decide) ?_
        refine lv_istore (lv' := [(6, .int (nI 0)), (5, .int (nI (min (g (90 + t) + 3) (row a)))), (0, .ref (ad 0)), (1, .ref r), (2, .int (nI t)), (3, .int (nI a)), (4, .int (nI b))]) hx hb dX3_grow_48 hl (by decide) rfl (fun ls hl => ?_)
        refine lv_aload_n hx hb dX3_grow_50 rfl (lv_at hl 3 rfl) ?_
        refine lv_iload hx hb dX3_grow_51 (lv_at hl 6 rfl) ?_
        refine lv_iload hx hb dX3_grow_53 (lv_at hl 0 rfl) ?_
        refine my_if_eqN (x := 0) (tgt := 63) hx hb (by omega) dX3_grow_55 (by decide) (fun _ => ?_) (fun c_9 => absurd c_9 (by decide))
        refine lv_aload_n hx hb dX3_grow_63 rfl (lv_at hl 3 rfl) ?_
        refine lv_iload hx hb dX3_grow_64 (lv_at hl 6 rfl) ?_
        refine my_iald (i := b) hx hb hK hP 4 0 rfl rfl (by omega) (by decide) dX3_grow_66 ?_
        refine my_iastN (i := b) (x := (row b)) (g := row) (ws' := gW cI ad r g de ss (up1 row b (row b))) hx hb hK hP hD hS 4 0 rfl rfl (by omega) (by decide) dX3_grow_67 rfl (fun H locs hP hD hS => ?_)
        refine lv_iload hx hb dX3_grow_68 (lv_at hl 0 rfl) ?_
        have hgr : grU g de row t a b = false := by unfold grU gv; rw [show decide (de b ≤ min (g (90 + t) + 3) (row a)) = false from decide_eq_false (Nat.not_le.mpr c_8), Bool.and_false, Bool.and_false]
        exact ret () _ _ _ _ _ _ _ _ (by show _ = bI (grU g de row t a b); rw [hgr]; rfl) (trivial) (by show gW cI ad r g de ss (nxU g de row t a b) = _; unfold nxU; rw [if_neg (by rw [hgr]; decide), up1_same]) hP hD hS (Nat.le_of_ble_eq_true rfl) (Nat.le_of_ble_eq_true rfl) dX3_grow_70
      · refine lv_iconst (v := nI 1) hx hb dX3_grow_43 (by decide) ?_
        refine lv_goto (tgt := 48) hx hb dX3_grow_44 (by decide) ?_
        refine lv_istore (lv' := [(6, .int (nI 1)), (5, .int (nI (min (g (90 + t) + 3) (row a)))), (0, .ref (ad 0)), (1, .ref r), (2, .int (nI t)), (3, .int (nI a)), (4, .int (nI b))]) hx hb dX3_grow_48 hl (by decide) rfl (fun ls hl => ?_)
        refine lv_aload_n hx hb dX3_grow_50 rfl (lv_at hl 3 rfl) ?_
        refine lv_iload hx hb dX3_grow_51 (lv_at hl 6 rfl) ?_
        refine lv_iload hx hb dX3_grow_53 (lv_at hl 0 rfl) ?_
        refine my_if_eqN (x := 1) (tgt := 63) hx hb (by omega) dX3_grow_55 (by decide) (fun c_10 => absurd c_10 (by decide)) (fun _ => ?_)
        refine lv_iload hx hb dX3_grow_58 (lv_at hl 1 rfl) ?_
        refine lv_goto (tgt := 67) hx hb dX3_grow_60 (by decide) ?_
        refine my_iastN (i := b) (x := (min (g (90 + t) + 3) (row a))) (g := row) (ws' := gW cI ad r g de ss (up1 row b (min (g (90 + t) + 3) (row a)))) hx hb hK hP hD hS 4 0 rfl rfl (by omega) (by decide) dX3_grow_67 rfl (fun H locs hP hD hS => ?_)
        refine lv_iload hx hb dX3_grow_68 (lv_at hl 0 rfl) ?_
        have hgr : grU g de row t a b = true := by unfold grU gv; rw [c_4, decide_eq_true c_6, decide_eq_true c_8]; rfl
        exact ret () _ _ _ _ _ _ _ _ (by show _ = bI (grU g de row t a b); rw [hgr]; rfl) (trivial) (by show gW cI ad r g de ss (nxU g de row t a b) = _; unfold nxU; rw [if_pos hgr]; rfl) hP hD hS (Nat.le_of_ble_eq_true rfl) (Nat.le_of_ble_eq_true rfl) dX3_grow_70
abbrev rm_X3_layStrength : Room := { frames := 2, cells := 0, slots := 0, locals := 47 }
set_option maxHeartbeats 4000000 in
set_option maxRecDepth 100000 in
theorem c_X3_layStrength (l : Launch) (dC : Nat → ClassId) (dI : Nat → Nat → Nat) (cI cZ cR cG : ClassId) (ad : Nat → Nat) (r : Nat) (g de ss row : Nat → Nat) (v : Nat) (ok : okG g) (hss : ∀ t, t < g 1 → ss t = swS g t) (hq : ∀ n, n < g 0 → de n = qF g n) (hv : v < 2) : CV l (dC, dI) (tyL cI cZ cR cG) yX3_layStrength wsX3_layStrength rm_X3_layStrength [.ref (ad 0), .ref r, .int (nI v)] (gW cI ad r g de ss row) (S := Nat → Nat) (fun u => ∀ n, n < g 0 → u n = uF g v n) (fun u => gW cI ad r g de ss u) := by
  refine CV.of (cc := cX3_layStrength) (maxL := 6) (lv := [(0, .ref (ad 0)), (1, .ref r), (2, .int (nI v))]) (by decide) rfl (Nat.le_of_ble_eq_true rfl) rfl ?_
  intro p e s m ar below meth c A Qz ls hx hb hml hown hts hnm hA hS hP hK hD hl ret
  have h0 := ok.1
  have h1 := ok.2.1
  refine lv_iconst (v := nI 0) hx hb dX3_layStrength_0 (by decide) ?_
  refine lv_istore_n (lv' := [(3, .int (nI 0)), (0, .ref (ad 0)), (1, .ref r), (2, .int (nI v))]) hx hb dX3_layStrength_1 rfl hl (by decide) rfl (fun ls hl => ?_)
  have key_2 : ∀ (fu : Nat) (n : Nat) (f : Nat → Nat), (g 0 - n) < fu → (n ≤ g 0) → (∀ j, j < n → f j = ub g v j) → ∀ (H : Heap) (locs : List Loc) (ls : Array Slot), va_P (dC, dI) vwCl (gW cI ad r g de ss f) H → va_D A (gW cI ad r g de ss f) → va_S A s.heap H locs → lv_has ls 6 [(3, .int (nI n)), (0, .ref (ad 0)), (1, .ref r), (2, .int (nI v))] → W p l e rm_X3_layStrength s m ar below meth c H locs 0 0 Qz (F0 m 2 ls []) := by
    intro fu
    induction fu with
    | zero => intro n f hmu; exact absurd hmu (Nat.not_lt_zero _)
    | succ fu ih_2 =>
      intro n f hmu_2 hn hf H locs ls hP hD hS hl
      refine lv_iload_n hx hb dX3_layStrength_2 rfl (lv_at hl 0 rfl) ?_
      refine lv_aload_n hx hb dX3_layStrength_3 rfl (lv_at hl 1 rfl) ?_
      refine CI.callV (As := []) (rest := [.int (nI n)]) (w3 := (fun _ => gW cI ad r g de ss f)) (c_X3_nodes l dC dI cI cZ cR cG ad g) ⟨hx, hb, hml, hown, hts⟩ (cwV 0 hts gX3_layStrength_X3_nodes rfl rfl rfl (by decide +kernel) ⟨Nat.le_of_ble_eq_true rfl, Nat.le_of_ble_eq_true rfl⟩) rfl hl.1 (Nat.le_of_ble_eq_true rfl) dX3_layStrength_4 ⟨Nat.le_of_ble_eq_true rfl, Nat.le_of_ble_eq_true rfl⟩ hA hS hP hK hD [0, 1] [2, 3, 4] rfl rfl (by decide) (by decide) (by decide) 0 3 rfl rfl [3, 4, 0, 1, 2] (by decide) (fun _ => rfl) rfl (fun _ H locs hp_2 hP hD hS => ?_)
      refine my_icmp_ge (x := n) (y := (g 0)) (tgt := 97) hx hb (by omega) (by omega) dX3_layStrength_7 (by decide) (fun c_3 => ?_) (fun c_3 => ?_)
      · refine lv_iconst (v := nI 1) hx hb dX3_layStrength_97 (by decide) ?_
        refine lv_istore_n (lv' := [(3, .int (nI 1)), (0, .ref (ad 0)), (1, .ref r), (2, .int (nI v))]) hx hb dX3_layStrength_98 rfl hl (by decide) rfl (fun ls hl => ?_)
        have key_99 : ∀ (fu : Nat) (f : Nat → Nat) (mo : Bool), (2 * sm f 24 + (if mo = true then 1 else 0)) < fu → (UI g v f) → (mo = false → CloU g de f (g 1)) → ∀ (H : Heap) (locs : List Loc) (ls : Array Slot), va_P (dC, dI) vwCl (gW cI ad r g de ss f) H → va_D A (gW cI ad r g de ss f) → va_S A s.heap H locs → lv_has ls 6 [(3, .int (bI mo)), (0, .ref (ad 0)), (1, .ref r), (2, .int (nI v))] → W p l e rm_X3_layStrength s m ar below meth c H locs 0 0 Qz (F0 m 99 ls []) := by
          intro fu
          induction fu with
          | zero => intro f mo hmu; exact absurd hmu (Nat.not_lt_zero _)
          | succ fu ih_99 =>
            intro f mo hmu_99 hDI hcl H locs ls hP hD hS hl
            refine lv_iload_n hx hb dX3_layStrength_99 rfl (lv_at hl 0 rfl) ?_
            refine my_if_eqB (x := mo) (tgt := 220) hx hb dX3_layStrength_100 (by decide) (fun c_5 => ?_) (fun c_5 => ?_)
            · exact ret f _ _ _ _ _ _ _ (UI_end hq ok hDI (hcl c_5)) (rfl) hP hD hS (Nat.le_of_ble_eq_true rfl) (Nat.le_of_ble_eq_true rfl) dX3_layStrength_220
            · refine lv_iconst (v := nI 0) hx hb dX3_layStrength_103 (by decide) ?_
              refine lv_istore_n (lv' := [(3, .int (nI 0)), (0, .ref (ad 0)), (1, .ref r), (2, .int (nI v))]) hx hb dX3_layStrength_104 rfl hl (by decide) rfl (fun ls hl => ?_)
              refine lv_iconst (v := nI 0) hx hb dX3_layStrength_105 (by decide) ?_
              refine lv_istore (lv' := [(4, .int (nI 0)), (3, .int (nI 0)), (0, .ref (ad 0)), (1, .ref r), (2, .int (nI v))]) hx hb dX3_layStrength_106 hl (by decide) rfl (fun ls hl => ?_)
              have key_108 : ∀ (fu : Nat) (t : Nat) (f1 : Nat → Nat) (m1 : Bool), (g 1 - t) < fu → (t ≤ g 1) → (RdU g v de f f1 m1 t) → ∀ (H : Heap) (locs : List Loc) (ls : Array Slot), va_P (dC, dI) vwCl (gW cI ad r g de ss f1) H → va_D A (gW cI ad r g de ss f1) → va_S A s.heap H locs → lv_has ls 6 [(4, .int (nI t)), (3, .int (bI m1)), (0, .ref (ad 0)), (1, .ref r), (2, .int (nI v))] → W p l e rm_X3_layStrength s m ar below meth c H locs 0 0 Qz (F0 m 108 ls []) := by
                intro fu
                induction fu with
                | zero => intro t f1 m1 hmu; exact absurd hmu (Nat.not_lt_zero _)
                | succ fu ih_108 =>
                  intro t f1 m1 hmu_108 ht hR H locs ls hP hD hS hl
                  refine lv_iload hx hb dX3_layStrength_108 (lv_at hl 0 rfl) ?_
                  refine lv_aload_n hx hb dX3_layStrength_110 rfl (lv_at hl 2 rfl) ?_
                  refine CI.callV (As := []) (rest := [.int (nI t)]) (w3 := (fun _ => gW cI ad r g de ss f1)) (c_X3_many l dC dI cI cZ cR cG ad g) ⟨hx, hb, hml, hown, hts⟩ (cwV 0 hts gX3_layStrength_X3_many rfl rfl rfl (by decide +kernel) ⟨Nat.le_of_ble_eq_true rfl, Nat.le_of_ble_eq_true rfl⟩) rfl hl.1 (Nat.le_of_ble_eq_true rfl) dX3_layStrength_111 ⟨Nat.le_of_ble_eq_true rfl, Nat.le_of_ble_eq_true rfl⟩ hA hS hP hK hD [0, 1] [2, 3, 4] rfl rfl (by decide) (by decide) (by decide) 0 3 rfl rfl [3, 4, 0, 1, 2] (by decide) (fun _ => rfl) rfl (fun _ H locs hp_7 hP hD hS => ?_)
                  refine my_icmp_ge (x := t) (y := (g 1)) (tgt := 217) hx hb (by omega) (by omega) dX3_layStrength_114 (by decide) (fun c_8 => ?_) (fun c_8 => ?_)
                  · refine lv_goto (tgt := 99) hx hb dX3_layStrength_217 (by decide) ?_
                    exact ih_99 f1 m1 (by have h9 := RdU_mu hR; rw [if_pos c_5] at hmu_99; omega) hR.1 (fun z => by rw [← show t = g 1 by omega]; exact (hR.2.2 z).2) _ _ _ hP hD hS (lv_sub hl [1, 2, 3, 4] rfl)
                  · have hst := hss t (by omega)
                    have hsl := swS_le g t
                    have hT := ok.2.2.2 t (by omega)
                    refine lv_aload_n hx hb dX3_layStrength_117 rfl (lv_at hl 2 rfl) ?_
                    refine va_get (D := (dC, dI)) (ci := 3) (v := .ref (ad 7)) (C := RX3) (T := TX3) (N := 8) hx hb hts (fun _ h9 => List.mem_cons_of_mem _ (List.mem_append_right _ h9)) hown hK hP 0 rfl rfl 6 (by decide) (hts (.fieldLink RX3 29 "SwitchLevelSimulatorModel" "states" "[I") (List.mem_of_getElem? (i := 3) rfl)) (fun _ h9 => h9) rfl dX3_layStrength_118 ?_
                    refine lv_iload hx hb dX3_layStrength_121 (lv_at hl 0 rfl) ?_
                    refine my_iald (i := t) hx hb hK hP 3 0 rfl rfl (by omega) (by decide) dX3_layStrength_123 ?_
                    refine my_if_eqN (x := (ss t)) (tgt := 211) hx hb (by omega) dX3_layStrength_124 (by decide) (fun c_9 => ?_) (fun c_9 => ?_)
                    · refine my_iinc (k := 0) (x := t) (d := 1) (lv' := [(4, .int (nI (t + 1))), (3, .int (bI m1)), (0, .ref (ad 0)), (1, .ref r), (2, .int (nI v))]) hx hb dX3_layStrength_211 hl rfl (by decide) (by decide) rfl (fun ls hl => ?_)
                      refine lv_goto (tgt := 108) hx hb dX3_layStrength_214 (by decide) ?_
                      exact ih_108 (t + 1) f1 m1 (by omega) (by omega) (RdU_k (by rw [← hst]; exact c_9) hR) _ _ _ hP hD hS (lv_sub hl [0, 1, 2, 3, 4] rfl)
                    · have c124 := c_9
                      refine lv_aload_n hx hb dX3_layStrength_127 rfl (lv_at hl 2 rfl) ?_
                      refine lv_aload_n hx hb dX3_layStrength_128 rfl (lv_at hl 3 rfl) ?_
                      refine lv_iload hx hb dX3_layStrength_129 (lv_at hl 0 rfl) ?_
                      refine lv_aload_n hx hb dX3_layStrength_131 rfl (lv_at hl 2 rfl) ?_
                      refine va_get (D := (dC, dI)) (ci := 3) (v := .ref (ad 1)) (C := RX3) (T := TX3) (N := 8) hx hb hts (fun _ h9 => List.mem_cons_of_mem _ (List.mem_append_right _ h9)) hown hK hP 0 rfl rfl 0 (by decide) (hts (.fieldLink RX3 7 "SwitchLevelSimulatorModel" "state" "[I") (List.mem_of_getElem? (i := 1) rfl)) (fun _ h9 => h9) rfl dX3_layStrength_132 ?_
                      refine lv_sipush (v := nI 170) hx hb dX3_layStrength_135 (by decide) ?_
                      refine lv_iload hx hb dX3_layStrength_138 (lv_at hl 0 rfl) ?_
                      refine my_iadd (x := 170) (y := t) hx hb dX3_layStrength_140 ?_
                      refine my_iald (i := (170 + t)) hx hb hK hP 1 0 rfl rfl (by omega) (by decide) dX3_layStrength_141 ?_
                      refine lv_aload_n hx hb dX3_layStrength_142 rfl (lv_at hl 2 rfl) ?_
                      refine va_get (D := (dC, dI)) (ci := 3) (v := .ref (ad 1)) (C := RX3) (T := TX3) (N := 8) hx hb hts (fun _ h9 => List.mem_cons_of_mem _ (List.mem_append_right _ h9)) hown hK hP 0 rfl rfl 0 (by decide) (hts (.fieldLink RX3 7 "SwitchLevelSimulatorModel" "state" "[I") (List.mem_of_getElem? (i := 1) rfl)) (fun _ h9 => h9) rfl dX3_layStrength_143 ?_
                      refine lv_sipush (v := nI 210) hx hb dX3_layStrength_146 (by decide) ?_
                      refine lv_iload hx hb dX3_layStrength_149 (lv_at hl 0 rfl) ?_
                      refine my_iadd (x := 210) (y := t) hx hb dX3_layStrength_151 ?_
                      refine my_iald (i := (210 + t)) hx hb hK hP 1 0 rfl rfl (by omega) (by decide) dX3_layStrength_152 ?_
                      refine CI.callV (As := [.ref r, .int (nI t), .int (nI (g (170 + t))), .int (nI (g (210 + t)))]) (rest := []) (w3 := (fun _ => gW cI ad r g de ss (nxU g de f1 t (g (170 + t)) (g (210 + t))))) (c_X3_grow l dC dI cI cZ cR cG ad r g de ss f1 t (g (170 + t)) (g (210 + t)) (by omega) (by have h9 := ok.2.2.2 t (by omega); omega) (by have h9 := ok.2.2.2 t (by omega); omega) (⟨(ok.2.2.1 _ (by have h9 := ok.2.2.2 t (by omega); omega)).1, by have h9 := ok.2.2.2 t (by omega); omega⟩) (⟨by have h9 := (hR.1 _ (show g (170 + t) < g 0 by omega)).2; have h8 := u_le7 ok v (g (170 + t)); omega, by have h9 := (hR.1 _ (show g (210 + t) < g 0 by omega)).2; have h8 := u_le7 ok v (g (210 + t)); omega, by have h9 := hq _ (show g (210 + t) < g 0 by omega); have h8 := q_le7 ok (g (210 + t)); omega⟩)) ⟨hx, hb, hml, hown, hts⟩ (cwV 4 hts gX3_layStrength_X3_grow rfl rfl rfl (by decide +kernel) ⟨Nat.le_of_ble_eq_true rfl, Nat.le_of_ble_eq_true rfl⟩) rfl hl.1 (Nat.le_of_ble_eq_true rfl) dX3_layStrength_153 ⟨Nat.le_of_ble_eq_true rfl, Nat.le_of_ble_eq_true rfl⟩ hA hS hP hK hD [0, 1, 2, 3, 4] [] rfl rfl (by decide) (by decide) (by decide) 0 3 rfl rfl [0, 1, 2, 3, 4] (by decide) (fun _ => rfl) rfl (fun _ H locs hp_10 hP hD hS => ?_)
                      refine my_if_neB (x := (grU g de f1 t (g (170 + t)) (g (210 + t)))) (tgt := 163) hx hb dX3_layStrength_156 (by decide) (fun c_11 => ?_) (fun c_11 => ?_)
                      · refine lv_iconst (v := nI 1) hx hb dX3_layStrength_163 (by decide) ?_
                        refine lv_goto (tgt := 168) hx hb dX3_layStrength_164 (by decide) ?_
                        refine lv_istore_n (lv' := [(3, .int (nI 1)), (4, .int (nI t)), (0, .ref (ad 0)), (1, .ref r), (2, .int (nI v))]) hx hb dX3_layStrength_168 rfl hl (by decide) rfl (fun ls hl => ?_)
                        refine lv_aload_n hx hb dX3_layStrength_169 rfl (lv_at hl 2 rfl) ?_
                        refine lv_aload_n hx hb dX3_layStrength_170 rfl (lv_at hl 3 rfl) ?_
                        refine lv_iload hx hb dX3_layStrength_171 (lv_at hl 1 rfl) ?_
                        refine lv_aload_n hx hb dX3_layStrength_173 rfl (lv_at hl 2 rfl) ?_
                        refine va_get (D := (dC, dI)) (ci := 3) (v := .ref (ad 1)) (C := RX3) (T := TX3) (N := 8) hx hb hts (fun _ h9 => List.mem_cons_of_mem _ (List.mem_append_right _ h9)) hown hK hP 0 rfl rfl 0 (by decide) (hts (.fieldLink RX3 7 "SwitchLevelSimulatorModel" "state" "[I") (List.mem_of_getElem? (i := 1) rfl)) (fun _ h9 => h9) rfl dX3_layStrength_174 ?_
                        refine lv_sipush (v := nI 210) hx hb dX3_layStrength_177 (by decide) ?_
                        refine lv_iload hx hb dX3_layStrength_180 (lv_at hl 1 rfl) ?_
                        refine my_iadd (x := 210) (y := t) hx hb dX3_layStrength_182 ?_
                        refine my_iald (i := (210 + t)) hx hb hK hP 1 0 rfl rfl (by omega) (by decide) dX3_layStrength_183 ?_
                        refine lv_aload_n hx hb dX3_layStrength_184 rfl (lv_at hl 2 rfl) ?_
                        refine va_get (D := (dC, dI)) (ci := 3) (v := .ref (ad 1)) (C := RX3) (T := TX3) (N := 8) hx hb hts (fun _ h9 => List.mem_cons_of_mem _ (List.mem_append_right _ h9)) hown hK hP 0 rfl rfl 0 (by decide) (hts (.fieldLink RX3 7 "SwitchLevelSimulatorModel" "state" "[I") (List.mem_of_getElem? (i := 1) rfl)) (fun _ h9 => h9) rfl dX3_layStrength_185 ?_
                        refine lv_sipush (v := nI 170) hx hb dX3_layStrength_188 (by decide) ?_
                        refine lv_iload hx hb dX3_layStrength_191 (lv_at hl 1 rfl) ?_
                        refine my_iadd (x := 170) (y := t) hx hb dX3_layStrength_193 ?_
                        refine my_iald (i := (170 + t)) hx hb hK hP 1 0 rfl rfl (by omega) (by decide) dX3_layStrength_194 ?_
                        refine CI.callV (As := [.ref r, .int (nI t), .int (nI (g (210 + t))), .int (nI (g (170 + t)))]) (rest := []) (w3 := (fun _ => gW cI ad r g de ss (nxU g de (nxU g de f1 t (g (170 + t)) (g (210 + t))) t (g (210 + t)) (g (170 + t))))) (c_X3_grow l dC dI cI cZ cR cG ad r g de ss (nxU g de f1 t (g (170 + t)) (g (210 + t))) t (g (210 + t)) (g (170 + t)) (by omega) (by have h9 := ok.2.2.2 t (by omega); omega) (by have h9 := ok.2.2.2 t (by omega); omega) (⟨(ok.2.2.1 _ (by have h9 := ok.2.2.2 t (by omega); omega)).1, by have h9 := ok.2.2.2 t (by omega); omega⟩) (⟨by have h9 := ((UI_nx ok hq hR.1 (show t < g 1 by omega) (by rw [← hst]; exact c124) (edg_1 g t)) _ (show g (210 + t) < g 0 by omega)).2; have h8 := u_le7 ok v (g (210 + t)); omega, by have h9 := ((UI_nx ok hq hR.1 (show t < g 1 by omega) (by rw [← hst]; exact c124) (edg_1 g t)) _ (show g (170 + t) < g 0 by omega)).2; have h8 := u_le7 ok v (g (170 + t)); omega, by have h9 := hq _ (show g (170 + t) < g 0 by omega); have h8 := q_le7 ok (g (170 + t)); omega⟩)) ⟨hx, hb, hml, hown, hts⟩ (cwV 4 hts gX3_layStrength_X3_grow rfl rfl rfl (by decide +kernel) ⟨Nat.le_of_ble_eq_true rfl, Nat.le_of_ble_eq_true rfl⟩) rfl hl.1 (Nat.le_of_ble_eq_true rfl) dX3_layStrength_195 ⟨Nat.le_of_ble_eq_true rfl, Nat.le_of_ble_eq_true rfl⟩ hA hS hP hK hD [0, 1, 2, 3, 4] [] rfl rfl (by decide) (by decide) (by decide) 0 3 rfl rfl [0, 1, 2, 3, 4] (by decide) (fun _ => rfl) rfl (fun _ H locs hp_12 hP hD hS => ?_)
                        refine my_if_neB (x := (grU g de (nxU g de f1 t (g (170 + t)) (g (210 + t))) t (g (210 + t)) (g (170 + t)))) (tgt := 205) hx hb dX3_layStrength_198 (by decide) (fun c_13 => ?_) (fun c_13 => ?_)
                        · refine lv_iconst (v := nI 1) hx hb dX3_layStrength_205 (by decide) ?_
                          refine lv_goto (tgt := 210) hx hb dX3_layStrength_206 (by decide) ?_
                          refine lv_istore_n (lv' := [(3, .int (nI 1)), (4, .int (nI t)), (0, .ref (ad 0)), (1, .ref r), (2, .int (nI v))]) hx hb dX3_layStrength_210 rfl hl (by decide) rfl (fun ls hl => ?_)
                          refine my_iinc (k := 1) (x := t) (d := 1) (lv' := [(4, .int (nI (t + 1))), (3, .int (nI 1)), (0, .ref (ad 0)), (1, .ref r), (2, .int (nI v))]) hx hb dX3_layStrength_211 hl rfl (by decide) (by decide) rfl (fun ls hl => ?_)
                          refine lv_goto (tgt := 108) hx hb dX3_layStrength_214 (by decide) ?_
                          exact ih_108 (t + 1) (nxU g de (nxU g de f1 t (g (170 + t)) (g (210 + t))) t (g (210 + t)) (g (170 + t))) true (by omega) (by omega) (by have h9 := RdU_s ok hq (show t < g 1 by omega) (by rw [← hst]; exact c_9) hR rfl rfl; simpa only [c_11, c_13, Bool.true_or, Bool.or_true, Bool.false_or, Bool.or_false] using h9) _ _ _ hP hD hS (lv_sub hl [0, 1, 2, 3, 4] rfl)
                        · refine lv_iload_n hx hb dX3_layStrength_201 rfl (lv_at hl 0 rfl) ?_
                          refine my_if_eqN (x := 1) (tgt := 209) hx hb (by omega) dX3_layStrength_202 (by decide) (fun c_14 => absurd c_14 (by decide)) (fun _ => ?_)
                          refine lv_iconst (v := nI 1) hx hb dX3_layStrength_205 (by decide) ?_
                          refine lv_goto (tgt := 210) hx hb dX3_layStrength_206 (by decide) ?_
                          refine lv_istore_n (lv' := [(3, .int (nI 1)), (4, .int (nI t)), (0, .ref (ad 0)), (1, .ref r), (2, .int (nI v))]) hx hb dX3_layStrength_210 rfl hl (by decide) rfl (fun ls hl => ?_)
                          refine my_iinc (k := 1) (x := t) (d := 1) (lv' := [(4, .int (nI (t + 1))), (3, .int (nI 1)), (0, .ref (ad 0)), (1, .ref r), (2, .int (nI v))]) hx hb dX3_layStrength_211 hl rfl (by decide) (by decide) rfl (fun ls hl => ?_)
                          refine lv_goto (tgt := 108) hx hb dX3_layStrength_214 (by decide) ?_
                          exact ih_108 (t + 1) (nxU g de (nxU g de f1 t (g (170 + t)) (g (210 + t))) t (g (210 + t)) (g (170 + t))) true (by omega) (by omega) (by have h9 := RdU_s ok hq (show t < g 1 by omega) (by rw [← hst]; exact c_9) hR rfl rfl; simpa only [c_11, c_13, Bool.true_or, Bool.or_true, Bool.false_or, Bool.or_false] using h9) _ _ _ hP hD hS (lv_sub hl [0, 1, 2, 3, 4] rfl)
                      · refine lv_iload_n hx hb dX3_layStrength_159 rfl (lv_at hl 1 rfl) ?_
                        refine my_if_eqB (x := m1) (tgt := 167) hx hb dX3_layStrength_160 (by decide) (fun c_15 => ?_) (fun c_15 => ?_)
                        · refine lv_iconst (v := nI 0) hx hb dX3_layStrength_167 (by decide) ?_
                          refine lv_istore_n (lv' := [(3, .int (nI 0)), (4, .int (nI t)), (0, .ref (ad 0)), (1, .ref r), (2, .int (nI v))]) hx hb dX3_layStrength_168 rfl hl (by decide) rfl (fun ls hl => ?_)
                          refine lv_aload_n hx hb dX3_layStrength_169 rfl (lv_at hl 2 rfl) ?_
                          refine lv_aload_n hx hb dX3_layStrength_170 rfl (lv_at hl 3 rfl) ?_
                          refine lv_iload hx hb dX3_layStrength_171 (lv_at hl 1 rfl) ?_
                          refine lv_aload_n hx hb dX3_layStrength_173 rfl (lv_at hl 2 rfl) ?_
                          refine va_get (D := (dC, dI)) (ci := 3) (v := .ref (ad 1)) (C := RX3) (T := TX3) (N := 8) hx hb hts (fun _ h9 => List.mem_cons_of_mem _ (List.mem_append_right _ h9)) hown hK hP 0 rfl rfl 0 (by decide) (hts (.fieldLink RX3 7 "SwitchLevelSimulatorModel" "state" "[I") (List.mem_of_getElem? (i := 1) rfl)) (fun _ h9 => h9) rfl dX3_layStrength_174 ?_
                          refine lv_sipush (v := nI 210) hx hb dX3_layStrength_177 (by decide) ?_
                          refine lv_iload hx hb dX3_layStrength_180 (lv_at hl 1 rfl) ?_
                          refine my_iadd (x := 210) (y := t) hx hb dX3_layStrength_182 ?_
                          refine my_iald (i := (210 + t)) hx hb hK hP 1 0 rfl rfl (by omega) (by decide) dX3_layStrength_183 ?_
                          refine lv_aload_n hx hb dX3_layStrength_184 rfl (lv_at hl 2 rfl) ?_
                          refine va_get (D := (dC, dI)) (ci := 3) (v := .ref (ad 1)) (C := RX3) (T := TX3) (N := 8) hx hb hts (fun _ h9 => List.mem_cons_of_mem _ (List.mem_append_right _ h9)) hown hK hP 0 rfl rfl 0 (by decide) (hts (.fieldLink RX3 7 "SwitchLevelSimulatorModel" "state" "[I") (List.mem_of_getElem? (i := 1) rfl)) (fun _ h9 => h9) rfl dX3_layStrength_185 ?_
                          refine lv_sipush (v := nI 170) hx hb dX3_layStrength_188 (by decide) ?_
                          refine lv_iload hx hb dX3_layStrength_191 (lv_at hl 1 rfl) ?_
                          refine my_iadd (x := 170) (y := t) hx hb dX3_layStrength_193 ?_
                          refine my_iald (i := (170 + t)) hx hb hK hP 1 0 rfl rfl (by omega) (by decide) dX3_layStrength_194 ?_
                          refine CI.callV (As := [.ref r, .int (nI t), .int (nI (g (210 + t))), .int (nI (g (170 + t)))]) (rest := []) (w3 := (fun _ => gW cI ad r g de ss (nxU g de (nxU g de f1 t (g (170 + t)) (g (210 + t))) t (g (210 + t)) (g (170 + t))))) (c_X3_grow l dC dI cI cZ cR cG ad r g de ss (nxU g de f1 t (g (170 + t)) (g (210 + t))) t (g (210 + t)) (g (170 + t)) (by omega) (by have h9 := ok.2.2.2 t (by omega); omega) (by have h9 := ok.2.2.2 t (by omega); omega) (⟨(ok.2.2.1 _ (by have h9 := ok.2.2.2 t (by omega); omega)).1, by have h9 := ok.2.2.2 t (by omega); omega⟩) (⟨by have h9 := ((UI_nx ok hq hR.1 (show t < g 1 by omega) (by rw [← hst]; exact c124) (edg_1 g t)) _ (show g (210 + t) < g 0 by omega)).2; have h8 := u_le7 ok v (g (210 + t)); omega, by have h9 := ((UI_nx ok hq hR.1 (show t < g 1 by omega) (by rw [← hst]; exact c124) (edg_1 g t)) _ (show g (170 + t) < g 0 by omega)).2; have h8 := u_le7 ok v (g (170 + t)); omega, by have h9 := hq _ (show g (170 + t) < g 0 by omega); have h8 := q_le7 ok (g (170 + t)); omega⟩)) ⟨hx, hb, hml, hown, hts⟩ (cwV 4 hts gX3_layStrength_X3_grow rfl rfl rfl (by decide +kernel) ⟨Nat.le_of_ble_eq_true rfl, Nat.le_of_ble_eq_true rfl⟩) rfl hl.1 (Nat.le_of_ble_eq_true rfl) dX3_layStrength_195 ⟨Nat.le_of_ble_eq_true rfl, Nat.le_of_ble_eq_true rfl⟩ hA hS hP hK hD [0, 1, 2, 3, 4] [] rfl rfl (by decide) (by decide) (by decide) 0 3 rfl rfl [0, 1, 2, 3, 4] (by decide) (fun _ => rfl) rfl (fun _ H locs hp_16 hP hD hS => ?_)
                          refine my_if_neB (x := (grU g de (nxU g de f1 t (g (170 + t)) (g (210 + t))) t (g (210 + t)) (g (170 + t)))) (tgt := 205) hx hb dX3_layStrength_198 (by decide) (fun c_17 => ?_) (fun c_17 => ?_)
                          · refine lv_iconst (v := nI 1) hx hb dX3_layStrength_205 (by decide) ?_
                            refine lv_goto (tgt := 210) hx hb dX3_layStrength_206 (by decide) ?_
                            refine lv_istore_n (lv' := [(3, .int (nI 1)), (4, .int (nI t)), (0, .ref (ad 0)), (1, .ref r), (2, .int (nI v))]) hx hb dX3_layStrength_210 rfl hl (by decide) rfl (fun ls hl => ?_)
                            refine my_iinc (k := 1) (x := t) (d := 1) (lv' := [(4, .int (nI (t + 1))), (3, .int (nI 1)), (0, .ref (ad 0)), (1, .ref r), (2, .int (nI v))]) hx hb dX3_layStrength_211 hl rfl (by decide) (by decide) rfl (fun ls hl => ?_)
                            refine lv_goto (tgt := 108) hx hb dX3_layStrength_214 (by decide) ?_
                            exact ih_108 (t + 1) (nxU g de (nxU g de f1 t (g (170 + t)) (g (210 + t))) t (g (210 + t)) (g (170 + t))) true (by omega) (by omega) (by have h9 := RdU_s ok hq (show t < g 1 by omega) (by rw [← hst]; exact c_9) hR rfl rfl; simpa only [c_11, c_15, c_17, Bool.true_or, Bool.or_true, Bool.false_or, Bool.or_false] using h9) _ _ _ hP hD hS (lv_sub hl [0, 1, 2, 3, 4] rfl)
                          · refine lv_iload_n hx hb dX3_layStrength_201 rfl (lv_at hl 0 rfl) ?_
                            refine my_if_eqN (x := 0) (tgt := 209) hx hb (by omega) dX3_layStrength_202 (by decide) (fun _ => ?_) (fun c_18 => absurd c_18 (by decide))
                            refine lv_iconst (v := nI 0) hx hb dX3_layStrength_209 (by decide) ?_
                            refine lv_istore_n (lv' := [(3, .int (nI 0)), (4, .int (nI t)), (0, .ref (ad 0)), (1, .ref r), (2, .int (nI v))]) hx hb dX3_layStrength_210 rfl hl (by decide) rfl (fun ls hl => ?_)
                            refine my_iinc (k := 1) (x := t) (d := 1) (lv' := [(4, .int (nI (t + 1))), (3, .int (nI 0)), (0, .ref (ad 0)), (1, .ref r), (2, .int (nI v))]) hx hb dX3_layStrength_211 hl rfl (by decide) (by decide) rfl (fun ls hl => ?_)
                            refine lv_goto (tgt := 108) hx hb dX3_layStrength_214 (by decide) ?_
                            exact ih_108 (t + 1) (nxU g de (nxU g de f1 t (g (170 + t)) (g (210 + t))) t (g (210 + t)) (g (170 + t))) false (by omega) (by omega) (by have h9 := RdU_s ok hq (show t < g 1 by omega) (by rw [← hst]; exact c_9) hR rfl rfl; simpa only [c_11, c_15, c_17, Bool.true_or, Bool.or_true, Bool.false_or, Bool.or_false] using h9) _ _ _ hP hD hS (lv_sub hl [0, 1, 2, 3, 4] rfl)
                        · refine lv_iconst (v := nI 1) hx hb dX3_layStrength_163 (by decide) ?_
                          refine lv_goto (tgt := 168) hx hb dX3_layStrength_164 (by decide) ?_
                          refine lv_istore_n (lv' := [(3, .int (nI 1)), (4, .int (nI t)), (0, .ref (ad 0)), (1, .ref r), (2, .int (nI v))]) hx hb dX3_layStrength_168 rfl hl (by decide) rfl (fun ls hl => ?_)
                          refine lv_aload_n hx hb dX3_layStrength_169 rfl (lv_at hl 2 rfl) ?_
                          refine lv_aload_n hx hb dX3_layStrength_170 rfl (lv_at hl 3 rfl) ?_
                          refine lv_iload hx hb dX3_layStrength_171 (lv_at hl 1 rfl) ?_
                          refine lv_aload_n hx hb dX3_layStrength_173 rfl (lv_at hl 2 rfl) ?_
                          refine va_get (D := (dC, dI)) (ci := 3) (v := .ref (ad 1)) (C := RX3) (T := TX3) (N := 8) hx hb hts (fun _ h9 => List.mem_cons_of_mem _ (List.mem_append_right _ h9)) hown hK hP 0 rfl rfl 0 (by decide) (hts (.fieldLink RX3 7 "SwitchLevelSimulatorModel" "state" "[I") (List.mem_of_getElem? (i := 1) rfl)) (fun _ h9 => h9) rfl dX3_layStrength_174 ?_
                          refine lv_sipush (v := nI 210) hx hb dX3_layStrength_177 (by decide) ?_
                          refine lv_iload hx hb dX3_layStrength_180 (lv_at hl 1 rfl) ?_
                          refine my_iadd (x := 210) (y := t) hx hb dX3_layStrength_182 ?_
                          refine my_iald (i := (210 + t)) hx hb hK hP 1 0 rfl rfl (by omega) (by decide) dX3_layStrength_183 ?_
                          refine lv_aload_n hx hb dX3_layStrength_184 rfl (lv_at hl 2 rfl) ?_
                          refine va_get (D := (dC, dI)) (ci := 3) (v := .ref (ad 1)) (C := RX3) (T := TX3) (N := 8) hx hb hts (fun _ h9 => List.mem_cons_of_mem _ (List.mem_append_right _ h9)) hown hK hP 0 rfl rfl 0 (by decide) (hts (.fieldLink RX3 7 "SwitchLevelSimulatorModel" "state" "[I") (List.mem_of_getElem? (i := 1) rfl)) (fun _ h9 => h9) rfl dX3_layStrength_185 ?_
                          refine lv_sipush (v := nI 170) hx hb dX3_layStrength_188 (by decide) ?_
                          refine lv_iload hx hb dX3_layStrength_191 (lv_at hl 1 rfl) ?_
                          refine my_iadd (x := 170) (y := t) hx hb dX3_layStrength_193 ?_
                          refine my_iald (i := (170 + t)) hx hb hK hP 1 0 rfl rfl (by omega) (by decide) dX3_layStrength_194 ?_
                          refine CI.callV (As := [.ref r, .int (nI t), .int (nI (g (210 + t))), .int (nI (g (170 + t)))]) (rest := []) (w3 := (fun _ => gW cI ad r g de ss (nxU g de (nxU g de f1 t (g (170 + t)) (g (210 + t))) t (g (210 + t)) (g (170 + t))))) (c_X3_grow l dC dI cI cZ cR cG ad r g de ss (nxU g de f1 t (g (170 + t)) (g (210 + t))) t (g (210 + t)) (g (170 + t)) (by omega) (by have h9 := ok.2.2.2 t (by omega); omega) (by have h9 := ok.2.2.2 t (by omega); omega) (⟨(ok.2.2.1 _ (by have h9 := ok.2.2.2 t (by omega); omega)).1, by have h9 := ok.2.2.2 t (by omega); omega⟩) (⟨by have h9 := ((UI_nx ok hq hR.1 (show t < g 1 by omega) (by rw [← hst]; exact c124) (edg_1 g t)) _ (show g (210 + t) < g 0 by omega)).2; have h8 := u_le7 ok v (g (210 + t)); omega, by have h9 := ((UI_nx ok hq hR.1 (show t < g 1 by omega) (by rw [← hst]; exact c124) (edg_1 g t)) _ (show g (170 + t) < g 0 by omega)).2; have h8 := u_le7 ok v (g (170 + t)); omega, by have h9 := hq _ (show g (170 + t) < g 0 by omega); have h8 := q_le7 ok (g (170 + t)); omega⟩)) ⟨hx, hb, hml, hown, hts⟩ (cwV 4 hts gX3_layStrength_X3_grow rfl rfl rfl (by decide +kernel) ⟨Nat.le_of_ble_eq_true rfl, Nat.le_of_ble_eq_true rfl⟩) rfl hl.1 (Nat.le_of_ble_eq_true rfl) dX3_layStrength_195 ⟨Nat.le_of_ble_eq_true rfl, Nat.le_of_ble_eq_true rfl⟩ hA hS hP hK hD [0, 1, 2, 3, 4] [] rfl rfl (by decide) (by decide) (by decide) 0 3 rfl rfl [0, 1, 2, 3, 4] (by decide) (fun _ => rfl) rfl (fun _ H locs hp_19 hP hD hS => ?_)
                          refine my_if_neB (x := (grU g de (nxU g de f1 t (g (170 + t)) (g (210 + t))) t (g (210 + t)) (g (170 + t)))) (tgt := 205) hx hb dX3_layStrength_198 (by decide) (fun c_20 => ?_) (fun c_20 => ?_)
                          · refine lv_iconst (v := nI 1) hx hb dX3_layStrength_205 (by decide) ?_
                            refine lv_goto (tgt := 210) hx hb dX3_layStrength_206 (by decide) ?_
                            refine lv_istore_n (lv' := [(3, .int (nI 1)), (4, .int (nI t)), (0, .ref (ad 0)), (1, .ref r), (2, .int (nI v))]) hx hb dX3_layStrength_210 rfl hl (by decide) rfl (fun ls hl => ?_)
                            refine my_iinc (k := 1) (x := t) (d := 1) (lv' := [(4, .int (nI (t + 1))), (3, .int (nI 1)), (0, .ref (ad 0)), (1, .ref r), (2, .int (nI v))]) hx hb dX3_layStrength_211 hl rfl (by decide) (by decide) rfl (fun ls hl => ?_)
                            refine lv_goto (tgt := 108) hx hb dX3_layStrength_214 (by decide) ?_
                            exact ih_108 (t + 1) (nxU g de (nxU g de f1 t (g (170 + t)) (g (210 + t))) t (g (210 + t)) (g (170 + t))) true (by omega) (by omega) (by have h9 := RdU_s ok hq (show t < g 1 by omega) (by rw [← hst]; exact c_9) hR rfl rfl; simpa only [c_11, c_15, c_20, Bool.true_or, Bool.or_true, Bool.false_or, Bool.or_false] using h9) _ _ _ hP hD hS (lv_sub hl [0, 1, 2, 3, 4] rfl)
                          · refine lv_iload_n hx hb dX3_layStrength_201 rfl (lv_at hl 0 rfl) ?_
                            refine my_if_eqN (x := 1) (tgt := 209) hx hb (by omega) dX3_layStrength_202 (by decide) (fun c_21 => absurd c_21 (by decide)) (fun _ => ?_)
                            refine lv_iconst (v := nI 1) hx hb dX3_layStrength_205 (by decide) ?_
                            refine lv_goto (tgt := 210) hx hb dX3_layStrength_206 (by decide) ?_
                            refine lv_istore_n (lv' := [(3, .int (nI 1)), (4, .int (nI t)), (0, .ref (ad 0)), (1, .ref r), (2, .int (nI v))]) hx hb dX3_layStrength_210 rfl hl (by decide) rfl (fun ls hl => ?_)
                            refine my_iinc (k := 1) (x := t) (d := 1) (lv' := [(4, .int (nI (t + 1))), (3, .int (nI 1)), (0, .ref (ad 0)), (1, .ref r), (2, .int (nI v))]) hx hb dX3_layStrength_211 hl rfl (by decide) (by decide) rfl (fun ls hl => ?_)
                            refine lv_goto (tgt := 108) hx hb dX3_layStrength_214 (by decide) ?_
                            exact ih_108 (t + 1) (nxU g de (nxU g de f1 t (g (170 + t)) (g (210 + t))) t (g (210 + t)) (g (170 + t))) true (by omega) (by omega) (by have h9 := RdU_s ok hq (show t < g 1 by omega) (by rw [← hst]; exact c_9) hR rfl rfl; simpa only [c_11, c_15, c_20, Bool.true_or, Bool.or_true, Bool.false_or, Bool.or_false] using h9) _ _ _ hP hD hS (lv_sub hl [0, 1, 2, 3, 4] rfl)
              exact key_108 _ 0 f false (Nat.lt_succ_self _) (Nat.zero_le _) (RdU_0 hDI) _ _ _ hP hD hS (lv_sub hl [0, 1, 2, 3, 4] rfl)
        exact key_99 _ f true (Nat.lt_succ_self _) (UI_0 ok (by omega) hf) (fun z => (by cases z)) _ _ _ hP hD hS (lv_sub hl [0, 1, 2, 3] rfl)
      · have hv2 := (ok.2.2.1 n (by omega)).2
        have hb3 := (ok.2.2.1 n (by omega)).1
        have hqn := hq n (by omega)
        have hq7 := q_le7 ok n
        refine lv_aload_n hx hb dX3_layStrength_10 rfl (lv_at hl 1 rfl) ?_
        refine va_get (D := (dC, dI)) (ci := 3) (v := .ref (ad 1)) (C := RX3) (T := TX3) (N := 8) hx hb hts (fun _ h9 => List.mem_cons_of_mem _ (List.mem_append_right _ h9)) hown hK hP 0 rfl rfl 0 (by decide) (hts (.fieldLink RX3 7 "SwitchLevelSimulatorModel" "state" "[I") (List.mem_of_getElem? (i := 1) rfl)) (fun _ h9 => h9) rfl dX3_layStrength_11 ?_
        refine lv_bipush (v := nI 26) hx hb dX3_layStrength_14 (by decide) ?_
        refine lv_iload_n hx hb dX3_layStrength_16 rfl (lv_at hl 0 rfl) ?_
        refine my_iadd (x := 26) (y := n) hx hb dX3_layStrength_17 ?_
        refine my_iald (i := (26 + n)) hx hb hK hP 1 0 rfl rfl (by omega) (by decide) dX3_layStrength_18 ?_
        refine lv_iload_n hx hb dX3_layStrength_19 rfl (lv_at hl 3 rfl) ?_
        refine my_icmp_eq (x := (g (26 + n))) (y := v) (tgt := 36) hx hb (by omega) (by omega) dX3_layStrength_20 (by decide) (fun c_22 => ?_) (fun c_22 => ?_)
        · refine lv_iconst (v := nI 1) hx hb dX3_layStrength_36 (by decide) ?_
          refine lv_goto (tgt := 41) hx hb dX3_layStrength_37 (by decide) ?_
          refine lv_istore (lv' := [(4, .int (nI 1)), (3, .int (nI n)), (0, .ref (ad 0)), (1, .ref r), (2, .int (nI v))]) hx hb dX3_layStrength_41 hl (by decide) rfl (fun ls hl => ?_)
          refine lv_aload_n hx hb dX3_layStrength_43 rfl (lv_at hl 2 rfl) ?_
          refine lv_iload_n hx hb dX3_layStrength_44 rfl (lv_at hl 1 rfl) ?_
          refine CI.callV (As := [.int (nI n)]) (rest := []) (w3 := (fun _ => gW cI ad r g de ss f)) (c_X3_isInput l dC dI cI cZ cR cG ad g n (by omega) ((ok.2.2.1 _ (by omega)).1)) ⟨hx, hb, hml, hown, hts⟩ (cwV 1 hts gX3_layStrength_X3_isInput rfl rfl rfl (by decide +kernel) ⟨Nat.le_of_ble_eq_true rfl, Nat.le_of_ble_eq_true rfl⟩) rfl hl.1 (Nat.le_of_ble_eq_true rfl) dX3_layStrength_45 ⟨Nat.le_of_ble_eq_true rfl, Nat.le_of_ble_eq_true rfl⟩ hA hS hP hK hD [0, 1] [2, 3, 4] rfl rfl (by decide) (by decide) (by decide) 0 3 rfl rfl [3, 4, 0, 1, 2] (by decide) (fun _ => rfl) rfl (fun _ H locs hp_23 hP hD hS => ?_)
          refine my_if_eqB (x := (decide (g (2 + n) = 0))) (tgt := 56) hx hb dX3_layStrength_48 (by decide) (fun c_24 => ?_) (fun c_24 => ?_)
          · refine lv_aload_n hx hb dX3_layStrength_56 rfl (lv_at hl 2 rfl) ?_
            refine va_get (D := (dC, dI)) (ci := 3) (v := .ref (ad 1)) (C := RX3) (T := TX3) (N := 8) hx hb hts (fun _ h9 => List.mem_cons_of_mem _ (List.mem_append_right _ h9)) hown hK hP 0 rfl rfl 0 (by decide) (hts (.fieldLink RX3 7 "SwitchLevelSimulatorModel" "state" "[I") (List.mem_of_getElem? (i := 1) rfl)) (fun _ h9 => h9) rfl dX3_layStrength_57 ?_
            refine lv_iconst (v := nI 2) hx hb dX3_layStrength_60 (by decide) ?_
            refine lv_iload_n hx hb dX3_layStrength_61 rfl (lv_at hl 1 rfl) ?_
            refine my_iadd (x := 2) (y := n) hx hb dX3_layStrength_62 ?_
            refine my_iald (i := (2 + n)) hx hb hK hP 1 0 rfl rfl (by omega) (by decide) dX3_layStrength_63 ?_
            refine lv_istore (lv' := [(5, .int (nI (g (2 + n)))), (4, .int (nI 1)), (3, .int (nI n)), (0, .ref (ad 0)), (1, .ref r), (2, .int (nI v))]) hx hb dX3_layStrength_64 hl (by decide) rfl (fun ls hl => ?_)
            refine lv_aload_n hx hb dX3_layStrength_66 rfl (lv_at hl 4 rfl) ?_
            refine lv_iload_n hx hb dX3_layStrength_67 rfl (lv_at hl 2 rfl) ?_
            refine lv_iload hx hb dX3_layStrength_68 (lv_at hl 1 rfl) ?_
            refine my_if_eqN (x := 1) (tgt := 89) hx hb (by omega) dX3_layStrength_70 (by decide) (fun c_25 => absurd c_25 (by decide)) (fun _ => ?_)
            refine lv_iload hx hb dX3_layStrength_73 (lv_at hl 0 rfl) ?_
            refine lv_aload_n hx hb dX3_layStrength_75 rfl (lv_at hl 3 rfl) ?_
            refine va_get (D := (dC, dI)) (ci := 3) (v := .ref (ad 4)) (C := RX3) (T := TX3) (N := 8) hx hb hts (fun _ h9 => List.mem_cons_of_mem _ (List.mem_append_right _ h9)) hown hK hP 0 rfl rfl 3 (by decide) (hts (.fieldLink RX3 20 "SwitchLevelSimulatorModel" "definite" "[I") (List.mem_of_getElem? (i := 2) rfl)) (fun _ h9 => h9) rfl dX3_layStrength_76 ?_
            refine lv_iload_n hx hb dX3_layStrength_79 rfl (lv_at hl 2 rfl) ?_
            refine my_iald (i := n) hx hb hK hP 2 0 rfl rfl (by omega) (by decide) dX3_layStrength_80 ?_
            refine my_icmp_lt (x := (g (2 + n))) (y := (de n)) (tgt := 89) hx hb (by omega) (by omega) dX3_layStrength_81 (by decide) (fun c_26 => ?_) (fun c_26 => ?_)
            · refine lv_iconst (v := nI 0) hx hb dX3_layStrength_89 (by decide) ?_
              refine my_iastN (i := n) (x := 0) (g := f) (ws' := gW cI ad r g de ss (up1 f n 0)) hx hb hK hP hD hS 4 0 rfl rfl (by omega) (by decide) dX3_layStrength_90 rfl (fun H locs hP hD hS => ?_)
              refine my_iinc (k := 2) (x := n) (d := 1) (lv' := [(3, .int (nI (n + 1))), (5, .int (nI (g (2 + n)))), (4, .int (nI 1)), (0, .ref (ad 0)), (1, .ref r), (2, .int (nI v))]) hx hb dX3_layStrength_91 hl rfl (by decide) (by decide) rfl (fun ls hl => ?_)
              refine lv_goto (tgt := 2) hx hb dX3_layStrength_94 (by decide) ?_
              exact ih_2 (n + 1) (up1 f n 0) (by omega) (by omega) (fill_s hf (by have hbs : bas g n = g (2 + n) := (by unfold bas; rw [if_neg (of_decide_eq_false c_24)]); unfold ub; rw [hbs]; split <;> omega)) _ _ _ hP hD hS (lv_sub hl [0, 3, 4, 5] rfl)
            · refine lv_iload hx hb dX3_layStrength_84 (lv_at hl 0 rfl) ?_
              refine lv_goto (tgt := 90) hx hb dX3_layStrength_86 (by decide) ?_
              refine my_iastN (i := n) (x := (g (2 + n))) (g := f) (ws' := gW cI ad r g de ss (up1 f n (g (2 + n)))) hx hb hK hP hD hS 4 0 rfl rfl (by omega) (by decide) dX3_layStrength_90 rfl (fun H locs hP hD hS => ?_)
              refine my_iinc (k := 2) (x := n) (d := 1) (lv' := [(3, .int (nI (n + 1))), (5, .int (nI (g (2 + n)))), (4, .int (nI 1)), (0, .ref (ad 0)), (1, .ref r), (2, .int (nI v))]) hx hb dX3_layStrength_91 hl rfl (by decide) (by decide) rfl (fun ls hl => ?_)
              refine lv_goto (tgt := 2) hx hb dX3_layStrength_94 (by decide) ?_
              exact ih_2 (n + 1) (up1 f n (g (2 + n))) (by omega) (by omega) (fill_s hf (by have hbs : bas g n = g (2 + n) := (by unfold bas; rw [if_neg (of_decide_eq_false c_24)]); unfold ub; rw [hbs]; split <;> omega)) _ _ _ hP hD hS (lv_sub hl [0, 3, 4, 5] rfl)
          · refine lv_bipush (v := nI 7) hx hb dX3_layStrength_51 (by decide) ?_
            refine lv_goto (tgt := 64) hx hb dX3_layStrength_53 (by decide) ?_
            refine lv_istore (lv' := [(5, .int (nI 7)), (4, .int (nI 1)), (3, .int (nI n)), (0, .ref (ad 0)), (1, .ref r), (2, .int (nI v))]) hx hb dX3_layStrength_64 hl (by decide) rfl (fun ls hl => ?_)
            refine lv_aload_n hx hb dX3_layStrength_66 rfl (lv_at hl 4 rfl) ?_
            refine lv_iload_n hx hb dX3_layStrength_67 rfl (lv_at hl 2 rfl) ?_
            refine lv_iload hx hb dX3_layStrength_68 (lv_at hl 1 rfl) ?_
            refine my_if_eqN (x := 1) (tgt := 89) hx hb (by omega) dX3_layStrength_70 (by decide) (fun c_27 => absurd c_27 (by decide)) (fun _ => ?_)
            refine lv_iload hx hb dX3_layStrength_73 (lv_at hl 0 rfl) ?_
            refine lv_aload_n hx hb dX3_layStrength_75 rfl (lv_at hl 3 rfl) ?_
            refine va_get (D := (dC, dI)) (ci := 3) (v := .ref (ad 4)) (C := RX3) (T := TX3) (N := 8) hx hb hts (fun _ h9 => List.mem_cons_of_mem _ (List.mem_append_right _ h9)) hown hK hP 0 rfl rfl 3 (by decide) (hts (.fieldLink RX3 20 "SwitchLevelSimulatorModel" "definite" "[I") (List.mem_of_getElem? (i := 2) rfl)) (fun _ h9 => h9) rfl dX3_layStrength_76 ?_
            refine lv_iload_n hx hb dX3_layStrength_79 rfl (lv_at hl 2 rfl) ?_
            refine my_iald (i := n) hx hb hK hP 2 0 rfl rfl (by omega) (by decide) dX3_layStrength_80 ?_
            refine my_icmp_lt (x := 7) (y := (de n)) (tgt := 89) hx hb (by omega) (by omega) dX3_layStrength_81 (by decide) (fun c_28 => ?_) (fun c_28 => ?_)
            · refine lv_iconst (v := nI 0) hx hb dX3_layStrength_89 (by decide) ?_
              refine my_iastN (i := n) (x := 0) (g := f) (ws' := gW cI ad r g de ss (up1 f n 0)) hx hb hK hP hD hS 4 0 rfl rfl (by omega) (by decide) dX3_layStrength_90 rfl (fun H locs hP hD hS => ?_)
              refine my_iinc (k := 2) (x := n) (d := 1) (lv' := [(3, .int (nI (n + 1))), (5, .int (nI 7)), (4, .int (nI 1)), (0, .ref (ad 0)), (1, .ref r), (2, .int (nI v))]) hx hb dX3_layStrength_91 hl rfl (by decide) (by decide) rfl (fun ls hl => ?_)
              refine lv_goto (tgt := 2) hx hb dX3_layStrength_94 (by decide) ?_
              exact ih_2 (n + 1) (up1 f n 0) (by omega) (by omega) (fill_s hf (by have hbs : bas g n = 7 := (by unfold bas; rw [if_pos (of_decide_eq_true c_24)]); unfold ub; rw [hbs]; split <;> omega)) _ _ _ hP hD hS (lv_sub hl [0, 3, 4, 5] rfl)
            · refine lv_iload hx hb dX3_layStrength_84 (lv_at hl 0 rfl) ?_
              refine lv_goto (tgt := 90) hx hb dX3_layStrength_86 (by decide) ?_
              refine my_iastN (i := n) (x := 7) (g := f) (ws' := gW cI ad r g de ss (up1 f n 7)) hx hb hK hP hD hS 4 0 rfl rfl (by omega) (by decide) dX3_layStrength_90 rfl (fun H locs hP hD hS => ?_)
              refine my_iinc (k := 2) (x := n) (d := 1) (lv' := [(3, .int (nI (n + 1))), (5, .int (nI 7)), (4, .int (nI 1)), (0, .ref (ad 0)), (1, .ref r), (2, .int (nI v))]) hx hb dX3_layStrength_91 hl rfl (by decide) (by decide) rfl (fun ls hl => ?_)
              refine lv_goto (tgt := 2) hx hb dX3_layStrength_94 (by decide) ?_
              exact ih_2 (n + 1) (up1 f n 7) (by omega) (by omega) (fill_s hf (by have hbs : bas g n = 7 := (by unfold bas; rw [if_pos (of_decide_eq_true c_24)]); unfold ub; rw [hbs]; split <;> omega)) _ _ _ hP hD hS (lv_sub hl [0, 3, 4, 5] rfl)
        · refine lv_aload_n hx hb dX3_layStrength_23 rfl (lv_at hl 1 rfl) ?_
          refine va_get (D := (dC, dI)) (ci := 3) (v := .ref (ad 1)) (C := RX3) (T := TX3) (N := 8) hx hb hts (fun _ h9 => List.mem_cons_of_mem _ (List.mem_append_right _ h9)) hown hK hP 0 rfl rfl 0 (by decide) (hts (.fieldLink RX3 7 "SwitchLevelSimulatorModel" "state" "[I") (List.mem_of_getElem? (i := 1) rfl)) (fun _ h9 => h9) rfl dX3_layStrength_24 ?_
          refine lv_bipush (v := nI 26) hx hb dX3_layStrength_27 (by decide) ?_
          refine lv_iload_n hx hb dX3_layStrength_29 rfl (lv_at hl 0 rfl) ?_
          refine my_iadd (x := 26) (y := n) hx hb dX3_layStrength_30 ?_
          refine my_iald (i := (26 + n)) hx hb hK hP 1 0 rfl rfl (by omega) (by decide) dX3_layStrength_31 ?_
          refine lv_iconst (v := nI 2) hx hb dX3_layStrength_32 (by decide) ?_
          refine my_icmp_ne (x := (g (26 + n))) (y := 2) (tgt := 40) hx hb (by omega) (by omega) dX3_layStrength_33 (by decide) (fun c_29 => ?_) (fun c_29 => ?_)
          · refine lv_iconst (v := nI 0) hx hb dX3_layStrength_40 (by decide) ?_
            refine lv_istore (lv' := [(4, .int (nI 0)), (3, .int (nI n)), (0, .ref (ad 0)), (1, .ref r), (2, .int (nI v))]) hx hb dX3_layStrength_41 hl (by decide) rfl (fun ls hl => ?_)
            refine lv_aload_n hx hb dX3_layStrength_43 rfl (lv_at hl 2 rfl) ?_
            refine lv_iload_n hx hb dX3_layStrength_44 rfl (lv_at hl 1 rfl) ?_
            refine CI.callV (As := [.int (nI n)]) (rest := []) (w3 := (fun _ => gW cI ad r g de ss f)) (c_X3_isInput l dC dI cI cZ cR cG ad g n (by omega) ((ok.2.2.1 _ (by omega)).1)) ⟨hx, hb, hml, hown, hts⟩ (cwV 1 hts gX3_layStrength_X3_isInput rfl rfl rfl (by decide +kernel) ⟨Nat.le_of_ble_eq_true rfl, Nat.le_of_ble_eq_true rfl⟩) rfl hl.1 (Nat.le_of_ble_eq_true rfl) dX3_layStrength_45 ⟨Nat.le_of_ble_eq_true rfl, Nat.le_of_ble_eq_true rfl⟩ hA hS hP hK hD [0, 1] [2, 3, 4] rfl rfl (by decide) (by decide) (by decide) 0 3 rfl rfl [3, 4, 0, 1, 2] (by decide) (fun _ => rfl) rfl (fun _ H locs hp_30 hP hD hS => ?_)
            refine my_if_eqB (x := (decide (g (2 + n) = 0))) (tgt := 56) hx hb dX3_layStrength_48 (by decide) (fun c_31 => ?_) (fun c_31 => ?_)
            · refine lv_aload_n hx hb dX3_layStrength_56 rfl (lv_at hl 2 rfl) ?_
              refine va_get (D := (dC, dI)) (ci := 3) (v := .ref (ad 1)) (C := RX3) (T := TX3) (N := 8) hx hb hts (fun _ h9 => List.mem_cons_of_mem _ (List.mem_append_right _ h9)) hown hK hP 0 rfl rfl 0 (by decide) (hts (.fieldLink RX3 7 "SwitchLevelSimulatorModel" "state" "[I") (List.mem_of_getElem? (i := 1) rfl)) (fun _ h9 => h9) rfl dX3_layStrength_57 ?_
              refine lv_iconst (v := nI 2) hx hb dX3_layStrength_60 (by decide) ?_
              refine lv_iload_n hx hb dX3_layStrength_61 rfl (lv_at hl 1 rfl) ?_
              refine my_iadd (x := 2) (y := n) hx hb dX3_layStrength_62 ?_
              refine my_iald (i := (2 + n)) hx hb hK hP 1 0 rfl rfl (by omega) (by decide) dX3_layStrength_63 ?_
              refine lv_istore (lv' := [(5, .int (nI (g (2 + n)))), (4, .int (nI 0)), (3, .int (nI n)), (0, .ref (ad 0)), (1, .ref r), (2, .int (nI v))]) hx hb dX3_layStrength_64 hl (by decide) rfl (fun ls hl => ?_)
              refine lv_aload_n hx hb dX3_layStrength_66 rfl (lv_at hl 4 rfl) ?_
              refine lv_iload_n hx hb dX3_layStrength_67 rfl (lv_at hl 2 rfl) ?_
              refine lv_iload hx hb dX3_layStrength_68 (lv_at hl 1 rfl) ?_
              refine my_if_eqN (x := 0) (tgt := 89) hx hb (by omega) dX3_layStrength_70 (by decide) (fun _ => ?_) (fun c_32 => absurd c_32 (by decide))
              refine lv_iconst (v := nI 0) hx hb dX3_layStrength_89 (by decide) ?_
              refine my_iastN (i := n) (x := 0) (g := f) (ws' := gW cI ad r g de ss (up1 f n 0)) hx hb hK hP hD hS 4 0 rfl rfl (by omega) (by decide) dX3_layStrength_90 rfl (fun H locs hP hD hS => ?_)
              refine my_iinc (k := 2) (x := n) (d := 1) (lv' := [(3, .int (nI (n + 1))), (5, .int (nI (g (2 + n)))), (4, .int (nI 0)), (0, .ref (ad 0)), (1, .ref r), (2, .int (nI v))]) hx hb dX3_layStrength_91 hl rfl (by decide) (by decide) rfl (fun ls hl => ?_)
              refine lv_goto (tgt := 2) hx hb dX3_layStrength_94 (by decide) ?_
              exact ih_2 (n + 1) (up1 f n 0) (by omega) (by omega) (fill_s hf (by have hbs : bas g n = g (2 + n) := (by unfold bas; rw [if_neg (of_decide_eq_false c_31)]); unfold ub; rw [hbs]; split <;> omega)) _ _ _ hP hD hS (lv_sub hl [0, 3, 4, 5] rfl)
            · refine lv_bipush (v := nI 7) hx hb dX3_layStrength_51 (by decide) ?_
              refine lv_goto (tgt := 64) hx hb dX3_layStrength_53 (by decide) ?_
              refine lv_istore (lv' := [(5, .int (nI 7)), (4, .int (nI 0)), (3, .int (nI n)), (0, .ref (ad 0)), (1, .ref r), (2, .int (nI v))]) hx hb dX3_layStrength_64 hl (by decide) rfl (fun ls hl => ?_)
              refine lv_aload_n hx hb dX3_layStrength_66 rfl (lv_at hl 4 rfl) ?_
              refine lv_iload_n hx hb dX3_layStrength_67 rfl (lv_at hl 2 rfl) ?_
              refine lv_iload hx hb dX3_layStrength_68 (lv_at hl 1 rfl) ?_
              refine my_if_eqN (x := 0) (tgt := 89) hx hb (by omega) dX3_layStrength_70 (by decide) (fun _ => ?_) (fun c_33 => absurd c_33 (by decide))
              refine lv_iconst (v := nI 0) hx hb dX3_layStrength_89 (by decide) ?_
              refine my_iastN (i := n) (x := 0) (g := f) (ws' := gW cI ad r g de ss (up1 f n 0)) hx hb hK hP hD hS 4 0 rfl rfl (by omega) (by decide) dX3_layStrength_90 rfl (fun H locs hP hD hS => ?_)
              refine my_iinc (k := 2) (x := n) (d := 1) (lv' := [(3, .int (nI (n + 1))), (5, .int (nI 7)), (4, .int (nI 0)), (0, .ref (ad 0)), (1, .ref r), (2, .int (nI v))]) hx hb dX3_layStrength_91 hl rfl (by decide) (by decide) rfl (fun ls hl => ?_)
              refine lv_goto (tgt := 2) hx hb dX3_layStrength_94 (by decide) ?_
              exact ih_2 (n + 1) (up1 f n 0) (by omega) (by omega) (fill_s hf (by have hbs : bas g n = 7 := (by unfold bas; rw [if_pos (of_decide_eq_true c_31)]); unfold ub; rw [hbs]; split <;> omega)) _ _ _ hP hD hS (lv_sub hl [0, 3, 4, 5] rfl)
          · refine lv_iconst (v := nI 1) hx hb dX3_layStrength_36 (by decide) ?_
            refine lv_goto (tgt := 41) hx hb dX3_layStrength_37 (by decide) ?_
            refine lv_istore (lv' := [(4, .int (nI 1)), (3, .int (nI n)), (0, .ref (ad 0)), (1, .ref r), (2, .int (nI v))]) hx hb dX3_layStrength_41 hl (by decide) rfl (fun ls hl => ?_)
            refine lv_aload_n hx hb dX3_layStrength_43 rfl (lv_at hl 2 rfl) ?_
            refine lv_iload_n hx hb dX3_layStrength_44 rfl (lv_at hl 1 rfl) ?_
            refine CI.callV (As := [.int (nI n)]) (rest := []) (w3 := (fun _ => gW cI ad r g de ss f)) (c_X3_isInput l dC dI cI cZ cR cG ad g n (by omega) ((ok.2.2.1 _ (by omega)).1)) ⟨hx, hb, hml, hown, hts⟩ (cwV 1 hts gX3_layStrength_X3_isInput rfl rfl rfl (by decide +kernel) ⟨Nat.le_of_ble_eq_true rfl, Nat.le_of_ble_eq_true rfl⟩) rfl hl.1 (Nat.le_of_ble_eq_true rfl) dX3_layStrength_45 ⟨Nat.le_of_ble_eq_true rfl, Nat.le_of_ble_eq_true rfl⟩ hA hS hP hK hD [0, 1] [2, 3, 4] rfl rfl (by decide) (by decide) (by decide) 0 3 rfl rfl [3, 4, 0, 1, 2] (by decide) (fun _ => rfl) rfl (fun _ H locs hp_34 hP hD hS => ?_)
            refine my_if_eqB (x := (decide (g (2 + n) = 0))) (tgt := 56) hx hb dX3_layStrength_48 (by decide) (fun c_35 => ?_) (fun c_35 => ?_)
            · refine lv_aload_n hx hb dX3_layStrength_56 rfl (lv_at hl 2 rfl) ?_
              refine va_get (D := (dC, dI)) (ci := 3) (v := .ref (ad 1)) (C := RX3) (T := TX3) (N := 8) hx hb hts (fun _ h9 => List.mem_cons_of_mem _ (List.mem_append_right _ h9)) hown hK hP 0 rfl rfl 0 (by decide) (hts (.fieldLink RX3 7 "SwitchLevelSimulatorModel" "state" "[I") (List.mem_of_getElem? (i := 1) rfl)) (fun _ h9 => h9) rfl dX3_layStrength_57 ?_
              refine lv_iconst (v := nI 2) hx hb dX3_layStrength_60 (by decide) ?_
              refine lv_iload_n hx hb dX3_layStrength_61 rfl (lv_at hl 1 rfl) ?_
              refine my_iadd (x := 2) (y := n) hx hb dX3_layStrength_62 ?_
              refine my_iald (i := (2 + n)) hx hb hK hP 1 0 rfl rfl (by omega) (by decide) dX3_layStrength_63 ?_
              refine lv_istore (lv' := [(5, .int (nI (g (2 + n)))), (4, .int (nI 1)), (3, .int (nI n)), (0, .ref (ad 0)), (1, .ref r), (2, .int (nI v))]) hx hb dX3_layStrength_64 hl (by decide) rfl (fun ls hl => ?_)
              refine lv_aload_n hx hb dX3_layStrength_66 rfl (lv_at hl 4 rfl) ?_
              refine lv_iload_n hx hb dX3_layStrength_67 rfl (lv_at hl 2 rfl) ?_
              refine lv_iload hx hb dX3_layStrength_68 (lv_at hl 1 rfl) ?_
              refine my_if_eqN (x := 1) (tgt := 89) hx hb (by omega) dX3_layStrength_70 (by decide) (fun c_36 => absurd c_36 (by decide)) (fun _ => ?_)
              refine lv_iload hx hb dX3_layStrength_73 (lv_at hl 0 rfl) ?_
              refine lv_aload_n hx hb dX3_layStrength_75 rfl (lv_at hl 3 rfl) ?_
              refine va_get (D := (dC, dI)) (ci := 3) (v := .ref (ad 4)) (C := RX3) (T := TX3) (N := 8) hx hb hts (fun _ h9 => List.mem_cons_of_mem _ (List.mem_append_right _ h9)) hown hK hP 0 rfl rfl 3 (by decide) (hts (.fieldLink RX3 20 "SwitchLevelSimulatorModel" "definite" "[I") (List.mem_of_getElem? (i := 2) rfl)) (fun _ h9 => h9) rfl dX3_layStrength_76 ?_
              refine lv_iload_n hx hb dX3_layStrength_79 rfl (lv_at hl 2 rfl) ?_
              refine my_iald (i := n) hx hb hK hP 2 0 rfl rfl (by omega) (by decide) dX3_layStrength_80 ?_
              refine my_icmp_lt (x := (g (2 + n))) (y := (de n)) (tgt := 89) hx hb (by omega) (by omega) dX3_layStrength_81 (by decide) (fun c_37 => ?_) (fun c_37 => ?_)
              · refine lv_iconst (v := nI 0) hx hb dX3_layStrength_89 (by decide) ?_
                refine my_iastN (i := n) (x := 0) (g := f) (ws' := gW cI ad r g de ss (up1 f n 0)) hx hb hK hP hD hS 4 0 rfl rfl (by omega) (by decide) dX3_layStrength_90 rfl (fun H locs hP hD hS => ?_)
                refine my_iinc (k := 2) (x := n) (d := 1) (lv' := [(3, .int (nI (n + 1))), (5, .int (nI (g (2 + n)))), (4, .int (nI 1)), (0, .ref (ad 0)), (1, .ref r), (2, .int (nI v))]) hx hb dX3_layStrength_91 hl rfl (by decide) (by decide) rfl (fun ls hl => ?_)
                refine lv_goto (tgt := 2) hx hb dX3_layStrength_94 (by decide) ?_
                exact ih_2 (n + 1) (up1 f n 0) (by omega) (by omega) (fill_s hf (by have hbs : bas g n = g (2 + n) := (by unfold bas; rw [if_neg (of_decide_eq_false c_35)]); unfold ub; rw [hbs]; split <;> omega)) _ _ _ hP hD hS (lv_sub hl [0, 3, 4, 5] rfl)
              · refine lv_iload hx hb dX3_layStrength_84 (lv_at hl 0 rfl) ?_
                refine lv_goto (tgt := 90) hx hb dX3_layStrength_86 (by decide) ?_
                refine my_iastN (i := n) (x := (g (2 + n))) (g := f) (ws' := gW cI ad r g de ss (up1 f n (g (2 + n)))) hx hb hK hP hD hS 4 0 rfl rfl (by omega) (by decide) dX3_layStrength_90 rfl (fun H locs hP hD hS => ?_)
                refine my_iinc (k := 2) (x := n) (d := 1) (lv' := [(3, .int (nI (n + 1))), (5, .int (nI (g (2 + n)))), (4, .int (nI 1)), (0, .ref (ad 0)), (1, .ref r), (2, .int (nI v))]) hx hb dX3_layStrength_91 hl rfl (by decide) (by decide) rfl (fun ls hl => ?_)
                refine lv_goto (tgt := 2) hx hb dX3_layStrength_94 (by decide) ?_
                exact ih_2 (n + 1) (up1 f n (g (2 + n))) (by omega) (by omega) (fill_s hf (by have hbs : bas g n = g (2 + n) := (by unfold bas; rw [if_neg (of_decide_eq_false c_35)]); unfold ub; rw [hbs]; split <;> omega)) _ _ _ hP hD hS (lv_sub hl [0, 3, 4, 5] rfl)
            · refine lv_bipush (v := nI 7) hx hb dX3_layStrength_51 (by decide) ?_
              refine lv_goto (tgt := 64) hx hb dX3_layStrength_53 (by decide) ?_
              refine lv_istore (lv' := [(5, .int (nI 7)), (4, .int (nI 1)), (3, .int (nI n)), (0, .ref (ad 0)), (1, .ref r), (2, .int (nI v))]) hx hb dX3_layStrength_64 hl (by decide) rfl (fun ls hl => ?_)
              refine lv_aload_n hx hb dX3_layStrength_66 rfl (lv_at hl 4 rfl) ?_
              refine lv_iload_n hx hb dX3_layStrength_67 rfl (lv_at hl 2 rfl) ?_
              refine lv_iload hx hb dX3_layStrength_68 (lv_at hl 1 rfl) ?_
              refine my_if_eqN (x := 1) (tgt := 89) hx hb (by omega) dX3_layStrength_70 (by decide) (fun c_38 => absurd c_38 (by decide)) (fun _ => ?_)
              refine lv_iload hx hb dX3_layStrength_73 (lv_at hl 0 rfl) ?_
              refine lv_aload_n hx hb dX3_layStrength_75 rfl (lv_at hl 3 rfl) ?_
              refine va_get (D := (dC, dI)) (ci := 3) (v := .ref (ad 4)) (C := RX3) (T := TX3) (N := 8) hx hb hts (fun _ h9 => List.mem_cons_of_mem _ (List.mem_append_right _ h9)) hown hK hP 0 rfl rfl 3 (by decide) (hts (.fieldLink RX3 20 "SwitchLevelSimulatorModel" "definite" "[I") (List.mem_of_getElem? (i := 2) rfl)) (fun _ h9 => h9) rfl dX3_layStrength_76 ?_
              refine lv_iload_n hx hb dX3_layStrength_79 rfl (lv_at hl 2 rfl) ?_
              refine my_iald (i := n) hx hb hK hP 2 0 rfl rfl (by omega) (by decide) dX3_layStrength_80 ?_
              refine my_icmp_lt (x := 7) (y := (de n)) (tgt := 89) hx hb (by omega) (by omega) dX3_layStrength_81 (by decide) (fun c_39 => ?_) (fun c_39 => ?_)
              · refine lv_iconst (v := nI 0) hx hb dX3_layStrength_89 (by decide) ?_
                refine my_iastN (i := n) (x := 0) (g := f) (ws' := gW cI ad r g de ss (up1 f n 0)) hx hb hK hP hD hS 4 0 rfl rfl (by omega) (by decide) dX3_layStrength_90 rfl (fun H locs hP hD hS => ?_)
                refine my_iinc (k := 2) (x := n) (d := 1) (lv' := [(3, .int (nI (n + 1))), (5, .int (nI 7)), (4, .int (nI 1)), (0, .ref (ad 0)), (1, .ref r), (2, .int (nI v))]) hx hb dX3_layStrength_91 hl rfl (by decide) (by decide) rfl (fun ls hl => ?_)
                refine lv_goto (tgt := 2) hx hb dX3_layStrength_94 (by decide) ?_
                exact ih_2 (n + 1) (up1 f n 0) (by omega) (by omega) (fill_s hf (by have hbs : bas g n = 7 := (by unfold bas; rw [if_pos (of_decide_eq_true c_35)]); unfold ub; rw [hbs]; split <;> omega)) _ _ _ hP hD hS (lv_sub hl [0, 3, 4, 5] rfl)
              · refine lv_iload hx hb dX3_layStrength_84 (lv_at hl 0 rfl) ?_
                refine lv_goto (tgt := 90) hx hb dX3_layStrength_86 (by decide) ?_
                refine my_iastN (i := n) (x := 7) (g := f) (ws' := gW cI ad r g de ss (up1 f n 7)) hx hb hK hP hD hS 4 0 rfl rfl (by omega) (by decide) dX3_layStrength_90 rfl (fun H locs hP hD hS => ?_)
                refine my_iinc (k := 2) (x := n) (d := 1) (lv' := [(3, .int (nI (n + 1))), (5, .int (nI 7)), (4, .int (nI 1)), (0, .ref (ad 0)), (1, .ref r), (2, .int (nI v))]) hx hb dX3_layStrength_91 hl rfl (by decide) (by decide) rfl (fun ls hl => ?_)
                refine lv_goto (tgt := 2) hx hb dX3_layStrength_94 (by decide) ?_
                exact ih_2 (n + 1) (up1 f n 7) (by omega) (by omega) (fill_s hf (by have hbs : bas g n = 7 := (by unfold bas; rw [if_pos (of_decide_eq_true c_35)]); unfold ub; rw [hbs]; split <;> omega)) _ _ _ hP hD hS (lv_sub hl [0, 3, 4, 5] rfl)
  exact key_2 _ 0 row (Nat.lt_succ_self _) (Nat.zero_le _) fill_0 _ _ _ hP hD hS (lv_sub hl [0, 1, 2, 3] rfl)
abbrev rm_X3_layAll : Room := { frames := 3, cells := 0, slots := 0, locals := 72 }
set_option maxHeartbeats 4000000 in
set_option maxRecDepth 100000 in
theorem c_X3_layAll (l : Launch) (dC : Nat → ClassId) (dI : Nat → Nat → Nat) (cI cZ cR cG : ClassId) (ad : Nat → Nat) (g de ss up dn : Nat → Nat) (ok : okG g) : CV l (dC, dI) (tyL cI cZ cR cG) yX3_layAll wsX3_layAll rm_X3_layAll [.ref (ad 0)] (lW cI ad g de ss up dn) (S := (Nat → Nat) × (Nat → Nat) × (Nat → Nat) × (Nat → Nat)) (fun u => ∀ n, n < g 0 → u.1 n = qF g n ∧ u.2.2.1 n = uF g 1 n ∧ u.2.2.2 n = uF g 0 n) (fun u => lW cI ad g u.1 u.2.1 u.2.2.1 u.2.2.2) := by
  refine CV.of (cc := cX3_layAll) (maxL := 2) (lv := [(0, .ref (ad 0))]) (by decide) rfl (Nat.le_of_ble_eq_true rfl) rfl ?_
  intro p e s m ar below meth c A Qz ls hx hb hml hown hts hnm hA hS hP hK hD hl ret
  have h0 := ok.1
  have h1 := ok.2.1
  refine lv_iconst (v := nI 0) hx hb dX3_layAll_0 (by decide) ?_
  refine lv_istore_n (lv' := [(1, .int (nI 0)), (0, .ref (ad 0))]) hx hb dX3_layAll_1 rfl hl (by decide) rfl (fun ls hl => ?_)
  have key_2 : ∀ (fu : Nat) (t : Nat) (f : Nat → Nat), (g 1 - t) < fu → (t ≤ g 1) → (∀ j, j < t → f j = swS g j) → ∀ (H : Heap) (locs : List Loc) (ls : Array Slot), va_P (dC, dI) vwCl (lW cI ad g de f up dn) H → va_D A (lW cI ad g de f up dn) → va_S A s.heap H locs → lv_has ls 2 [(1, .int (nI t)), (0, .ref (ad 0))] → W p l e rm_X3_layAll s m ar below meth c H locs 0 0 Qz (F0 m 2 ls []) := by
    intro fu
    induction fu with
    | zero => intro t f hmu; exact absurd hmu (Nat.not_lt_zero _)
    | succ fu ih_2 =>
      intro t f hmu_2 ht hf H locs ls hP hD hS hl
      refine lv_iload_n hx hb dX3_layAll_2 rfl (lv_at hl 0 rfl) ?_
      refine lv_aload_n hx hb dX3_layAll_3 rfl (lv_at hl 1 rfl) ?_
      refine CI.callV (As := []) (rest := [.int (nI t)]) (w3 := (fun _ => lW cI ad g de f up dn)) (c_X3_many l dC dI cI cZ cR cG ad g) ⟨hx, hb, hml, hown, hts⟩ (cwV 0 hts gX3_layAll_X3_many rfl rfl rfl (by decide +kernel) ⟨Nat.le_of_ble_eq_true rfl, Nat.le_of_ble_eq_true rfl⟩) rfl hl.1 (Nat.le_of_ble_eq_true rfl) dX3_layAll_4 ⟨Nat.le_of_ble_eq_true rfl, Nat.le_of_ble_eq_true rfl⟩ hA hS hP hK hD [0, 1] [2, 3, 4, 5] rfl rfl (by decide) (by decide) (by decide) 0 3 rfl rfl [4, 5, 0, 1, 2, 3] (by decide) (fun _ => rfl) rfl (fun _ H locs hp_2 hP hD hS => ?_)
      refine my_icmp_ge (x := t) (y := (g 1)) (tgt := 27) hx hb (by omega) (by omega) dX3_layAll_7 (by decide) (fun c_3 => ?_) (fun c_3 => ?_)
      · refine lv_aload_n hx hb dX3_layAll_27 rfl (lv_at hl 1 rfl) ?_
        refine CV.callV (As := []) (rest := []) (w3 := (fun de2 => lW cI ad g de2 f up dn)) (c_X3_layDefinite l dC dI cI cZ cR cG ad g de f (ok) (fun k hk => hf k (by omega))) ⟨hx, hb, hml, hown, hts⟩ (cwV 0 hts gX3_layAll_X3_layDefinite rfl rfl rfl (by decide +kernel) ⟨Nat.le_of_ble_eq_true rfl, Nat.le_of_ble_eq_true rfl⟩) rfl hl.1 (Nat.le_of_ble_eq_true rfl) dX3_layAll_28 ⟨Nat.le_of_ble_eq_true rfl, Nat.le_of_ble_eq_true rfl⟩ hA hS hP hK hD [0, 1, 2, 3] [4, 5] rfl rfl (by decide) (by decide) (by decide) 0 3 rfl rfl [2, 3, 4, 5, 0, 1] (by decide) (fun _ => rfl) rfl (fun de2 H locs hp_4 hP hD hS => ?_)
        have hqd := hp_4
        refine lv_aload_n hx hb dX3_layAll_31 rfl (lv_at hl 1 rfl) ?_
        refine lv_aload_n hx hb dX3_layAll_32 rfl (lv_at hl 1 rfl) ?_
        refine va_get (D := (dC, dI)) (ci := 3) (v := .ref (ad 5)) (C := RX3) (T := TX3) (N := 8) hx hb hts (fun _ h9 => List.mem_cons_of_mem _ (List.mem_append_right _ h9)) hown hK hP 0 rfl rfl 4 (by decide) (hts (.fieldLink RX3 23 "SwitchLevelSimulatorModel" "up" "[I") (List.mem_of_getElem? (i := 2) rfl)) (fun _ h9 => h9) rfl dX3_layAll_33 ?_
        refine lv_iconst (v := nI 1) hx hb dX3_layAll_36 (by decide) ?_
        refine CV.callV (As := [.ref (ad 5), .int (nI 1)]) (rest := []) (w3 := (fun up2 => lW cI ad g de2 f up2 dn)) (c_X3_layStrength l dC dI cI cZ cR cG ad (ad 5) g de2 f up 1 (ok) (fun k hk => hf k (by omega)) (hqd) (by decide)) ⟨hx, hb, hml, hown, hts⟩ (cwV 2 hts gX3_layAll_X3_layStrength rfl rfl rfl (by decide +kernel) ⟨Nat.le_of_ble_eq_true rfl, Nat.le_of_ble_eq_true rfl⟩) rfl hl.1 (Nat.le_of_ble_eq_true rfl) dX3_layAll_37 ⟨Nat.le_of_ble_eq_true rfl, Nat.le_of_ble_eq_true rfl⟩ hA hS hP hK hD [0, 1, 2, 3, 4] [5] rfl rfl (by decide) (by decide) (by decide) 0 3 rfl rfl [1, 2, 3, 4, 5, 0] (by decide) (fun _ => rfl) rfl (fun up2 H locs hp_5 hP hD hS => ?_)
        have hqu := hp_5
        refine lv_aload_n hx hb dX3_layAll_40 rfl (lv_at hl 1 rfl) ?_
        refine lv_aload_n hx hb dX3_layAll_41 rfl (lv_at hl 1 rfl) ?_
        refine va_get (D := (dC, dI)) (ci := 3) (v := .ref (ad 6)) (C := RX3) (T := TX3) (N := 8) hx hb hts (fun _ h9 => List.mem_cons_of_mem _ (List.mem_append_right _ h9)) hown hK hP 0 rfl rfl 5 (by decide) (hts (.fieldLink RX3 26 "SwitchLevelSimulatorModel" "down" "[I") (List.mem_of_getElem? (i := 3) rfl)) (fun _ h9 => h9) rfl dX3_layAll_42 ?_
        refine lv_iconst (v := nI 0) hx hb dX3_layAll_45 (by decide) ?_
        refine CV.callV (As := [.ref (ad 6), .int (nI 0)]) (rest := []) (w3 := (fun dn2 => lW cI ad g de2 f up2 dn2)) (c_X3_layStrength l dC dI cI cZ cR cG ad (ad 6) g de2 f dn 0 (ok) (fun k hk => hf k (by omega)) (hqd) (by decide)) ⟨hx, hb, hml, hown, hts⟩ (cwV 2 hts gX3_layAll_X3_layStrength rfl rfl rfl (by decide +kernel) ⟨Nat.le_of_ble_eq_true rfl, Nat.le_of_ble_eq_true rfl⟩) rfl hl.1 (Nat.le_of_ble_eq_true rfl) dX3_layAll_46 ⟨Nat.le_of_ble_eq_true rfl, Nat.le_of_ble_eq_true rfl⟩ hA hS hP hK hD [0, 1, 2, 3, 5] [4] rfl rfl (by decide) (by decide) (by decide) 0 3 rfl rfl [1, 2, 3, 4, 0, 5] (by decide) (fun _ => rfl) rfl (fun dn2 H locs hp_6 hP hD hS => ?_)
        have hqn := hp_6
        exact ret (de2, f, up2, dn2) _ _ _ _ _ _ _ (fun n hn => ⟨hqd n hn, hqu n hn, hqn n hn⟩) (rfl) hP hD hS (Nat.le_of_ble_eq_true rfl) (Nat.le_of_ble_eq_true rfl) dX3_layAll_49
      · refine lv_aload_n hx hb dX3_layAll_10 rfl (lv_at hl 1 rfl) ?_
        refine va_get (D := (dC, dI)) (ci := 3) (v := .ref (ad 7)) (C := RX3) (T := TX3) (N := 8) hx hb hts (fun _ h9 => List.mem_cons_of_mem _ (List.mem_append_right _ h9)) hown hK hP 0 rfl rfl 6 (by decide) (hts (.fieldLink RX3 29 "SwitchLevelSimulatorModel" "states" "[I") (List.mem_of_getElem? (i := 1) rfl)) (fun _ h9 => h9) rfl dX3_layAll_11 ?_
        refine lv_iload_n hx hb dX3_layAll_14 rfl (lv_at hl 0 rfl) ?_
        refine lv_aload_n hx hb dX3_layAll_15 rfl (lv_at hl 1 rfl) ?_
        refine lv_iload_n hx hb dX3_layAll_16 rfl (lv_at hl 0 rfl) ?_
        refine CI.callV (As := [.int (nI t)]) (rest := [.int (nI t), .ref (ad 7)]) (w3 := (fun _ => lW cI ad g de f up dn)) (c_X3_stateOf l dC dI cI cZ cR cG ad g t (ok) (by omega)) ⟨hx, hb, hml, hown, hts⟩ (cwV 1 hts gX3_layAll_X3_stateOf rfl rfl rfl (by decide +kernel) ⟨Nat.le_of_ble_eq_true rfl, Nat.le_of_ble_eq_true rfl⟩) rfl hl.1 (Nat.le_of_ble_eq_true rfl) dX3_layAll_17 ⟨Nat.le_of_ble_eq_true rfl, Nat.le_of_ble_eq_true rfl⟩ hA hS hP hK hD [0, 1] [2, 3, 4, 5] rfl rfl (by decide) (by decide) (by decide) 0 3 rfl rfl [4, 5, 0, 1, 2, 3] (by decide) (fun _ => rfl) rfl (fun _ H locs hp_7 hP hD hS => ?_)
        refine my_iastN (i := t) (x := (swS g t)) (g := f) (ws' := lW cI ad g de (up1 f t (swS g t)) up dn) hx hb hK hP hD hS 3 0 rfl rfl (by omega) (by decide) dX3_layAll_20 rfl (fun H locs hP hD hS => ?_)
        refine my_iinc (k := 0) (x := t) (d := 1) (lv' := [(1, .int (nI (t + 1))), (0, .ref (ad 0))]) hx hb dX3_layAll_21 hl rfl (by decide) (by decide) rfl (fun ls hl => ?_)
        refine lv_goto (tgt := 2) hx hb dX3_layAll_24 (by decide) ?_
        exact ih_2 (t + 1) (up1 f t (swS g t)) (by omega) (by omega) (fill_s hf rfl) _ _ _ hP hD hS (lv_sub hl [0, 1] rfl)
  exact key_2 _ 0 ss (Nat.lt_succ_self _) (Nat.zero_le _) fill_0 _ _ _ hP hD hS (lv_sub hl [0, 1] rfl)
end
