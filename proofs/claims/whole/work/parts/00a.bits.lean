/-! sets of nodes as ints: bits (begun with the kit's rows to paste), masks out of predicates -/
def bt (x : Int32) (i : Nat) : Bool := x.toBitVec.getLsbD i
theorem b_ext {x y : Int32} (h : ∀ i, i < 32 → bt x i = bt y i) : x = y := Int32.toBitVec_inj.mp (BitVec.eq_of_getLsbD_eq (fun i hi => h i hi))
theorem b_or (x y : Int32) (i : Nat) : bt (x ||| y) i = (bt x i || bt y i) := by unfold bt; rw [Int32.toBitVec_or, BitVec.getLsbD_or]
theorem b_and (x y : Int32) (i : Nat) : bt (x &&& y) i = (bt x i && bt y i) := by unfold bt; rw [Int32.toBitVec_and, BitVec.getLsbD_and]
theorem b_xor (x y : Int32) (i : Nat) : bt (x ^^^ y) i = (bt x i ^^ bt y i) := by unfold bt; rw [Int32.toBitVec_xor, BitVec.getLsbD_xor]
theorem b_m1 : ∀ i, i < 32 → bt (-1) i = true := by decide +kernel
theorem b_0 (i : Nat) : bt 0 i = false := BitVec.getLsbD_zero
theorem b_1 : ∀ i, i < 32 → bt 1 i = decide (i = 0) := by decide +kernel
theorem s_l : ∀ n, n < 32 → ((nI n &&& 31).toBitVec.smod 32).toNat = n := by decide +kernel
theorem b_shl (n : Nat) (hn : n < 32) (x : Int32) {i : Nat} (hi : i < 32) : bt (x <<< (nI n &&& 31)) i = (decide (n ≤ i) && bt x (i - n)) := by
  unfold bt
  rw [Int32.toBitVec_shiftLeft]
  show (x.toBitVec <<< ((nI n &&& 31).toBitVec.smod 32).toNat).getLsbD i = _
  rw [s_l n hn, BitVec.getLsbD_shiftLeft]
  rcases Nat.lt_or_ge i n with h | h
  · simp [h, Nat.not_le.mpr h]
  · simp [hi, h, Nat.not_lt.mpr h]
theorem b_sshr (n : Nat) (hn : n < 32) (x : Int32) {i : Nat} (hi : i < 32) : bt (x >>> (nI n &&& 31)) i = if n + i < 32 then bt x (n + i) else bt x 31 := by
  unfold bt
  rw [Int32.toBitVec_shiftRight]
  show (x.toBitVec.sshiftRight ((nI n &&& 31).toBitVec.smod 32).toNat).getLsbD i = _
  rw [s_l n hn, BitVec.getLsbD_sshiftRight, BitVec.msb_eq_getLsbD_last]
  simp [hi]
theorem b_bit (k : Nat) (hk : k < 32) {i : Nat} (hi : i < 32) : bt ((1 : Int32) <<< (nI k &&& 31)) i = decide (i = k) := by
  rw [b_shl k hk 1 hi]
  by_cases h : k ≤ i
  · rw [b_1 (i - k) (by omega)]
    by_cases e : i = k
    · subst e; simp
    · rw [decide_eq_false (show ¬ i - k = 0 by omega), decide_eq_false e]; simp
  · rw [decide_eq_false h, decide_eq_false (show ¬ i = k by omega)]; rfl
/-- a Boolean as the machine has it -/
def bI (b : Bool) : Int32 := if b then 1 else 0
theorem bI_t : bI true = 1 := rfl
theorem bI_f : bI false = 0 := rfl
theorem bI_0 {b : Bool} : bI b = 0 ↔ b = false := by cases b <;> decide
theorem bI_n0 {b : Bool} : ¬ bI b = 0 ↔ b = true := by cases b <;> decide
/-- the set of the i below n with p i -/
def mk (p : Nat → Bool) : Nat → Int32
  | 0 => 0
  | n + 1 => mk p n ||| (if p n then (1 : Int32) <<< (nI n &&& 31) else 0)
theorem b_mk (p : Nat → Bool) : ∀ n, n ≤ 32 → ∀ i, i < 32 → bt (mk p n) i = (decide (i < n) && p i)
  | 0, _, i, _ => by rw [mk, b_0]; simp
  | n + 1, h, i, hi => by
    rw [mk, b_or, b_mk p n (by omega) i hi]
    by_cases e : i = n
    · subst e
      cases hp : p i
      · simp [b_0]
      · simp [b_bit i hi hi]
    · have h2 : bt (if p n = true then (1 : Int32) <<< (nI n &&& 31) else 0) i = false := by
        cases hp : p n
        · simp [b_0]
        · simp [b_bit n (by omega) hi, e]
      rw [h2, Bool.or_false]
      congr 1
      by_cases g : i < n
      · rw [decide_eq_true g, decide_eq_true (show i < n + 1 by omega)]
      · rw [decide_eq_false g, decide_eq_false (show ¬ i < n + 1 by omega)]
def msk (p : Nat → Bool) : Int32 := mk p 24
theorem b_msk (p : Nat → Bool) (i : Nat) (hi : i < 32) : bt (msk p) i = (decide (i < 24) && p i) := b_mk p 24 (by omega) i hi
theorem b_mskL (p : Nat → Bool) (i : Nat) (hi : i < 24) : bt (msk p) i = p i := by rw [b_msk p i (by omega), decide_eq_true hi, Bool.true_and]
theorem msk_cong {p q : Nat → Bool} (h : ∀ i, i < 24 → p i = q i) : msk p = msk q := b_ext fun i hi => by
  rw [b_msk p i hi, b_msk q i hi]
  by_cases g : i < 24
  · rw [h i g]
  · rw [decide_eq_false g]; rfl
theorem msk_inj {p q : Nat → Bool} (h : msk p = msk q) : ∀ i, i < 24 → p i = q i := fun i hi => by rw [← b_mskL p i hi, h, b_mskL q i hi]
theorem mk_msk (p : Nat → Bool) (n : Nat) (hn : n ≤ 24) : mk p n = msk (fun i => decide (i < n) && p i) := b_ext fun i hi => by
  rw [b_mk p n (by omega) i hi, b_msk _ i hi]
  by_cases g : i < 24
  · rw [decide_eq_true g]; simp
  · rw [decide_eq_false g, decide_eq_false (show ¬ i < n by omega)]; rfl
theorem msk_or (p q : Nat → Bool) : msk p ||| msk q = msk (fun i => p i || q i) := b_ext fun i hi => by
  rw [b_or, b_msk p i hi, b_msk q i hi, b_msk _ i hi]
  cases decide (i < 24) <;> simp
theorem msk_and (p q : Nat → Bool) : msk p &&& msk q = msk (fun i => p i && q i) := b_ext fun i hi => by
  rw [b_and, b_msk p i hi, b_msk q i hi, b_msk _ i hi]
  cases decide (i < 24) <;> simp
theorem msk_xor (p q : Nat → Bool) : msk p ^^^ msk q = msk (fun i => p i ^^ q i) := b_ext fun i hi => by
  rw [b_xor, b_msk p i hi, b_msk q i hi, b_msk _ i hi]
  cases decide (i < 24) <;> simp
theorem msk_andnot (p q : Nat → Bool) : msk p &&& (msk q ^^^ (-1)) = msk (fun i => p i && !q i) := b_ext fun i hi => by
  rw [b_and, b_xor, b_m1 i hi, b_msk p i hi, b_msk q i hi, b_msk _ i hi]
  cases decide (i < 24) <;> simp
theorem msk_bit (k : Nat) (hk : k < 24) : (1 : Int32) <<< (nI k &&& 31) = msk (fun i => decide (i = k)) := b_ext fun i hi => by
  rw [b_bit k (by omega) hi, b_msk _ i hi]
  by_cases e : i = k
  · subst e; simp [hk]
  · simp [e]
theorem msk_none : msk (fun _ => false) = 0 := by decide +kernel
theorem msk_zero {p : Nat → Bool} : msk p = 0 ↔ ∀ i, i < 24 → p i = false := by
  rw [← msk_none]
  exact ⟨fun h i hi => msk_inj h i hi, fun h => msk_cong h⟩
theorem msk_at (p : Nat → Bool) (k : Nat) (hk : k < 24) : (msk p &&& ((1 : Int32) <<< (nI k &&& 31))) = 0 ↔ p k = false := by
  rw [msk_bit k hk, msk_and, msk_zero]
  constructor
  · intro h
    have := h k hk
    simpa using this
  · intro h i _
    by_cases e : i = k
    · subst e; simp [h]
    · simp [e]
theorem msk_shr (p : Nat → Bool) (k : Nat) (hk : k < 24) : (msk p >>> (nI k &&& 31)) &&& 1 = bI (p k) := b_ext fun i hi => by
  rw [b_and, b_sshr k (by omega) _ hi, b_1 i hi]
  by_cases e : i = 0
  · subst e
    rw [if_pos (by omega), Nat.add_zero, b_mskL p k hk]
    cases p k <;> decide
  · rw [decide_eq_false e, Bool.and_false]
    cases p k
    · exact (b_0 i).symm
    · rw [bI_t, b_1 i hi, decide_eq_false e]
theorem bI_or (a b : Bool) : bI a ||| bI b = bI (a || b) := by cases a <;> cases b <;> decide
theorem bI_xor (a b : Bool) : bI a ^^^ bI b = bI (a ^^ b) := by cases a <;> cases b <;> decide
theorem bI_nI (b : Bool) : bI b = nI (if b then 1 else 0) := by cases b <;> decide
/-- the lowest one of a set: what stands without it, what stands below it -/
theorem low_sub {p : Nat → Bool} {k : Nat} (hk : k < 24) (h : p k = true) (hl : ∀ i, i < k → p i = false) : msk p - 1 = msk (fun i => (p i && !decide (i = k)) || decide (i < k)) := by
  have e1 : ∀ k, k < 24 → (1 : Int32) <<< (nI k &&& 31) - 1 = msk (fun i => decide (i < k)) := by decide +kernel
  have e2 : msk p = msk (fun i => p i && !decide (i = k)) + (1 : Int32) <<< (nI k &&& 31) := by
    have h0 : msk (fun i => p i && !decide (i = k)) &&& msk (fun i => decide (i = k)) = 0 := by
      rw [msk_and, msk_zero]
      intro i _
      cases p i <;> simp
    rw [msk_bit k hk]
    have h1 : msk (fun i => p i && !decide (i = k)) + msk (fun i => decide (i = k)) = msk (fun i => p i && !decide (i = k)) ||| msk (fun i => decide (i = k)) := by
      apply Int32.toBitVec_inj.mp
      rw [Int32.toBitVec_add, Int32.toBitVec_or]
      apply BitVec.add_eq_or_of_and_eq_zero
      rw [← Int32.toBitVec_and, h0]
      rfl
    rw [h1, msk_or]
    apply msk_cong
    intro i _
    by_cases e : i = k
    · subst e; simp [h]
    · simp [e]
  have h3 : msk (fun i => p i && !decide (i = k)) &&& msk (fun i => decide (i < k)) = 0 := by
    rw [msk_and, msk_zero]
    intro i _
    by_cases e : i < k
    · simp [hl i e]
    · simp [e]
  rw [e2, show msk (fun i => p i && !decide (i = k)) + (1 : Int32) <<< (nI k &&& 31) - 1 = msk (fun i => p i && !decide (i = k)) + ((1 : Int32) <<< (nI k &&& 31) - 1) from by rw [Int32.sub_eq_add_neg, Int32.sub_eq_add_neg, Int32.add_assoc], e1 k hk, ← msk_or]
  apply Int32.toBitVec_inj.mp
  rw [Int32.toBitVec_add, Int32.toBitVec_or]
  apply BitVec.add_eq_or_of_and_eq_zero
  rw [← Int32.toBitVec_and, h3]
  rfl
theorem low_out {p : Nat → Bool} {k : Nat} (hk : k < 24) (h : p k = true) (hl : ∀ i, i < k → p i = false) : msk p &&& (msk p - 1) = msk (fun i => p i && !decide (i = k)) := by
  rw [low_sub hk h hl, msk_and]
  apply msk_cong
  intro i _
  by_cases e : i < k
  · simp [hl i e]
  · simp [e]
theorem low_below {p : Nat → Bool} {k : Nat} (hk : k < 24) (h : p k = true) (hl : ∀ i, i < k → p i = false) : (msk p ^^^ (-1)) &&& (msk p - 1) = msk (fun i => decide (i < k)) := by
  rw [low_sub hk h hl, show ∀ a b : Int32, a &&& b = b &&& a from fun a b => Int32.and_comm a b, msk_andnot]
  apply msk_cong
  intro i _
  by_cases e : i < k
  · simp [hl i e, e]
  · cases p i <;> simp [e]
theorem first_of (p : Nat → Bool) : ∀ n, (∀ i, i < n → p i = false) ∨ ∃ k, k < n ∧ p k = true ∧ ∀ i, i < k → p i = false
  | 0 => Or.inl fun _ h => absurd h (Nat.not_lt_zero _)
  | n + 1 => by
    rcases first_of p n with h | ⟨k, h1, h2, h3⟩
    · cases hp : p n
      · refine Or.inl fun i hi => ?_
        rcases Nat.lt_or_ge i n with g | g
        · exact h i g
        · rw [show i = n by omega]; exact hp
      · exact Or.inr ⟨n, by omega, hp, h⟩
    · exact Or.inr ⟨k, by omega, h2, h3⟩
/-- Integer.numberOfTrailingZeros, behind its first row -/
def ntz4 (n i : Int32) : Int32 := n + (i.toUInt32 >>> ((1 : Int32).toUInt32 &&& Int32.toUInt32 31)).toInt32
def ntz3 (n i : Int32) : Int32 := if i ≤ 4 then ntz4 n i else ntz4 (n + 2) (i.toUInt32 >>> ((2 : Int32).toUInt32 &&& Int32.toUInt32 31)).toInt32
def ntz2 (n i : Int32) : Int32 := if i ≤ 16 then ntz3 n i else ntz3 (n + 4) (i.toUInt32 >>> ((4 : Int32).toUInt32 &&& Int32.toUInt32 31)).toInt32
def ntz1 (n i : Int32) : Int32 := if i ≤ 256 then ntz2 n i else ntz2 (n + 8) (i.toUInt32 >>> ((8 : Int32).toUInt32 &&& Int32.toUInt32 31)).toInt32
def ntz0 (n i : Int32) : Int32 := if i ≤ 65536 then ntz1 n i else ntz1 (n + 16) (i.toUInt32 >>> ((16 : Int32).toUInt32 &&& Int32.toUInt32 31)).toInt32
def ntzG (i : Int32) : Int32 := if i ≤ 0 then i &&& 32 else ntz0 1 i
def ntzF (x : Int32) : Int32 := ntzG ((x ^^^ (-1)) &&& (x - 1))
theorem ntz_low {p : Nat → Bool} {k : Nat} (hk : k < 24) (h : p k = true) (hl : ∀ i, i < k → p i = false) : ntzF (msk p) = nI k := by
  have e : ∀ k, k < 24 → ntzG (msk (fun i => decide (i < k))) = nI k := by decide +kernel
  rw [ntzF, low_below hk h hl, e k hk]
theorem ntz_none : ntzF 0 = nI 32 := by decide +kernel
/-- Integer.bitCount -/
def ush (x : Int32) (k : Int32) : Int32 := (x.toUInt32 >>> (k.toUInt32 &&& Int32.toUInt32 31)).toInt32
def bcF (x : Int32) : Int32 :=
  let a := x - (ush x 1 &&& 1431655765)
  let b := (a &&& 858993459) + (ush a 2 &&& 858993459)
  let c := (b + ush b 4) &&& 252645135
  let d := c + ush c 8
  let e := d + ush d 16
  e &&& 63
