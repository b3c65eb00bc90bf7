/-! Integer.bitCount of a set -/
theorem and_cut (a b : Nat) : a &&& b = 256 * (a / 256 &&& b / 256) + (a % 256 &&& b % 256) := by
  have h1 : (a &&& b) / 2 ^ 8 = a / 2 ^ 8 &&& b / 2 ^ 8 := Nat.and_div_two_pow
  have h2 : (a &&& b) % 2 ^ 8 = a % 2 ^ 8 &&& b % 2 ^ 8 := Nat.and_mod_two_pow
  have h3 := Nat.div_add_mod (a &&& b) (2 ^ 8)
  rw [h1, h2] at h3
  exact h3.symm
theorem nI_and (a b : Nat) : nI a &&& nI b = nI (a &&& b) := by
  apply Int32.toBitVec_inj.1
  show BitVec.ofNat 32 a &&& BitVec.ofNat 32 b = BitVec.ofNat 32 (a &&& b)
  apply BitVec.eq_of_getLsbD_eq
  intro i hi
  simp [hi]
theorem nI_or (a b : Nat) : nI a ||| nI b = nI (a ||| b) := by
  apply Int32.toBitVec_inj.1
  show BitVec.ofNat 32 a ||| BitVec.ofNat 32 b = BitVec.ofNat 32 (a ||| b)
  apply BitVec.eq_of_getLsbD_eq
  intro i hi
  simp [hi]
theorem and3 {a0 a1 a2 m : Nat} (h0 : a0 < 256) (h1 : a1 < 256) (h2 : a2 < 256) (hm : m < 256) : (a0 + 256 * a1 + 65536 * a2) &&& (m + 256 * m + 65536 * m + 16777216 * m) = (a0 &&& m) + 256 * (a1 &&& m) + 65536 * (a2 &&& m) := by
  rw [and_cut (a0 + 256 * a1 + 65536 * a2), show (a0 + 256 * a1 + 65536 * a2) / 256 = a1 + 256 * a2 by omega, show (a0 + 256 * a1 + 65536 * a2) % 256 = a0 by omega, show (m + 256 * m + 65536 * m + 16777216 * m) / 256 = m + 256 * m + 65536 * m by omega, show (m + 256 * m + 65536 * m + 16777216 * m) % 256 = m by omega]
  rw [and_cut (a1 + 256 * a2), show (a1 + 256 * a2) / 256 = a2 by omega, show (a1 + 256 * a2) % 256 = a1 by omega, show (m + 256 * m + 65536 * m) / 256 = m + 256 * m by omega, show (m + 256 * m + 65536 * m) % 256 = m by omega]
  rw [and_cut a2 (m + 256 * m), show a2 / 256 = 0 by omega, show a2 % 256 = a2 by omega, show (m + 256 * m) % 256 = m by omega, Nat.zero_and]
  omega
/-- the bits of a byte -/
def pc8 (v : Nat) : Nat := ct (fun i => v.testBit i) 8
def s1 (v : Nat) : Nat := v - (v / 2 &&& 85)
def s2 (a : Nat) : Nat := (a &&& 51) + (a / 4 &&& 51)
theorem by1 : ∀ v, v < 256 → ∀ e, e < 2 → (v / 2 + 128 * e) &&& 85 = v / 2 &&& 85 := by decide +kernel
theorem by1b : ∀ v, v < 256 → (v / 2 &&& 85) ≤ v ∧ s1 v < 256 := by decide +kernel
theorem by2 : ∀ a, a < 256 → ∀ e, e < 4 → (a / 4 + 64 * e) &&& 51 = a / 4 &&& 51 := by decide +kernel
theorem by3 : ∀ v, v < 256 → s2 (s1 v) ≤ 68 ∧ s2 (s1 v) % 16 ≤ 4 ∧ pc8 v ≤ 8 := by decide +kernel
theorem by4 : ∀ v, v < 256 → ∀ e, e < 5 → (s2 (s1 v) + s2 (s1 v) / 16 + 16 * e) &&& 15 = pc8 v := by decide +kernel
def bcN (x : Nat) : Nat :=
  let a := x - (x / 2 &&& 1431655765)
  let b := (a &&& 858993459) + (a / 4 &&& 858993459)
  let c := (b + b / 16) &&& 252645135
  let d := c + c / 256
  let e := d + d / 65536
  e &&& 63
theorem fin3 {p q r : Nat} (hp : p ≤ 8) (hq : q ≤ 8) (hr : r ≤ 8) : ((p + 256 * q + 65536 * r + (p + 256 * q + 65536 * r) / 256) + (p + 256 * q + 65536 * r + (p + 256 * q + 65536 * r) / 256) / 65536) % 2 ^ 6 = p + q + r := by
  rw [show (p + 256 * q + 65536 * r) / 256 = q + 256 * r by omega, show (p + 256 * q + 65536 * r + (q + 256 * r)) / 65536 = r by omega, show p + 256 * q + 65536 * r + (q + 256 * r) + r = (p + q + r) + 64 * (4 * q + 1024 * r + 4 * r) by omega, Nat.add_mul_mod_self_left]
  omega
theorem bcN_eq {b0 b1 b2 : Nat} (h0 : b0 < 256) (h1 : b1 < 256) (h2 : b2 < 256) : bcN (b0 + 256 * b1 + 65536 * b2) = pc8 b0 + pc8 b1 + pc8 b2 := by
  have t1 : (b0 + 256 * b1 + 65536 * b2) / 2 &&& 1431655765 = (b0 / 2 &&& 85) + 256 * (b1 / 2 &&& 85) + 65536 * (b2 / 2 &&& 85) := by
    rw [show (b0 + 256 * b1 + 65536 * b2) / 2 = (b0 / 2 + 128 * (b1 % 2)) + 256 * (b1 / 2 + 128 * (b2 % 2)) + 65536 * (b2 / 2 + 128 * 0) by omega]
    have := and3 (a0 := b0 / 2 + 128 * (b1 % 2)) (a1 := b1 / 2 + 128 * (b2 % 2)) (a2 := b2 / 2 + 128 * 0) (m := 85) (by omega) (by omega) (by omega) (by omega)
    rw [by1 b0 h0 _ (by omega), by1 b1 h1 _ (by omega), by1 b2 h2 _ (by omega)] at this
    exact this
  have g0 := by1b b0 h0
  have g1 := by1b b1 h1
  have g2 := by1b b2 h2
  have e1 : (b0 + 256 * b1 + 65536 * b2) - ((b0 + 256 * b1 + 65536 * b2) / 2 &&& 1431655765) = s1 b0 + 256 * s1 b1 + 65536 * s1 b2 := by
    rw [t1]
    unfold s1
    omega
  have k0 := by3 b0 h0
  have k1 := by3 b1 h1
  have k2 := by3 b2 h2
  have e2 : ((s1 b0 + 256 * s1 b1 + 65536 * s1 b2) &&& 858993459) + ((s1 b0 + 256 * s1 b1 + 65536 * s1 b2) / 4 &&& 858993459) = s2 (s1 b0) + 256 * s2 (s1 b1) + 65536 * s2 (s1 b2) := by
    have u1 := and3 (a0 := s1 b0) (a1 := s1 b1) (a2 := s1 b2) (m := 51) g0.2 g1.2 g2.2 (by omega)
    have u2 := and3 (a0 := s1 b0 / 4 + 64 * (s1 b1 % 4)) (a1 := s1 b1 / 4 + 64 * (s1 b2 % 4)) (a2 := s1 b2 / 4 + 64 * 0) (m := 51) (by omega) (by omega) (by omega) (by omega)
    rw [by2 _ g0.2 _ (by omega), by2 _ g1.2 _ (by omega), by2 _ g2.2 _ (by omega)] at u2
    rw [show (s1 b0 + 256 * s1 b1 + 65536 * s1 b2) / 4 = (s1 b0 / 4 + 64 * (s1 b1 % 4)) + 256 * (s1 b1 / 4 + 64 * (s1 b2 % 4)) + 65536 * (s1 b2 / 4 + 64 * 0) by omega]
    have u1' : (s1 b0 + 256 * s1 b1 + 65536 * s1 b2) &&& 858993459 = (s1 b0 &&& 51) + 256 * (s1 b1 &&& 51) + 65536 * (s1 b2 &&& 51) := u1
    have u2' : (s1 b0 / 4 + 64 * (s1 b1 % 4) + 256 * (s1 b1 / 4 + 64 * (s1 b2 % 4)) + 65536 * (s1 b2 / 4 + 64 * 0)) &&& 858993459 = (s1 b0 / 4 &&& 51) + 256 * (s1 b1 / 4 &&& 51) + 65536 * (s1 b2 / 4 &&& 51) := u2
    rw [u1', u2']
    unfold s2
    omega
  have e3 : ((s2 (s1 b0) + 256 * s2 (s1 b1) + 65536 * s2 (s1 b2)) + (s2 (s1 b0) + 256 * s2 (s1 b1) + 65536 * s2 (s1 b2)) / 16) &&& 252645135 = pc8 b0 + 256 * pc8 b1 + 65536 * pc8 b2 := by
    have u := and3 (a0 := s2 (s1 b0) + s2 (s1 b0) / 16 + 16 * (s2 (s1 b1) % 16)) (a1 := s2 (s1 b1) + s2 (s1 b1) / 16 + 16 * (s2 (s1 b2) % 16)) (a2 := s2 (s1 b2) + s2 (s1 b2) / 16 + 16 * 0) (m := 15) (by omega) (by omega) (by omega) (by omega)
    rw [by4 _ h0 _ (by omega), by4 _ h1 _ (by omega), by4 _ h2 _ (by omega)] at u
    rw [show (s2 (s1 b0) + 256 * s2 (s1 b1) + 65536 * s2 (s1 b2)) + (s2 (s1 b0) + 256 * s2 (s1 b1) + 65536 * s2 (s1 b2)) / 16 = (s2 (s1 b0) + s2 (s1 b0) / 16 + 16 * (s2 (s1 b1) % 16)) + 256 * (s2 (s1 b1) + s2 (s1 b1) / 16 + 16 * (s2 (s1 b2) % 16)) + 65536 * (s2 (s1 b2) + s2 (s1 b2) / 16 + 16 * 0) by omega]
    exact u
  show ((fun a => (fun b => (fun c => (fun d => (d + d / 65536) &&& 63) (c + c / 256)) ((b + b / 16) &&& 252645135)) ((a &&& 858993459) + (a / 4 &&& 858993459))) ((b0 + 256 * b1 + 65536 * b2) - ((b0 + 256 * b1 + 65536 * b2) / 2 &&& 1431655765))) = _
  rw [e1]
  show ((fun b => (fun c => (fun d => (d + d / 65536) &&& 63) (c + c / 256)) ((b + b / 16) &&& 252645135)) (((s1 b0 + 256 * s1 b1 + 65536 * s1 b2) &&& 858993459) + ((s1 b0 + 256 * s1 b1 + 65536 * s1 b2) / 4 &&& 858993459))) = _
  rw [e2]
  show ((fun c => (fun d => (d + d / 65536) &&& 63) (c + c / 256)) (((s2 (s1 b0) + 256 * s2 (s1 b1) + 65536 * s2 (s1 b2)) + (s2 (s1 b0) + 256 * s2 (s1 b1) + 65536 * s2 (s1 b2)) / 16) &&& 252645135)) = _
  rw [e3]
  show ((pc8 b0 + 256 * pc8 b1 + 65536 * pc8 b2 + (pc8 b0 + 256 * pc8 b1 + 65536 * pc8 b2) / 256) + (pc8 b0 + 256 * pc8 b1 + 65536 * pc8 b2 + (pc8 b0 + 256 * pc8 b1 + 65536 * pc8 b2) / 256) / 65536) &&& 63 = _
  rw [show (63 : Nat) = 2 ^ 6 - 1 from rfl, Nat.and_two_pow_sub_one_eq_mod]
  exact fin3 k0.2.2 k1.2.2 k2.2.2
theorem ush_nI {n k : Nat} (hn : n < 2 ^ 32) (hk : k < 32) : ush (nI n) (nI k) = nI (n / 2 ^ k) := by
  have e : ∀ k, k < 32 → (((nI k).toUInt32 &&& Int32.toUInt32 31).toBitVec % 32).toNat = k := by decide +kernel
  exact pk_ushrN hn (nI k) k (e k hk)
theorem bcF_nI {x : Nat} (h : x < 2 ^ 24) : bcF (nI x) = nI (bcN x) := by
  have t : (x / 2 &&& 1431655765) ≤ x := Nat.le_trans Nat.and_le_left (Nat.div_le_self _ _)
  show (fun a => (fun b => (fun c => (fun d => (fun e => e &&& 63) (d + ush d 16)) (c + ush c 8)) ((b + ush b 4) &&& 252645135)) ((a &&& 858993459) + (ush a 2 &&& 858993459))) (nI x - (ush (nI x) 1 &&& 1431655765)) = _
  have a1 : nI x - (ush (nI x) 1 &&& 1431655765) = nI (x - (x / 2 &&& 1431655765)) := by
    rw [show ush (nI x) 1 = nI (x / 2 ^ 1) from ush_nI (k := 1) (by omega) (by omega), show (1431655765 : Int32) = nI 1431655765 from rfl, nI_and, pk_sub t]
  have hb : ∀ a m : Nat, (a &&& m) ≤ m := fun a m => Nat.and_le_right
  rw [a1]
  generalize ha : x - (x / 2 &&& 1431655765) = a
  have la : a < 2 ^ 24 := by omega
  have b1 : (nI a &&& 858993459) + (ush (nI a) 2 &&& 858993459) = nI ((a &&& 858993459) + (a / 4 &&& 858993459)) := by
    rw [show ush (nI a) 2 = nI (a / 2 ^ 2) from ush_nI (k := 2) (by omega) (by omega), show (858993459 : Int32) = nI 858993459 from rfl, nI_and, nI_and, nI_add]
  show (fun b => (fun c => (fun d => (fun e => e &&& 63) (d + ush d 16)) (c + ush c 8)) ((b + ush b 4) &&& 252645135)) ((nI a &&& 858993459) + (ush (nI a) 2 &&& 858993459)) = _
  rw [b1]
  have lb : (a &&& 858993459) + (a / 4 &&& 858993459) < 2 ^ 26 := by
    have g1 : (a &&& 858993459) ≤ a := Nat.and_le_left
    have g2 : (a / 4 &&& 858993459) ≤ a / 4 := Nat.and_le_left
    omega
  generalize hbb : (a &&& 858993459) + (a / 4 &&& 858993459) = b at lb ⊢
  have c1 : (nI b + ush (nI b) 4) &&& 252645135 = nI ((b + b / 16) &&& 252645135) := by
    rw [show ush (nI b) 4 = nI (b / 2 ^ 4) from ush_nI (k := 4) (by omega) (by omega), show (252645135 : Int32) = nI 252645135 from rfl, nI_add, nI_and]
  show (fun c => (fun d => (fun e => e &&& 63) (d + ush d 16)) (c + ush c 8)) ((nI b + ush (nI b) 4) &&& 252645135) = _
  rw [c1]
  have lc : ((b + b / 16) &&& 252645135) < 2 ^ 28 := Nat.lt_of_le_of_lt Nat.and_le_right (by omega)
  generalize hcc : ((b + b / 16) &&& 252645135) = c at lc ⊢
  have d1 : nI c + ush (nI c) 8 = nI (c + c / 256) := by
    rw [show ush (nI c) 8 = nI (c / 2 ^ 8) from ush_nI (k := 8) (by omega) (by omega), nI_add]
  show (fun d => (fun e => e &&& 63) (d + ush d 16)) (nI c + ush (nI c) 8) = _
  rw [d1]
  have ld : c + c / 256 < 2 ^ 30 := by omega
  show (fun e => e &&& 63) (nI (c + c / 256) + ush (nI (c + c / 256)) 16) = _
  rw [show ush (nI (c + c / 256)) 16 = nI ((c + c / 256) / 2 ^ 16) from ush_nI (k := 16) (by omega) (by omega), nI_add]
  show nI _ &&& nI 63 = _
  rw [nI_and]
  subst hcc
  subst hbb
  subst ha
  rfl
/-- a set's number -/
def num (p : Nat → Bool) : Nat → Nat
  | 0 => 0
  | n + 1 => num p n + (if p n = true then 2 ^ n else 0)
theorem num_lt (p : Nat → Bool) : ∀ n, num p n < 2 ^ n
  | 0 => by show 0 < 1; decide
  | n + 1 => by
    have := num_lt p n
    rw [num, Nat.pow_succ]
    split <;> omega
theorem mk_num (p : Nat → Bool) : ∀ n, n ≤ 24 → mk p n = nI (num p n)
  | 0, _ => rfl
  | n + 1, h => by
    have e : ∀ n, n < 24 → (1 : Int32) <<< (nI n &&& 31) = nI (2 ^ n) := by decide +kernel
    rw [mk, num, mk_num p n (by omega)]
    by_cases hp : p n = true
    · rw [if_pos hp, if_pos hp, e n (by omega), nI_or]
      congr 1
      have := Nat.two_pow_add_eq_or_of_lt (num_lt p n) 1
      rw [Nat.mul_one] at this
      rw [Nat.or_comm, ← this, Nat.add_comm]
    · rw [if_neg hp, if_neg hp]
      show nI _ ||| nI 0 = _
      rw [nI_or, Nat.or_zero, Nat.add_zero]
theorem num_split (p : Nat → Bool) (k : Nat) : ∀ n, num p (k + n) = num p k + 2 ^ k * num (fun i => p (k + i)) n
  | 0 => by simp [num]
  | n + 1 => by
    show num p (k + n + 1) = _
    rw [num, num, num_split p k n]
    show _ + (if p (k + n) = true then 2 ^ (k + n) else 0) = _ + 2 ^ k * (_ + (if p (k + n) = true then 2 ^ n else 0))
    by_cases hp : p (k + n) = true
    · rw [if_pos hp, if_pos hp, Nat.pow_add, Nat.mul_add, Nat.add_assoc]
    · rw [if_neg hp, if_neg hp]; rfl
theorem ct_split (p : Nat → Bool) (k : Nat) : ∀ n, ct p (k + n) = ct p k + ct (fun i => p (k + i)) n
  | 0 => by simp [ct]
  | n + 1 => by
    show ct p (k + n + 1) = _
    rw [ct, ct, ct_split p k n, Nat.add_assoc]
theorem num_bit (p : Nat → Bool) : ∀ n i, i < n → (num p n).testBit i = p i
  | 0, i, h => absurd h (Nat.not_lt_zero i)
  | n + 1, i, h => by
    rw [num]
    have hl := num_lt p n
    by_cases hp : p n = true
    · rw [if_pos hp, Nat.add_comm]
      rcases Nat.lt_or_ge i n with c | c
      · rw [Nat.testBit_two_pow_add_gt c]; exact num_bit p n i c
      · have e : i = n := by omega
        subst e
        rw [Nat.testBit_two_pow_add_eq, Nat.testBit_lt_two_pow hl, hp]
        rfl
    · rw [if_neg hp, Nat.add_zero]
      rcases Nat.lt_or_ge i n with c | c
      · exact num_bit p n i c
      · have e : i = n := by omega
        subst e
        rw [Nat.testBit_lt_two_pow hl]
        cases h9 : p i
        · rfl
        · exact absurd h9 hp
theorem pc8_num (p : Nat → Bool) : pc8 (num p 8) = ct p 8 := ct_cong fun i hi => num_bit p 8 i hi
theorem bc_msk (p : Nat → Bool) : bcF (msk p) = nI (ct p 24) := by
  have h24 : num p 24 < 2 ^ 24 := num_lt p 24
  show bcF (mk p 24) = _
  rw [mk_num p 24 (Nat.le_refl _), bcF_nI h24]
  congr 1
  have e1 : num p 24 = num p 8 + 2 ^ 8 * num (fun i => p (8 + i)) 16 := num_split p 8 16
  have e2 : num (fun i => p (8 + i)) 16 = num (fun i => p (8 + i)) 8 + 2 ^ 8 * num (fun i => p (8 + (8 + i))) 8 := num_split (fun i => p (8 + i)) 8 8
  have c1 : ct p 24 = ct p 8 + ct (fun i => p (8 + i)) 16 := ct_split p 8 16
  have c2 : ct (fun i => p (8 + i)) 16 = ct (fun i => p (8 + i)) 8 + ct (fun i => p (8 + (8 + i))) 8 := ct_split (fun i => p (8 + i)) 8 8
  have l0 : num p 8 < 256 := num_lt p 8
  have l1 : num (fun i => p (8 + i)) 8 < 256 := num_lt _ 8
  have l2 : num (fun i => p (8 + (8 + i))) 8 < 256 := num_lt _ 8
  rw [show num p 24 = num p 8 + 256 * num (fun i => p (8 + i)) 8 + 65536 * num (fun i => p (8 + (8 + i))) 8 by rw [e1, e2]; omega, bcN_eq l0 l1 l2, pc8_num, pc8_num, pc8_num, c1, c2]
  omega
