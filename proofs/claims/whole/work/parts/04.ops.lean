/-! the calls over a circuit's numbers: answers and next circuits; the reference's worlds -/
def inB (x lo hi : Int32) : Bool := decide (lo ≤ x ∧ x ≤ hi)
def inN (x : Int32) (k : Nat) : Bool := decide (0 ≤ x.toInt ∧ x.toInt < (k : Int))
def inR (x : Int32) (lo hi : Nat) : Bool := decide ((lo : Int) ≤ x.toInt ∧ x.toInt ≤ (hi : Int))
theorem inB_N {x : Int32} {k : Nat} (hk : k < 2 ^ 30) : inB x (nI 0) (nI k - nI 1) = inN x k := by
  unfold inB inN
  apply decide_eq_decide.mpr
  rw [Int32.le_iff_toInt_le, Int32.le_iff_toInt_le, pk_sub_toInt hk (by omega), nI_toInt (by omega)]
  omega
theorem inB_R {x : Int32} {a b : Nat} (ha : a < 2 ^ 31) (hb : b < 2 ^ 31) : inB x (nI a) (nI b) = inR x a b := by
  unfold inB inR
  apply decide_eq_decide.mpr
  rw [Int32.le_iff_toInt_le, Int32.le_iff_toInt_le, nI_toInt ha, nI_toInt hb]
theorem inN_at {x : Int32} {k : Nat} (h : inN x k = true) : ∃ j, j < k ∧ j < 2 ^ 31 ∧ x = nI j ∧ x.toNatClampNeg = j := by
  have h := of_decide_eq_true h
  have hr : x.toInt < 2147483648 := (by have := Int32.toInt_lt x; omega)
  have hj : x.toInt.toNat < 2 ^ 31 := by omega
  have e : x = nI x.toInt.toNat := by
    apply Int32.toInt_inj.mp
    rw [nI_toInt hj]
    omega
  refine ⟨x.toInt.toNat, by omega, hj, e, ?_⟩
  rw [e, nI_clamp hj, nI_toInt hj]
  omega
theorem inR_at {x : Int32} {a b : Nat} (h : inR x a b = true) : ∃ j, a ≤ j ∧ j ≤ b ∧ j < 2 ^ 31 ∧ x = nI j ∧ x.toNatClampNeg = j := by
  have h := of_decide_eq_true h
  have hr : x.toInt < 2147483648 := (by have := Int32.toInt_lt x; omega)
  have hj : x.toInt.toNat < 2 ^ 31 := by omega
  have e : x = nI x.toInt.toNat := by
    apply Int32.toInt_inj.mp
    rw [nI_toInt hj]
    omega
  refine ⟨x.toInt.toNat, by omega, by omega, hj, e, ?_⟩
  rw [e, nI_clamp hj, nI_toInt hj]
  omega
theorem inN_nI {j k : Nat} (hj : j < 2 ^ 31) : inN (nI j) k = decide (j < k) := by
  unfold inN
  apply decide_eq_decide.mpr
  rw [nI_toInt hj]
  omega
/-- a user's number, as far as it is none too small -/
abbrev nx (x : Int32) : Nat := x.toNatClampNeg
def addN (g : Nat → Nat) (z : Nat) : Nat → Nat := up1 (up1 (up1 g (2 + g 0) z) (26 + g 0) 2) 0 (g 0 + 1)
def aAddI (g : Nat → Nat) : Int32 := if g 0 = 24 then -6 else nI (g 0)
def gAddI (g : Nat → Nat) : Nat → Nat := if g 0 = 24 then g else addN g 0
def aAddS (g : Nat → Nat) (x : Int32) : Int32 := if inR x 1 3 = true then (if g 0 = 24 then -6 else nI (g 0)) else -3
def gAddS (g : Nat → Nat) (x : Int32) : Nat → Nat := if inR x 1 3 = true then (if g 0 = 24 then g else addN g (nx x)) else g
def addT (g : Nat → Nat) (ty st ga on ot : Nat) : Nat → Nat := up1 (up1 (up1 (up1 (up1 (up1 (up1 g (50 + g 1) ty) (90 + g 1) st) (130 + g 1) ga) (170 + g 1) on) (210 + g 1) ot) (250 + g 1) 0) 1 (g 1 + 1)
def okT (g : Nat → Nat) (ga on ot : Int32) : Bool := inN ga (g 0) && (inN on (g 0) && inN ot (g 0))
def aAddT (g : Nat → Nat) (ty st ga on ot : Int32) : Int32 := if okT g ga on ot = true then (if on = ot then -4 else if (inR ty 0 2 && inR st 1 3) = true then (if g 1 = 40 then -6 else nI (g 1)) else -3) else -1
def gAddT (g : Nat → Nat) (ty st ga on ot : Int32) : Nat → Nat := if okT g ga on ot = true then (if on = ot then g else if (inR ty 0 2 && inR st 1 3) = true then (if g 1 = 40 then g else addT g (nx ty) (nx st) (nx ga) (nx on) (nx ot)) else g) else g
def inp (g : Nat → Nat) (n : Nat) : Bool := decide (n < g 0) && decide (g (2 + n) = 0)
def aSetV (f : Bool) (g : Nat → Nat) (x v : Int32) : Int32 := if inN x (g 0) = true then (if decide (g (2 + nx x) = 0) = f then (if inR v 0 2 = true then nI (g (26 + nx x)) else -3) else -5) else -1
def gSetV (f : Bool) (g : Nat → Nat) (x v : Int32) : Nat → Nat := if inN x (g 0) = true then (if decide (g (2 + nx x) = 0) = f then (if inR v 0 2 = true then up1 g (26 + nx x) (nx v) else g) else g) else g
/-- how many of the first n -/
def ct (p : Nat → Bool) : Nat → Nat
  | 0 => 0
  | n + 1 => ct p n + (if p n = true then 1 else 0)
theorem ct_le (p : Nat → Bool) : ∀ n, ct p n ≤ n
  | 0 => Nat.le_refl _
  | n + 1 => by
    have := ct_le p n
    rw [ct]
    split <;> omega
theorem ct_cong {p q : Nat → Bool} : ∀ {n : Nat}, (∀ k, k < n → p k = q k) → ct p n = ct q n
  | 0, _ => rfl
  | n + 1, h => by rw [ct, ct, ct_cong (fun k hk => h k (by omega)), h n (by omega)]
def kno (g : Nat → Nat) (n : Nat) : Bool := decide (g (2 + n) ≠ 0) && decide (g (26 + n) ≠ 2)
/-- the first k nodes forgotten -/
def forK (g : Nat → Nat) (k : Nat) : Nat → Nat := fun j => if 26 ≤ j ∧ j < 26 + k ∧ g (2 + (j - 26)) ≠ 0 then 2 else g j
def aFor (g : Nat → Nat) : Int32 := nI (ct (kno g) (g 0))
def aVal (g : Nat → Nat) (x : Int32) : Int32 := if inN x (g 0) = true then nI (g (26 + nx x)) else -1
def vlu (g : Nat → Nat) (v n : Nat) : Bool := decide (g (26 + n) = v)
def aWith (g : Nat → Nat) (v : Int32) : Int32 := if inR v 0 2 = true then mk (vlu g (nx v)) (g 0) else -3
def aSw (g : Nat → Nat) (x : Int32) : Int32 := if inN x (g 1) = true then nI (swS g (nx x)) else -2
def aFlt (g : Nat → Nat) (x v : Int32) : Int32 := if inN x (g 1) = true then (if inR v 0 2 = true then nI (g (250 + nx x)) else -3) else -2
def gFlt (g : Nat → Nat) (x v : Int32) : Nat → Nat := if inN x (g 1) = true then (if inR v 0 2 = true then up1 g (250 + nx x) (nx v) else g) else g
def flw (g : Nat → Nat) (t : Nat) : Bool := decide (g (250 + t) ≠ 0)
def clrK (g : Nat → Nat) (k : Nat) : Nat → Nat := fun j => if 250 ≤ j ∧ j < 250 + k then 0 else g j
def aClr (g : Nat → Nat) : Int32 := nI (ct (flw g) (g 1))
theorem forK_s {g : Nat → Nat} {k : Nat} (h : g (2 + k) ≠ 0) : up1 (forK g k) (26 + k) 2 = forK g (k + 1) := by
  funext j
  unfold up1 forK
  by_cases e : j = 26 + k
  · subst e
    rw [if_pos rfl, if_pos ⟨by omega, by omega, by rw [show 26 + k - 26 = k by omega]; exact h⟩]
  · rw [if_neg e]
    by_cases c : 26 ≤ j ∧ j < 26 + k ∧ g (2 + (j - 26)) ≠ 0
    · rw [if_pos c, if_pos ⟨c.1, by omega, c.2.2⟩]
    · rw [if_neg c, if_neg (fun z => c ⟨z.1, by omega, z.2.2⟩)]
theorem forK_n {g : Nat → Nat} {k : Nat} (h : g (2 + k) = 0) : forK g k = forK g (k + 1) := by
  funext j
  unfold forK
  by_cases c : 26 ≤ j ∧ j < 26 + k ∧ g (2 + (j - 26)) ≠ 0
  · rw [if_pos c, if_pos ⟨c.1, by omega, c.2.2⟩]
  · rw [if_neg c, if_neg (fun z => c ⟨z.1, by
      have : j ≠ 26 + k := fun q => z.2.2 (by rw [q, show 26 + k - 26 = k by omega]; exact h)
      omega, z.2.2⟩)]
theorem forK_0 (g : Nat → Nat) : forK g 0 = g := by
  funext j
  unfold forK
  rw [if_neg (by omega)]
theorem forK_lo {g : Nat → Nat} {k j : Nat} (h : j < 26 ∨ 26 + k ≤ j) : forK g k j = g j := if_neg (by omega)
theorem clrK_0 (g : Nat → Nat) : clrK g 0 = g := by
  funext j
  unfold clrK
  rw [if_neg (by omega)]
theorem clrK_s (g : Nat → Nat) (k : Nat) : up1 (clrK g k) (250 + k) 0 = clrK g (k + 1) := by
  funext j
  unfold up1 clrK
  by_cases e : j = 250 + k
  · subst e
    rw [if_pos rfl, if_pos ⟨by omega, by omega⟩]
  · rw [if_neg e]
    by_cases c : 250 ≤ j ∧ j < 250 + k
    · rw [if_pos c, if_pos ⟨c.1, by omega⟩]
    · rw [if_neg c, if_neg (fun z => c ⟨z.1, by omega⟩)]
theorem clrK_lo {g : Nat → Nat} {k j : Nat} (h : j < 250 ∨ 250 + k ≤ j) : clrK g k j = g j := if_neg (by omega)
/-- the reference's object and rows -/
abbrev mO (ad : Nat → Nat) : Nat × va_E := (ad 0, .inr (3, [.ref (ad 1), .ref (ad 2), .ref (ad 3), .ref (ad 4), .ref (ad 5), .ref (ad 6), .ref (ad 7), .ref (ad 8)]))
abbrev sW (cI : ClassId) (ad : Nat → Nat) (g : Nat → Nat) : va_W := [mO ad, (ad 1, .inl (cI, 290, .inl (nA g)))]
abbrev dW (cI : ClassId) (ad : Nat → Nat) (g de ss : Nat → Nat) : va_W := [mO ad, (ad 1, .inl (cI, 290, .inl (nA g))), (ad 4, .inl (cI, 24, .inl (nA de))), (ad 7, .inl (cI, 40, .inl (nA ss)))]
abbrev gW (cI : ClassId) (ad : Nat → Nat) (r : Nat) (g de ss row : Nat → Nat) : va_W := [mO ad, (ad 1, .inl (cI, 290, .inl (nA g))), (ad 4, .inl (cI, 24, .inl (nA de))), (ad 7, .inl (cI, 40, .inl (nA ss))), (r, .inl (cI, 24, .inl (nA row)))]
abbrev lW (cI : ClassId) (ad : Nat → Nat) (g de ss up dn : Nat → Nat) : va_W := [mO ad, (ad 1, .inl (cI, 290, .inl (nA g))), (ad 4, .inl (cI, 24, .inl (nA de))), (ad 7, .inl (cI, 40, .inl (nA ss))), (ad 5, .inl (cI, 24, .inl (nA up))), (ad 6, .inl (cI, 24, .inl (nA dn)))]
abbrev pW (cI : ClassId) (ad : Nat → Nat) (g de ss up dn be : Nat → Nat) : va_W := [mO ad, (ad 1, .inl (cI, 290, .inl (nA g))), (ad 4, .inl (cI, 24, .inl (nA de))), (ad 7, .inl (cI, 40, .inl (nA ss))), (ad 5, .inl (cI, 24, .inl (nA up))), (ad 6, .inl (cI, 24, .inl (nA dn))), (ad 8, .inl (cI, 290, .inl (nA be)))]
abbrev kW (cI : ClassId) (ad : Nat → Nat) (g be : Nat → Nat) : va_W := [mO ad, (ad 1, .inl (cI, 290, .inl (nA g))), (ad 8, .inl (cI, 290, .inl (nA be)))]
abbrev vW (cI cZ : ClassId) (ad : Nat → Nat) (g sl : Nat → Nat) (sv : Nat → Int32) : va_W := [mO ad, (ad 1, .inl (cI, 290, .inl (nA g))), (ad 2, .inl (cI, 580, .inl (nA sl))), (ad 3, .inl (cZ, 2, .inl sv))]
