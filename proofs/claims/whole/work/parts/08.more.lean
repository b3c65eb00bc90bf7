/-! more of the calls over a circuit's numbers: strengths, steps as the reference makes them, periods, faults, vicinities, saving -/
abbrev F4 : Type := (Nat → Nat) × (Nat → Nat) × (Nat → Nat) × (Nat → Nat)
abbrev F5 : Type := (Nat → Nat) × (Nat → Nat) × (Nat → Nat) × (Nat → Nat) × (Nat → Nat)
noncomputable def aQ (g : Nat → Nat) (x : Int32) : Int32 := if inN x (g 0) = true then nI (qF g (nx x)) else -1
noncomputable def aU (s : Nat) (g : Nat → Nat) (x : Int32) : Int32 := if inN x (g 0) = true then nI (uF g s (nx x)) else -1
noncomputable def aSv (g : Nat → Nat) (x : Int32) : Int32 := if inN x (g 0) = true then nI (stv g (nx x)) else -1
def stR (g up dn : Nat → Nat) (n : Nat) : Nat := if g (2 + n) = 0 then g (26 + n) else if dn n = 0 then 1 else if up n = 0 then 0 else 2
theorem stR_eq {g g' up dn : Nat → Nat} {n : Nat} (h1 : g' (2 + n) = g (2 + n)) (h2 : g' (26 + n) = g (26 + n)) (hu : up n = uF g 1 n) (hd : dn n = uF g 0 n) : stR g' up dn n = stv g n := by
  unfold stR stv
  rw [h1, h2, hu, hd]
theorem mk_act (g : Nat → Nat) (h : g 0 ≤ 24) : mk (act g) (g 0) = msk (act g) := by
  rw [mk_msk _ _ h]
  apply msk_cong
  intro i _
  unfold act
  cases decide (i < g 0) <;> rfl
noncomputable def stK (g : Nat → Nat) (k : Nat) : Nat → Nat := fun j => if 26 ≤ j ∧ j < 26 + k then stv g (j - 26) else g j
theorem stK_0 (g : Nat → Nat) : stK g 0 = g := by
  funext j
  unfold stK
  rw [if_neg (by omega)]
theorem stK_s (g : Nat → Nat) (k : Nat) : up1 (stK g k) (26 + k) (stv g k) = stK g (k + 1) := by
  funext j
  unfold up1 stK
  by_cases e : j = 26 + k
  · subst e
    rw [if_pos rfl, if_pos ⟨by omega, by omega⟩, show 26 + k - 26 = k by omega]
  · rw [if_neg e]
    by_cases c : 26 ≤ j ∧ j < 26 + k
    · rw [if_pos c, if_pos ⟨c.1, by omega⟩]
    · rw [if_neg c, if_neg (fun z => c ⟨z.1, by omega⟩)]
theorem stK_o {g : Nat → Nat} {k j : Nat} (h : j < 26 ∨ 26 + k ≤ j) : stK g k j = g j := if_neg (by omega)
theorem stK_e (g : Nat → Nat) : stK g (g 0) = stp g := rfl
noncomputable def aSet (g : Nat → Nat) (x : Int32) : Int32 := if inR x 1 100 = true then (setA (nx x) 0 g).1 else -3
noncomputable def gSet (g : Nat → Nat) (x : Int32) : Nat → Nat := if inR x 1 100 = true then (setA (nx x) 0 g).2 else g
noncomputable def aPer (g : Nat → Nat) (x : Int32) : Int32 := if inR x 1 100 = true then perA (nx x) 1 g g else -3
def sameK (g h : Nat → Nat) (k : Nat) : Bool := decide (∀ n, n < k → g (26 + n) = h (26 + n))
theorem sameK_0 (g h : Nat → Nat) : sameK g h 0 = true := decide_eq_true fun n hn => absurd hn (Nat.not_lt_zero n)
theorem sameK_t {g h : Nat → Nat} {k : Nat} (h1 : sameK g h k = true) (h2 : g (26 + k) = h (26 + k)) : sameK g h (k + 1) = true := decide_eq_true fun n hn => by
  rcases Nat.lt_or_ge n k with c | c
  · exact of_decide_eq_true h1 n c
  · rw [show n = k by omega]; exact h2
theorem sameK_f1 {g h : Nat → Nat} {k : Nat} (h1 : sameK g h k = false) : sameK g h (k + 1) = false := decide_eq_false fun z => of_decide_eq_false h1 fun n hn => z n (by omega)
theorem sameK_f2 {g h : Nat → Nat} {k : Nat} (h2 : g (26 + k) ≠ h (26 + k)) : sameK g h (k + 1) = false := decide_eq_false fun z => h2 (z k (by omega))
/-- the value of a copy that has settled as the reference tells it -/
noncomputable def mvl (m n : Nat) (g : Nat → Nat) : Int32 := if (setA m 0 g).1 = -7 then -8 else nI ((setA m 0 g).2 (26 + n))
def oppI (a b : Int32) : Bool := (decide (a = 0) && decide (b = 1)) || (decide (a = 1) && decide (b = 0))
theorem setA_N : ∀ (m k : Nat) (g : Nat → Nat), (setA m k g).2 0 = g 0
  | 0, _, _ => rfl
  | m + 1, k, g => by
    rw [setA_s]
    split
    · rfl
    · rw [setA_N m (k + 1) (stp g), stp_lo (by omega)]
theorem mvl_svl {g : Nat → Nat} (ok : okG g) {m n : Nat} (hn : n < g 0) : (mvl m n g = 0 ↔ svl m n g = 0) ∧ (mvl m n g = 1 ↔ svl m n g = 1) := by
  unfold mvl svl
  have h2 := ((setA_ok m 0 ok).2.2.1 n (by rw [setA_N]; exact hn)).2
  by_cases h : (setA m 0 g).1 = -7
  · rw [if_pos h, if_pos h]
    exact ⟨⟨fun z => absurd z (by decide), fun z => absurd z (by decide)⟩, ⟨fun z => absurd z (by decide), fun z => absurd z (by decide)⟩⟩
  · rw [if_neg h, if_neg h]
    exact ⟨nI_eq (b := 0) (by omega) (by omega), nI_eq (b := 1) (by omega) (by omega)⟩
theorem opp_det {g : Nat → Nat} (ok : okG g) {t f n m : Nat} (ht : t < 40) (hf : f ≤ 2) (hn : n < g 0) : oppI (mvl m n g) (mvl m n (up1 g (250 + t) f)) = det g t f n m := by
  have h1 := mvl_svl ok (m := m) hn
  have h2 := mvl_svl (okG_flt ok hf ht) (m := m) (show n < up1 g (250 + t) f 0 by rw [up1_n (by omega)]; exact hn)
  unfold oppI det opp
  rw [decide_eq_decide.mpr h1.1, decide_eq_decide.mpr h1.2, decide_eq_decide.mpr h2.1, decide_eq_decide.mpr h2.2]
noncomputable def aDet (g : Nat → Nat) (t f n m : Int32) : Int32 := if inN t (g 1) = true then (if inN n (g 0) = true then (if (inR f 1 2 && inR m 1 100) = true then bI (det g (nx t) (nx f) (nx n) (nx m)) else -3) else -1) else -2
noncomputable def aDfs (g : Nat → Nat) (n m : Int32) : Int32 := if inN n (g 0) = true then (if inR m 1 100 = true then nI (dct g (nx n) (nx m) (2 * g 1)) else -3) else -1
/-- saving -/
def svS (sl : Nat → Nat) (s : Nat) (g : Nat → Nat) (k : Nat) : Nat → Nat := fun j => if 290 * s ≤ j ∧ j < 290 * s + k then g (j - 290 * s) else sl j
theorem svS_0 (sl : Nat → Nat) (s : Nat) (g : Nat → Nat) : svS sl s g 0 = sl := by
  funext j
  unfold svS
  rw [if_neg (by omega)]
theorem svS_s (sl : Nat → Nat) (s : Nat) (g : Nat → Nat) (k : Nat) : up1 (svS sl s g k) (290 * s + k) (g k) = svS sl s g (k + 1) := by
  funext j
  unfold up1 svS
  by_cases e : j = 290 * s + k
  · subst e
    rw [if_pos rfl, if_pos ⟨by omega, by omega⟩, show 290 * s + k - 290 * s = k by omega]
  · rw [if_neg e]
    by_cases c : 290 * s ≤ j ∧ j < 290 * s + k
    · rw [if_pos c, if_pos ⟨c.1, by omega⟩]
    · rw [if_neg c, if_neg (fun z => c ⟨z.1, by omega⟩)]
def aSave (g : Nat → Nat) (x : Int32) : Int32 := if inR x 0 1 = true then nI (g 0) else -3
def slSave (g sl : Nat → Nat) (x : Int32) : Nat → Nat := if inR x 0 1 = true then svS sl (nx x) g 290 else sl
def svSave (sv : Nat → Int32) (x : Int32) : Nat → Int32 := if inR x 0 1 = true then upd sv (nx x) 1 else sv
def aRes (sl : Nat → Nat) (sv : Nat → Int32) (x : Int32) : Int32 := if inR x 0 1 = true then (if sv (nx x) = 0 then -9 else nI (sl (290 * nx x + 0))) else -3
def gRes (g sl : Nat → Nat) (sv : Nat → Int32) (x : Int32) : Nat → Nat := if inR x 0 1 = true then (if sv (nx x) = 0 then g else fun j => sl (290 * nx x + j)) else g
/-- the least set that holds src and is closed under E within al -/
noncomputable def rch (E : Nat → Nat → Prop) (src al : Nat → Bool) (i : Nat) : Bool := @decide (∀ T : Nat → Bool, (∀ i, src i = true → T i = true) → (∀ a b, T a = true → E a b → al b = true → T b = true) → T i = true) (Classical.propDecidable _)
theorem rch_src {E : Nat → Nat → Prop} {src al : Nat → Bool} {i : Nat} (h : src i = true) : rch E src al i = true := @decide_eq_true _ (Classical.propDecidable _) fun _ h1 _ => h1 i h
theorem rch_cl {E : Nat → Nat → Prop} {src al : Nat → Bool} {a b : Nat} (h : rch E src al a = true) (he : E a b) (hb : al b = true) : rch E src al b = true := @decide_eq_true _ (Classical.propDecidable _) fun T h1 h2 => h2 a b (@of_decide_eq_true _ (Classical.propDecidable _) h T h1 h2) he hb
theorem rch_min {E : Nat → Nat → Prop} {src al : Nat → Bool} {i : Nat} (h : rch E src al i = true) {T : Nat → Bool} (h1 : ∀ i, src i = true → T i = true) (h2 : ∀ a b, T a = true → E a b → al b = true → T b = true) : T i = true := @of_decide_eq_true _ (Classical.propDecidable _) h T h1 h2
def sto (g : Nat → Nat) (i : Nat) : Bool := decide (i < g 0) && !decide (g (2 + i) = 0)
def eNO (g : Nat → Nat) (a b : Nat) : Prop := ∃ t, t < g 1 ∧ swS g t ≠ 0 ∧ edg g t a b
noncomputable def vicS (g : Nat → Nat) (n : Nat) : Nat → Bool := if g (2 + n) = 0 then fun _ => false else rch (eNO g) (fun i => decide (i = n)) (sto g)
noncomputable def aVic (g : Nat → Nat) (x : Int32) : Int32 := if inN x (g 0) = true then msk (vicS g (nx x)) else -1
/-- a transistor that lets through, both of whose ends are storage nodes -/
def thr (g : Nat → Nat) (t : Nat) : Bool := !decide (swS g t = 0) && (!decide (g (2 + g (170 + t)) = 0) && !decide (g (2 + g (210 + t)) = 0))
def ClV (g : Nat → Nat) (S : Nat → Bool) (k : Nat) : Prop := ∀ t, t < k → thr g t = true → (S (g (170 + t)) || S (g (210 + t))) = true → S (g (170 + t)) = true ∧ S (g (210 + t)) = true
/-- a set on the way: it holds the start, it lies in the vicinity -/
def VI (g : Nat → Nat) (n : Nat) (S : Nat → Bool) : Prop := (∀ i, S i = true → vicS g n i = true) ∧ (g (2 + n) ≠ 0 → S n = true)
theorem VI_add {g : Nat → Nat} (ok : okG g) {n t : Nat} {S : Nat → Bool} (h : VI g n S) (ht : t < g 1) (hth : thr g t = true) (hs : (S (g (170 + t)) || S (g (210 + t))) = true) : VI g n (fun i => S i || (decide (i = g (170 + t)) || decide (i = g (210 + t)))) := by
  have hT := ok.2.2.2 t ht
  unfold thr at hth
  simp at hth
  have key : ∀ a b, edg g t a b → g (2 + b) ≠ 0 → S a = true → vicS g n b = true := by
    intro a b he hb ha
    have hv := h.1 a ha
    unfold vicS at hv ⊢
    by_cases e : g (2 + n) = 0
    · rw [if_pos e] at hv; cases hv
    · rw [if_neg e] at hv ⊢
      exact rch_cl hv ⟨t, ht, hth.1, he⟩ (by
        unfold sto
        have := (edg_lt ok ht he).2
        simp [this, hb])
  refine ⟨fun i hi => ?_, fun hn => by show (S n || _) = true; rw [h.2 hn]; rfl⟩
  simp at hi
  rcases Bool.or_eq_true _ _ ▸ hs with h1 | h1
  · rcases hi with hi | hi | hi
    · exact h.1 i hi
    · rw [hi]; exact h.1 _ h1
    · rw [hi]; exact key _ _ (edg_1 g t) hth.2.2 h1
  · rcases hi with hi | hi | hi
    · exact h.1 i hi
    · rw [hi]; exact key _ _ (edg_2 g t) hth.2.1 h1
    · rw [hi]; exact h.1 _ h1
theorem VI_end {g : Nat → Nat} {n : Nat} (hn : n < g 0) {S : Nat → Bool} (h : VI g n S) (hc : ClV g S (g 1)) (hst : ∀ i, S i = true → sto g i = true) (i : Nat) : S i = vicS g n i := by
  cases e : vicS g n i
  · cases e2 : S i
    · rfl
    · rw [h.1 i e2] at e; cases e
  · unfold vicS at e
    by_cases e0 : g (2 + n) = 0
    · rw [if_pos e0] at e; cases e
    · rw [if_neg e0] at e
      refine rch_min e (fun j hj => ?_) (fun a b ha he hb => ?_)
      · rw [of_decide_eq_true hj]; exact h.2 e0
      · obtain ⟨t, ht, hs, hed⟩ := he
        have h1 := hst a ha
        unfold sto at h1 hb
        simp at h1 hb
        rcases hed with ⟨rfl, rfl⟩ | ⟨rfl, rfl⟩
        · exact (hc t ht (by unfold thr; simp [hs, h1.2, hb.2]) (by rw [ha]; rfl)).2
        · exact (hc t ht (by unfold thr; simp [hs, h1.2, hb.2]) (by rw [ha]; simp)).1
theorem vicS_sto {g : Nat → Nat} {n : Nat} (hn : n < g 0) {i : Nat} (h : vicS g n i = true) : sto g i = true := by
  unfold vicS at h
  by_cases e : g (2 + n) = 0
  · rw [if_pos e] at h; cases h
  · rw [if_neg e] at h
    refine rch_min h (fun j hj => ?_) (fun a b _ _ hb => hb)
    rw [of_decide_eq_true hj]
    unfold sto
    simp [hn, e]
/-- what isn't in a set, counted -/
theorem ct_lt {p q : Nat → Bool} {k : Nat} (h : ∀ i, p i = true → q i = true) : ∀ n, (ct p n ≤ ct q n) ∧ (k < n → p k = false → q k = true → ct p n < ct q n)
  | 0 => ⟨Nat.le_refl _, fun c => absurd c (Nat.not_lt_zero _)⟩
  | n + 1 => by
    have ih := ct_lt (k := k) h n
    have hb : (if p n = true then 1 else 0) ≤ (if q n = true then 1 else 0) := by
      by_cases e : p n = true
      · rw [if_pos e, if_pos (h n e)]; exact Nat.le_refl _
      · rw [if_neg e]; exact Nat.zero_le _
    refine ⟨by rw [ct, ct]; omega, fun hk h1 h2 => ?_⟩
    rw [ct, ct]
    by_cases e : k = n
    · subst e
      rw [if_neg (by rw [h1]; decide), if_pos h2]
      omega
    · have := ih.2 (by omega) h1 h2
      omega
theorem msk_or2 (S : Nat → Bool) {a b : Nat} (ha : a < 24) (hb : b < 24) : msk S ||| (((1 : Int32) <<< (nI a &&& 31)) ||| ((1 : Int32) <<< (nI b &&& 31))) = msk (fun i => S i || (decide (i = a) || decide (i = b))) := by
  rw [msk_bit a ha, msk_bit b hb, msk_or, msk_or]
theorem msk_sh2 (S : Nat → Bool) {a b : Nat} (ha : a < 24) (hb : b < 24) : ((msk S >>> (nI a &&& 31)) &&& nI 1) ||| ((msk S >>> (nI b &&& 31)) &&& nI 1) = bI (S a || S b) := by
  show ((msk S >>> (nI a &&& 31)) &&& 1) ||| ((msk S >>> (nI b &&& 31)) &&& 1) = _
  rw [msk_shr S a ha, msk_shr S b hb, bI_or]
/-- a pass: from S to S1 -/
def PsV (g : Nat → Nat) (n : Nat) (S S1 : Nat → Bool) (t : Nat) : Prop := VI g n S1 ∧ (∀ i, S i = true → S1 i = true) ∧ (ct S1 24 ≤ ct S 24 → (∀ i, i < 24 → S1 i = S i) ∧ ClV g S1 t)
theorem ct_eq {p q : Nat → Bool} (h : ∀ i, p i = true → q i = true) (n : Nat) (hc : ct q n ≤ ct p n) : ∀ i, i < n → q i = p i := fun i hi => by
  cases e : p i
  · cases e2 : q i
    · rfl
    · have := (ct_lt (k := i) h n).2 hi e e2
      omega
  · exact h i e
theorem PsV_0 {g : Nat → Nat} {n : Nat} {S : Nat → Bool} (h : VI g n S) : PsV g n S S 0 := ⟨h, fun _ z => z, fun _ => ⟨fun _ _ => rfl, fun t ht => absurd ht (Nat.not_lt_zero t)⟩⟩
theorem PsV_skip {g : Nat → Nat} {n t : Nat} {S S1 : Nat → Bool} (h : PsV g n S S1 t) (hn : thr g t = false ∨ (S1 (g (170 + t)) || S1 (g (210 + t))) = false) : PsV g n S S1 (t + 1) := by
  refine ⟨h.1, h.2.1, fun hc => ⟨(h.2.2 hc).1, fun u hu h1 h2 => ?_⟩⟩
  rcases Nat.lt_or_ge u t with c | c
  · exact (h.2.2 hc).2 u c h1 h2
  · have e : u = t := by omega
    subst e
    rcases hn with z | z
    · rw [z] at h1; cases h1
    · rw [z] at h2; cases h2
theorem PsV_add {g : Nat → Nat} (ok : okG g) {n t : Nat} {S S1 : Nat → Bool} (h : PsV g n S S1 t) (ht : t < g 1) (hth : thr g t = true) (hs : (S1 (g (170 + t)) || S1 (g (210 + t))) = true) : PsV g n S (fun i => S1 i || (decide (i = g (170 + t)) || decide (i = g (210 + t)))) (t + 1) := by
  have h0 := ok.1
  have hsub : ∀ i, S1 i = true → (fun i => S1 i || (decide (i = g (170 + t)) || decide (i = g (210 + t)))) i = true := fun i hi => by
    show (S1 i || _) = true
    rw [hi]; rfl
  refine ⟨VI_add ok h.1 ht hth hs, fun i hi => hsub i (h.2.1 i hi), fun hc => ?_⟩
  have e2 := ct_eq (fun i hi => hsub i (h.2.1 i hi)) 24 hc
  have e1 : ∀ i, i < 24 → S1 i = S i := fun i hi => by
    cases z : S i
    · cases z1 : S1 i
      · rfl
      · have := hsub i z1
        exact absurd ((e2 i hi).symm.trans this) (by rw [z]; decide)
    · exact h.2.1 i z
  have hk := h.2.2 (Nat.le_of_eq (ct_cong e1))
  have e3 : ∀ i, i < 24 → (fun i => S1 i || (decide (i = g (170 + t)) || decide (i = g (210 + t)))) i = S1 i := fun i hi => (e2 i hi).trans (e1 i hi).symm
  refine ⟨e2, fun u hu h1 h2 => ?_⟩
  have hU := ok.2.2.2 u (by omega)
  rcases Nat.lt_or_ge u t with c | c
  · rw [e3 _ (by omega), e3 _ (by omega)] at h2 ⊢
    exact hk.2 u c h1 h2
  · have e : u = t := by omega
    subst e
    constructor
    · show (S1 _ || (decide _ || decide _)) = true
      simp
    · show (S1 _ || (decide _ || decide _)) = true
      simp
theorem VI_cong {g : Nat → Nat} {n : Nat} {S : Nat → Bool} (h : VI g n S) (hn : n < g 0) (i : Nat) (hi : S i = true) : sto g i = true := vicS_sto hn (h.1 i hi)
theorem VI_start (g : Nat → Nat) (n : Nat) : VI g n (fun i => decide (i = n) && !decide (g (2 + n) = 0)) := by
  refine ⟨fun i hi => ?_, fun h => by simp [h]⟩
  simp at hi
  rw [hi.1]
  unfold vicS
  rw [if_neg hi.2]
  exact rch_src (decide_eq_true rfl)
