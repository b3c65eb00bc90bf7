/-! the class's sets: what stands in a circuit's fields; reaching; neighbours; levels -/
def m0 (c : Nat → Nat) (n : Nat) : Bool := decide (n < c 0) && !decide (c (26 + n) = 1)
def m1 (c : Nat → Nat) (n : Nat) : Bool := decide (n < c 0) && !decide (c (26 + n) = 0)
def szB (c : Nat → Nat) (lv n : Nat) : Bool := sto c n && (decide (1 ≤ lv) && decide (lv ≤ c (2 + n)))
def szA (c : Nat → Nat) : Nat → Int32 := fun lv => msk (szB c lv)
def pA (c : Nat → Nat) (b : Nat) : Nat → Nat := fun t => if t < 40 then c (b + t) else 0
theorem pA_at {c : Nat → Nat} {b t : Nat} (h : t < 40) : pA c b t = c (b + t) := if_pos h
theorem pA_up {c : Nat → Nat} {b t v : Nat} (h : t < 40) : up1 (pA c b) t v = pA (up1 c (b + t) v) b := by
  funext u
  unfold up1 pA
  by_cases e : u = t
  · subst e; rw [if_pos rfl, if_pos h]; exact (if_pos rfl).symm
  · rw [if_neg e]
    by_cases e2 : u < 40
    · rw [if_pos e2, if_pos e2]; exact (if_neg (by omega)).symm
    · rw [if_neg e2, if_neg e2]
theorem pA_ne {c : Nat → Nat} {b j v : Nat} (h : j < b ∨ b + 40 ≤ j) : pA (up1 c j v) b = pA c b := by
  funext u
  unfold pA
  by_cases e2 : u < 40
  · rw [if_pos e2, if_pos e2, up1_n (by omega)]
  · rw [if_neg e2, if_neg e2]
/-- a circuit's cells, field by field -/
abbrev cF (cI : ClassId) (cd : Nat → Nat) (n i s z o k : Int32) (sz : Nat → Int32) (ty st ga on ot fa : Nat → Nat) : va_W := [(cd 0, .inr (0, [.int n, .int i, .int s, .ref (cd 1), .int z, .int o, .int k, .ref (cd 2), .ref (cd 3), .ref (cd 4), .ref (cd 5), .ref (cd 6), .ref (cd 7)])), (cd 1, .inl (cI, 8, .inl sz)), (cd 2, .inl (cI, 40, .inl (nA ty))), (cd 3, .inl (cI, 40, .inl (nA st))), (cd 4, .inl (cI, 40, .inl (nA ga))), (cd 5, .inl (cI, 40, .inl (nA on))), (cd 6, .inl (cI, 40, .inl (nA ot))), (cd 7, .inl (cI, 40, .inl (nA fa)))]
/-- a circuit's cells, as the numbers c tell them -/
abbrev cW (cI : ClassId) (cd : Nat → Nat) (c : Nat → Nat) : va_W := cF cI cd (nI (c 0)) (msk (inp c)) (msk (sto c)) (msk (m0 c)) (msk (m1 c)) (nI (c 1)) (szA c) (pA c 50) (pA c 90) (pA c 130) (pA c 170) (pA c 210) (pA c 250)
theorem cF_eq {cI : ClassId} {cd : Nat → Nat} {n n' i i' s s' z z' o o' k k' : Int32} {sz sz' : Nat → Int32} {ty ty' st st' ga ga' on on' ot ot' fa fa' : Nat → Nat} (h1 : n = n') (h2 : i = i') (h3 : s = s') (h4 : z = z') (h5 : o = o') (h6 : k = k') (h7 : sz = sz') (h8 : ty = ty') (h9 : st = st') (h10 : ga = ga') (h11 : on = on') (h12 : ot = ot') (h13 : fa = fa') : cF cI cd n i s z o k sz ty st ga on ot fa = cF cI cd n' i' s' z' o' k' sz' ty' st' ga' on' ot' fa' := by
  subst h1 h2 h3 h4 h5 h6 h7 h8 h9 h10 h11 h12 h13
  rfl
/-- Circuit.putValue on the two sets -/
def pvZ (z b v : Int32) : Int32 := if v = 1 then z &&& (b ^^^ (-1)) else z ||| b
def pvO (o b v : Int32) : Int32 := if v = 0 then o &&& (b ^^^ (-1)) else o ||| b
theorem pvZ_m {p : Nat → Bool} {j v : Nat} (hj : j < 24) (hv : v ≤ 2) : pvZ (msk p) ((1 : Int32) <<< (nI j &&& 31)) (nI v) = msk (fun i => if i = j then !decide (v = 1) else p i) := by
  unfold pvZ
  rw [msk_bit j hj]
  by_cases e : v = 1
  · subst e
    rw [if_pos (show nI 1 = 1 from rfl), msk_andnot]
    exact msk_cong fun i _ => by by_cases c : i = j <;> simp [c]
  · rw [if_neg (show ¬ nI v = 1 from fun q => e ((nI_eq (b := 1) (by omega) (by omega)).mp q)), msk_or]
    exact msk_cong fun i _ => by by_cases c : i = j <;> simp [c, e]
theorem pvO_m {p : Nat → Bool} {j v : Nat} (hj : j < 24) (hv : v ≤ 2) : pvO (msk p) ((1 : Int32) <<< (nI j &&& 31)) (nI v) = msk (fun i => if i = j then !decide (v = 0) else p i) := by
  unfold pvO
  rw [msk_bit j hj]
  by_cases e : v = 0
  · subst e
    rw [if_pos (show nI 0 = 0 from rfl), msk_andnot]
    exact msk_cong fun i _ => by by_cases c : i = j <;> simp [c]
  · rw [if_neg (show ¬ nI v = 0 from fun q => e ((nI_eq (b := 0) (by omega) (by omega)).mp q)), msk_or]
    exact msk_cong fun i _ => by by_cases c : i = j <;> simp [c, e]
/-- reaching: left, waiting, and the nodes seen so far -/
def seen (src al L : Nat → Bool) (i : Nat) : Bool := src i || (al i && !L i)
def RI (E : Nat → Nat → Bool) (src al L Wt : Nat → Bool) (v : Nat) : Prop := (∀ i, L i = true → al i = true ∧ src i = false) ∧ (∀ i, Wt i = true → seen src al L i = true) ∧ (∀ i, seen src al L i = true → rch (fun a b => E a b = true) src al i = true) ∧ (∀ a b, seen src al L a = true → Wt a = false → E a b = true → al b = true → seen src al L b = true) ∧ ct (fun i => !(seen src al L i && !Wt i)) 24 + v ≤ 24
theorem RI_0 (E : Nat → Nat → Bool) (src al : Nat → Bool) : RI E src al (fun i => al i && !src i) src 0 := by
  have hs : ∀ i, seen src al (fun i => al i && !src i) i = src i := fun i => by
    show (src i || (al i && !(al i && !src i))) = src i
    cases src i <;> cases al i <;> rfl
  refine ⟨fun i hi => ?_, fun i hi => by rw [hs]; exact hi, fun i hi => rch_src (by rw [hs] at hi; exact hi), fun a b ha hw => ?_, ct_le _ _⟩
  · simp at hi; exact hi
  · rw [hs, hw] at ha; cases ha
theorem RI_s {E : Nat → Nat → Bool} {src al L Wt : Nat → Bool} {v k : Nat} (h : RI E src al L Wt v) (hk : k < 24) (hw : Wt k = true) : RI E src al (fun i => L i && !(E k i && L i)) (fun i => (Wt i && !decide (i = k)) || (E k i && L i)) (v + 1) := by
  obtain ⟨ha, hb, hc, hd, he⟩ := h
  have hs : ∀ i, seen src al (fun i => L i && !(E k i && L i)) i = (seen src al L i || (E k i && L i)) := fun i => by
    show (src i || (al i && !(L i && !(E k i && L i)))) = ((src i || (al i && !L i)) || (E k i && L i))
    cases hL : L i
    · cases src i <;> cases al i <;> cases E k i <;> rfl
    · rw [(ha i hL).1, (ha i hL).2]
      cases E k i <;> rfl
  refine ⟨fun i hi => ?_, fun i hi => ?_, fun i hi => ?_, fun a b h1 h2 h3 h4 => ?_, ?_⟩
  · simp at hi; exact ha i hi.1
  · rw [hs]
    rcases Bool.or_eq_true _ _ ▸ hi with z | z
    · simp at z; rw [hb i z.1]; rfl
    · rw [z]; simp
  · rw [hs] at hi
    rcases Bool.or_eq_true _ _ ▸ hi with z | z
    · exact hc i z
    · simp at z
      exact rch_cl (hc k (hb k hw)) z.1 (ha i z.2).1
  · rw [hs] at h1 ⊢
    have h2' := h2
    simp at h2'
    by_cases e : a = k
    · subst e
      cases hL : L b
      · have : seen src al L b = true := by unfold seen; rw [h4, hL]; simp
        rw [this]; rfl
      · rw [h3]; simp
    · have hWa : Wt a = false := by
        cases hz : Wt a
        · rfl
        · exact absurd (h2'.1 hz) e
      have hJ : (E k a && L a) = false := by
        cases hz : (E k a && L a)
        · rfl
        · simp at hz; exact absurd (h2'.2 hz.1) (by rw [hz.2]; decide)
      rw [hJ, Bool.or_false] at h1
      rw [hd a b h1 hWa h3 h4]; rfl
  · have hlt : ct (fun i => !(seen src al (fun i => L i && !(E k i && L i)) i && !((Wt i && !decide (i = k)) || (E k i && L i)))) 24 < ct (fun i => !(seen src al L i && !Wt i)) 24 := by
      refine (ct_lt (k := k) (fun i hi => ?_) 24).2 hk ?_ ?_
      · have hi : (!(seen src al (fun i => L i && !(E k i && L i)) i && !((Wt i && !decide (i = k)) || (E k i && L i)))) = true := hi
        show (!(seen src al L i && !Wt i)) = true
        cases hz : (!(seen src al L i && !Wt i))
        · exfalso
          simp at hz
          have hLi : L i = false := by
            cases hL : L i
            · rfl
            · have h3 := ha i hL
              have h4 := hz.1
              unfold seen at h4
              rw [h3.2, hL] at h4
              simp at h4
          rw [hs, hz.1, hz.2, hLi] at hi
          simp at hi
        · rfl
      · have h1 : seen src al (fun i => L i && !(E k i && L i)) k = true := by rw [hs, hb k hw]; rfl
        have h2 : (E k k && L k) = false := by
          cases hL : L k
          · simp
          · have h3 := ha k hL
            have h4 := hb k hw
            unfold seen at h4
            rw [h3.2, hL] at h4
            simp at h4
        show (!(seen src al (fun i => L i && !(E k i && L i)) k && !((Wt k && !decide (k = k)) || (E k k && L k)))) = false
        rw [h1, h2, decide_eq_true rfl, hw]
        rfl
      · show (!(seen src al L k && !Wt k)) = true
        rw [hw]
        simp
    show ct (fun i => !(seen src al (fun i => L i && !(E k i && L i)) i && !((Wt i && !decide (i = k)) || (E k i && L i)))) 24 + (v + 1) ≤ 24
    omega
theorem RI_end {E : Nat → Nat → Bool} {src al L Wt : Nat → Bool} {v : Nat} (h : RI E src al L Wt v) (hal : ∀ i, al i = true → i < 24) (hsr : ∀ i, src i = true → i < 24) (hx : 24 ≤ v ∨ (∀ i, i < 24 → L i = false) ∨ (∀ i, i < 24 → Wt i = false)) (i : Nat) : seen src al L i = rch (fun a b => E a b = true) src al i := by
  obtain ⟨ha, hb, hc, hd, he⟩ := h
  have hlt : ∀ i, seen src al L i = true → i < 24 := fun i hi => by
    unfold seen at hi
    rcases Bool.or_eq_true _ _ ▸ hi with z | z
    · exact hsr i z
    · simp at z; exact hal i z.1
  have hcl : ∀ a b, seen src al L a = true → E a b = true → al b = true → seen src al L b = true := by
    intro a b h1 h2 h3
    rcases hx with hx | hx | hx
    · have h0 : ct (fun i => !(seen src al L i && !Wt i)) 24 = 0 := by omega
      have hz : ∀ n, ct (fun i => !(seen src al L i && !Wt i)) n = 0 → ∀ i, i < n → (!(seen src al L i && !Wt i)) = false := by
        intro n
        induction n with
        | zero => intro _ i hi; exact absurd hi (Nat.not_lt_zero _)
        | succ n ih =>
          intro hn i hi
          rw [ct] at hn
          rcases Nat.lt_or_ge i n with c | c
          · exact ih (by omega) i c
          · have e : i = n := by omega
            subst e
            cases hq : (!(seen src al L i && !Wt i))
            · rfl
            · rw [if_pos hq] at hn; omega
      have := hz 24 h0 a (hlt a h1)
      simp at this
      exact hd a b h1 this.2 h2 h3
    · unfold seen
      rw [h3, hx b (hal b h3)]
      simp
    · exact hd a b h1 (hx a (hlt a h1)) h2 h3
  cases e : rch (fun a b => E a b = true) src al i
  · cases e2 : seen src al L i
    · rfl
    · rw [hc i e2] at e; cases e
  · exact rch_min e (fun j hj => by unfold seen; rw [hj]; rfl) (fun a b h1 h2 h3 => hcl a b h1 h2 h3)
/-- neighbours by the first T transistors of at least the strength r -/
def cnd (g : Nat → Nat) (cl : Bool) (r t : Nat) : Bool := (if cl = true then decide (swS g t = 1) else !decide (swS g t = 0)) && decide (r ≤ g (90 + t))
def eK (g : Nat → Nat) (cl : Bool) (r : Nat) : Nat → Nat → Nat → Bool
  | 0, _, _ => false
  | T + 1, i, b => eK g cl r T i b || (cnd g cl r T && ((decide (i = g (170 + T)) && decide (b = g (210 + T))) || (decide (i = g (210 + T)) && decide (b = g (170 + T)))))
theorem eK_iff (g : Nat → Nat) (cl : Bool) (r : Nat) : ∀ T i b, eK g cl r T i b = true ↔ ∃ t, t < T ∧ cnd g cl r t = true ∧ edg g t i b
  | 0, i, b => ⟨fun h => (by cases h), fun ⟨t, h, _⟩ => absurd h (Nat.not_lt_zero t)⟩
  | T + 1, i, b => by
    rw [eK, Bool.or_eq_true, eK_iff g cl r T i b]
    constructor
    · rintro (⟨t, h1, h2, h3⟩ | h)
      · exact ⟨t, by omega, h2, h3⟩
      · simp at h
        exact ⟨T, by omega, h.1, h.2⟩
    · rintro ⟨t, h1, h2, h3⟩
      rcases Nat.lt_or_ge t T with c | c
      · exact Or.inl ⟨t, c, h2, h3⟩
      · have e : t = T := by omega
        subst e
        right
        rw [h2]
        rcases h3 with ⟨rfl, rfl⟩ | ⟨rfl, rfl⟩ <;> simp
noncomputable def lvQ (c : Nat → Nat) (lv i : Nat) : Bool := decide (i < c 0) && decide (lv ≤ qF c i)
noncomputable def lvU (c : Nat → Nat) (s lv i : Nat) : Bool := decide (i < c 0) && decide (lv ≤ uF c s i)
def car (c : Nat → Nat) (s i : Nat) : Bool := decide (i < c 0) && (decide (c (26 + i) = s) || decide (c (26 + i) = 2))
noncomputable def rcp (c : Nat → Nat) (lv i : Nat) : Bool := sto c i && !lvQ c (lv + 1) i
theorem lvQ_7 {c : Nat → Nat} (ok : okG c) (i : Nat) : inp c i = lvQ c 7 i := by
  unfold inp lvQ
  by_cases h : i < c 0
  · rw [decide_eq_decide.mpr (q_top ok h)]
  · rw [decide_eq_false h]; rfl
theorem lvU_7 {c : Nat → Nat} (ok : okG c) (s i : Nat) : (inp c i && car c s i) = lvU c s 7 i := by
  unfold inp lvU car
  by_cases h : i < c 0
  · have hu := u_top ok s h
    rw [decide_eq_true h]
    by_cases a : c (2 + i) = 0
    · by_cases b : c (26 + i) = s
      · rw [decide_eq_true (hu.mpr ⟨a, Or.inl b⟩), decide_eq_true a, decide_eq_true b]; rfl
      · by_cases d : c (26 + i) = 2
        · rw [decide_eq_true (hu.mpr ⟨a, Or.inr d⟩), decide_eq_true a, decide_eq_true d, decide_eq_false b]; rfl
        · rw [decide_eq_false (fun z => (hu.mp z).2.elim b d), decide_eq_false b, decide_eq_false d]; simp
    · rw [decide_eq_false (fun z => a (hu.mp z).1), decide_eq_false a]; rfl
  · rw [decide_eq_false h]; rfl
def sp (lv : Nat) : Nat := if lv ≤ 4 then 1 else lv - 3
theorem lvQ_s {c : Nat → Nat} (ok : okG c) {lv : Nat} (h1 : 1 ≤ lv) (h6 : lv ≤ 6) (i : Nat) : rch (fun a b => eK c true (sp lv) (c 1) a b = true) (fun i => lvQ c (lv + 1) i || szB c lv i) (sto c) i = lvQ c lv i := by
  have hE : ∀ a b, eK c true (sp lv) (c 1) a b = true ↔ ∃ t, t < c 1 ∧ swS c t = 1 ∧ lv ≤ c (90 + t) + 3 ∧ edg c t a b := fun a b => by
    rw [eK_iff]
    constructor
    · rintro ⟨t, ht, hc, he⟩
      unfold cnd sp at hc
      simp at hc
      exact ⟨t, ht, hc.1, by have := ok.2.2.2 t ht; split at hc <;> omega, he⟩
    · rintro ⟨t, ht, hs, hl, he⟩
      refine ⟨t, ht, ?_, he⟩
      unfold cnd sp
      have := ok.2.2.2 t ht
      simp [hs]
      split <;> omega
  have hlt : rch (fun a b => eK c true (sp lv) (c 1) a b = true) (fun i => lvQ c (lv + 1) i || szB c lv i) (sto c) i = true → i < c 0 := fun h => by
    have := rch_min h (T := fun i => decide (i < c 0)) (fun j hj => by
      rcases Bool.or_eq_true _ _ ▸ hj with z | z
      · unfold lvQ at z; simp at z; exact decide_eq_true z.1
      · unfold szB sto at z; simp at z; exact decide_eq_true z.1.1) (fun a b _ _ hb => by unfold sto at hb; simp at hb; exact decide_eq_true hb.1)
    exact of_decide_eq_true this
  by_cases hi : i < c 0
  · unfold lvQ
    rw [decide_eq_true hi, Bool.true_and]
    refine q_level ok h1 h6 (R := rch (fun a b => eK c true (sp lv) (c 1) a b = true) (fun i => lvQ c (lv + 1) i || szB c lv i) (sto c)) (fun n hn h => rch_src ?_) (fun a b t ha ht hs he hl hb => rch_cl ha ((hE a b).mpr ⟨t, ht, hs, hl, he⟩) ?_) (fun T hT1 hT2 n hn h => rch_min h (fun j hj => ?_) (fun a b ha hab hb => ?_)) hi
    · unfold lvQ szB sto
      rcases h with h | h
      · simp [hn, h]
      · simp [hn, h.1, h.2, h1]
    · unfold sto; simp [(edg_lt ok ht he).2, hb]
    · rcases Bool.or_eq_true _ _ ▸ hj with z | z
      · unfold lvQ at z; simp at z; exact hT1 j z.1 (Or.inl z.2)
      · unfold szB sto at z; simp at z; exact hT1 j z.1.1 (Or.inr ⟨z.1.2, z.2.2⟩)
    · obtain ⟨t, ht, hs, hl, he⟩ := (hE a b).mp hab
      unfold sto at hb; simp at hb
      exact hT2 a b t ha ht hs he hl hb.2
  · cases e : rch (fun a b => eK c true (sp lv) (c 1) a b = true) (fun i => lvQ c (lv + 1) i || szB c lv i) (sto c) i
    · unfold lvQ; rw [decide_eq_false hi]; rfl
    · exact absurd (hlt e) hi
theorem lvU_s {c : Nat → Nat} (ok : okG c) (s : Nat) {lv : Nat} (h1 : 1 ≤ lv) (h6 : lv ≤ 6) (i : Nat) : rch (fun a b => eK c false (sp lv) (c 1) a b = true) (fun i => lvU c s (lv + 1) i || ((szB c lv i && car c s i) && rcp c lv i)) (rcp c lv) i = lvU c s lv i := by
  have hE : ∀ a b, eK c false (sp lv) (c 1) a b = true ↔ ∃ t, t < c 1 ∧ swS c t ≠ 0 ∧ lv ≤ c (90 + t) + 3 ∧ edg c t a b := fun a b => by
    rw [eK_iff]
    constructor
    · rintro ⟨t, ht, hc, he⟩
      unfold cnd sp at hc
      simp at hc
      exact ⟨t, ht, hc.1, by have := ok.2.2.2 t ht; split at hc <;> omega, he⟩
    · rintro ⟨t, ht, hs, hl, he⟩
      refine ⟨t, ht, ?_, he⟩
      unfold cnd sp
      have := ok.2.2.2 t ht
      simp [hs]
      split <;> omega
  have hr : ∀ n, n < c 0 → (rcp c lv n = true ↔ c (2 + n) ≠ 0 ∧ qF c n ≤ lv) := fun n hn => by
    unfold rcp sto lvQ
    simp [hn]
    intro _
    omega
  have hrl : ∀ n, rcp c lv n = true → n < c 0 := fun n h => by unfold rcp sto at h; simp at h; exact h.1.1
  have hlt : rch (fun a b => eK c false (sp lv) (c 1) a b = true) (fun i => lvU c s (lv + 1) i || ((szB c lv i && car c s i) && rcp c lv i)) (rcp c lv) i = true → i < c 0 := fun h => by
    have := rch_min h (T := fun i => decide (i < c 0)) (fun j hj => by
      rcases Bool.or_eq_true _ _ ▸ hj with z | z
      · unfold lvU at z; simp at z; exact decide_eq_true z.1
      · simp at z; exact decide_eq_true (hrl j z.2)) (fun a b _ _ hb => decide_eq_true (hrl b hb))
    exact of_decide_eq_true this
  by_cases hi : i < c 0
  · unfold lvU
    rw [decide_eq_true hi, Bool.true_and]
    refine u_level ok s h1 h6 (R := rch (fun a b => eK c false (sp lv) (c 1) a b = true) (fun i => lvU c s (lv + 1) i || ((szB c lv i && car c s i) && rcp c lv i)) (rcp c lv)) (fun n hn h => rch_src ?_) (fun a b t ha ht hs he hl hb hq => rch_cl ha ((hE a b).mpr ⟨t, ht, hs, hl, he⟩) ?_) (fun T hT1 hT2 n hn h => rch_min h (fun j hj => ?_) (fun a b ha hab hb => ?_)) hi
    · rcases h with h | h
      · unfold lvU; simp [hn, h]
      · have h9 := (hr n hn).mpr ⟨h.1, h.2.2.2⟩
        unfold szB sto car
        simp [hn, h.1, h.2.1, h.2.2.1, h1, h9]
    · exact (hr b (edg_lt ok ht he).2).mpr ⟨hb, hq⟩
    · rcases Bool.or_eq_true _ _ ▸ hj with z | z
      · unfold lvU at z; simp at z; exact hT1 j z.1 (Or.inl z.2)
      · simp at z
        have hj := hrl j z.2
        have h9 := (hr j hj).mp z.2
        have z1 := z.1
        unfold szB sto car at z1
        simp at z1
        exact hT1 j hj (Or.inr ⟨h9.1, z1.1.2.2, z1.2.2, h9.2⟩)
    · obtain ⟨t, ht, hs, hl, he⟩ := (hE a b).mp hab
      have h9 := (hr b (hrl b hb)).mp hb
      exact hT2 a b t ha ht hs he hl h9.1 h9.2
  · cases e : rch (fun a b => eK c false (sp lv) (c 1) a b = true) (fun i => lvU c s (lv + 1) i || ((szB c lv i && car c s i) && rcp c lv i)) (rcp c lv) i
    · unfold lvU; rw [decide_eq_false hi]; rfl
    · exact absurd (hlt e) hi
/-- the next values out of the first levels -/
theorem lvU_1 {c : Nat → Nat} (ok : okG c) (i : Nat) : lvU c 1 1 i = m1 (stp c) i ∧ lvU c 0 1 i = m0 (stp c) i := by
  unfold lvU m1 m0
  rw [stp_lo (show 0 < 26 by omega)]
  by_cases h : i < c 0
  · rw [decide_eq_true h, Bool.true_and, Bool.true_and, Bool.true_and, Bool.true_and, stp_v h]
    have hp := ud_pos ok h
    have hv := (ok.2.2.1 i h).2
    unfold stv
    by_cases h0 : c (2 + i) = 0
    · rw [if_pos h0]
      have hu : ∀ s, (1 ≤ uF c s i ↔ (c (26 + i) = s ∨ c (26 + i) = 2)) := fun s => by
        constructor
        · intro h1
          refine Classical.byContradiction fun hn => ?_
          rw [u_inp ok s h0 hn] at h1
          omega
        · intro h1
          have := (u_top ok s h).mpr ⟨h0, h1⟩
          omega
      have d1 : ∀ s, decide (1 ≤ uF c s i) = (decide (c (26 + i) = s) || decide (c (26 + i) = 2)) := fun s => by
        by_cases a : c (26 + i) = s
        · rw [decide_eq_true ((hu s).mpr (Or.inl a)), decide_eq_true a]; rfl
        · by_cases b : c (26 + i) = 2
          · rw [decide_eq_true ((hu s).mpr (Or.inr b)), decide_eq_true b, decide_eq_false a]; rfl
          · rw [decide_eq_false (fun z => ((hu s).mp z).elim a b), decide_eq_false a, decide_eq_false b]; rfl
      rw [d1, d1]
      rcases (show c (26 + i) = 0 ∨ c (26 + i) = 1 ∨ c (26 + i) = 2 by omega) with e | e | e <;> rw [e] <;> exact ⟨rfl, rfl⟩
    · rw [if_neg h0]
      by_cases a : uF c 0 i = 0
      · rw [if_pos a, a]
        have : 1 ≤ uF c 1 i := by omega
        rw [decide_eq_true this]
        exact ⟨rfl, rfl⟩
      · rw [if_neg a]
        by_cases b : uF c 1 i = 0
        · rw [if_pos b, b, decide_eq_true (show 1 ≤ uF c 0 i by omega)]
          exact ⟨rfl, rfl⟩
        · rw [if_neg b, decide_eq_true (show 1 ≤ uF c 0 i by omega), decide_eq_true (show 1 ≤ uF c 1 i by omega)]
          exact ⟨rfl, rfl⟩
  · rw [decide_eq_false h]; exact ⟨rfl, rfl⟩
theorem act_m {c : Nat → Nat} (ok : okG c) (i : Nat) : ((m1 (stp c) i ^^ m1 c i) || (m0 (stp c) i ^^ m0 c i)) = act c i := by
  unfold m1 m0 act
  rw [stp_lo (show 0 < 26 by omega)]
  by_cases h : i < c 0
  · rw [decide_eq_true h, stp_v h]
    have h1 := stv_le ok h
    have h2 := (ok.2.2.1 i h).2
    rcases (show stv c i = 0 ∨ stv c i = 1 ∨ stv c i = 2 by omega) with e | e | e <;> rcases (show c (26 + i) = 0 ∨ c (26 + i) = 1 ∨ c (26 + i) = 2 by omega) with d | d | d <;> rw [e, d] <;> rfl
  · rw [decide_eq_false h]; rfl
