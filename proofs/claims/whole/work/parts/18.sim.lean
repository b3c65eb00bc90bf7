/-! the class itself: its object, what its calls leave -/
abbrev xB (xo : Nat) (cd ce : Nat → Nat) (so : Nat) (sd : Nat → Nat) : va_W := [(xo, .inr (2, [.ref (cd 0), .ref (ce 0), .ref so, .ref (sd 0)]))]
abbrev qB (cR : ClassId) (so : Nat) (f : Nat → Option Nat) : va_W := [(so, .inl (cR, 2, .inr (.inr (.inr (.inr f)))))]
abbrev TS : Type := (Nat → Nat) × (Nat → Nat → Int32)
theorem bI_inj {a b : Bool} : bI a = bI b ↔ a = b := by cases a <;> cases b <;> decide
theorem inp_at {c : Nat → Nat} {j : Nat} (h : j < c 0) : inp c j = decide (c (2 + j) = 0) := by unfold inp; rw [decide_eq_true h]; rfl
theorem stv_cpy {c e : Nat → Nat} (ok : okG c) {j : Nat} (hj : j < c 0) : stp (cpy c e) (26 + j) = stv c j := by
  have hr := cpy_Rel c e ok.1 ok.2.1
  rw [stp_v (by rw [hr.1]; exact hj), hr.stvE ok hj]
theorem sameV_m {c d : Nat → Nat} (ok : okG c) (okd : okG d) (e : c 0 = d 0) : decide (msk (m0 c) = msk (m0 d) ∧ msk (m1 c) = msk (m1 d)) = sameV c d := by
  unfold sameV
  apply decide_eq_decide.mpr
  have h0 := ok.1
  constructor
  · rintro ⟨h1, h2⟩ n hn
    have a := msk_inj h1 n (by omega)
    have b := msk_inj h2 n (by omega)
    have v1 := (ok.2.2.1 n (by omega)).2
    have v2 := (okd.2.2.1 n (by omega)).2
    unfold m0 at a
    unfold m1 at b
    rw [decide_eq_true (show n < c 0 by omega), decide_eq_true hn] at a b
    simp at a b
    omega
  · intro h
    constructor
    · refine msk_cong fun i _ => ?_
      unfold m0
      rw [e]
      by_cases q : i < d 0
      · rw [h i q]
      · rw [decide_eq_false q]; rfl
    · refine msk_cong fun i _ => ?_
      unfold m1
      rw [e]
      by_cases q : i < d 0
      · rw [h i q]
      · rw [decide_eq_false q]; rfl
theorem svl_cpy {c e : Nat → Nat} (ok : okG c) {k j : Nat} (hj : j < c 0) : svl k j (cpy c e) = svl k j c := (cpy_Rel c e ok.1 ok.2.1).svlE ok k j hj
theorem svl_flt {c e : Nat → Nat} (ok : okG c) {k j t f : Nat} (hj : j < c 0) (ht : t < c 1) (hf : f ≤ 2) : svl k j (up1 (cpy c e) (250 + t) f) = svl k j (up1 c (250 + t) f) := by
  have h1 := ok.2.1
  exact ((cpy_Rel c e ok.1 ok.2.1).flt ht h1 ok.1).svlE (okG_flt ok hf (by omega)) k j (by rw [up1_n (by omega)]; exact hj)
theorem svl_le {c : Nat → Nat} (ok : okG c) {k j : Nat} (hj : j < c 0) : svl k j c ≤ 2 := by
  unfold svl
  split
  · exact Nat.le_refl _
  · exact ((setA_ok k 0 ok).2.2.1 j (by rw [setA_N]; exact hj)).2
theorem dct_1 (c : Nat → Nat) (n k t : Nat) : dct c n k (2 * t + 1) = dct c n k (2 * t) + (if det c t 1 n k = true then 1 else 0) := by
  rw [dct, show 2 * t / 2 = t by omega, show 2 * t % 2 + 1 = 1 by omega]
theorem dct_2 (c : Nat → Nat) (n k t : Nat) : dct c n k (2 * (t + 1)) = dct c n k (2 * t + 1) + (if det c t 2 n k = true then 1 else 0) := by
  rw [show 2 * (t + 1) = (2 * t + 1) + 1 by omega, dct, show (2 * t + 1) / 2 = t by omega, show (2 * t + 1) % 2 + 1 = 2 by omega]
