/-! steady values, steps, settling, periods, faults; two circuits that agree where it matters -/
noncomputable def stv (g : Nat → Nat) (n : Nat) : Nat := if g (2 + n) = 0 then g (26 + n) else if uF g 0 n = 0 then 1 else if uF g 1 n = 0 then 0 else 2
noncomputable def stp (g : Nat → Nat) : Nat → Nat := fun j => if 26 ≤ j ∧ j < 26 + g 0 then stv g (j - 26) else g j
noncomputable def act (g : Nat → Nat) : Nat → Bool := fun n => decide (n < g 0) && !decide (stv g n = g (26 + n))
theorem stp_v {g : Nat → Nat} {n : Nat} (hn : n < g 0) : stp g (26 + n) = stv g n := by
  unfold stp
  rw [if_pos ⟨by omega, by omega⟩, show 26 + n - 26 = n by omega]
theorem stp_lo {g : Nat → Nat} {j : Nat} (h : j < 26) : stp g j = g j := if_neg (by omega)
theorem stp_hi {g : Nat → Nat} (ok : okG g) {j : Nat} (h : 50 ≤ j) : stp g j = g j := if_neg (by have := ok.1; omega)
theorem stv_le {g : Nat → Nat} (ok : okG g) {n : Nat} (hn : n < g 0) : stv g n ≤ 2 := by
  have := (ok.2.2.1 n hn).2
  unfold stv
  repeat' split
  all_goals omega
theorem stp_ok {g : Nat → Nat} (ok : okG g) : okG (stp g) := by
  have e0 : stp g 0 = g 0 := stp_lo (by omega)
  have e1 : stp g 1 = g 1 := stp_lo (by omega)
  refine ⟨by rw [e0]; exact ok.1, by rw [e1]; exact ok.2.1, fun n hn => ?_, fun t ht => ?_⟩
  · rw [e0] at hn
    rw [stp_lo (show 2 + n < 26 by have := ok.1; omega), stp_v hn]
    exact ⟨(ok.2.2.1 n hn).1, stv_le ok hn⟩
  · rw [e1] at ht
    rw [e0, stp_hi ok (show 50 ≤ 50 + t by omega), stp_hi ok (show 50 ≤ 90 + t by omega), stp_hi ok (show 50 ≤ 130 + t by omega), stp_hi ok (show 50 ≤ 170 + t by omega), stp_hi ok (show 50 ≤ 210 + t by omega), stp_hi ok (show 50 ≤ 250 + t by omega)]
    exact ok.2.2.2 t ht
theorem act_stp {g : Nat → Nat} (ok : okG g) (h : msk (act g) = 0) : stp g = g := by
  funext j
  unfold stp
  split
  · rename_i hj
    have h2 := msk_zero.mp h (j - 26) (by have := ok.1; omega)
    unfold act at h2
    rw [decide_eq_true (show j - 26 < g 0 by omega), Bool.true_and, show 26 + (j - 26) = j by omega] at h2
    simpa using h2
  · rfl
noncomputable def setA : Nat → Nat → (Nat → Nat) → Int32 × (Nat → Nat)
  | 0, k, g => (if msk (act g) = 0 then nI k else -7, g)
  | m + 1, k, g => if msk (act g) = 0 then (nI k, g) else setA m (k + 1) (stp g)
theorem setA_0 (k : Nat) (g : Nat → Nat) : setA 0 k g = (if msk (act g) = 0 then nI k else -7, g) := rfl
theorem setA_s (m k : Nat) (g : Nat → Nat) : setA (m + 1) k g = if msk (act g) = 0 then (nI k, g) else setA m (k + 1) (stp g) := rfl
theorem setA_stable {m k : Nat} {g : Nat → Nat} (h : msk (act g) = 0) : setA m k g = (nI k, g) := by
  cases m with
  | zero => rw [setA_0, if_pos h]
  | succ m => rw [setA_s, if_pos h]
theorem setA_ok : ∀ (m k : Nat) {g : Nat → Nat}, okG g → okG (setA m k g).2
  | 0, k, g, ok => ok
  | m + 1, k, g, ok => by
    rw [setA_s]
    split
    · exact ok
    · exact setA_ok m (k + 1) (stp_ok ok)
theorem setA_r : ∀ (m k : Nat) (g : Nat → Nat), (∃ j, j ≤ m ∧ (setA m k g).1 = nI (k + j)) ∨ (setA m k g).1 = -7
  | 0, k, g => by
    rw [setA_0]
    by_cases h : msk (act g) = 0
    · left; exact ⟨0, Nat.le_refl _, by rw [if_pos h]; rfl⟩
    · right; rw [if_neg h]
  | m + 1, k, g => by
    rw [setA_s]
    by_cases h : msk (act g) = 0
    · left; exact ⟨0, Nat.zero_le _, by rw [if_pos h]; rfl⟩
    · rw [if_neg h]
      rcases setA_r m (k + 1) (stp g) with ⟨j, h1, h2⟩ | h2
      · left; exact ⟨j + 1, by omega, by rw [h2]; congr 1; omega⟩
      · right; exact h2
def sameV (g h : Nat → Nat) : Bool := decide (∀ n, n < h 0 → g (26 + n) = h (26 + n))
noncomputable def perA : Nat → Nat → (Nat → Nat) → (Nat → Nat) → Int32
  | 0, _, _, _ => -8
  | m + 1, k, g, g0 => if sameV (stp g) g0 = true then nI k else perA m (k + 1) (stp g) g0
theorem perA_0 (k : Nat) (g g0 : Nat → Nat) : perA 0 k g g0 = -8 := rfl
theorem perA_s (m k : Nat) (g g0 : Nat → Nat) : perA (m + 1) k g g0 = if sameV (stp g) g0 = true then nI k else perA m (k + 1) (stp g) g0 := rfl
/-- the value at a node of a copy that has settled; 2 if it doesn't -/
noncomputable def svl (m n : Nat) (g : Nat → Nat) : Nat := if (setA m 0 g).1 = -7 then 2 else (setA m 0 g).2 (26 + n)
def opp (a b : Nat) : Bool := (decide (a = 0) && decide (b = 1)) || (decide (a = 1) && decide (b = 0))
noncomputable def det (g : Nat → Nat) (t f n m : Nat) : Bool := opp (svl m n g) (svl m n (up1 g (250 + t) f))
noncomputable def dct (g : Nat → Nat) (n m : Nat) : Nat → Nat
  | 0 => 0
  | k + 1 => dct g n m k + (if det g (k / 2) (k % 2 + 1) n m = true then 1 else 0)
theorem dct_le (g : Nat → Nat) (n m : Nat) : ∀ k, dct g n m k ≤ k
  | 0 => Nat.le_refl _
  | k + 1 => by
    have := dct_le g n m k
    rw [dct]
    split <;> omega
theorem dct_x {g : Nat → Nat} {n m : Nat} (h : svl m n g = 2) : ∀ k, dct g n m k = 0
  | 0 => rfl
  | k + 1 => by
    rw [dct, dct_x h k]
    have : det g (k / 2) (k % 2 + 1) n m = false := by unfold det; rw [h]; rfl
    rw [this]; rfl
/-- the same circuit, where it matters -/
def Rel (c g : Nat → Nat) : Prop := c 0 = g 0 ∧ c 1 = g 1 ∧ (∀ n, n < g 0 → c (2 + n) = g (2 + n) ∧ c (26 + n) = g (26 + n)) ∧ ∀ t, t < g 1 → c (50 + t) = g (50 + t) ∧ c (90 + t) = g (90 + t) ∧ c (130 + t) = g (130 + t) ∧ c (170 + t) = g (170 + t) ∧ c (210 + t) = g (210 + t) ∧ c (250 + t) = g (250 + t)
theorem Rel.rf (g : Nat → Nat) : Rel g g := ⟨rfl, rfl, fun _ _ => ⟨rfl, rfl⟩, fun _ _ => ⟨rfl, rfl, rfl, rfl, rfl, rfl⟩⟩
theorem Rel.sy {c g : Nat → Nat} (h : Rel c g) : Rel g c := ⟨h.1.symm, h.2.1.symm, fun n hn => by rw [h.1] at hn; exact ⟨(h.2.2.1 n hn).1.symm, (h.2.2.1 n hn).2.symm⟩, fun t ht => by
  rw [h.2.1] at ht
  obtain ⟨a, b, c, d, e, f⟩ := h.2.2.2 t ht
  exact ⟨a.symm, b.symm, c.symm, d.symm, e.symm, f.symm⟩⟩
theorem Rel.tr {a b c : Nat → Nat} (h : Rel a b) (k : Rel b c) : Rel a c := ⟨h.1.trans k.1, h.2.1.trans k.2.1, fun n hn => by
  have h1 := h.2.2.1 n (by rw [k.1]; exact hn)
  have h2 := k.2.2.1 n hn
  exact ⟨h1.1.trans h2.1, h1.2.trans h2.2⟩, fun t ht => by
  obtain ⟨a1, a2, a3, a4, a5, a6⟩ := h.2.2.2 t (by rw [k.2.1]; exact ht)
  obtain ⟨b1, b2, b3, b4, b5, b6⟩ := k.2.2.2 t ht
  exact ⟨a1.trans b1, a2.trans b2, a3.trans b3, a4.trans b4, a5.trans b5, a6.trans b6⟩⟩
theorem Rel.ok {c g : Nat → Nat} (h : Rel c g) (ok : okG g) : okG c := by
  refine ⟨by rw [h.1]; exact ok.1, by rw [h.2.1]; exact ok.2.1, fun n hn => ?_, fun t ht => ?_⟩
  · rw [h.1] at hn
    rw [(h.2.2.1 n hn).1, (h.2.2.1 n hn).2]
    exact ok.2.2.1 n hn
  · rw [h.2.1] at ht
    obtain ⟨a, b, c, d, e, f⟩ := h.2.2.2 t ht
    rw [a, b, c, d, e, f, h.1]
    exact ok.2.2.2 t ht
theorem Rel.sw {c g : Nat → Nat} (h : Rel c g) (ok : okG g) {t : Nat} (ht : t < g 1) : swS c t = swS g t := by
  obtain ⟨a, _, d, _, _, f⟩ := h.2.2.2 t ht
  have hv := (h.2.2.1 (g (130 + t)) (ok.2.2.2 t ht).2.2.2.1).2
  unfold swS
  rw [f, a, d, hv]
theorem Rel.edgE {c g : Nat → Nat} (h : Rel c g) {t : Nat} (ht : t < g 1) (a b : Nat) : edg c t a b ↔ edg g t a b := by
  obtain ⟨_, _, _, d, e, _⟩ := h.2.2.2 t ht
  unfold edg
  rw [d, e]
theorem Rel.basE {c g : Nat → Nat} (h : Rel c g) {n : Nat} (hn : n < g 0) : bas c n = bas g n := by
  unfold bas
  rw [(h.2.2.1 n hn).1]
theorem Rel.preQ1 {c g : Nat → Nat} (h : Rel c g) (ok : okG g) {f : Nat → Nat} (hp : PreQ g f) : PreQ c f := by
  refine ⟨fun n hn => ?_, fun t ht hs a b he hb => ?_⟩
  · rw [h.1] at hn
    rw [h.basE hn]
    exact hp.1 n hn
  · rw [h.2.1] at ht
    rw [h.sw ok ht] at hs
    have he := (h.edgE ht a b).mp he
    rw [(h.2.2.1 b (edg_lt ok ht he).2).1] at hb
    rw [(h.2.2.2 t ht).2.1]
    exact hp.2 t ht hs a b he hb
theorem Rel.q {c g : Nat → Nat} (h : Rel c g) (ok : okG g) : qF c = qF g := by
  unfold qF
  rw [show PreQ c = PreQ g from funext fun f => propext ⟨fun k => h.sy.preQ1 (h.ok ok) k, fun k => h.preQ1 ok k⟩]
theorem Rel.preU1 {c g : Nat → Nat} (h : Rel c g) (ok : okG g) {s : Nat} {q f : Nat → Nat} (hp : PreU g s q f) : PreU c s q f := by
  refine ⟨fun n hn hv hq => ?_, fun t ht hs a b he hb hq => ?_⟩
  · rw [h.1] at hn
    rw [h.basE hn] at hq ⊢
    rw [(h.2.2.1 n hn).2] at hv
    exact hp.1 n hn hv hq
  · rw [h.2.1] at ht
    rw [h.sw ok ht] at hs
    have he := (h.edgE ht a b).mp he
    rw [(h.2.2.1 b (edg_lt ok ht he).2).1] at hb
    rw [(h.2.2.2 t ht).2.1] at hq ⊢
    exact hp.2 t ht hs a b he hb hq
theorem Rel.u {c g : Nat → Nat} (h : Rel c g) (ok : okG g) (s : Nat) : uF c s = uF g s := by
  unfold uF
  rw [h.q ok, show PreU c s (qF g) = PreU g s (qF g) from funext fun f => propext ⟨fun k => h.sy.preU1 (h.ok ok) k, fun k => h.preU1 ok k⟩]
theorem Rel.stvE {c g : Nat → Nat} (h : Rel c g) (ok : okG g) {n : Nat} (hn : n < g 0) : stv c n = stv g n := by
  unfold stv
  rw [h.u ok, h.u ok, (h.2.2.1 n hn).1, (h.2.2.1 n hn).2]
theorem Rel.actE {c g : Nat → Nat} (h : Rel c g) (ok : okG g) : act c = act g := by
  funext n
  unfold act
  rw [h.1]
  by_cases hn : n < g 0
  · rw [h.stvE ok hn, (h.2.2.1 n hn).2]
  · rw [decide_eq_false hn]; rfl
theorem Rel.stpE {c g : Nat → Nat} (h : Rel c g) (ok : okG g) : Rel (stp c) (stp g) := by
  have okc := h.ok ok
  have e0 : stp g 0 = g 0 := stp_lo (by omega)
  have e1 : stp g 1 = g 1 := stp_lo (by omega)
  refine ⟨?_, ?_, fun n hn => ?_, fun t ht => ?_⟩
  · rw [e0, stp_lo (by omega)]; exact h.1
  · rw [e1, stp_lo (by omega)]; exact h.2.1
  · rw [e0] at hn
    have := ok.1
    rw [stp_lo (show 2 + n < 26 by omega), stp_lo (show 2 + n < 26 by omega), stp_v hn, stp_v (by rw [h.1]; exact hn)]
    exact ⟨(h.2.2.1 n hn).1, h.stvE ok hn⟩
  · rw [e1] at ht
    rw [stp_hi ok (show 50 ≤ 50 + t by omega), stp_hi ok (show 50 ≤ 90 + t by omega), stp_hi ok (show 50 ≤ 130 + t by omega), stp_hi ok (show 50 ≤ 170 + t by omega), stp_hi ok (show 50 ≤ 210 + t by omega), stp_hi ok (show 50 ≤ 250 + t by omega), stp_hi okc (show 50 ≤ 50 + t by omega), stp_hi okc (show 50 ≤ 90 + t by omega), stp_hi okc (show 50 ≤ 130 + t by omega), stp_hi okc (show 50 ≤ 170 + t by omega), stp_hi okc (show 50 ≤ 210 + t by omega), stp_hi okc (show 50 ≤ 250 + t by omega)]
    exact h.2.2.2 t ht
theorem Rel.setAE : ∀ (m k : Nat) {c g : Nat → Nat}, Rel c g → okG g → (setA m k c).1 = (setA m k g).1 ∧ Rel (setA m k c).2 (setA m k g).2
  | 0, k, c, g, h, ok => by rw [setA_0, setA_0, h.actE ok]; exact ⟨rfl, h⟩
  | m + 1, k, c, g, h, ok => by
    rw [setA_s, setA_s, h.actE ok]
    split
    · exact ⟨rfl, h⟩
    · exact Rel.setAE m (k + 1) (h.stpE ok) (stp_ok ok)
theorem Rel.same {c g c0 g0 : Nat → Nat} (h : Rel c g) (h0 : Rel c0 g0) (e : g 0 = g0 0) : sameV c c0 = sameV g g0 := by
  unfold sameV
  apply decide_eq_decide.mpr
  rw [h0.1]
  constructor
  · intro k n hn
    rw [← (h0.2.2.1 n hn).2, ← (h.2.2.1 n (by rw [e]; exact hn)).2]
    exact k n hn
  · intro k n hn
    rw [(h0.2.2.1 n hn).2, (h.2.2.1 n (by rw [e]; exact hn)).2]
    exact k n hn
theorem Rel.perAE : ∀ (m k : Nat) {c g c0 g0 : Nat → Nat}, Rel c g → okG g → Rel c0 g0 → g 0 = g0 0 → perA m k c c0 = perA m k g g0
  | 0, k, c, g, c0, g0, _, _, _, _ => rfl
  | m + 1, k, c, g, c0, g0, h, ok, h0, e => by
    have e2 : stp g 0 = g0 0 := by rw [stp_lo (by omega)]; exact e
    rw [perA_s, perA_s, (h.stpE ok).same h0 e2, Rel.perAE m (k + 1) (h.stpE ok) (stp_ok ok) h0 e2]
theorem Rel.svlE {c g : Nat → Nat} (h : Rel c g) (ok : okG g) (m n : Nat) (hn : n < g 0) : svl m n c = svl m n g := by
  have hs := Rel.setAE m 0 h ok
  have e0 : ∀ (m k : Nat) (g : Nat → Nat), (setA m k g).2 0 = g 0 := by
    intro m
    induction m with
    | zero => intro k g; rfl
    | succ m ih =>
      intro k g
      rw [setA_s]
      split
      · rfl
      · rw [ih, stp_lo (by omega)]
  unfold svl
  rw [hs.1, (hs.2.2.2.1 n (by rw [e0]; exact hn)).2]
theorem Rel.flt {c g : Nat → Nat} (h : Rel c g) {t f : Nat} (ht : t < g 1) (k1 : g 1 ≤ 40) (k0 : g 0 ≤ 24) : Rel (up1 c (250 + t) f) (up1 g (250 + t) f) := by
  have e1 : up1 g (250 + t) f 1 = g 1 := up1_n (by omega)
  have e0 : up1 g (250 + t) f 0 = g 0 := up1_n (by omega)
  refine ⟨?_, ?_, fun n hn => ?_, fun u hu => ?_⟩
  · rw [up1_n (by omega), up1_n (by omega)]; exact h.1
  · rw [up1_n (by omega), up1_n (by omega)]; exact h.2.1
  · rw [e0] at hn
    rw [up1_n (by omega), up1_n (by omega), up1_n (by omega), up1_n (by omega)]; exact h.2.2.1 n hn
  · rw [e1] at hu
    obtain ⟨a, b, c, d, e, f⟩ := h.2.2.2 u hu
    rw [up1_n (show 50 + u ≠ 250 + t by omega), up1_n (show 90 + u ≠ 250 + t by omega), up1_n (show 130 + u ≠ 250 + t by omega), up1_n (show 170 + u ≠ 250 + t by omega), up1_n (show 210 + u ≠ 250 + t by omega), up1_n (show 50 + u ≠ 250 + t by omega), up1_n (show 90 + u ≠ 250 + t by omega), up1_n (show 130 + u ≠ 250 + t by omega), up1_n (show 170 + u ≠ 250 + t by omega), up1_n (show 210 + u ≠ 250 + t by omega)]
    refine ⟨a, b, c, d, e, ?_⟩
    by_cases z : u = t
    · subst z; rw [up1_s, up1_s]
    · rw [up1_n (by omega), up1_n (by omega)]; exact f
theorem okG_flt {g : Nat → Nat} (ok : okG g) {t f : Nat} (hf : f ≤ 2) (ht : t < 40) : okG (up1 g (250 + t) f) := by
  have k1 := ok.2.1
  have k0 := ok.1
  have e1 : up1 g (250 + t) f 1 = g 1 := up1_n (by omega)
  have e0 : up1 g (250 + t) f 0 = g 0 := up1_n (by omega)
  refine ⟨by rw [e0]; exact k0, by rw [e1]; exact k1, fun n hn => ?_, fun u hu => ?_⟩
  · rw [e0] at hn
    rw [up1_n (by omega), up1_n (by omega)]; exact ok.2.2.1 n hn
  · rw [e1] at hu
    rw [e0, up1_n (show 50 + u ≠ 250 + t by omega), up1_n (show 90 + u ≠ 250 + t by omega), up1_n (show 130 + u ≠ 250 + t by omega), up1_n (show 170 + u ≠ 250 + t by omega), up1_n (show 210 + u ≠ 250 + t by omega)]
    have h := ok.2.2.2 u hu
    refine ⟨h.1, h.2.1, h.2.2.1, h.2.2.2.1, h.2.2.2.2.1, h.2.2.2.2.2.1, h.2.2.2.2.2.2.1, ?_⟩
    by_cases z : u = t
    · subst z; rw [up1_s]; exact hf
    · rw [up1_n (by omega)]; exact h.2.2.2.2.2.2.2
theorem Rel.detE {c g : Nat → Nat} (h : Rel c g) (ok : okG g) {t f n m : Nat} (ht : t < g 1) (hf : f ≤ 2) (hn : n < g 0) : det c t f n m = det g t f n m := by
  unfold det
  have k1 := ok.2.1
  rw [h.svlE ok m n hn, (h.flt ht k1 ok.1).svlE (okG_flt ok hf (by omega)) m n (by rw [up1_n (by omega)]; exact hn)]
theorem Rel.dctE {c g : Nat → Nat} (h : Rel c g) (ok : okG g) {n m : Nat} (hn : n < g 0) : ∀ k, k ≤ 2 * g 1 → dct c n m k = dct g n m k
  | 0, _ => rfl
  | k + 1, hk => by
    rw [dct, dct, Rel.dctE h ok hn k (by omega), h.detE ok (show k / 2 < g 1 by omega) (show k % 2 + 1 ≤ 2 by omega) hn]
