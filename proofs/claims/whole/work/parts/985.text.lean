/-! texts on the tape: signs, places, faults, numbers -/
section TEXT
def enC (z : Nat) : Int32 := if z < 256 then nI z else kI (-1)
theorem enC_lt {z : Nat} (h : z < 256) : enC z = nI z := if_pos h
theorem enC_256 : enC 256 = kI (-1) := rfl
def TXC (w : Wd) (ch : Nat → Nat) (n p : Nat) : Prop := w 1 2 = nI n ∧ w 1 3 = nI p ∧ n ≤ 260 ∧ p ≤ n ∧ (∃ sz, w 1 1 = nI sz ∧ n ≤ sz ∧ sz ≤ 260) ∧ (∀ i, i < n → w 2 i = nI (ch i) ∧ ch i < 256) ∧ ∀ i, n ≤ i → ch i = 256
def TXR (w : Wd) (ch : Nat → Nat) (n p : Nat) : Prop := w 110 12 = nI n ∧ w 110 11 = nI p ∧ n ≤ 260 ∧ p ≤ n ∧ (∀ i, i < n → w 117 i &&& kI 255 = nI (ch i) ∧ ch i < 256) ∧ ∀ i, n ≤ i → ch i = 256
theorem enC_eq {z k : Nat} (hk : k < 256) : enC z = nI k ↔ z = k := by
  unfold enC
  by_cases h : z < 256
  · rw [if_pos h, nI_eq (by omega) (by omega)]
  · rw [if_neg h]
    constructor
    · intro e; exact absurd e.symm (nI_m1 (by omega))
    · intro e; omega
theorem enC_m1 {z : Nat} : enC z = kI (-1) ↔ 256 ≤ z := by
  unfold enC
  by_cases h : z < 256
  · rw [if_pos h]
    exact ⟨fun e => absurd e (nI_m1 (by omega)), fun e => by omega⟩
  · rw [if_neg h]
    exact ⟨fun _ => by omega, fun _ => rfl⟩
theorem enC_w {z a b : Nat} {w : Wd} (hb : b < 256) (ha : a < 256) : F_153 (enC z) (kI a) (kI b) w = 0 ↔ ¬ (a ≤ z ∧ z ≤ b) := by
  unfold enC
  by_cases h : z < 256
  · rw [if_pos h]
    have := within_nI (n := z) (a := a) (b := b) (w := w) (by omega) (by omega) (by omega)
    by_cases hc : a ≤ z ∧ z ≤ b
    · rw [if_pos hc] at this
      rw [this]
      exact ⟨fun e => absurd e (by decide), fun e => absurd hc e⟩
    · rw [if_neg hc] at this
      rw [this]
      exact ⟨fun _ => hc, fun _ => rfl⟩
  · rw [if_neg h]
    have e : F_153 (kI (-1)) (kI a) (kI b) w = 0 := by
      unfold F_153
      rw [if_pos (show kI (-1) < kI a by rw [Int32.lt_iff_toInt_lt, kI_toInt (by omega) (by omega), kI_toInt (by omega) (by omega)]; omega)]
      rfl
    exact ⟨fun _ => by omega, fun _ => e⟩
theorem enC_s {z a b : Nat} {w : Wd} (ha : a < 256) (hb : a + b < 256) : F_153 (enC z - kI a) (kI 0) (kI b) w = 0 ↔ ¬ (a ≤ z ∧ z ≤ a + b) := by
  unfold enC
  by_cases h : z < 256
  · rw [if_pos h]
    by_cases h2 : a ≤ z
    · rw [show nI z - kI a = nI (z - a) from pk_sub h2]
      have := within_nI (n := z - a) (a := 0) (b := b) (w := w) (by omega) (by decide) (by omega)
      by_cases hc : z ≤ a + b
      · rw [if_pos (by omega)] at this
        rw [show F_153 (nI (z - a)) (kI 0) (kI b) w = 1 from this]
        exact ⟨fun e => absurd e (by decide), fun e => absurd ⟨h2, hc⟩ e⟩
      · rw [if_neg (by omega)] at this
        rw [show F_153 (nI (z - a)) (kI 0) (kI b) w = 0 from this]
        exact ⟨fun _ => fun e => hc e.2, fun _ => rfl⟩
    · have e : F_153 (nI z - kI a) (kI 0) (kI b) w = 0 := by
        unfold F_153
        rw [if_pos (show nI z - kI a < kI 0 from pk_sneg (b := a) (by omega) (by omega))]
        rfl
      exact ⟨fun _ => fun e => h2 e.1, fun _ => e⟩
  · rw [if_neg h]
    have e : F_153 (kI (-1) - kI a) (kI 0) (kI b) w = 0 := by
      unfold F_153
      rw [show kI (-1) - kI a = kI (-1 - a) from (Int32.ofInt_sub _ _).symm, if_pos (show kI (-1 - a) < kI 0 by rw [Int32.lt_iff_toInt_lt, kI_toInt (by omega) (by omega), kI_toInt (by omega) (by omega)]; omega)]
      rfl
    exact ⟨fun _ => by omega, fun _ => e⟩
theorem TXC.sg {w : Wd} {ch : Nat → Nat} {n p : Nat} (h : TXC w ch n p) : F_110_1 w = enC (ch p) := by
  obtain ⟨h2, h3, h4, h5, ⟨sz, hs, hs2, hs3⟩, h6, h7⟩ := h
  unfold F_110_1
  rw [h2, h3]
  by_cases hp : n ≤ p
  · rw [if_pos (nI_le hp (by omega)), h7 p hp]; rfl
  · rw [if_neg (nI_ge (by omega) (by omega)), hs, if_neg (nI_ge (by omega) (by omega)), nI_clamp (by omega), (h6 p (by omega)).1, enC_lt (h6 p (by omega)).2]
theorem TXC.ix {w : Wd} {ch : Nat → Nat} {n p : Nat} (h : TXC w ch n p) : ¬ (w 1 2) ≤ (w 1 3) → (¬ (w 1 1) ≤ (w 1 3) → (inB (w 1 3) 260 = true)) := by
  obtain ⟨h2, h3, h4, h5, -⟩ := h
  intro a _
  rw [h2, h3] at a
  rw [h3]
  refine inB_nI ?_ (by decide)
  have : ¬ n ≤ p := fun e => a (nI_le e (by omega))
  omega
theorem TXC.end {w : Wd} {ch : Nat → Nat} {n p : Nat} (h : TXC w ch n p) : n ≤ p ↔ ch p = 256 := by
  obtain ⟨h2, h3, h4, h5, -, h6, h7⟩ := h
  constructor
  · exact fun e => h7 p e
  · intro e
    refine Nat.le_of_not_lt (fun hp => ?_)
    have := (h6 p hp).2
    omega
theorem TXC.le {w : Wd} {ch : Nat → Nat} {n p : Nat} (h : TXC w ch n p) : ch p ≤ 256 := by
  by_cases e : n ≤ p
  · rw [h.2.2.2.2.2.2 p e]; omega
  · have := (h.2.2.2.2.2.1 p (by omega)).2
    omega
theorem TXC.cg {w u : Wd} {ch : Nat → Nat} {n p : Nat} (h : TXC w ch n p) (e1 : u 1 1 = w 1 1) (e2 : u 1 2 = w 1 2) (e3 : u 1 3 = w 1 3) (e : u 2 = w 2) : TXC u ch n p := by
  unfold TXC at h ⊢
  rw [e1, e2, e3, e]
  exact h
theorem TXC.step {w : Wd} {ch : Nat → Nat} {n p : Nat} (h : TXC w ch n p) (hp : ch p < 256) : TXC (up2 w 1 3 ((w 1 3) + (kI 1))) ch n (p + 1) := by
  have hlt : p < n := Nat.lt_of_not_le (fun e => by have := h.end.mp e; omega)
  obtain ⟨h2, h3, h4, h5, ⟨sz, hs, hs2, hs3⟩, h6, h7⟩ := h
  refine ⟨?_, ?_, h4, by omega, ⟨sz, ?_, hs2, hs3⟩, fun i hi => ?_, h7⟩
  · rw [up2_at, if_neg (by decide)]; exact h2
  · rw [up2_at, if_pos rfl, h3, k1]
  · rw [up2_at, if_neg (by decide)]; exact hs
  · rw [up2_ne (by decide)]; exact h6 i hi
def flt (k : Int32) (p : Nat) : Int32 := ((kI (-1000)) * k) - nI p
theorem TXC.fail {w : Wd} {ch : Nat → Nat} {n p : Nat} (h : TXC w ch n p) (k : Int32) : G_115_1 k w = up2 w 1 4 (flt k p) := by
  unfold G_115_1 flt
  rw [h.2.1]
theorem TXC.f4 {w : Wd} {ch : Nat → Nat} {n p : Nat} (h : TXC w ch n p) (v : Int32) : TXC (up2 w 1 4 v) ch n p := h.cg (by rw [up2_at, if_neg (by decide)]) (by rw [up2_at, if_neg (by decide)]) (by rw [up2_at, if_neg (by decide)]) (up2_ne (by decide))
theorem TXR.sg {w : Wd} {ch : Nat → Nat} {n p : Nat} (h : TXR w ch n p) : F_175_110 w = enC (ch p) := by
  obtain ⟨h2, h3, h4, h5, h6, h7⟩ := h
  unfold F_175_110
  rw [h2, h3]
  by_cases hp : n ≤ p
  · rw [if_pos (nI_le hp (by omega)), h7 p hp]; rfl
  · rw [if_neg (nI_ge (by omega) (by omega)), nI_clamp (by omega), (h6 p (by omega)).1, enC_lt (h6 p (by omega)).2]
theorem TXR.ix {w : Wd} {ch : Nat → Nat} {n p : Nat} (h : TXR w ch n p) : ¬ (w 110 12) ≤ (w 110 11) → (inB (w 110 11) 260 = true) := by
  obtain ⟨h2, h3, h4, h5, -⟩ := h
  intro a
  rw [h2, h3] at a
  rw [h3]
  refine inB_nI ?_ (by decide)
  have : ¬ n ≤ p := fun e => a (nI_le e (by omega))
  omega
theorem TXR.end {w : Wd} {ch : Nat → Nat} {n p : Nat} (h : TXR w ch n p) : n ≤ p ↔ ch p = 256 := by
  obtain ⟨h2, h3, h4, h5, h6, h7⟩ := h
  constructor
  · exact fun e => h7 p e
  · intro e
    refine Nat.le_of_not_lt (fun hp => ?_)
    have := (h6 p hp).2
    omega
theorem TXR.le {w : Wd} {ch : Nat → Nat} {n p : Nat} (h : TXR w ch n p) : ch p ≤ 256 := by
  by_cases e : n ≤ p
  · rw [h.2.2.2.2.2 p e]; omega
  · have := (h.2.2.2.2.1 p (by omega)).2
    omega
theorem TXR.cg {w u : Wd} {ch : Nat → Nat} {n p : Nat} (h : TXR w ch n p) (e2 : u 110 12 = w 110 12) (e3 : u 110 11 = w 110 11) (e : u 117 = w 117) : TXR u ch n p := by
  unfold TXR at h ⊢
  rw [e2, e3, e]
  exact h
theorem TXR.step {w : Wd} {ch : Nat → Nat} {n p : Nat} (h : TXR w ch n p) (hp : ch p < 256) : TXR (up2 w 110 11 ((w 110 11) + (kI 1))) ch n (p + 1) := by
  have hlt : p < n := Nat.lt_of_not_le (fun e => by have := h.end.mp e; omega)
  obtain ⟨h2, h3, h4, h5, h6, h7⟩ := h
  refine ⟨?_, ?_, h4, by omega, fun i hi => ?_, h7⟩
  · rw [up2_at, if_neg (by decide)]; exact h2
  · rw [up2_at, if_pos rfl, h3, k1]
  · rw [up2_ne (by decide)]; exact h6 i hi
theorem TXR.fail {w : Wd} {ch : Nat → Nat} {n p : Nat} (h : TXR w ch n p) (k : Int32) : G_177_110 k (w 110 11) w = up2 w 110 13 (flt k p) := by
  unfold G_177_110 flt
  rw [h.2.1]
/-! numbers -/
def isD (z : Nat) : Bool := decide (48 ≤ z) && decide (z ≤ 57)
theorem isD_iff {z : Nat} : isD z = true ↔ 48 ≤ z ∧ z ≤ 57 := by unfold isD; simp
theorem TXC.dg {w : Wd} {ch : Nat → Nat} {n p : Nat} (h : TXC w ch n p) : F_111_1 w = 0 ↔ isD (ch p) = false := by
  unfold F_111_1
  rw [h.sg]
  refine (enC_w (a := 48) (b := 57) (by decide) (by decide)).trans ?_
  rw [← isD_iff]
  simp
theorem TXR.dg {w : Wd} {ch : Nat → Nat} {n p : Nat} (h : TXR w ch n p) : F_176_110 w = 0 ↔ isD (ch p) = false := by
  have e : F_176_110 w = F_153 (F_175_110 w) (kI 48) (kI 57) w := rfl
  rw [e, h.sg]
  refine (enC_w (a := 48) (b := 57) (by decide) (by decide)).trans ?_
  rw [← isD_iff]
  simp
/-- at most so many digits: the number and the place behind it, or the place of the digit that is too many -/
def rdN (ch : Nat → Nat) : Nat → Nat → Nat → Nat ⊕ (Nat × Nat)
  | 0, p, v => if isD (ch p) then .inl p else .inr (v, p)
  | m + 1, p, v => if isD (ch p) then rdN ch m (p + 1) (v * 10 + (ch p - 48)) else .inr (v, p)
theorem rdN_le {ch : Nat → Nat} : ∀ m p v x q, rdN ch m p v = .inr (x, q) → p ≤ q ∧ q ≤ p + m ∧ x < (v + 1) * 10 ^ m
  | 0, p, v, x, q, h => by
    unfold rdN at h
    split at h
    · cases h
    · cases h; simp
  | m + 1, p, v, x, q, h => by
    unfold rdN at h
    split at h
    · rename_i hd
      have hd2 := isD_iff.mp hd
      obtain ⟨a1, a2, a3⟩ := rdN_le m (p + 1) _ x q h
      refine ⟨by omega, by omega, Nat.lt_of_lt_of_le a3 ?_⟩
      rw [Nat.pow_succ, Nat.mul_comm (10 ^ m) 10, ← Nat.mul_assoc]
      exact Nat.mul_le_mul_right _ (by omega)
    · cases h
      refine ⟨Nat.le_refl _, by omega, ?_⟩
      have : 1 ≤ 10 ^ (m + 1) := Nat.one_le_pow _ _ (by decide)
      calc v < v + 1 := Nat.lt_succ_self v
        _ = (v + 1) * 1 := (Nat.mul_one _).symm
        _ ≤ (v + 1) * 10 ^ (m + 1) := Nat.mul_le_mul_left _ this
/-- only the tape's place and fault are changed -/
def FT (w u : Wd) : Prop := (∀ a, a ≠ 1 → u a = w a) ∧ ∀ j, j ≠ 3 → j ≠ 4 → u 1 j = w 1 j
theorem FT.refl (w : Wd) : FT w w := ⟨fun _ _ => rfl, fun _ _ _ => rfl⟩
theorem FT.trans {w u v : Wd} (h : FT w u) (g : FT u v) : FT w v := ⟨fun a ha => (g.1 a ha).trans (h.1 a ha), fun j h3 h4 => (g.2 j h3 h4).trans (h.2 j h3 h4)⟩
theorem FT.p {w : Wd} {k : Nat} {v : Int32} (hk : k = 3 ∨ k = 4) : FT w (up2 w 1 k v) := ⟨fun a ha => up2_ne ha, fun j h3 h4 => by rw [up2_at, if_neg (by omega)]⟩
theorem l_114 {X : Scr} {d n N : Nat} {w : Wd} {ch : Nat → Nat} {Q : Int32 → Wd → Prop} (hN : N ≤ 5) :
    ∀ (m p k v : Nat) (u : Wd), k + m = N → v < 10 ^ k → FT w u → TXC u ch n p → u 1 4 = w 1 4 → (∀ x q, rdN ch m p v = .inr (x, q) → ∀ u2 : Wd, FT w u2 → TXC u2 ch n q → u2 1 4 = w 1 4 → Q (nI x) u2) → (∀ q, rdN ch m p v = .inl q → ∀ u2 : Wd, FT w u2 → TXC u2 ch n q → u2 1 4 = flt (kI 2) q → Q (kI (-1)) u2) → EI X (d + 3) 114 (19, [some (.ref 1), some (.int (nI N)), some (.int (nI v)), some (.int (nI k))], [], SH, u) Q := by
  intro m
  induction m with
  | zero =>
    intro p k v u hk hv hF hT h4 q1 q2
    refine t114_1_at19 u _ _ _ ?_
    rw [if_pos (nI_le (by omega) (by omega))]
    refine ⟨hT.ix, ?_⟩
    unfold rdN at q1 q2
    by_cases hd : isD (ch p) = true
    · rw [if_neg (by rw [hT.dg, hd]; decide), hT.fail]
      rw [if_pos hd] at q2
      exact q2 p rfl _ (hF.trans (FT.p (Or.inr rfl))) (hT.f4 _) (by rw [up2_at, if_pos rfl])
    · have hd2 : isD (ch p) = false := by simpa using hd
      rw [if_pos (hT.dg.mpr hd2)]
      rw [if_neg hd] at q1
      exact q1 v p rfl u hF hT h4
  | succ m ih =>
    intro p k v u hk hv hF hT h4 q1 q2
    have hpk : 10 ^ k ≤ 10 ^ 4 := Nat.pow_le_pow_right (by decide) (by omega)
    refine t114_1_at19 u _ _ _ ?_
    rw [if_neg (nI_ge (by omega) (by omega))]
    refine ⟨hT.ix, ?_⟩
    unfold rdN at q1 q2
    by_cases hd : isD (ch p) = true
    · have hd2 := isD_iff.mp hd
      rw [if_neg (by rw [hT.dg, hd]; decide), hT.sg, enC_lt (by omega), k1]
      rw [if_pos hd] at q1 q2
      have e : ((nI v * (kI 10)) + nI (ch p)) - (kI 48) = nI (v * 10 + (ch p - 48)) := by
        rw [show nI v * kI 10 = nI (v * 10) from pk_mul v 10, nI_add, show nI (v * 10 + ch p) - kI 48 = nI (v * 10 + ch p - 48) from pk_sub (b := 48) (by omega)]
        congr 1
        omega
      rw [e]
      refine ⟨hT.ix, ih (p + 1) (k + 1) _ _ (by omega) ?_ (hF.trans (FT.p (Or.inl rfl))) (hT.step (by omega)) (by rw [up2_at, if_neg (by decide)]; exact h4) q1 q2⟩
      rw [Nat.pow_succ]
      omega
    · have hd2 : isD (ch p) = false := by simpa using hd
      rw [if_pos (hT.dg.mpr hd2)]
      rw [if_neg hd] at q1
      exact ⟨hT.ix, q1 v p rfl u hF hT h4⟩
/-- takeNumber at a digit -/
theorem c_114 {X : Scr} {d n N p : Nat} {w : Wd} {ch : Nat → Nat} {Q : Int32 → Wd → Prop} (hN : N ≤ 5) (hT : TXC w ch n p)
    (q0 : isD (ch p) = false → Q (kI (-1)) (up2 w 1 4 (flt (kI 1) p)))
    (q1 : isD (ch p) = true → ∀ x q, rdN ch N p 0 = .inr (x, q) → ∀ u2 : Wd, FT w u2 → TXC u2 ch n q → u2 1 4 = w 1 4 → Q (nI x) u2) (q2 : isD (ch p) = true → ∀ q, rdN ch N p 0 = .inl q → ∀ u2 : Wd, FT w u2 → TXC u2 ch n q → u2 1 4 = flt (kI 2) q → Q (kI (-1)) u2) : CI X (d + 4) 114 [.ref 1, .int (nI N)] w Q := by
  refine CI.of rfl (t114_1_at0 (d := d) w _ ⟨hT.ix, ?_⟩)
  by_cases hd : isD (ch p) = true
  · rw [if_neg (by rw [hT.dg, hd]; decide)]
    refine l_114 (d := d) (w := w) (n := n) (ch := ch) (Q := Q) (N := N) hN N p 0 0 w (Nat.zero_add _) (by decide) (FT.refl w) hT rfl (q1 hd) (q2 hd)
  · have hd2 : isD (ch p) = false := by simpa using hd
    rw [if_pos (hT.dg.mpr hd2), hT.fail]
    exact q0 hd2
end TEXT
