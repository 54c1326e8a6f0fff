/-! table, part 1: numbers -/
section TABLE1
/-- how many bits below n -/
def cnS (S : Nat) : Nat → Nat
  | 0 => 0
  | n + 1 => cnS S n + (S.testBit n).toNat
theorem cnS_mono {S : Nat} : ∀ k n, cnS S n ≤ cnS S (n + k)
  | 0, _ => Nat.le_refl _
  | k + 1, n => Nat.le_trans (cnS_mono k n) (Nat.le_add_right _ _)
theorem cnS_lt {S k n : Nat} (h : k < n) (hb : S.testBit k = true) : cnS S k < cnS S n := by
  have h1 := cnS_mono (S := S) (n - (k + 1)) (k + 1)
  rw [show k + 1 + (n - (k + 1)) = n by omega] at h1
  have h2 : cnS S (k + 1) = cnS S k + (S.testBit k).toNat := rfl
  rw [hb] at h2
  have h3 : Bool.toNat true = 1 := rfl
  omega
theorem cnS_6 : ∀ S, S < 64 → cnS S 6 = bcN S := by decide +kernel
/-- the place of the i-th bit -/
def kS (S : Nat) : Nat → Nat → Nat
  | 0, _ => 0
  | n + 1, i => if S.testBit n && cnS S n == i then n else kS S n i
theorem kS_at {S k : Nat} (hb : S.testBit k = true) : ∀ n, k < n → kS S n (cnS S k) = k
  | 0, h => by omega
  | n + 1, h => by
    unfold kS
    by_cases e : n = k
    · subst e
      rw [hb]
      simp
    · have ih := kS_at hb n (by omega)
      cases hn : S.testBit n with
      | false => rw [Bool.false_and, if_neg (by decide)]; exact ih
      | true =>
        have h1 := cnS_lt (S := S) (k := k) (n := n) (by omega) hb
        have h2 : (cnS S n == cnS S k) = false := by simp; omega
        rw [h2, Bool.and_false, if_neg (by decide)]
        exact ih
theorem kS_lt {S : Nat} {i : Nat} : ∀ n, 0 < n → kS S n i < n
  | 0, h => by omega
  | n + 1, _ => by
    unfold kS
    split
    · omega
    · cases n with
      | zero => show 0 < 1; decide
      | succ n => exact Nat.lt_succ_of_lt (kS_lt (n + 1) (by omega))
/-- the cells in their order -/
def cvF (C G c : Nat) (x : Nat → Nat) (y : Nat) : Nat := x (6 * kS C 6 (y / c) + kS G 6 (y % c))
theorem cv_at {C G c : Nat} {x : Nat → Nat} {k f : Nat} (hC : C.testBit k = true) (hG : G.testBit f = true) (hk : k < 6) (hf : f < 6) (hc : cnS G 6 = c) : cvF C G c x (c * cnS C k + cnS G f) = x (6 * k + f) := by
  have h1 := cnS_lt (S := G) hf hG
  unfold cvF
  rw [Nat.mul_add_div (by omega), Nat.div_eq_of_lt (by omega), Nat.add_zero, Nat.mul_add_mod, Nat.mod_eq_of_lt (by omega), kS_at hC 6 hk, kS_at hG 6 hf]
/-- by how much a cell is changed -/
def byZ (b : Nat) (ρ : Nat → Nat) (U y : Nat) : Int := if ρ y = 0 then 0 else if U.testBit y then (b : Int) - ρ y else -(ρ y : Int)
def rowZ (B : Nat → Int) (c i : Nat) : Nat → Int
  | 0 => 0
  | j + 1 => rowZ B c i j + B (c * i + j)
def colZ (B : Nat → Int) (c j : Nat) : Nat → Int
  | 0 => 0
  | i + 1 => colZ B c j i + B (c * i + j)
def arZ (B : Nat → Int) (c : Nat) : Nat → Int
  | 0 => 0
  | i + 1 => arZ B c i + rowZ B c i c
def acZ (B : Nat → Int) (c q : Nat) : Nat → Int
  | 0 => 0
  | j + 1 => acZ B c q j + colZ B c j q
theorem ac_s {B : Nat → Int} {c q : Nat} : ∀ j, acZ B c (q + 1) j = acZ B c q j + rowZ B c q j
  | 0 => rfl
  | j + 1 => by
    have ih := ac_s (B := B) (c := c) (q := q) j
    show acZ B c (q + 1) j + (colZ B c j q + B (c * q + j)) = acZ B c q j + colZ B c j q + (rowZ B c q j + B (c * q + j))
    rw [ih]
    omega
theorem ar_ac {B : Nat → Int} {c : Nat} : ∀ q, arZ B c q = acZ B c q c
  | 0 => by
    have : ∀ j, acZ B c 0 j = 0 := by
      intro j
      induction j with
      | zero => rfl
      | succ j ih => show acZ B c 0 j + 0 = 0; rw [ih]; rfl
    rw [this]
    rfl
  | q + 1 => by
    show arZ B c q + rowZ B c q c = acZ B c (q + 1) c
    rw [ac_s, ar_ac q]
def BZ (B : Nat → Int) : Prop := ∀ y, -50 ≤ B y ∧ B y ≤ 50
theorem rowZ_le {B : Nat → Int} (h : BZ B) {c i : Nat} : ∀ j : Nat, -(50 * (j : Int)) ≤ rowZ B c i j ∧ rowZ B c i j ≤ 50 * j
  | 0 => by constructor <;> simp [rowZ]
  | j + 1 => by
    have ih := rowZ_le h (c := c) (i := i) j
    have h1 := h (c * i + j)
    unfold rowZ
    omega
theorem colZ_le {B : Nat → Int} (h : BZ B) {c j : Nat} : ∀ i : Nat, -(50 * (i : Int)) ≤ colZ B c j i ∧ colZ B c j i ≤ 50 * i
  | 0 => by constructor <;> simp [colZ]
  | i + 1 => by
    have ih := colZ_le h (c := c) (j := j) i
    have h1 := h (c * i + j)
    unfold colZ
    omega
theorem acZ_le {B : Nat → Int} (h : BZ B) {c q : Nat} (hq : q ≤ 4) : ∀ j : Nat, -(200 * (j : Int)) ≤ acZ B c q j ∧ acZ B c q j ≤ 200 * j
  | 0 => by constructor <;> simp [acZ]
  | j + 1 => by
    have ih := acZ_le h (c := c) hq j
    have h1 := colZ_le h (c := c) (j := j) q
    unfold acZ
    omega
theorem byZ_le {b : Nat} {ρ : Nat → Nat} {U : Nat} (hb : b ≤ 50) (hρ : ∀ y, ρ y < b) : BZ (byZ b ρ U) := by
  intro y
  have := hρ y
  unfold byZ
  split
  · omega
  · split <;> omega
def spR (B : Nat → Int) (b c : Nat) : Nat → Nat → Nat → Option Nat
  | 0, _, o => some o
  | m + 1, i, o => if (rowZ B c i c).natAbs < b then spR B b c m (i + 1) (o + (rowZ B c i c).natAbs) else none
def spC (B : Nat → Int) (b c q : Nat) : Nat → Nat → Nat → Option Nat
  | 0, _, o => some o
  | m + 1, j, o => if (colZ B c j q).natAbs < b then spC B b c q m (j + 1) (o + (colZ B c j q).natAbs) else none
def ofZ (B : Nat → Int) (b q c : Nat) : Option Nat := match spR B b c q 0 0 with
  | none => none
  | some o => match spC B b c q c 0 o with
    | none => none
    | some o2 => if (arZ B c q).natAbs < b then some o2 else none
theorem spC_add {B : Nat → Int} {b c q : Nat} : ∀ m j o p, spC B b c q m j (o + p) = (spC B b c q m j p).map (fun x => o + x)
  | 0, _, _, _ => rfl
  | m + 1, j, o, p => by
    unfold spC
    split
    · rw [Nat.add_assoc]; exact spC_add m (j + 1) o _
    · rfl
theorem spR_le {B : Nat → Int} {b c : Nat} : ∀ m i o x, spR B b c m i o = some x → x ≤ o + b * m
  | 0, _, o, x, h => by cases h; omega
  | m + 1, i, o, x, h => by
    unfold spR at h
    split at h
    · have := spR_le m (i + 1) _ x h
      rw [Nat.mul_succ]
      omega
    · cases h
theorem spC_le {B : Nat → Int} {b c q : Nat} : ∀ m j o x, spC B b c q m j o = some x → x ≤ o + b * m
  | 0, _, o, x, h => by cases h; omega
  | m + 1, j, o, x, h => by
    unfold spC at h
    split at h
    · have := spC_le m (j + 1) _ x h
      rw [Nat.mul_succ]
      omega
    · cases h
theorem ofZ_le {B : Nat → Int} {b q c x : Nat} (hb : b ≤ 50) (hq : q ≤ 4) (hc : c ≤ 3) (h : ofZ B b q c = some x) : x ≤ 350 := by
  unfold ofZ at h
  cases e : spR B b c q 0 0 with
  | none => rw [e] at h; cases h
  | some o =>
    rw [e] at h
    dsimp only at h
    cases e2 : spC B b c q c 0 o with
    | none => rw [e2] at h; cases h
    | some o2 =>
      rw [e2] at h
      dsimp only at h
      have h1 := spR_le q 0 0 o e
      have h2 := spC_le c 0 o o2 e2
      have h3 : b * q ≤ 50 * 4 := Nat.mul_le_mul hb hq
      have h4 : b * c ≤ 50 * 3 := Nat.mul_le_mul hb hc
      split at h
      · cases h; omega
      · cases h
/-! which way of rounding -/
def clT (f : Nat → Option Nat) (U : Nat) (o : Option (Nat × Nat)) : Option (Nat × Nat) := match f U with
  | none => o
  | some v => match o with
    | none => some (v, U)
    | some p => if p.1 ≤ v then some p else some (v, U)
def clTF (f : Nat → Option Nat) : Nat → Nat → Option (Nat × Nat) → Option (Nat × Nat)
  | 0, _, o => o
  | m + 1, U, o => clTF f m (U + 1) (clT f U o)
/-- what was found is no more than what was seen -/
def SEEN (f : Nat → Option Nat) (U : Nat) (o : Option (Nat × Nat)) : Prop := ∀ V v, V < U → f V = some v → ∃ p, o = some p ∧ p.1 ≤ v
theorem SEEN.s {f : Nat → Option Nat} {U : Nat} {o : Option (Nat × Nat)} (h : SEEN f U o) : SEEN f (U + 1) (clT f U o) := by
  intro V v hV hv
  unfold clT
  cases e : f U with
  | none =>
    have : V ≠ U := fun e2 => by rw [e2, e] at hv; cases hv
    exact h V v (by omega) hv
  | some x =>
    dsimp only
    by_cases e2 : V = U
    · rw [e2, e] at hv
      have e3 : x = v := Option.some.inj hv
      subst e3
      cases o with
      | none => exact ⟨_, rfl, Nat.le_refl _⟩
      | some p =>
        dsimp only
        by_cases hc : p.1 ≤ x
        · rw [if_pos hc]; exact ⟨p, rfl, hc⟩
        · rw [if_neg hc]; exact ⟨_, rfl, Nat.le_refl _⟩
    · obtain ⟨p, hp, hle⟩ := h V v (by omega) hv
      rw [hp]
      dsimp only
      by_cases hc : p.1 ≤ x
      · rw [if_pos hc]; exact ⟨p, rfl, hle⟩
      · rw [if_neg hc]; exact ⟨_, rfl, by dsimp only; omega⟩
/-- ways that have been seen in another form may be left out -/
theorem clTF_eq {f g : Nat → Option Nat} (h : ∀ U, g U = f U ∨ (g U = none ∧ ∃ V, V < U ∧ f V = f U)) : ∀ (m U : Nat) (o : Option (Nat × Nat)), SEEN f U o → clTF g m U o = clTF f m U o
  | 0, _, _, _ => rfl
  | m + 1, U, o, hs => by
    have e : clT g U o = clT f U o := by
      rcases h U with e | ⟨e, V, hV, eV⟩
      · unfold clT; rw [e]
      · unfold clT
        rw [e]
        cases e2 : f U with
        | none => rfl
        | some v =>
          obtain ⟨p, hp, hle⟩ := hs V v hV (by rw [eV]; exact e2)
          rw [hp]
          dsimp only
          rw [if_pos hle]
    show clTF g m (U + 1) (clT g U o) = clTF f m (U + 1) (clT f U o)
    rw [e]
    exact clTF_eq h m (U + 1) _ hs.s
/-- a bit where nothing is to be rounded -/
def badU (ρ : Nat → Nat) (n U : Nat) : Bool := (List.range n).any (fun y => U.testBit y && ρ y == 0)
theorem bad_iff {ρ : Nat → Nat} {n U : Nat} : badU ρ n U = true ↔ ∃ y, y < n ∧ U.testBit y = true ∧ ρ y = 0 := by
  unfold badU
  simp [List.any_eq_true, List.mem_range]
theorem clr_bit {U y z : Nat} : (U &&& (U ^^^ 2 ^ y)).testBit z = (U.testBit z && !decide (y = z)) := by
  rw [Nat.testBit_and, Nat.testBit_xor, Nat.testBit_two_pow]
  cases U.testBit z <;> cases decide (y = z) <;> rfl
theorem clr_lt {U y : Nat} (h : U.testBit y = true) : U &&& (U ^^^ 2 ^ y) < U := by
  refine Nat.lt_of_le_of_ne Nat.and_le_left (fun e => ?_)
  have h1 := clr_bit (U := U) (y := y) (z := y)
  rw [e, h, decide_eq_true rfl] at h1
  cases h1
theorem byZ_x {b : Nat} {ρ : Nat → Nat} {U y : Nat} (h : ρ y = 0) : byZ b ρ (U &&& (U ^^^ 2 ^ y)) = byZ b ρ U := by
  funext z
  unfold byZ
  by_cases e : ρ z = 0
  · rw [if_pos e, if_pos e]
  · have : y ≠ z := fun e2 => e (by rw [← e2]; exact h)
    rw [if_neg e, if_neg e, clr_bit, decide_eq_false this, Bool.not_false, Bool.and_true]
/-! ints -/
theorem kI_a (a b : Int) : kI a + kI b = kI (a + b) := (Int32.ofInt_add a b).symm
theorem nI_neg (n : Nat) : -(nI n) = kI (-(n : Int)) := by
  rw [← kI_of]
  exact (Int32.ofInt_neg _).symm
theorem nI_s (a b : Nat) : nI a - nI b = kI ((a : Int) - b) := by
  rw [← kI_of, ← kI_of]
  exact (Int32.ofInt_sub _ _).symm
theorem kI_abs {z : Int} (h1 : -1000000 ≤ z) (h2 : z ≤ 1000000) : (if 0 ≤ kI z then kI z else 0 - kI z) = nI z.natAbs := by
  have hz := kI_toInt h1 h2
  have h0 : (0 : Int32).toInt = 0 := rfl
  by_cases h : 0 ≤ z
  · rw [if_pos (by rw [Int32.le_iff_toInt_le, hz, h0]; exact h), ← kI_of]
    congr 1
    omega
  · rw [if_neg (by rw [Int32.le_iff_toInt_le, hz, h0]; exact h), Int32.zero_sub, ← Int32.ofInt_neg, ← kI_of]
    congr 1
    omega
theorem kI_abs2 {z : Int} {w : Wd} (h1 : -1000000 ≤ z) (h2 : z ≤ 1000000) : F_160 (kI z) w = nI z.natAbs := by
  have := kI_abs h1 h2
  rw [Int32.zero_sub] at this
  exact this
end TABLE1
