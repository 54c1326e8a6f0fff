/-! shares, in numbers -/
section SHARE
def pS (P : Nat → Nat) : Nat := P 0 + P 1 + P 2 + P 3 + P 4 + P 5
def qS (P : Nat → Nat) (many : Nat) : Nat → Nat
  | 0 => 0
  | n + 1 => qS P many n + P n * many / pS P
theorem qS_le {P : Nat → Nat} {many : Nat} (ha : 0 < pS P) : qS P many 6 ≤ many ∧ (P 0 * many % pS P + P 1 * many % pS P + P 2 * many % pS P + P 3 * many % pS P + P 4 * many % pS P + P 5 * many % pS P) = (many - qS P many 6) * pS P := by
  have e : ∀ c, P c * many = pS P * (P c * many / pS P) + P c * many % pS P := fun c => (Nat.div_add_mod _ _).symm
  have e0 := e 0; have e1 := e 1; have e2 := e 2; have e3 := e 3; have e4 := e 4; have e5 := e 5
  have hs : pS P * many = P 0 * many + P 1 * many + P 2 * many + P 3 * many + P 4 * many + P 5 * many := by
    unfold pS; simp only [Nat.add_mul]
  have hq : qS P many 6 = P 0 * many / pS P + P 1 * many / pS P + P 2 * many / pS P + P 3 * many / pS P + P 4 * many / pS P + P 5 * many / pS P := by
    simp only [qS]; omega
  have hq2 : pS P * qS P many 6 = pS P * (P 0 * many / pS P) + pS P * (P 1 * many / pS P) + pS P * (P 2 * many / pS P) + pS P * (P 3 * many / pS P) + pS P * (P 4 * many / pS P) + pS P * (P 5 * many / pS P) := by
    rw [hq]; simp only [Nat.mul_add]
  have hle : pS P * qS P many 6 ≤ pS P * many := by omega
  have h1 : qS P many 6 ≤ many := Nat.le_of_mul_le_mul_left hle ha
  refine ⟨h1, ?_⟩
  have h2 : (many - qS P many 6) * pS P = pS P * many - pS P * qS P many 6 := by
    rw [Nat.mul_comm, Nat.mul_sub]
  rw [h2]
  omega
theorem qS_mono {P : Nat → Nat} {many : Nat} : ∀ (m n : Nat), qS P many n ≤ qS P many (n + m)
  | 0, n => Nat.le_refl _
  | m + 1, n => Nat.le_trans (qS_mono m n) (Nat.le_add_right _ _)
def tc (T : Nat → Bool) : Nat := (T 0).toNat + (T 1).toNat + (T 2).toNat + (T 3).toNat + (T 4).toNat + (T 5).toNat
def rst (P : Nat → Nat) (many : Nat) (T : Nat → Bool) (c : Nat) : Int := if T c then -1 else ((P c * many % pS P : Nat) : Int)
theorem more_left {P : Nat → Nat} {many : Nat} {T : Nat → Bool} (ha : 0 < pS P) (h : tc T < many - qS P many 6) : ∃ c, c < 6 ∧ T c = false ∧ 0 < P c * many % pS P := by
  apply Classical.byContradiction
  intro hn
  have hb : ∀ c, c < 6 → P c * many % pS P ≤ (T c).toNat * (pS P - 1) := by
    intro c hc
    cases hT : T c with
    | true =>
      have := Nat.mod_lt (P c * many) ha
      simp only [Bool.toNat_true, Nat.one_mul]
      omega
    | false =>
      have : ¬ 0 < P c * many % pS P := fun h1 => hn ⟨c, hc, hT, h1⟩
      omega
  have h0 := hb 0 (by omega); have h1 := hb 1 (by omega); have h2 := hb 2 (by omega); have h3 := hb 3 (by omega); have h4 := hb 4 (by omega); have h5 := hb 5 (by omega)
  have hs := (qS_le (P := P) (many := many) ha).2
  have ht : tc T * (pS P - 1) = (T 0).toNat * (pS P - 1) + (T 1).toNat * (pS P - 1) + (T 2).toNat * (pS P - 1) + (T 3).toNat * (pS P - 1) + (T 4).toNat * (pS P - 1) + (T 5).toNat * (pS P - 1) := by
    unfold tc; simp only [Nat.add_mul]
  have hl : tc T * (pS P - 1) < (many - qS P many 6) * pS P := by
    have a1 : tc T * (pS P - 1) ≤ tc T * pS P := Nat.mul_le_mul_left _ (by omega)
    have a2 : tc T * pS P < (many - qS P many 6) * pS P := Nat.mul_lt_mul_of_pos_right h ha
    omega
  omega
theorem left_lt6 {P : Nat → Nat} {many : Nat} (ha : 0 < pS P) : many - qS P many 6 < 6 := by
  have hs := (qS_le (P := P) (many := many) ha).2
  have b : ∀ c, P c * many % pS P < pS P := fun c => Nat.mod_lt _ ha
  have b0 := b 0; have b1 := b 1; have b2 := b 2; have b3 := b 3; have b4 := b 4; have b5 := b 5
  have : (many - qS P many 6) * pS P < 6 * pS P := by omega
  exact Nat.lt_of_mul_lt_mul_right this
/-- the first with the most of 0 .. n -/
def bstF (R : Nat → Int) : Nat → Nat
  | 0 => 0
  | n + 1 => if R (bstF R n) < R (n + 1) then n + 1 else bstF R n
def isBest (R : Nat → Int) (n b : Nat) : Prop := b ≤ n ∧ (∀ c, c ≤ n → R c ≤ R b) ∧ ∀ c, c < b → R c < R b
theorem bstF_is (R : Nat → Int) : ∀ n, isBest R n (bstF R n)
  | 0 => ⟨Nat.le_refl _, fun c hc => by have : c = 0 := by omega
                                        subst this; exact Int.le_refl _, fun c hc => by simp [bstF] at hc⟩
  | n + 1 => by
    obtain ⟨h1, h2, h3⟩ := bstF_is R n
    unfold bstF
    by_cases h : R (bstF R n) < R (n + 1)
    · rw [if_pos h]
      refine ⟨Nat.le_refl _, fun c hc => ?_, fun c hc => ?_⟩
      · by_cases e : c = n + 1
        · subst e; exact Int.le_refl _
        · have := h2 c (by omega); omega
      · have := h2 c (by omega); omega
    · rw [if_neg h]
      refine ⟨by omega, fun c hc => ?_, h3⟩
      by_cases e : c = n + 1
      · subst e; omega
      · exact h2 c (by omega)
theorem best_uniq {R : Nat → Int} {n a b : Nat} (ha : isBest R n a) (hb : isBest R n b) : a = b := by
  obtain ⟨a1, a2, a3⟩ := ha
  obtain ⟨b1, b2, b3⟩ := hb
  rcases Nat.lt_trichotomy a b with h | h | h
  · have := b3 a h; have := a2 b b1; omega
  · exact h
  · have := a3 b h; have := b2 a a1; omega
theorem bst_pos {P : Nat → Nat} {many : Nat} {T : Nat → Bool} (h : ∃ c, c < 6 ∧ T c = false ∧ 0 < P c * many % pS P) : bstF (rst P many T) 5 < 6 ∧ T (bstF (rst P many T) 5) = false ∧ 0 < P (bstF (rst P many T) 5) * many % pS P := by
  obtain ⟨c, hc, hT, hr⟩ := h
  obtain ⟨h1, h2, -⟩ := bstF_is (rst P many T) 5
  have h3 := h2 c (by omega)
  generalize bstF (rst P many T) 5 = b at h1 h3
  have h4 : rst P many T c = ((P c * many % pS P : Nat) : Int) := by unfold rst; rw [hT]; rfl
  rw [h4] at h3
  cases hb : T b with
  | true =>
    have h5 : rst P many T b = -1 := by unfold rst; rw [hb]; rfl
    omega
  | false =>
    have h5 : rst P many T b = ((P b * many % pS P : Nat) : Int) := by unfold rst; rw [hb]; rfl
    exact ⟨by omega, rfl, by omega⟩
def tk (P : Nat → Nat) (many : Nat) : Nat → Nat → Bool
  | 0 => fun _ => false
  | j + 1 => fun c => tk P many j c || c == bstF (rst P many (tk P many j)) 5
theorem tc_set {T : Nat → Bool} {b : Nat} (hb : b < 6) (h : T b = false) : tc (fun c => T c || c == b) = tc T + 1 := by
  have key : ∀ c, (T c || c == b).toNat = (T c).toNat + (if c = b then 1 else 0) := by
    intro c
    by_cases e : c = b
    · subst e
      rw [if_pos rfl, h]
      simp
    · rw [if_neg e]
      have : (c == b) = false := by simpa using e
      rw [this, Bool.or_false, Nat.add_zero]
  have one : (if 0 = b then 1 else 0) + (if 1 = b then 1 else 0) + (if 2 = b then 1 else 0) + (if 3 = b then 1 else 0) + (if 4 = b then 1 else 0) + (if 5 = b then 1 else 0) = 1 := by
    match b, hb with
    | 0, _ => rfl
    | 1, _ => rfl
    | 2, _ => rfl
    | 3, _ => rfl
    | 4, _ => rfl
    | 5, _ => rfl
    | n + 6, h => omega
  show (T 0 || 0 == b).toNat + (T 1 || 1 == b).toNat + (T 2 || 2 == b).toNat + (T 3 || 3 == b).toNat + (T 4 || 4 == b).toNat + (T 5 || 5 == b).toNat = _
  rw [key 0, key 1, key 2, key 3, key 4, key 5]
  unfold tc
  omega
theorem tk_tc {P : Nat → Nat} {many : Nat} (ha : 0 < pS P) : ∀ j, j ≤ many - qS P many 6 → tc (tk P many j) = j
  | 0, _ => rfl
  | j + 1, h => by
    have ih := tk_tc (P := P) (many := many) ha j (by omega)
    obtain ⟨b1, b2, -⟩ := bst_pos (more_left (P := P) (many := many) (T := tk P many j) ha (by rw [ih]; omega))
    have := tc_set b1 b2
    rw [ih] at this
    exact this
/-- one more to share by rests: who has it, as long as something is left -/
theorem tk_best {P : Nat → Nat} {many j : Nat} (ha : 0 < pS P) (h : j < many - qS P many 6) : bstF (rst P many (tk P many j)) 5 < 6 ∧ tk P many j (bstF (rst P many (tk P many j)) 5) = false ∧ 0 < P (bstF (rst P many (tk P many j)) 5) * many % pS P := bst_pos (more_left ha (by rw [tk_tc ha j (by omega)]; exact h))
def shR (P : Nat → Nat) (many c : Nat) : Nat := if pS P = 0 then 0 else P c * many / pS P + (tk P many (many - qS P many 6) c).toNat
/-! one by one -/
def dvS (way s : Nat) : Nat := if way = 1 then s + 1 else if way = 2 then 2 * s + 1 else s
def pkW (P s : Nat → Nat) (way : Nat) : Nat → Option Nat
  | 0 => none
  | n + 1 => if P n = 0 then pkW P s way n else match pkW P s way n with
    | none => some n
    | some b => if P b * dvS way (s n) < P n * dvS way (s b) then some n else some b
def stW (P : Nat → Nat) (way : Nat) (s : Nat → Nat) : Nat → Nat := match pkW P s way 6 with
  | none => s
  | some b => fun c => if c = b then s c + 1 else s c
def shW (P : Nat → Nat) (way : Nat) : Nat → Nat → Nat
  | 0 => fun _ => 0
  | m + 1 => stW P way (shW P way m)
theorem stW_app {P : Nat → Nat} {way : Nat} {s : Nat → Nat} (c : Nat) : stW P way s c = match pkW P s way 6 with
    | none => s c
    | some b => if c = b then s c + 1 else s c := by
  unfold stW
  cases pkW P s way 6 <;> rfl
theorem stW_le {P : Nat → Nat} {way : Nat} {s : Nat → Nat} (c : Nat) : s c ≤ stW P way s c ∧ stW P way s c ≤ s c + 1 := by
  rw [stW_app]
  cases pkW P s way 6 with
  | none => exact ⟨Nat.le_refl _, by show s c ≤ s c + 1; omega⟩
  | some b =>
    show s c ≤ (if c = b then s c + 1 else s c) ∧ (if c = b then s c + 1 else s c) ≤ s c + 1
    by_cases h : c = b
    · rw [if_pos h]; omega
    · rw [if_neg h]; omega
theorem shW_le {P : Nat → Nat} {way : Nat} : ∀ m c, shW P way m c ≤ m
  | 0, _ => Nat.le_refl _
  | m + 1, c => by
    have h1 := shW_le (P := P) (way := way) m c
    have h2 := (stW_le (P := P) (way := way) (s := shW P way m) c).2
    show stW P way (shW P way m) c ≤ m + 1
    omega
theorem pkW_lt {P s : Nat → Nat} {way : Nat} : ∀ n b, pkW P s way n = some b → b < n ∧ P b ≠ 0
  | 0, b, h => by cases h
  | n + 1, b, h => by
    unfold pkW at h
    by_cases hp : P n = 0
    · rw [if_pos hp] at h
      have := pkW_lt n b h
      exact ⟨by omega, this.2⟩
    · rw [if_neg hp] at h
      split at h
      · cases h; exact ⟨by omega, hp⟩
      · rename_i b2 hb2
        have := pkW_lt n b2 hb2
        split at h
        · cases h; exact ⟨by omega, hp⟩
        · cases h; exact ⟨by omega, this.2⟩
theorem pkW_some {P s : Nat → Nat} {way : Nat} : ∀ n c, c < n → P c ≠ 0 → pkW P s way n ≠ none
  | n + 1, c, hc, hp, h => by
    unfold pkW at h
    by_cases hn : P n = 0
    · rw [if_pos hn] at h
      have : c ≠ n := fun e => hp (by rw [e]; exact hn)
      exact pkW_some n c (by omega) hp h
    · rw [if_neg hn] at h
      split at h
      · cases h
      · split at h <;> cases h
theorem pS_pos {P : Nat → Nat} (h : 0 < pS P) : ∃ c, c < 6 ∧ P c ≠ 0 := by
  apply Classical.byContradiction
  intro hn
  have z : ∀ c, c < 6 → P c = 0 := fun c hc => Classical.byContradiction fun e => hn ⟨c, hc, e⟩
  unfold pS at h
  rw [z 0 (by omega), z 1 (by omega), z 2 (by omega), z 3 (by omega), z 4 (by omega), z 5 (by omega)] at h
  omega
def shN (P : Nat → Nat) (many way c : Nat) : Nat := if way = 0 then shR P many c else if pS P = 0 then 0 else shW P way many c
end SHARE
