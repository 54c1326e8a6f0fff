/-! rising: numbers, sorting -/
section RISING
def dst (a b : Nat) : Nat := (a - b) + (b - a)
theorem abs_sub {a b : Nat} (ha : a < 2 ^ 30) (hb : b < 2 ^ 30) : (if 0 ≤ nI a - nI b then nI a - nI b else 0 - (nI a - nI b)) = nI (dst a b) := by
  unfold dst
  by_cases h : b ≤ a
  · rw [pk_sub h, if_pos (nI_pos' (by omega)), show b - a = 0 by omega, Nat.add_zero]
  · rw [if_neg (Int32.not_le.mpr (pk_sneg hb (by omega))), Int32.zero_sub, Int32.neg_sub, pk_sub (by omega), show a - b = 0 by omega, Nat.zero_add]
theorem abs_160 {a b : Nat} {w : Wd} (ha : a < 2 ^ 30) (hb : b < 2 ^ 30) : F_160 (nI a - nI b) w = nI (dst a b) := by
  have := abs_sub ha hb
  rw [Int32.zero_sub] at this
  exact this
theorem dst_le {a b m : Nat} (ha : a ≤ m) (hb : b ≤ m) : dst a b ≤ m := by unfold dst; omega
def mnU (f : Nat → Nat) : Nat → Nat
  | 0 => f 11
  | n + 1 => min (f (11 - n)) (mnU f n)
theorem mnU_11 {f : Nat → Nat} : ∀ n, mnU f n ≤ f 11
  | 0 => Nat.le_refl _
  | n + 1 => Nat.le_trans (Nat.min_le_right _ _) (mnU_11 n)
theorem mnU_le {f : Nat → Nat} : ∀ n i, i < n → n ≤ 12 → mnU f n ≤ f (11 - i)
  | 0, i, h, _ => by omega
  | n + 1, i, h, h2 => by
    by_cases e : i = n
    · rw [e]; exact Nat.min_le_left _ _
    · exact Nat.le_trans (Nat.min_le_right _ _) (mnU_le n i (by omega) (by omega))
theorem mnU_at {f : Nat → Nat} : ∀ n, 1 ≤ n → n ≤ 12 → ∃ i, i < n ∧ mnU f n = f (11 - i)
  | 0, h, _ => by omega
  | 1, _, _ => ⟨0, by omega, by show min (f 11) (f 11) = f 11; exact Nat.min_self _⟩
  | n + 2, _, h2 => by
    obtain ⟨i, hi, e⟩ := mnU_at (f := f) (n + 1) (by omega) (by omega)
    show ∃ j, j < n + 2 ∧ min (f (11 - (n + 1))) (mnU f (n + 1)) = f (11 - j)
    by_cases h : f (11 - (n + 1)) ≤ mnU f (n + 1)
    · exact ⟨n + 1, by omega, Nat.min_eq_left h⟩
    · exact ⟨i, by omega, by rw [Nat.min_eq_right (by omega)]; exact e⟩
def tl (r S : Nat → Nat) : Nat → Nat → Nat
  | 0, _ => 0
  | k + 1, j => mnU (fun i => dst (r (11 - k)) (S i) + tl r S k i) (12 - j)
def cst (r S : Nat → Nat) (k j : Nat) : Nat := dst (r (11 - k)) (S j) + tl r S k j
theorem tl_s {r S : Nat → Nat} {k j : Nat} : tl r S (k + 1) j = mnU (cst r S k) (12 - j) := rfl
def RB (r S : Nat → Nat) : Prop := ∀ i, i < 12 → r i ≤ 9999 ∧ S i ≤ 9999
theorem tl_le {r S : Nat → Nat} (h : RB r S) : ∀ k j, k ≤ 12 → tl r S k j ≤ 9999 * k
  | 0, j, _ => Nat.le_refl _
  | k + 1, j, hk => by
    have ih := tl_le h k 11 (by omega)
    have h1 : tl r S (k + 1) j ≤ cst r S k 11 := by rw [tl_s]; exact mnU_11 _
    have h2 := dst_le (h (11 - k) (by omega)).1 (h 11 (by omega)).2
    unfold cst at h1
    omega
theorem cst_le {r S : Nat → Nat} (h : RB r S) {k j : Nat} (hk : k ≤ 11) (hj : j < 12) : cst r S k j ≤ 119988 := by
  have h1 := tl_le h k j (by omega)
  have h2 := dst_le (h (11 - k) (by omega)).1 (h j hj).2
  unfold cst
  omega
theorem tl_le2 {r S : Nat → Nat} (h : RB r S) {k j : Nat} (hk : k ≤ 12) : tl r S k j ≤ 119988 := by
  have h1 := tl_le h k j (by omega)
  omega
/-! the first of the least -/
def amF (f : Nat → Nat) (a : Nat) : Nat → Nat
  | 0 => a
  | n + 1 => if f (a + n + 1) < f (amF f a n) then a + n + 1 else amF f a n
theorem amF_is {f : Nat → Nat} {a : Nat} : ∀ n, a ≤ amF f a n ∧ amF f a n ≤ a + n ∧ (∀ i, a ≤ i → i ≤ a + n → f (amF f a n) ≤ f i) ∧ ∀ i, a ≤ i → i < amF f a n → f (amF f a n) < f i
  | 0 => ⟨Nat.le_refl _, Nat.le_refl _, fun i h1 h2 => by rw [show i = a by omega]; exact Nat.le_refl _, fun i h1 h2 => by
      have h3 : i < a := h2
      omega⟩
  | n + 1 => by
    obtain ⟨i1, i2, i3, i4⟩ := amF_is (f := f) (a := a) n
    unfold amF
    by_cases h : f (a + n + 1) < f (amF f a n)
    · rw [if_pos h]
      refine ⟨by omega, by omega, fun i h1 h2 => ?_, fun i h1 h2 => ?_⟩
      · by_cases e : i = a + n + 1
        · rw [e]; exact Nat.le_refl _
        · exact Nat.le_trans (Nat.le_of_lt h) (i3 i h1 (by omega))
      · exact Nat.lt_of_lt_of_le h (i3 i h1 (by omega))
    · rw [if_neg h]
      refine ⟨i1, by omega, fun i h1 h2 => ?_, i4⟩
      by_cases e : i = a + n + 1
      · rw [e]; omega
      · exact i3 i h1 (by omega)
theorem am_min {r S : Nat → Nat} {k a : Nat} (ha : a ≤ 11) : cst r S k (amF (cst r S k) a (11 - a)) = tl r S (k + 1) a := by
  obtain ⟨i1, i2, i3, i4⟩ := amF_is (f := cst r S k) (a := a) (11 - a)
  rw [tl_s]
  apply Nat.le_antisymm
  · obtain ⟨i, hi, e⟩ := mnU_at (f := cst r S k) (12 - a) (by omega) (by omega)
    rw [e]
    exact i3 _ (by omega) (by omega)
  · have := mnU_le (f := cst r S k) (12 - a) (11 - amF (cst r S k) a (11 - a)) (by omega) (by omega)
    rw [show 11 - (11 - amF (cst r S k) a (11 - a)) = amF (cst r S k) a (11 - a) by omega] at this
    exact this
/-- the level behind m months -/
def atF (r S : Nat → Nat) : Nat → Nat
  | 0 => 0
  | m + 1 => amF (cst r S (11 - m)) (atF r S m) (11 - atF r S m)
theorem atF_le {r S : Nat → Nat} : ∀ m, atF r S m ≤ 11
  | 0 => by show 0 ≤ 11; omega
  | m + 1 => by
    have ih := atF_le (r := r) (S := S) m
    have := (amF_is (f := cst r S (11 - m)) (a := atF r S m) (11 - atF r S m)).2.1
    show amF (cst r S (11 - m)) (atF r S m) (11 - atF r S m) ≤ 11
    omega
/-! sorting -/
def insF : Nat → (Nat → Int32) → Int32 → Nat → Int32
  | 0, L, v => upd L 0 v
  | p + 1, L, v => if L p ≤ v then upd L (p + 1) v else insF p (upd L (p + 1) (L p)) v
theorem insF_cg {n : Nat} {v : Int32} : ∀ (p : Nat) (L M : Nat → Int32), p < n → (∀ i, i < n → i ≠ p → L i = M i) → ∀ i, i < n → insF p L v i = insF p M v i
  | 0, L, M, hp, h, i, hi => by
    show upd L 0 v i = upd M 0 v i
    unfold upd
    by_cases e : i = 0
    · rw [if_pos e, if_pos e]
    · rw [if_neg e, if_neg e]; exact h i hi e
  | p + 1, L, M, hp, h, i, hi => by
    have e0 := h p (by omega) (by omega)
    unfold insF
    rw [e0]
    by_cases hc : M p ≤ v
    · rw [if_pos hc, if_pos hc]
      unfold upd
      by_cases e : i = p + 1
      · rw [if_pos e, if_pos e]
      · rw [if_neg e, if_neg e]; exact h i hi e
    · rw [if_neg hc, if_neg hc]
      refine insF_cg p _ _ (by omega) (fun j hj hne => ?_) i hi
      unfold upd
      by_cases e : j = p + 1
      · rw [if_pos e, if_pos e]
      · rw [if_neg e, if_neg e]; exact h j hj e
theorem insF_P {P : Int32 → Prop} {n : Nat} {v : Int32} (hv : P v) : ∀ (p : Nat) (L : Nat → Int32), p < n → (∀ i, i < n → i ≠ p → P (L i)) → ∀ i, i < n → P (insF p L v i)
  | 0, L, hp, h, i, hi => by
    show P (upd L 0 v i)
    unfold upd
    by_cases e : i = 0
    · rw [if_pos e]; exact hv
    · rw [if_neg e]; exact h i hi e
  | p + 1, L, hp, h, i, hi => by
    unfold insF
    by_cases hc : L p ≤ v
    · rw [if_pos hc]
      unfold upd
      by_cases e : i = p + 1
      · rw [if_pos e]; exact hv
      · rw [if_neg e]; exact h i hi e
    · rw [if_neg hc]
      refine insF_P hv p _ (by omega) (fun j hj hne => ?_) i hi
      unfold upd
      by_cases e : j = p + 1
      · rw [if_pos e]; exact h p (by omega) (by omega)
      · rw [if_neg e]; exact h j hj e
def srF (v : Nat → Int32) (L : Nat → Int32) : Nat → Nat → Int32
  | 0 => L
  | n + 1 => insF n (srF v L n) (v n)
theorem srF_cg {v : Nat → Int32} {L M : Nat → Int32} : ∀ n i, i < n → srF v L n i = srF v M n i
  | 0, i, h => by omega
  | n + 1, i, h => insF_cg n _ _ (by omega) (fun j hj hne => srF_cg n j (by omega)) i h
theorem srF_v {v v2 : Nat → Int32} {L : Nat → Int32} : ∀ n, (∀ i, i < n → v i = v2 i) → srF v L n = srF v2 L n
  | 0, _ => rfl
  | n + 1, h => by
    show insF n (srF v L n) (v n) = insF n (srF v2 L n) (v2 n)
    rw [srF_v n (fun i hi => h i (by omega)), h n (by omega)]
theorem srF_P {P : Int32 → Prop} {v : Nat → Int32} {L : Nat → Int32} : ∀ n, (∀ i, i < n → P (v i)) → ∀ i, i < n → P (srF v L n i)
  | 0, _, i, h => by omega
  | n + 1, hv, i, h => insF_P (hv n (by omega)) n _ (by omega) (fun j hj hne => srF_P n (fun i hi => hv i (by omega)) j (by omega)) i h
theorem pm_1 (n : Nat) : nI (n + 1) - kI 1 = nI n := nI_pred n
theorem pm_2 (n : Nat) : nI (n + 1) + kI (-1) = nI n := pk_m1 n
/-- the class sorts -/
theorem l_38i {X : Scr} {d m : Nat} {w : Wd} {Q : Wd → Prop} (hm : m < 12) (kk : ∀ u : Wd, (∀ a, a ≠ 99 → u a = w a) → u 99 = insF m (w 99) (w 98 m) → EU X (d + 1) 38 (2, [some (.ref 95), some (.int (nI (m + 1))), none, none], [], SH, u) Q) : ∀ (p : Nat) (u : Wd), p ≤ m → (∀ a, a ≠ 99 → u a = w a) → insF p (u 99) (w 98 m) = insF m (w 99) (w 98 m) → EU X (d + 1) 38 (12, [some (.ref 95), some (.int (nI m)), some (.int (nI p)), some (.int (nI (m - p)))], [], SH, u) Q := by
  intro p
  induction p with
  | zero =>
    intro u hp hF hI
    refine t38_95_at12 u _ _ _ ?_
    rw [if_neg (lt_12 (m - 0) (by omega)), if_pos (show nI 0 ≤ 0 by decide), k1, nI_clamp (by omega), nI_clamp (by omega), hF 98 (by decide)]
    refine ⟨inB_nI hm (by decide), inB_nI (by omega) (by decide), kk _ (fun a ha => by rw [up2_ne ha]; exact hF a ha) ?_⟩
    rw [up2_self, ← hI]
    rfl
  | succ p ih =>
    intro u hp hF hI
    have hI2 : (if (u 99) p ≤ w 98 m then upd (u 99) (p + 1) (w 98 m) else insF p (upd (u 99) (p + 1) ((u 99) p)) (w 98 m)) = insF m (w 99) (w 98 m) := hI
    refine t38_95_at12 u _ _ _ ?_
    rw [if_neg (lt_12 (m - (p + 1)) (by omega)), if_neg (nI_nle (by omega) (by omega)), pm_1, pm_2, k1, k1, nI_clamp (by omega), nI_clamp (by omega), nI_clamp (by omega), hF 98 (by decide)]
    refine ⟨inB_nI (by omega) (by decide), inB_nI hm (by decide), ?_⟩
    by_cases hc : (u 99) p ≤ w 98 m
    · rw [if_pos hc]
      rw [if_pos hc] at hI2
      refine ⟨inB_nI hm (by decide), inB_nI (by omega) (by decide), kk _ (fun a ha => by rw [up2_ne ha]; exact hF a ha) ?_⟩
      rw [up2_self]
      exact hI2
    · rw [if_neg hc]
      rw [if_neg hc] at hI2
      refine ⟨inB_nI (by omega) (by decide), inB_nI (by omega) (by decide), ?_⟩
      have g := ih (up2 u 99 (p + 1) (u 99 p)) (by omega) (fun a ha => by rw [up2_ne ha]; exact hF a ha) (by rw [up2_self]; exact hI2)
      rw [show m - p = m - (p + 1) + 1 by omega] at g
      exact g
theorem l_38 {X : Scr} {d : Nat} {w : Wd} : ∀ (n m : Nat) (u : Wd), m + n = 12 → (∀ a, a ≠ 99 → u a = w a) → u 99 = srF (w 98) (w 99) m → EU X (d + 1) 38 (2, [some (.ref 95), some (.int (nI m)), none, none], [], SH, u) (fun u2 => (∀ a, a ≠ 99 → u2 a = w a) ∧ u2 99 = srF (w 98) (w 99) 12) := by
  intro n
  induction n with
  | zero =>
    intro m u h hF hS
    have e : m = 12 := by omega
    subst e
    refine t38_95_at2 u _ ?_
    rw [if_pos (by decide)]
    exact ⟨hF, hS⟩
  | succ n ih =>
    intro m u h hF hS
    refine t38_95_at2 u _ ?_
    rw [if_neg (lt_12 m (by omega))]
    have g := l_38i (X := X) (d := d) (m := m) (w := u) (Q := fun u2 => (∀ a, a ≠ 99 → u2 a = w a) ∧ u2 99 = srF (w 98) (w 99) 12) (by omega) (fun u2 h2 hI => ih (m + 1) u2 (by omega) (fun a ha => by rw [h2 a ha]; exact hF a ha) (by rw [hI, hS, hF 98 (by decide)]; rfl)) m u (Nat.le_refl _) (fun _ _ => rfl) rfl
    rw [Nat.sub_self] at g
    exact g
/-- the reference sorts -/
theorem l_250i {X : Scr} {d m : Nat} {v1 : Int32} {w : Wd} {Q : Wd → Prop} {v : Int32} (hm : m < 12) (kk : ∀ u : Wd, (∀ a, a ≠ 150 → u a = w a) → u 150 = insF m (w 150) v → EU X (d + 1) 250 (2, [some (.ref 110), some (.int v1), some (.int (nI (m + 1))), none, none], [], SH, u) Q) : ∀ (p : Nat) (u : Wd), p ≤ m → (∀ a, a ≠ 150 → u a = w a) → insF p (u 150) v = insF m (w 150) v → EU X (d + 1) 250 (26, [some (.ref 110), some (.int v1), some (.int (nI m)), some (.int v), some (.int (nI p))], [], SH, u) Q := by
  intro p
  induction p with
  | zero =>
    intro u hp hF hI
    refine t250_110_at26 u _ _ _ _ ?_
    rw [if_pos (show nI 0 ≤ 0 by decide), k1, nI_clamp (by omega)]
    refine ⟨inB_nI (by omega) (by decide), kk _ (fun a ha => by rw [up2_ne ha]; exact hF a ha) ?_⟩
    rw [up2_self, ← hI]
    rfl
  | succ p ih =>
    intro u hp hF hI
    have hI2 : (if (u 150) p ≤ v then upd (u 150) (p + 1) v else insF p (upd (u 150) (p + 1) ((u 150) p)) v) = insF m (w 150) v := hI
    refine t250_110_at26 u _ _ _ _ ?_
    rw [if_neg (nI_nle (by omega) (by omega)), pm_1, k1, nI_clamp (by omega), nI_clamp (by omega)]
    refine ⟨inB_nI (by omega) (by decide), ?_⟩
    by_cases hc : (u 150) p ≤ v
    · rw [if_pos hc]
      rw [if_pos hc] at hI2
      refine ⟨inB_nI (by omega) (by decide), kk _ (fun a ha => by rw [up2_ne ha]; exact hF a ha) ?_⟩
      rw [up2_self]
      exact hI2
    · rw [if_neg hc]
      rw [if_neg hc] at hI2
      exact ⟨inB_nI (by omega) (by decide), inB_nI (by omega) (by decide), ih (up2 u 150 (p + 1) (u 150 p)) (by omega) (fun a ha => by rw [up2_ne ha]; exact hF a ha) (by rw [up2_self]; exact hI2)⟩
theorem l_250s {X : Scr} {d f : Nat} {w : Wd} {Q : Wd → Prop} (hf : f < 6) (kk : ∀ u : Wd, (∀ a, a ≠ 150 → u a = w a) → u 150 = srF (fun m => w 111 (36 + 12 * f + m)) (w 150) 12 → EU X (d + 1) 250 (86, [some (.ref 110), some (.int (nI f)), some (.int (kI 11)), none, none], [], SH, u) Q) : ∀ (n m : Nat) (u : Wd), m + n = 12 → (∀ a, a ≠ 150 → u a = w a) → u 150 = srF (fun m => w 111 (36 + 12 * f + m)) (w 150) m → EU X (d + 1) 250 (2, [some (.ref 110), some (.int (nI f)), some (.int (nI m)), none, none], [], SH, u) Q := by
  intro n
  induction n with
  | zero =>
    intro m u h hF hS
    have e : m = 12 := by omega
    subst e
    refine t250_110_at2 u _ _ ?_
    rw [if_pos (by decide)]
    exact kk u hF hS
  | succ n ih =>
    intro m u h hF hS
    refine t250_110_at2 u _ _ ?_
    rw [if_neg (lt_12 m (by omega)), ixG, nI_clamp (by omega), hF 111 (by decide)]
    refine ⟨inB_nI (by omega) (by decide), ?_⟩
    exact l_250i (X := X) (d := d) (m := m) (w := u) (by omega) (fun u2 h2 hI => ih (m + 1) u2 (by omega) (fun a ha => by rw [h2 a ha]; exact hF a ha) (by rw [hI, hS]; rfl)) m u (Nat.le_refl _) (fun _ _ => rfl) rfl
end RISING
