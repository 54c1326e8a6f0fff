/-! bled -/
section BLED
def smF (A : Nat → Nat) (f : Nat → Bool) : Nat → Nat
  | 0 => 0
  | n + 1 => smF A f n + (if f n then A n else 0)
theorem smF_le {A : Nat → Nat} {f : Nat → Bool} {b : Nat} : ∀ n, (∀ c, c < n → A c ≤ b) → smF A f n ≤ b * n
  | 0, _ => by show 0 ≤ _; omega
  | n + 1, h => by
    have ih := smF_le (f := f) n (fun c hc => h c (by omega))
    have h1 := h n (by omega)
    show smF A f n + (if f n then A n else 0) ≤ b * (n + 1)
    rw [Nat.mul_succ]
    split <;> omega
theorem smF_mono {A : Nat → Nat} {f g : Nat → Bool} : ∀ n, (∀ c, c < n → f c = true → g c = true) → smF A f n ≤ smF A g n
  | 0, _ => Nat.le_refl _
  | n + 1, h => by
    have ih := smF_mono (A := A) (f := f) (g := g) n (fun c hc => h c (by omega))
    have h1 := h n (by omega)
    show smF A f n + (if f n then A n else 0) ≤ smF A g n + (if g n then A n else 0)
    cases e : f n with
    | false => simp only [Bool.false_eq_true, if_false]; omega
    | true => rw [h1 e]; simp only [if_true]; omega
theorem smF_cg {A : Nat → Nat} {f g : Nat → Bool} : ∀ n, (∀ c, c < n → A c ≠ 0 → f c = g c) → smF A f n = smF A g n
  | 0, _ => rfl
  | n + 1, h => by
    have ih := smF_cg (A := A) (f := f) (g := g) n (fun c hc => h c (by omega))
    show smF A f n + (if f n then A n else 0) = smF A g n + (if g n then A n else 0)
    rw [ih]
    by_cases e : A n = 0
    · rw [e]; simp
    · rw [h n (by omega) e]
/-- the least -/
def mnL (f : Nat → Nat) : Nat → Nat → Nat → Nat
  | 0, _, a => a
  | m + 1, S, a => mnL f m (S + 1) (min (f S) a)
theorem mnL_a {f : Nat → Nat} : ∀ m S a, mnL f m S a ≤ a
  | 0, _, _ => Nat.le_refl _
  | m + 1, S, a => Nat.le_trans (mnL_a m (S + 1) _) (Nat.min_le_right _ _)
theorem mnL_le {f : Nat → Nat} : ∀ m S a i, S ≤ i → i < S + m → mnL f m S a ≤ f i
  | 0, S, a, i, h1, h2 => by omega
  | m + 1, S, a, i, h1, h2 => by
    show mnL f m (S + 1) (min (f S) a) ≤ f i
    by_cases e : i = S
    · rw [e]; exact Nat.le_trans (mnL_a m (S + 1) _) (Nat.min_le_left _ _)
    · exact mnL_le m (S + 1) _ i (by omega) (by omega)
theorem mnL_ge {f : Nat → Nat} {x : Nat} : ∀ m S a, (∀ i, S ≤ i → i < S + m → x ≤ f i) → x ≤ a → x ≤ mnL f m S a
  | 0, _, _, _, h => h
  | m + 1, S, a, hi, h => mnL_ge m (S + 1) _ (fun i h1 h2 => hi i (by omega) (by omega)) (Nat.le_min.mpr ⟨hi S (by omega) (by omega), h⟩)
def rcR (N O : Nat → Nat) (S : Nat) : Nat → Nat
  | 0 => 0
  | n + 1 => if 0 < O n then (if S.testBit n then rcR N O S n ||| N n else rcR N O S n) else rcR N O S n
theorem rcR_lt {N O : Nat → Nat} {S : Nat} (hN : ∀ c, c < 6 → N c < 64) : ∀ n, n ≤ 6 → rcR N O S n < 64
  | 0, _ => by show (0 : Nat) < 64; decide
  | n + 1, h => by
    have ih := rcR_lt (O := O) (S := S) hN n (by omega)
    unfold rcR
    split
    · split
      · exact Nat.or_lt_two_pow (n := 6) ih (hN n (by omega))
      · exact ih
    · exact ih
theorem rcR_sub {N O : Nat → Nat} {S j : Nat} : ∀ n, (rcR N O S n).testBit j = true → (nbR N S n).testBit j = true
  | 0, h => h
  | n + 1, h => by
    have ih := rcR_sub (N := N) (O := O) (S := S) (j := j) n
    unfold rcR at h
    unfold nbR
    by_cases hb : S.testBit n = true
    · rw [if_pos hb] at h ⊢
      by_cases h0 : 0 < O n
      · rw [if_pos h0, Nat.testBit_or, Bool.or_eq_true] at h
        rw [Nat.testBit_or, Bool.or_eq_true]
        rcases h with h | h
        · exact Or.inl (ih h)
        · exact Or.inr h
      · rw [if_neg h0] at h
        rw [Nat.testBit_or, Bool.or_eq_true]
        exact Or.inl (ih h)
    · rw [if_neg hb] at h ⊢
      exact ih (by by_cases h0 : 0 < O n
                   · rw [if_pos h0] at h; exact h
                   · rw [if_neg h0] at h; exact h)
/-- a set as bits -/
def mkS (f : Nat → Bool) : Nat → Nat
  | 0 => 0
  | n + 1 => if f n then mkS f n ||| 2 ^ n else mkS f n
theorem mkS_lt (f : Nat → Bool) : ∀ n, mkS f n < 2 ^ n
  | 0 => by show 0 < 1; decide
  | n + 1 => by
    have ih := mkS_lt f n
    have h2 : mkS f n < 2 ^ (n + 1) := Nat.lt_trans ih (Nat.pow_lt_pow_right (by decide) (by omega))
    unfold mkS
    split
    · exact Nat.or_lt_two_pow h2 (Nat.pow_lt_pow_right (by decide) (by omega))
    · exact h2
theorem mkS_bit (f : Nat → Bool) (i : Nat) : ∀ n, (mkS f n).testBit i = (decide (i < n) && f i)
  | 0 => by show (0 : Nat).testBit i = _; simp
  | n + 1 => by
    have ih := mkS_bit f i n
    unfold mkS
    by_cases e : i = n
    · subst e
      rw [decide_eq_true (show i < i + 1 by omega), Bool.true_and]
      rw [decide_eq_false (show ¬ i < i by omega), Bool.false_and] at ih
      cases h : f i with
      | true => rw [if_pos rfl, Nat.testBit_or, ih, Nat.testBit_two_pow]; simp
      | false => rw [if_neg (by decide)]; exact ih
    · have hd : decide (i < n + 1) = decide (i < n) := by
        by_cases h : i < n
        · rw [decide_eq_true h, decide_eq_true (show i < n + 1 by omega)]
        · rw [decide_eq_false h, decide_eq_false (show ¬ i < n + 1 by omega)]
      rw [hd]
      split
      · rw [Nat.testBit_or, ih, Nat.testBit_two_pow, decide_eq_false (show ¬ n = i from fun h => e h.symm), Bool.or_false]
      · exact ih
def clC (N O U : Nat → Nat) (S : Nat) : Nat := smF O (fun c => !S.testBit c) 6 + smF U (fun c => (nbR N S 6).testBit c) 6
def rfC (N O U : Nat → Nat) (S : Nat) : Nat := smF O (fun c => !S.testBit c) 6 + smF U (fun c => (rcR N O S 6).testBit c) 6
theorem rc_nb {N O : Nat → Nat} {S A : Nat} (hA : ∀ c, c < 6 → A.testBit c = (S.testBit c && decide (0 < O c))) : ∀ n, n ≤ 6 → nbR N A n = rcR N O S n
  | 0, _ => rfl
  | n + 1, h => by
    have ih := rc_nb (N := N) hA n (by omega)
    unfold nbR rcR
    rw [hA n (by omega), ih]
    by_cases h0 : 0 < O n
    · rw [decide_eq_true h0, Bool.and_true, if_pos h0]
    · rw [decide_eq_false h0, Bool.and_false, if_neg h0, if_neg (by decide)]
theorem cut_eq {N O U : Nat → Nat} : mnL (clC N O U) 63 1 (smF O (fun _ => true) 6) = mnL (rfC N O U) 64 0 (100000000 + smF O (fun _ => true) 6) := by
  have z : ∀ n, nbR N 0 n = 0 := by
    intro n
    induction n with
    | zero => rfl
    | succ n ih => unfold nbR; rw [Nat.zero_testBit, if_neg (by decide)]; exact ih
  have c0 : clC N O U 0 = smF O (fun _ => true) 6 := by
    unfold clC
    rw [z 6]
    have e1 : smF O (fun c => !Nat.testBit 0 c) 6 = smF O (fun _ => true) 6 := smF_cg 6 (fun c _ _ => by rw [Nat.zero_testBit]; rfl)
    have e2 : smF U (fun c => Nat.testBit 0 c) 6 = 0 := by
      have := smF_cg (A := U) (f := fun c => Nat.testBit 0 c) (g := fun _ => false) 6 (fun c _ _ => Nat.zero_testBit c)
      rw [this]
      simp [smF]
    rw [e1, e2, Nat.add_zero]
  have le : ∀ S, rfC N O U S ≤ clC N O U S := fun S => Nat.add_le_add_left (smF_mono 6 (fun c _ h => rcR_sub 6 h)) _
  apply Nat.le_antisymm
  · refine mnL_ge 64 0 _ (fun S _ hS => ?_) (Nat.le_trans (mnL_a 63 1 _) (by omega))
    have hA : ∀ c, c < 6 → (mkS (fun c => S.testBit c && decide (0 < O c)) 6).testBit c = (S.testBit c && decide (0 < O c)) := fun c hc => by rw [mkS_bit, decide_eq_true hc, Bool.true_and]
    have hlt := mkS_lt (fun c => S.testBit c && decide (0 < O c)) 6
    generalize mkS (fun c => S.testBit c && decide (0 < O c)) 6 = A at hA hlt
    have e : rfC N O U S = clC N O U A := by
      unfold rfC clC
      rw [rc_nb hA 6 (by omega), smF_cg (A := O) (f := fun c => !S.testBit c) (g := fun c => !A.testBit c) 6 (fun c hc h0 => by rw [hA c hc, decide_eq_true (by omega), Bool.and_true])]
    rw [e]
    by_cases a0 : A = 0
    · rw [a0, c0]; exact mnL_a 63 1 _
    · exact mnL_le 63 1 _ A (by omega) (by omega)
  · refine mnL_ge 63 1 _ (fun S h1 hS => ?_) ?_
    · exact Nat.le_trans (mnL_le 64 0 _ S (by omega) (by omega)) (le S)
    · rw [← c0]
      exact Nat.le_trans (mnL_le 64 0 _ 0 (by omega) (by omega)) (le 0)
theorem mnL_cap {f : Nat → Nat} {b c : Nat} : ∀ m S, (∃ i, S ≤ i ∧ i < S + m ∧ f i ≤ b ∧ f i ≤ c) → mnL f m S b = mnL f m S c := by
  intro m S h
  obtain ⟨i, i1, i2, i3, i4⟩ := h
  apply Nat.le_antisymm
  · exact mnL_ge m S c (fun j h1 h2 => mnL_le m S b j h1 h2) (Nat.le_trans (mnL_le m S b i i1 i2) i4)
  · exact mnL_ge m S b (fun j h1 h2 => mnL_le m S c j h1 h2) (Nat.le_trans (mnL_le m S c i i1 i2) i3)
/-! ints -/
theorem mx_sub {b s : Nat} (hb : b < 2 ^ 30) (hs : s < 2 ^ 30) : (if (kI 0) < (nI b - nI s) then (nI b - nI s) else (kI 0)) = nI (b - s) := by
  by_cases h : s < b
  · rw [if_pos (show kI 0 < nI b - nI s from (sub_gt hb hs).mpr h), pk_sub (by omega)]
  · rw [if_neg (show ¬ kI 0 < nI b - nI s from fun e => h ((sub_gt hb hs).mp e)), show b - s = 0 by omega]
    rfl
theorem mx_sub2 {b s : Nat} {w : Wd} (hb : b < 2 ^ 30) (hs : s < 2 ^ 30) : F_159 (kI 0) (nI b - nI s) w = nI (b - s) := by
  unfold F_159
  by_cases h : s ≤ b
  · rw [pk_sub h, if_pos (show kI 0 ≤ nI (b - s) from nI_pos' (by omega))]
  · rw [if_neg (show ¬ kI 0 ≤ nI b - nI s from Int32.not_le.mpr (pk_sneg hs (by omega))), show b - s = 0 by omega]
    rfl
theorem mn_nI {a b : Nat} (ha : a < 2 ^ 31) (hb : b < 2 ^ 31) : (if nI a < nI b then nI a else nI b) = nI (min a b) := by
  by_cases h : a < b
  · rw [if_pos (nI_lt h hb), Nat.min_eq_left (by omega)]
  · rw [if_neg (nI_nlt (by omega) ha), Nat.min_eq_right (by omega)]
theorem mn_nI2 {a b : Nat} {w : Wd} (ha : a < 2 ^ 31) (hb : b < 2 ^ 31) : F_158 (nI b) (nI a) w = nI (min a b) := by
  unfold F_158
  by_cases h : a ≤ b
  · rw [if_pos (nI_le h hb), Nat.min_eq_left h]
  · rw [if_neg (nI_ge (by omega) ha), Nat.min_eq_right (by omega)]
theorem cmp_bit (w : Wd) (S c : Nat) (hS : S < 64) (hc : c < 6) : F_154 (nI S ^^^ kI (-1)) (nI c) w = 0 ↔ S.testBit c = true :=
  (by decide +kernel : ∀ S, S < 64 → ∀ c, c < 6 → (F_154 (nI S ^^^ kI (-1)) (nI c) (fun _ _ => 0) = 0 ↔ S.testBit c = true)) S hS c hc

theorem l_102_93 {X : Scr} {d : Nat} {v1 : Int32} {w : Wd} {A : Nat → Nat} {f : Nat → Bool} (hA : ∀ c, c < 6 → w 93 c = nI (A c)) (hf : ∀ c, c < 6 → (F_154 v1 (nI c) w = 0 ↔ f c = false)) : ∀ (m n : Nat), n + m = 6 → EI X (d + 1) 102 (4, [some (.ref 93), some (.int v1), some (.int (nI (smF A f n))), some (.int (nI n))], [], SH, w) (fun x u => x = nI (smF A f 6) ∧ u = w) := by
  intro m
  induction m with
  | zero =>
    intro n h
    have e : n = 6 := by omega
    subst e
    refine t102_93_at4 w _ _ _ ?_
    rw [if_pos (by decide)]
    exact ⟨rfl, rfl⟩
  | succ m ih =>
    intro n h
    have hn : n < 6 := by omega
    have g := ih (n + 1) (by omega)
    have e : smF A f (n + 1) = smF A f n + (if f n then A n else 0) := rfl
    refine t102_93_at4 w _ _ _ ?_
    rw [if_neg (lt_6 n hn), if_neg (show ¬ Int32.ofNat 6 ≤ nI n from nI_ge (b := 6) hn (by decide)), k1, nI_clamp (by omega), hA n hn, nI_add]
    by_cases h0 : F_154 v1 (nI n) w = 0
    · rw [if_pos h0]
      rw [(hf n hn).mp h0, if_neg (by decide), Nat.add_zero] at e
      rw [e] at g
      exact g
    · rw [if_neg h0]
      have h1 : f n = true := by
        cases h2 : f n with
        | true => rfl
        | false => exact absurd ((hf n hn).mpr h2) h0
      rw [h1, if_pos rfl] at e
      rw [e] at g
      exact ⟨inB_nI hn (by decide), g⟩
theorem c_102_93 {X : Scr} {d : Nat} {v1 : Int32} {w : Wd} {A : Nat → Nat} {f : Nat → Bool} (hA : ∀ c, c < 6 → w 93 c = nI (A c)) (hf : ∀ c, c < 6 → (F_154 v1 (nI c) w = 0 ↔ f c = false)) : CI X (d + 2) 102 [.ref 93, .int v1] w (fun x u => x = nI (smF A f 6) ∧ u = w) :=
  CI.of rfl (t102_93_at0 w _ (l_102_93 hA hf 6 0 rfl))
theorem l_102_94 {X : Scr} {d : Nat} {v1 : Int32} {w : Wd} {A : Nat → Nat} {f : Nat → Bool} (hA : ∀ c, c < 6 → w 94 c = nI (A c)) (hf : ∀ c, c < 6 → (F_154 v1 (nI c) w = 0 ↔ f c = false)) : ∀ (m n : Nat), n + m = 6 → EI X (d + 1) 102 (4, [some (.ref 94), some (.int v1), some (.int (nI (smF A f n))), some (.int (nI n))], [], SH, w) (fun x u => x = nI (smF A f 6) ∧ u = w) := by
  intro m
  induction m with
  | zero =>
    intro n h
    have e : n = 6 := by omega
    subst e
    refine t102_94_at4 w _ _ _ ?_
    rw [if_pos (by decide)]
    exact ⟨rfl, rfl⟩
  | succ m ih =>
    intro n h
    have hn : n < 6 := by omega
    have g := ih (n + 1) (by omega)
    have e : smF A f (n + 1) = smF A f n + (if f n then A n else 0) := rfl
    refine t102_94_at4 w _ _ _ ?_
    rw [if_neg (lt_6 n hn), if_neg (show ¬ Int32.ofNat 6 ≤ nI n from nI_ge (b := 6) hn (by decide)), k1, nI_clamp (by omega), hA n hn, nI_add]
    by_cases h0 : F_154 v1 (nI n) w = 0
    · rw [if_pos h0]
      rw [(hf n hn).mp h0, if_neg (by decide), Nat.add_zero] at e
      rw [e] at g
      exact g
    · rw [if_neg h0]
      have h1 : f n = true := by
        cases h2 : f n with
        | true => rfl
        | false => exact absurd ((hf n hn).mpr h2) h0
      rw [h1, if_pos rfl] at e
      rw [e] at g
      exact ⟨inB_nI hn (by decide), g⟩
theorem c_102_94 {X : Scr} {d : Nat} {v1 : Int32} {w : Wd} {A : Nat → Nat} {f : Nat → Bool} (hA : ∀ c, c < 6 → w 94 c = nI (A c)) (hf : ∀ c, c < 6 → (F_154 v1 (nI c) w = 0 ↔ f c = false)) : CI X (d + 2) 102 [.ref 94, .int v1] w (fun x u => x = nI (smF A f 6) ∧ u = w) :=
  CI.of rfl (t102_94_at0 w _ (l_102_94 hA hf 6 0 rfl))
theorem f63 {w : Wd} : ∀ c, c < 6 → (F_154 (kI 63) (nI c) w = 0 ↔ (fun _ => true : Nat → Bool) c = false) := fun c hc =>
  (by decide +kernel : ∀ c, c < 6 → (F_154 (kI 63) (nI c) (fun _ _ => 0) = 0 ↔ true = false)) c hc
theorem c_99 {X : Scr} {d : Nat} {w : Wd} {O : Nat → Nat} (hA : ∀ c, c < 6 → w 93 c = nI (O c)) : CI X (d + 3) 99 [.ref 89] w (fun x u => x = nI (smF O (fun _ => true) 6) ∧ u = w) :=
  CI.of rfl (t99_89_at0 (d := d + 1) w (c_102_93 (d := d) hA f63))
theorem c_100 {X : Scr} {d : Nat} {w : Wd} {U : Nat → Nat} (hA : ∀ c, c < 6 → w 94 c = nI (U c)) : CI X (d + 3) 100 [.ref 89] w (fun x u => x = nI (smF U (fun _ => true) 6) ∧ u = w) :=
  CI.of rfl (t100_89_at0 (d := d + 1) w (c_102_94 (d := d) hA f63))
theorem l_101 {X : Scr} {d : Nat} {w : Wd} {N O U : Nat → Nat} (hN : NO w N) (hO : ∀ c, c < 6 → w 93 c = nI (O c) ∧ O c ≤ 20000) (hU : ∀ c, c < 6 → w 94 c = nI (U c) ∧ U c ≤ 20000) : ∀ (m S a : Nat), S + m = 64 → a ≤ 240000 → EI X (d + 3) 101 (7, [some (.ref 89), some (.int (nI a)), some (.int (nI S)), none], [], SH, w) (fun x u => x = nI (mnL (clC N O U) m S a) ∧ u = w) := by
  intro m
  induction m with
  | zero =>
    intro S a h ha
    have e : S = 64 := by omega
    subst e
    refine t101_89_at7 (d := d + 1) w _ _ ?_
    rw [if_pos (by decide)]
    exact ⟨rfl, rfl⟩
  | succ m ih =>
    intro S a h ha
    have hS : S < 64 := by omega
    refine t101_89_at7 (d := d + 1) w _ _ ?_
    rw [if_neg (lt_64 S hS), k1]
    refine CI.mono (c_102_93 (d := d + 1) (A := O) (f := fun c => !S.testBit c) (fun c hc => (hO c hc).1) (fun c hc => by rw [cmp_bit w S c hS hc]; simp)) ?_
    intro x1 w1 hx
    obtain ⟨hx1, hu⟩ := hx
    have hu2 := hu.symm
    subst hu2
    rw [f58 hN hS]
    have hlt := nbR_lt (A := S) (fun c hc => (hN c hc).2) 6 (Nat.le_refl _)
    refine CI.mono (c_102_94 (d := d + 1) (A := U) (f := fun c => (nbR N S 6).testBit c) (fun c hc => (hU c hc).1) (fun c hc => by rw [isin_z w (by omega) (by omega)]; simp)) ?_
    intro x2 w2 hx
    obtain ⟨hx2, hu⟩ := hx
    have hu2 := hu.symm
    subst hu2
    have b1 := smF_le (f := fun c => !S.testBit c) (b := 20000) 6 (fun c hc => (hO c hc).2)
    have b2 := smF_le (f := fun c => (nbR N S 6).testBit c) (b := 20000) 6 (fun c hc => (hU c hc).2)
    rw [hx1, hx2, nI_add, mn_nI (by omega) (by omega)]
    exact ih (S + 1) (min (clC N O U S) a) (by omega) (by omega)
theorem c_101 {X : Scr} {d : Nat} {w : Wd} {N O U : Nat → Nat} (hN : NO w N) (hO : ∀ c, c < 6 → w 93 c = nI (O c) ∧ O c ≤ 20000) (hU : ∀ c, c < 6 → w 94 c = nI (U c) ∧ U c ≤ 20000) : CI X (d + 4) 101 [.ref 89] w (fun x u => x = nI (mnL (clC N O U) 63 1 (smF O (fun _ => true) 6)) ∧ u = w) := by
  refine CI.of rfl (t101_89_at0 (d := d + 1) w ?_)
  refine CI.mono (c_99 (d := d) (fun c hc => (hO c hc).1)) ?_
  intro x1 w1 hx
  obtain ⟨hx1, hu⟩ := hx
  have hu2 := hu.symm
  subst hu2
  rw [hx1]
  have b1 := smF_le (f := fun _ => true) (b := 20000) 6 (fun c hc => (hO c hc).2)
  exact l_101 (d := d) hN hO hU 63 1 _ rfl (by omega)
theorem l_98 {X : Scr} {d f : Nat} {w : Wd} {B s : Nat → Nat} (hf : f < 6) (hB : ∀ c, c < 6 → w 8 (6 * c + f) = nI (B c) ∧ B c ≤ 9999) (hs : ∀ c, c < 6 → w 90 c = nI (s c) ∧ s c ≤ 10000) : ∀ (m n : Nat) (u : Wd), n + m = 6 → (∀ c, c < n → u 93 c = nI (B c - s c) ∧ u 94 c = nI (s c - B c)) → (∀ a, a ≠ 93 → a ≠ 94 → u a = w a) → EU X (d + 2) 98 (15, [some (.ref 89), some (.ref 7), some (.int (nI f)), some (.int (nI n)), none], [], SH, u) (fun u2 => (∀ c, c < 6 → u2 93 c = nI (B c - s c) ∧ u2 94 c = nI (s c - B c)) ∧ ∀ a, a ≠ 93 → a ≠ 94 → u2 a = w a) := by
  intro m
  induction m with
  | zero =>
    intro n u h h1 h2
    have e : n = 6 := by omega
    subst e
    refine t98_89_7_at15 u _ _ ?_
    rw [if_pos (by decide)]
    exact ⟨h1, h2⟩
  | succ m ih =>
    intro n u h h1 h2
    have hn : n < 6 := by omega
    have b1 := (hB n hn).2
    have b2 := (hs n hn).2
    refine t98_89_7_at15 u _ _ ?_
    rw [if_neg (lt_6 n hn), k1, nI_clamp (by omega), countOf7 hn hf, h2 8 (by decide) (by decide), h2 90 (by decide) (by decide), (hB n hn).1, (hs n hn).1, Int32.neg_sub, mx_sub (by omega) (by omega), mx_sub (by omega) (by omega)]
    refine ⟨inB_nI hn (by decide), inB_nI hn (by decide), inB_nI hn (by decide), ih (n + 1) _ (by omega) (fun c hc => ?_) (fun a a1 a2 => ?_)⟩
    · by_cases e : c = n
      · subst e
        exact ⟨by rw [up2_ne (by decide), up2_at, if_pos rfl], by rw [up2_at, if_pos rfl]⟩
      · exact ⟨by rw [up2_ne (by decide), up2_at, if_neg e]; exact (h1 c (by omega)).1, by rw [up2_at, if_neg e, up2_ne (by decide)]; exact (h1 c (by omega)).2⟩
    · rw [up2_ne a2, up2_ne a1]; exact h2 a a1 a2
/-! the reference -/
theorem sub_sub_nI {a b s : Nat} (h : b ≤ s) : nI a - (nI b - nI s) = nI (a + (s - b)) := by
  rw [Int32.sub_eq_add_neg, Int32.neg_sub, pk_sub h, nI_add]
theorem l_232b {X : Scr} {d S R a0 : Nat} {w : Wd} {B s : Nat → Nat} (hR : R < 64) (h138 : ∀ c, c < 6 → w 138 c = nI (B c) - nI (s c) ∧ B c ≤ 9999 ∧ s c ≤ 10000) : ∀ (m n : Nat), n + m = 6 → EI X (d + 1) 232 (68, [some (.ref 110), some (.int (nI S)), some (.int (nI (a0 + smF (fun c => s c - B c) (fun c => R.testBit c) n))), some (.int (nI R)), some (.int (nI n))], [], SH, w) (fun x u => x = nI (a0 + smF (fun c => s c - B c) (fun c => R.testBit c) 6) ∧ u = w) := by
  intro m
  induction m with
  | zero =>
    intro n h
    have e : n = 6 := by omega
    subst e
    refine t232_110_at68 w _ _ _ _ ?_
    rw [if_pos (by decide)]
    exact ⟨rfl, rfl⟩
  | succ m ih =>
    intro n h
    have hn : n < 6 := by omega
    have g := ih (n + 1) (by omega)
    have e : smF (fun c => s c - B c) (fun c => R.testBit c) (n + 1) = smF (fun c => s c - B c) (fun c => R.testBit c) n + (if R.testBit n then (s n - B n) else 0) := rfl
    obtain ⟨e138, b1, b2⟩ := h138 n hn
    refine t232_110_at68 w _ _ _ _ ?_
    rw [if_neg (lt_6 n hn), k1, nI_clamp (by omega), e138]
    by_cases hb : R.testBit n = true
    · rw [if_neg (by rw [has_z w (by omega) (by omega)]; exact fun x => x hb)]
      rw [hb, if_pos rfl] at e
      refine ⟨inB_nI hn (by decide), ?_⟩
      by_cases hc : s n ≤ B n
      · rw [if_pos (show 0 ≤ nI (B n) - nI (s n) by rw [pk_sub hc]; exact nI_pos' (by omega))]
        rw [show s n - B n = 0 by omega, Nat.add_zero] at e
        rw [e] at g
        exact g
      · rw [if_neg (show ¬ 0 ≤ nI (B n) - nI (s n) from Int32.not_le.mpr (pk_sneg (by omega) (by omega))), sub_sub_nI (by omega)]
        rw [e, ← Nat.add_assoc] at g
        exact ⟨inB_nI hn (by decide), g⟩
    · rw [if_pos (by rw [has_z w (by omega) (by omega)]; exact hb)]
      have hb2 : R.testBit n = false := by simpa using hb
      rw [hb2, if_neg (by decide), Nat.add_zero] at e
      rw [e] at g
      exact g
theorem l_232a {X : Scr} {d S : Nat} {w : Wd} {N B s : Nat → Nat} (hS : S < 64) (hN : NRf w N) (h138 : ∀ c, c < 6 → w 138 c = nI (B c) - nI (s c) ∧ B c ≤ 9999 ∧ s c ≤ 10000) : ∀ (m n : Nat), n + m = 6 → EI X (d + 1) 232 (7, [some (.ref 110), some (.int (nI S)), some (.int (nI (smF (fun c => B c - s c) (fun c => !S.testBit c) n))), some (.int (nI (rcR N (fun c => B c - s c) S n))), some (.int (nI n))], [], SH, w) (fun x u => x = nI (rfC N (fun c => B c - s c) (fun c => s c - B c) S) ∧ u = w) := by
  intro m
  induction m with
  | zero =>
    intro n h
    have e : n = 6 := by omega
    subst e
    refine t232_110_at7 w _ _ _ _ ?_
    rw [if_pos (by decide)]
    exact l_232b (rcR_lt (fun c hc => (hN c hc).2) 6 (Nat.le_refl _)) h138 6 0 rfl
  | succ m ih =>
    intro n h
    have hn : n < 6 := by omega
    have g := ih (n + 1) (by omega)
    have e : smF (fun c => B c - s c) (fun c => !S.testBit c) (n + 1) = smF (fun c => B c - s c) (fun c => !S.testBit c) n + (if (!S.testBit n) then (B n - s n) else 0) := rfl
    have e2 : rcR N (fun c => B c - s c) S (n + 1) = if 0 < B n - s n then (if S.testBit n then rcR N (fun c => B c - s c) S n ||| N n else rcR N (fun c => B c - s c) S n) else rcR N (fun c => B c - s c) S n := rfl
    obtain ⟨e138, b1, b2⟩ := h138 n hn
    refine t232_110_at7 w _ _ _ _ ?_
    rw [if_neg (lt_6 n hn), k1, nI_clamp (by omega), e138, (hN n hn).1, or_nI]
    refine ⟨inB_nI hn (by decide), ?_⟩
    by_cases hp : s n < B n
    · rw [if_pos ((sub_gt (by omega) (by omega)).mpr hp), pk_sub (by omega), nI_add]
      rw [if_pos (by omega)] at e2
      by_cases hb : S.testBit n = true
      · rw [if_neg (by rw [has_z w (by omega) (by omega)]; exact fun x => x hb)]
        rw [hb, if_neg (by decide), Nat.add_zero] at e
        rw [if_pos hb] at e2
        rw [e, e2] at g
        exact ⟨inB_nI hn (by decide), g⟩
      · rw [if_pos (by rw [has_z w (by omega) (by omega)]; exact hb)]
        have hb2 : S.testBit n = false := by simpa using hb
        rw [hb2, if_pos (by decide)] at e
        rw [if_neg hb] at e2
        rw [e, e2] at g
        exact ⟨inB_nI hn (by decide), g⟩
    · rw [if_neg (fun e3 => hp ((sub_gt (by omega) (by omega)).mp e3))]
      rw [if_neg (by omega)] at e2
      rw [show B n - s n = 0 by omega] at e
      simp only [ite_self, Nat.add_zero] at e
      rw [e, e2] at g
      exact g
theorem l_233b {X : Scr} {d : Nat} {v1 v2 v3 v4 : Int32} {w : Wd} {N B s : Nat → Nat} {Q : Int32 → Wd → Prop} {Z : Nat} (hN : NRf w N) (h138 : ∀ c, c < 6 → w 138 c = nI (B c) - nI (s c) ∧ B c ≤ 9999 ∧ s c ≤ 10000) (hQ : Q (nI Z) w) : ∀ (m S a : Nat), S + m = 64 → a ≤ 200000000 → mnL (rfC N (fun c => B c - s c) (fun c => s c - B c)) m S a = Z → EI X (d + 2) 233 (140, [some (.ref 110), some (.int v1), some (.int v2), some (.int v3), some (.int v4), some (.int (nI a)), some (.int (nI S))], [], SH, w) Q := by
  intro m
  induction m with
  | zero =>
    intro S a h ha hZ
    have e : S = 64 := by omega
    subst e
    have e2 : a = Z := hZ
    refine t233_110_at140 w _ _ _ _ _ _ ?_
    rw [if_pos (by decide), e2]
    exact hQ
  | succ m ih =>
    intro S a h ha hZ
    have hS : S < 64 := by omega
    refine t233_110_at140 w _ _ _ _ _ _ ?_
    rw [if_neg (lt_64 S hS), k1]
    refine CI.mono (CI.of (d := d + 1) rfl (t232_110_at0 (d := d) w _ (l_232a hS hN h138 6 0 rfl))) ?_
    intro x1 w1 hx
    obtain ⟨hx1, hu⟩ := hx
    have hu2 := hu.symm
    subst hu2
    have b1 := smF_le (A := fun c => B c - s c) (f := fun c => !S.testBit c) (b := 20000) 6 (fun c hc => by have := h138 c hc; omega)
    have b2 := smF_le (A := fun c => s c - B c) (f := fun c => (rcR N (fun c => B c - s c) S 6).testBit c) (b := 20000) 6 (fun c hc => by have := h138 c hc; omega)
    have b3 : rfC N (fun c => B c - s c) (fun c => s c - B c) S ≤ 240000 := by unfold rfC; omega
    rw [hx1, mn_nI2 (by omega) (by omega)]
    exact ih (S + 1) (min (rfC N (fun c => B c - s c) (fun c => s c - B c) S) a) (by omega) (by omega) hZ
theorem l_233a {X : Scr} {d f : Nat} {v2 : Int32} {w : Wd} {B s : Nat → Nat} {Q : Int32 → Wd → Prop} (hf : f < 6) (hB : ∀ c, c < 6 → w 111 (6 * c + f) = nI (B c) ∧ B c ≤ 9999) (hs : ∀ c, c < 6 → w 133 c = nI (s c) ∧ s c ≤ 10000) (hz : ∀ c, c < 6 → F_164_110 (nI c) w = 0 → B c = 0 ∧ s c = 0)
    (kk : ∀ u : Wd, (∀ c, c < 6 → u 138 c = nI (B c) - nI (s c)) → (∀ a, a ≠ 138 → u a = w a) → EI X (d + 2) 233 (37, [some (.ref 110), some (.int (nI f)), some (.int v2), some (.int (nI (smF (fun c => B c - s c) (fun _ => true) 6))), some (.int (nI (smF (fun c => s c - B c) (fun _ => true) 6))), some (.int (nI 6)), none], [], SH, u) Q) :
    ∀ (m n : Nat) (u : Wd), n + m = 6 → (∀ c, c < n → u 138 c = nI (B c) - nI (s c)) → (∀ a, a ≠ 138 → u a = w a) → EI X (d + 2) 233 (37, [some (.ref 110), some (.int (nI f)), some (.int v2), some (.int (nI (smF (fun c => B c - s c) (fun _ => true) n))), some (.int (nI (smF (fun c => s c - B c) (fun _ => true) n))), some (.int (nI n)), none], [], SH, u) Q := by
  intro m
  induction m with
  | zero =>
    intro n u h h1 h2
    have e : n = 6 := by omega
    subst e
    exact kk u h1 h2
  | succ m ih =>
    intro n u h h1 h2
    have hn : n < 6 := by omega
    have b1 := (hB n hn).2
    have b2 := (hs n hn).2
    have g := ih (n + 1)
    have e1 : smF (fun c => B c - s c) (fun _ => true) (n + 1) = smF (fun c => B c - s c) (fun _ => true) n + (B n - s n) := rfl
    have e2 : smF (fun c => s c - B c) (fun _ => true) (n + 1) = smF (fun c => s c - B c) (fun _ => true) n + (s n - B n) := rfl
    rw [e1, e2] at g
    have put : ∀ v : Int32, v = nI (B n) - nI (s n) → ((∀ c, c < n + 1 → (up2 u 138 n v) 138 c = nI (B c) - nI (s c)) ∧ ∀ a, a ≠ 138 → (up2 u 138 n v) a = w a) := by
      intro v hv
      refine ⟨fun c hc => ?_, fun a ha => by rw [up2_ne ha]; exact h2 a ha⟩
      rw [up2_at]
      by_cases e : c = n
      · rw [if_pos e, e, hv]
      · rw [if_neg e]; exact h1 c (by omega)
    refine t233_110_at37 u _ _ _ _ _ ?_
    rw [if_neg (lt_6 n hn), k1, nI_clamp (by omega), c164 (w := w) (by rw [h2 110 (by decide)])]
    by_cases h0 : F_164_110 (nI n) w = 0
    · rw [if_pos h0]
      obtain ⟨z1, z2⟩ := hz n hn h0
      obtain ⟨p1, p2⟩ := put (kI 0) (by rw [z1, z2]; decide)
      rw [up2_at, if_pos rfl, show F_159 (kI 0) (kI 0) (up2 u 138 n (kI 0)) = nI 0 from rfl, show F_159 (kI 0) (-kI 0) (up2 u 138 n (kI 0)) = nI 0 from (by unfold F_159; decide), nI_add, nI_add]
      have g2 := g _ (by omega) p1 p2
      rw [z1, z2] at g2
      exact ⟨inB_nI hn (by decide), inB_nI hn (by decide), inB_nI hn (by decide), g2⟩
    · rw [if_neg h0, ixC, countR hn hf, h2 111 (by decide), h2 133 (by decide), (hB n hn).1, (hs n hn).1]
      obtain ⟨p1, p2⟩ := put (nI (B n) - nI (s n)) rfl
      rw [up2_at, if_pos rfl, Int32.neg_sub, mx_sub2 (by omega) (by omega), mx_sub2 (by omega) (by omega), nI_add, nI_add]
      exact ⟨inB_nI (by omega) (by decide), inB_nI hn (by decide), inB_nI hn (by decide), inB_nI hn (by decide), inB_nI hn (by decide), g _ (by omega) p1 p2⟩
theorem J_bled {X : Scr} {w : Wd} (h : II w) (p q : Int32) : JJ X 133 233 [.int p, .int q] w := by
  have h0 := h
  obtain ⟨hO, hB, hK, hT, hL, hD, hR⟩ := h
  obtain ⟨P, hP, hPR⟩ := office_P hO
  obtain ⟨N, hN, hNR⟩ := office_N hO
  obtain ⟨o1, o2, o3, o4, o5, o6, o7⟩ := hO
  obtain ⟨fc, f1, f2⟩ := told_fc o1
  obtain ⟨v1, v2⟩ := hB.2.split f1
  unfold JJ
  refine CI.of (d := 59) rfl (t133_0_at0 (d := 57) w p q ?_)
  have t : ∀ (u : Wd) (Q : Int32 → Wd → Prop), _ → CI X 60 233 [.ref 110, .int p, .int q] u Q := fun u Q H => CI.of (d := 59) rfl (t233_110_at0 (d := 57) u p q H)
  by_cases h1 : F_52_3 p w = 0
  · rw [if_pos h1]
    refine t w _ ?_
    rw [isF_eq o2, if_pos h1]
    exact ⟨rfl, h0⟩
  rw [if_neg h1]
  by_cases h2 : F_153 q (kI 0) (kI 2) w = 0
  · rw [if_pos h2]
    refine t w _ ?_
    rw [isF_eq o2, if_neg h1, if_pos (show F_157 q (kI 0) (kI 2) w = 0 from h2)]
    exact ⟨rfl, h0⟩
  rw [if_neg h2]
  have h1r : ∀ u : Wd, u 110 7 = w 110 7 → ¬ F_165_110 p u = 0 := fun u e => by rw [c165 e, isF_eq o2]; exact h1
  obtain ⟨f, hf, rfl, -⟩ := hasF h1
  obtain ⟨tt, ht, et⟩ := (o7 f hf).2.2.2.2.1
  obtain ⟨x, hx⟩ := CT.nums (n := w 111) v1.1
  have hsle : ∀ c, c < 6 → shR P tt c ≤ 10000 := fun c hc => by
    have := shR_le (P := P) (many := tt) (P_le_pS hc)
    omega
  refine CU.of (d := 58) rfl (t98_89_7_at0 (d := 56) w _ ?_)
  rw [targetOf_nI hf, et]
  refine CU.mono (c_91 (d := 53) (way := 0) hP (by decide) ht (fun e => absurd rfl e)) ?_
  intro ua hA
  have hA2 : ∀ c, c < 6 → ua 90 c = nI (shR P tt c) := fun c hc => hA.1 c hc
  refine EU.mono (l_98 (d := 56) (w := ua) (B := fun c => x (6 * c + f)) (s := fun c => shR P tt c) hf (fun c hc => ?_) (fun c hc => ⟨hA2 c hc, hsle c hc⟩) 6 0 ua rfl (fun c hc => by omega) (fun _ _ _ => rfl)) ?_
  · rw [hA.2 8 (by decide) (by decide), hB.1.1 (6 * c + f) (by omega)]
    exact hx (6 * c + f) (by omega)
  intro ub hU
  obtain ⟨u1, u2⟩ := hU
  have fr : ∀ a, a ≠ 90 → a ≠ 92 → a ≠ 93 → a ≠ 94 → ub a = w a := fun a a1 a2 a3 a4 => by rw [u2 a a3 a4, hA.2 a a1 a2]
  have fz : ∀ a, 110 ≤ a → ub a = w a := fun a ha => fr a (by omega) (by omega) (by omega) (by omega)
  have bO : ∀ c, c < 6 → (fun c => x (6 * c + f) - shR P tt c) c ≤ 20000 := fun c hc => by
    have := (hx (6 * c + f) (by omega)).2
    dsimp only
    omega
  have bU : ∀ c, c < 6 → (fun c => shR P tt c - x (6 * c + f)) c ≤ 20000 := fun c hc => by
    have := hsle c hc
    dsimp only
    omega
  have fin : ∀ z : Int32, z = (if kI 2 ≤ q then nI (mnL (rfC N (fun c => x (6 * c + f) - shR P tt c) (fun c => shR P tt c - x (6 * c + f))) 64 0 100000000) else if q = 0 then nI (smF (fun c => x (6 * c + f) - shR P tt c) (fun _ => true) 6) else nI (smF (fun c => shR P tt c - x (6 * c + f)) (fun _ => true) 6)) → CI X 60 233 [.ref 110, .int (nI f), .int q] ub (fun y u3 => y = z ∧ II u3) := by
    intro z hz
    refine t ub _ ?_
    rw [if_neg (h1r ub (by rw [fz 110 (by decide)])), if_neg (show ¬ F_157 q (kI 0) (kI 2) ub = 0 from h2), nI_clamp (by omega), fz 116 (by decide), (o7 f hf).2.1, et]
    refine ⟨inB_nI hf (by decide), ?_⟩
    refine CU.mono (c_218 (d := 55) (P := P) (hPR.cg (fz 114 (by decide)) (by rw [fz 110 (by decide)])) ht) ?_
    intro uc hC
    have frc : ∀ a, a ≠ 90 → a ≠ 92 → a ≠ 93 → a ≠ 94 → a ≠ 133 → uc a = w a := fun a a1 a2 a3 a4 a5 => by rw [hC.2 a a5, fr a a1 a2 a3 a4]
    have fzc : ∀ a, 110 ≤ a → a ≠ 133 → uc a = w a := fun a ha h5 => frc a (by omega) (by omega) (by omega) (by omega) h5
    refine l_233a (d := 57) (w := uc) (B := fun c => x (6 * c + f)) (s := fun c => shR P tt c) hf (fun c hc => ?_) (fun c hc => ⟨hC.1 c hc, hsle c hc⟩) (fun c hc hz0 => ?_) ?_ 6 0 uc rfl (fun c hc => by omega) (fun _ _ => rfl)
    · rw [fzc 111 (by decide) (by decide)]
      exact hx (6 * c + f) (by omega)
    · have e0 : F_164_110 (nI c) w = 0 := by rw [← c164 (w := w) (u := uc) (by rw [fzc 110 (by decide) (by decide)])]; exact hz0
      have z1 := v2 c f hc hf ((f2 c hc).mp e0)
      rw [(hx (6 * c + f) (by omega)).1] at z1
      have hb := (hx (6 * c + f) (by omega)).2
      exact ⟨(nI_z (by omega)).mp z1, shN_zero (P := P) (many := tt) (way := 0) ((hPR c hc).2.2 e0)⟩
    · intro ud d1 d2
      have hII : II ud := h0.ss (SS.of [90, 92, 93, 94, 133, 138] (fun a ha => by
        simp only [List.mem_cons, List.not_mem_nil, or_false, not_or] at ha
        rw [d2 a ha.2.2.2.2.2, frc a ha.1 ha.2.1 ha.2.2.1 ha.2.2.2.1 ha.2.2.2.2.1]) (by decide))
      refine t233_110_at37 (d := 57) ud _ _ _ _ _ ?_
      rw [if_pos (by decide)]
      by_cases q2 : kI 2 ≤ q
      · rw [if_pos q2]
        rw [if_pos q2] at hz
        refine l_233b (d := 57) (N := N) (B := fun c => x (6 * c + f)) (s := fun c => shR P tt c) (fun c hc => ?_) (fun c hc => ⟨d1 c hc, (hx (6 * c + f) (by omega)).2, hsle c hc⟩) ⟨hz.symm, hII⟩ 64 0 100000000 rfl (by decide) rfl
        rw [d2 115 (by decide), fzc 115 (by decide) (by decide)]
        exact hNR c hc
      · rw [if_neg q2]
        rw [if_neg q2] at hz
        by_cases q0 : q = 0
        · rw [if_pos q0]
          rw [if_pos q0] at hz
          exact ⟨hz.symm, hII⟩
        · rw [if_neg q0]
          rw [if_neg q0] at hz
          exact ⟨hz.symm, hII⟩
  have u93 : ∀ c, c < 6 → ub 93 c = nI ((fun c => x (6 * c + f) - shR P tt c) c) := fun c hc => (u1 c hc).1
  have u94 : ∀ c, c < 6 → ub 94 c = nI ((fun c => shR P tt c - x (6 * c + f)) c) := fun c hc => (u1 c hc).2
  by_cases q0 : q = kI 0
  · rw [if_pos q0]
    refine CI.mono (c_99 (d := 56) u93) ?_
    intro x1 w1 hx1
    obtain ⟨hx1, hu⟩ := hx1
    have hu2 := hu.symm
    subst hu2
    exact fin _ (by rw [hx1, q0, if_neg (by decide), if_pos (by decide)])
  · rw [if_neg q0]
    by_cases q1 : q = kI 1
    · rw [if_pos q1]
      refine CI.mono (c_100 (d := 56) u94) ?_
      intro x1 w1 hx1
      obtain ⟨hx1, hu⟩ := hx1
      have hu2 := hu.symm
      subst hu2
      exact fin _ (by rw [hx1, q1, if_neg (by decide), if_neg (by decide)])
    · rw [if_neg q1]
      obtain ⟨k, -, hk, rfl⟩ := within_z (a := 0) (b := 2) (by decide) (by decide) h2
      have k2 : k = 2 := by
        have a0 : k ≠ 0 := fun e => q0 (by rw [e]; rfl)
        have a1 : k ≠ 1 := fun e => q1 (by rw [e]; rfl)
        omega
      refine CI.mono (c_101 (d := 55) (N := N) (fun c hc => by rw [fr 6 (by decide) (by decide) (by decide) (by decide)]; exact hN c hc) (fun c hc => ⟨u93 c hc, bO c hc⟩) (fun c hc => ⟨u94 c hc, bU c hc⟩)) ?_
      intro x1 w1 hx1
      obtain ⟨hx1, hu⟩ := hx1
      have hu2 := hu.symm
      subst hu2
      refine fin _ ?_
      rw [hx1, k2, if_pos (show kI 2 ≤ nI 2 by decide), cut_eq]
      have b1 := smF_le (f := fun c => !Nat.testBit 0 c) 6 bO
      have b2 := smF_le (f := fun c => (rcR N (fun c => x (6 * c + f) - shR P tt c) 0 6).testBit c) 6 bU
      have b3 : rfC N (fun c => x (6 * c + f) - shR P tt c) (fun c => shR P tt c - x (6 * c + f)) 0 ≤ 240000 := by unfold rfC; omega
      rw [mnL_cap (b := 100000000 + smF (fun c => x (6 * c + f) - shR P tt c) (fun _ => true) 6) (c := 100000000) 64 0 ⟨0, by omega, by omega, by omega, by omega⟩]
end BLED
