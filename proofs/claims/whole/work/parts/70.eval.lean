/-! codes are reckoned alike -/
section EVAL
def rkO (o : Nat) (x y : Int32) : Int32 := if o = 2 then x + y else if o = 3 then x - y else if o = 4 then x * y else if o = 5 then x / y else if o = 6 then x - x / y * y else if o = 7 then (if y ≤ x then kI 0 else kI 1) else if o = 8 then (if x ≤ y then kI 0 else kI 1) else (if x = y then kI 1 else kI 0)
def evF (op ar : Nat → Nat) (V : Nat → Int32) (b : Nat) : Nat → Nat → Nat → (Nat → Int32) → Int32
  | 0, _, _, _ => 0
  | f + 1, k, n, s => if b ≤ k then s 0 else
    if op k ≤ 1 then evF op ar V b f (k + 1) (n + 1) (upd s n (if op k = 0 then nI (ar k) else V (ar k)))
    else if op k = 10 then evF op ar V b f (k + 1) n (upd s (n - 1) (kI 1 - s (n - 1)))
    else if 11 ≤ op k then (if s (n - 1) = (if op k = 12 then kI 1 else kI 0) then evF op ar V b f (ar k) n s else evF op ar V b f (k + 1) (n - 1) s)
    else if (op k = 5 ∨ op k = 6) ∧ s (n - 1) = 0 then 0 else evF op ar V b f (k + 1) (n - 1) (upd s (n - 2) (rkO (op k) (s (n - 2)) (s (n - 1))))
def tpI (n : Nat) : Int32 := nI n + kI (-1)
theorem tpI_up (n : Nat) : tpI n + kI 1 = nI n := by
  unfold tpI
  rw [Int32.add_assoc, show kI (-1) + kI 1 = 0 from rfl, Int32.add_zero]
theorem tpI_pos {n : Nat} (h : 1 ≤ n) : tpI n = nI (n - 1) := sb_m1 (by omega)
theorem sub1 (x : Int32) : x - kI 1 = x + kI (-1) := by
  rw [Int32.sub_eq_add_neg]
  rfl
theorem tpI_dn {n : Nat} (h : 1 ≤ n) : tpI n + kI (-1) = tpI (n - 1) := by
  rw [tpI_pos h]; rfl
theorem rk_49 {o : Nat} {x y : Int32} (w : Wd) (h2 : 2 ≤ o) (h9 : o ≤ 9) (hz : ¬ ((o = 5 ∨ o = 6) ∧ y = 0)) : F_49 (kI (opS o)) x y w = rkO o x y := by
  match o, h2, h9, hz with
  | 2, _, _, _ => rfl
  | 3, _, _, _ => rfl
  | 4, _, _, _ => rfl
  | 5, _, _, hz =>
    have : ¬ y = 0 := fun e => hz ⟨Or.inl rfl, e⟩
    show (if y = 0 then kI 0 else x / y) = x / y
    rw [if_neg this]
  | 6, _, _, hz =>
    have : ¬ y = 0 := fun e => hz ⟨Or.inr rfl, e⟩
    show (if y = 0 then kI 0 else x - x / y * y) = x - x / y * y
    rw [if_neg this]
  | 7, _, _, _ => rfl
  | 8, _, _, _ => rfl
  | 9, _, _, _ => rfl
theorem rk_197 {o : Nat} {x y : Int32} (w : Wd) (h2 : 2 ≤ o) (h9 : o ≤ 9) : F_197 (nI o) x y w = rkO o x y := by
  match o, h2, h9 with
  | 2, _, _ => rfl
  | 3, _, _ => rfl
  | 4, _, _ => rfl
  | 5, _, _ => rfl
  | 6, _, _ => rfl
  | 7, _, _ => rfl
  | 8, _, _ => rfl
  | 9, _, _ => rfl
theorem rf_48 {o : Nat} {y : Int32} (w : Wd) (h2 : 2 ≤ o) (h9 : o ≤ 9) : F_48 (kI (opS o)) y w = 0 ↔ ¬ ((o = 5 ∨ o = 6) ∧ y = 0) := by
  unfold F_48
  by_cases hy : y = 0
  · rw [if_pos hy]
    match o, h2, h9 with
    | 2, _, _ => exact ⟨fun _ h => by omega, fun _ => rfl⟩
    | 3, _, _ => exact ⟨fun _ h => by omega, fun _ => rfl⟩
    | 4, _, _ => exact ⟨fun _ h => by omega, fun _ => rfl⟩
    | 5, _, _ => exact ⟨fun h => absurd h (by decide), fun h => absurd ⟨Or.inl rfl, hy⟩ h⟩
    | 6, _, _ => exact ⟨fun h => absurd h (by decide), fun h => absurd ⟨Or.inr rfl, hy⟩ h⟩
    | 7, _, _ => exact ⟨fun _ h => by omega, fun _ => rfl⟩
    | 8, _, _ => exact ⟨fun _ h => by omega, fun _ => rfl⟩
    | 9, _, _ => exact ⟨fun _ h => by omega, fun _ => rfl⟩
  · rw [if_neg hy]
    exact ⟨fun _ h => hy h.2, fun _ => rfl⟩
theorem sg_ne {o : Nat} (h2 : 2 ≤ o) (h9 : o ≤ 9) : ¬ kI (opS o) = kI 1 ∧ ¬ kI (opS o) = kI 2 ∧ ¬ kI (opS o) = kI 33 ∧ ¬ kI (opS o) = kI 38 ∧ ¬ kI (opS o) = kI 124 := by
  match o, h2, h9 with
  | 2, _, _ => decide
  | 3, _, _ => decide
  | 4, _, _ => decide
  | 5, _, _ => decide
  | 6, _, _ => decide
  | 7, _, _ => decide
  | 8, _, _ => decide
  | 9, _, _ => decide
/-- what holds on the way: the stack of n ints, the code from k on -/
def evI (op ar ht : Nat → Nat) (tb : Nat → Bool) (b k n : Nat) (s row : Nat → Int32) : Prop := k ≤ b ∧ ht k = n ∧ ht b = 1 ∧ n ≤ 60 ∧ (∀ i, i < n → row i = s i) ∧ (tb k = true → 1 ≤ n ∧ (s (n - 1) = kI 0 ∨ s (n - 1) = kI 1))
theorem ht_le {op ar ht : Nat → Nat} {tb : Nat → Bool} {b k : Nat} (h : stOK op ar ht tb b k) (hn : ht k ≤ 60) (h0 : op k ≤ 12) : ht (k + 1) ≤ 60 := by
  unfold stOK at h
  split at h
  · omega
  · split at h
    · omega
    · split at h
      · omega
      · split at h <;> omega
/-- the next place, by one step -/
theorem evI_push {op ar ht : Nat → Nat} {tb : Nat → Bool} {b k n : Nat} {s row : Nat → Int32} {v : Int32} (hI : evI op ar ht tb b k n s row) (hk : k < b) (h : stOK op ar ht tb b k) (ho : op k ≤ 1) : evI op ar ht tb b (k + 1) (n + 1) (upd s n v) (upd row n v) := by
  obtain ⟨i1, i2, i3, i4, i5, i6⟩ := hI
  unfold stOK at h
  rw [if_pos ho] at h
  obtain ⟨a1, a2, a3, a4⟩ := h
  refine ⟨by omega, by omega, i3, by omega, fun i hi => ?_, fun ht => by rw [a3] at ht; cases ht⟩
  unfold upd
  by_cases e : i = n
  · rw [if_pos e, if_pos e]
  · rw [if_neg e, if_neg e]; exact i5 i (by omega)
theorem evI_not {op ar ht : Nat → Nat} {tb : Nat → Bool} {b k n : Nat} {s row : Nat → Int32} (hI : evI op ar ht tb b k n s row) (hk : k < b) (h : stOK op ar ht tb b k) (ho : op k = 10) : 1 ≤ n ∧ evI op ar ht tb b (k + 1) n (upd s (n - 1) (kI 1 - s (n - 1))) (upd row (n - 1) (kI 1 - row (n - 1))) := by
  obtain ⟨i1, i2, i3, i4, i5, i6⟩ := hI
  unfold stOK at h
  rw [if_neg (by omega), if_neg (by omega), if_neg (by omega), if_pos ho] at h
  obtain ⟨a1, a2, a3⟩ := h
  have hn : 1 ≤ n := by omega
  refine ⟨hn, by omega, by omega, i3, by omega, fun i hi => ?_, fun _ => ⟨hn, ?_⟩⟩
  · unfold upd
    rw [i5 (n - 1) (by omega)]
    by_cases e : i = n - 1
    · rw [if_pos e, if_pos e]
    · rw [if_neg e, if_neg e]; exact i5 i (by omega)
  · unfold upd
    rw [if_pos rfl]
    rcases (i6 a3).2 with e | e
    · rw [e]; exact Or.inr rfl
    · rw [e]; exact Or.inl rfl
theorem evI_bin {op ar ht : Nat → Nat} {tb : Nat → Bool} {b k n : Nat} {s row : Nat → Int32} (hI : evI op ar ht tb b k n s row) (hk : k < b) (h : stOK op ar ht tb b k) (h2 : 2 ≤ op k) (h9 : op k ≤ 9) : 2 ≤ n ∧ evI op ar ht tb b (k + 1) (n - 1) (upd s (n - 2) (rkO (op k) (s (n - 2)) (s (n - 1)))) (upd row (n - 2) (rkO (op k) (row (n - 2)) (row (n - 1)))) := by
  obtain ⟨i1, i2, i3, i4, i5, i6⟩ := hI
  have hh : 2 ≤ ht k ∧ ht (k + 1) + 1 = ht k ∧ (op k ≤ 6 → tb (k + 1) = false) := by
    unfold stOK at h
    rw [if_neg (by omega)] at h
    split at h
    · exact ⟨h.1, h.2.1, fun _ => h.2.2⟩
    · try rw [if_pos h9] at h
      exact ⟨h.1, h.2, fun _ => by omega⟩
  obtain ⟨a1, a2, a3⟩ := hh
  refine ⟨by omega, by omega, by omega, i3, by omega, fun i hi => ?_, fun ht => ⟨by omega, ?_⟩⟩
  · unfold upd
    rw [i5 (n - 1) (by omega), i5 (n - 2) (by omega)]
    by_cases e : i = n - 2
    · rw [if_pos e, if_pos e]
    · rw [if_neg e, if_neg e]; exact i5 i (by omega)
  · have h7 : ¬ op k ≤ 6 := fun e => by rw [a3 e] at ht; cases ht
    unfold upd
    rw [show n - 1 - 1 = n - 2 by omega, if_pos rfl]
    unfold rkO
    rw [if_neg (by omega), if_neg (by omega), if_neg (by omega), if_neg (by omega), if_neg (by omega)]
    split
    · split
      · exact Or.inl rfl
      · exact Or.inr rfl
    · split
      · split
        · exact Or.inl rfl
        · exact Or.inr rfl
      · split
        · exact Or.inr rfl
        · exact Or.inl rfl
theorem evI_jmp {op ar ht : Nat → Nat} {tb : Nat → Bool} {b k n : Nat} {s row : Nat → Int32} (hI : evI op ar ht tb b k n s row) (hk : k < b) (h : stOK op ar ht tb b k) (ho : 11 ≤ op k) : 1 ≤ n ∧ k < ar k ∧ evI op ar ht tb b (ar k) n s row ∧ evI op ar ht tb b (k + 1) (n - 1) s row := by
  obtain ⟨i1, i2, i3, i4, i5, i6⟩ := hI
  unfold stOK at h
  rw [if_neg (by omega), if_neg (by omega), if_neg (by omega), if_neg (by omega)] at h
  obtain ⟨a1, a2, a3, a4, a5, a6, a7⟩ := h
  exact ⟨by omega, a5, ⟨a6, by omega, i3, i4, i5, fun _ => i6 a3⟩, ⟨by omega, by omega, i3, by omega, fun i hi => i5 i (by omega), fun e => by rw [a4] at e; cases e⟩⟩
/-- what a C comes to is 0 or 1 -/
theorem evF_bool {op ar ht : Nat → Nat} {tb : Nat → Bool} {V : Nat → Int32} {b : Nat} (hop : ∀ k, k < b → op k ≤ 12) (hb : tb b = true) : ∀ (f k n : Nat) (s : Nat → Int32), evI op ar ht tb b k n s s → (∀ j, k ≤ j → j < b → stOK op ar ht tb b j) → evF op ar V b f k n s = kI 0 ∨ evF op ar V b f k n s = kI 1 := by
  intro f
  induction f with
  | zero => intro k n s _ _; exact Or.inl rfl
  | succ f ih =>
    intro k n s hI hS
    unfold evF
    by_cases hk : b ≤ k
    · rw [if_pos hk]
      obtain ⟨i1, i2, i3, i4, i5, i6⟩ := hI
      have hkb : k = b := by omega
      subst hkb
      have := (i6 hb).2
      rw [show n - 1 = 0 by omega] at this
      exact this
    · rw [if_neg hk]
      have hs := hS k (Nat.le_refl _) (by omega)
      have h12 := hop k (by omega)
      have hS1 : ∀ j, k + 1 ≤ j → j < b → stOK op ar ht tb b j := fun j h1 h2 => hS j (by omega) h2
      by_cases h1 : op k ≤ 1
      · rw [if_pos h1]
        exact ih _ _ _ (evI_push hI (by omega) hs h1) hS1
      · rw [if_neg h1]
        by_cases h10 : op k = 10
        · rw [if_pos h10]
          exact ih _ _ _ (evI_not hI (by omega) hs h10).2 hS1
        · rw [if_neg h10]
          by_cases h11 : 11 ≤ op k
          · rw [if_pos h11]
            obtain ⟨j1, j2, j3, j4⟩ := evI_jmp hI (by omega) hs h11
            by_cases hq : s (n - 1) = (if op k = 12 then kI 1 else kI 0)
            · rw [if_pos hq]; exact ih _ _ _ j3 (fun j h1 h2 => hS j (by omega) h2)
            · rw [if_neg hq]; exact ih _ _ _ j4 hS1
          · rw [if_neg h11]
            split
            · exact Or.inl rfl
            · exact ih _ _ _ (evI_bin hI (by omega) hs (by omega) (by omega)).2 hS1
theorem cd_div {o v : Nat} (ho : o ≤ 12) (hv : v < 100000) : nI (1048576 * o + v) / kI 1048576 = nI o ∧ nI (1048576 * o + v) - nI (1048576 * o + v) / kI 1048576 * kI 1048576 = nI v := by
  have h1 := pk_div (a := 1048576 * o + v) (d := 1048576) (by omega) (by decide) (by decide)
  have h2 := pk_rem (a := 1048576 * o + v) (d := 1048576) (by omega) (by decide) (by decide)
  rw [show (1048576 * o + v) / 1048576 = o by omega] at h1
  rw [show (1048576 * o + v) % 1048576 = v by omega] at h2
  exact ⟨h1, h2⟩
theorem ne_nI {a b : Nat} (ha : a < 2 ^ 31) (hb : b < 2 ^ 31) (h : a ≠ b) : ¬ nI a = nI b := fun e => h (nI_inj ha hb e)
theorem ev_198 {X : Scr} {d b : Nat} {v1 : Int32} {w : Wd} {op ar ht : Nat → Nat} {tb : Nat → Bool} {V : Nat → Int32} (hb : b ≤ 240) (hc : ∀ k, k < b → op k ≤ 12 ∧ ar k < 100000 ∧ w 124 k = nI (1048576 * op k + ar k)) (hV : ∀ j, j < 12 → w 130 j = V j) : ∀ (f k n : Nat) (s : Nat → Int32) (u : Wd), b - k < f → evI op ar ht tb b k n s (u 129) → (∀ j, k ≤ j → j < b → stOK op ar ht tb b j) → (∀ a, a ≠ 129 → u a = w a) → EI X (d + 1) 198 (16, [some (.ref 110), some (.int v1), some (.int (nI b)), some (.int (nI n)), some (.int (nI 0)), some (.int (nI k)), none, none], [], SH, u) (fun x w1 => x = evF op ar V b f k n s ∧ ∀ a, a ≠ 129 → w1 a = w a) := by
  intro f
  induction f with
  | zero => intro k n s u h; omega
  | succ f ih =>
    intro k n s u hf hI hS hfr
    have hI0 := hI
    obtain ⟨i1, i2, i3, i4, i5, i6⟩ := hI
    refine t198_110_at16 u _ _ _ _ _ ?_
    unfold evF
    by_cases hk : b ≤ k
    · have hkb : k = b := by omega
      have hn : n = 1 := by rw [← i2, hkb]; exact i3
      subst hn
      rw [if_pos hk, if_pos (nI_le hk (by omega))]
      exact ⟨i5 0 (by omega), hfr⟩
    · have hkb : k < b := by omega
      obtain ⟨r1, r2, r3⟩ := hc k hkb
      obtain ⟨c1, c2⟩ := cd_div r1 r2
      have hibk : inB (nI k) 260 = true := inB_nI (by omega) (by decide)
      rw [if_neg hk, if_neg (nI_ge hkb (by omega)), nI_clamp (by omega), hfr 124 (by decide), r3, c2, c1, k1, k1]
      have hs := hS k (Nat.le_refl _) hkb
      have hS1 : ∀ j, k + 1 ≤ j → j < b → stOK op ar ht tb b j := fun j h1 h2 => hS j (by omega) h2
      refine ⟨hibk, hibk, ?_⟩
      have fr2 : ∀ i v, ∀ a, a ≠ 129 → (up2 u 129 i v) a = w a := fun i v a ha => by rw [up2_ne ha]; exact hfr a ha
      have up86 : ∀ i v, (up2 u 129 i v) 129 = upd (u 129) i v := fun i v => up2_self
      have ne : ∀ j : Nat, j < 2 ^ 31 → op k ≠ j → ¬ nI (op k) = nI j := fun j hj h => ne_nI (by omega) hj h
      by_cases h1 : op k ≤ 1
      · have hpu := fun v => evI_push (v := v) hI0 hkb hs h1
        have hs2 := hs
        unfold stOK at hs2
        rw [if_pos h1] at hs2
        rw [if_pos h1, nI_clamp (show n < 2 ^ 31 by omega)]
        have hib2 : inB (nI n) 260 = true := inB_nI (by omega) (by decide)
        by_cases h0 : op k = 0
        · rw [if_pos h0, if_pos (show nI (op k) = 0 by rw [h0]; rfl)]
          exact ⟨hib2, ih (k + 1) (n + 1) (upd s n (nI (ar k))) (up2 u 129 n (nI (ar k))) (by omega) (by rw [up86]; exact hpu _) hS1 (fr2 _ _)⟩
        · have h01 : op k = 1 := by omega
          have har := hs2.2.2.2 h01
          rw [if_neg h0, if_neg (show ¬ nI (op k) = 0 from ne 0 (by decide) h0), if_pos (show nI (op k) = kI 1 by rw [h01]; rfl), nI_clamp (by omega), hfr 130 (by decide), hV _ har]
          exact ⟨inB_nI har (by decide), hib2, ih (k + 1) (n + 1) (upd s n (V (ar k))) (up2 u 129 n (V (ar k))) (by omega) (by rw [up86]; exact hpu _) hS1 (fr2 _ _)⟩
      · rw [if_neg h1, if_neg (show ¬ nI (op k) = 0 from ne 0 (by decide) (by omega)), if_neg (show ¬ nI (op k) = kI 1 from ne 1 (by decide) (by omega))]
        by_cases h10 : op k = 10
        · obtain ⟨hn, hnx⟩ := evI_not hI0 hkb hs h10
          have htp : nI n - kI 1 = nI (n - 1) := pk_sub (b := 1) hn
          have hib2 : inB (nI (n - 1)) 260 = true := inB_nI (by omega) (by decide)
          rw [if_pos h10, if_pos (show nI (op k) = kI 10 by rw [h10]; rfl), htp, nI_clamp (by omega)]
          exact ⟨hib2, hib2, ih (k + 1) n _ (up2 u 129 (n - 1) (kI 1 - u 129 (n - 1))) (by omega) (by rw [up86]; exact hnx) hS1 (fr2 _ _)⟩
        · rw [if_neg h10, if_neg (show ¬ nI (op k) = kI 10 from ne 10 (by decide) h10)]
          by_cases h11 : 11 ≤ op k
          · rw [if_pos h11]
            obtain ⟨hn, hj1, hj2, hj3⟩ := evI_jmp hI0 hkb hs h11
            have htp : nI n - kI 1 = nI (n - 1) := pk_sub (b := 1) hn
            have hib2 : inB (nI (n - 1)) 260 = true := inB_nI (by omega) (by decide)
            have A := ih (ar k) n s u (by omega) hj2 (fun j h1 h2 => hS j (by omega) h2) hfr
            have B := ih (k + 1) (n - 1) s u (by omega) hj3 hS1 hfr
            have hv4 : nI 0 + nI (ar k) = nI (ar k) := by rw [nI_add, Nat.zero_add]
            rw [htp, nI_clamp (by omega), i5 (n - 1) (by omega), hv4]
            by_cases h12 : op k = 12
            · rw [if_pos h12, if_neg (show ¬ nI (op k) = kI 11 from ne 11 (by decide) (by omega)), if_pos (show nI (op k) = kI 12 by rw [h12]; rfl)]
              refine ⟨hib2, ?_⟩
              by_cases e : s (n - 1) = kI 1
              · rw [if_pos e, if_pos e]; exact A
              · rw [if_neg e, if_neg e]; exact B
            · have h11b : op k = 11 := by omega
              rw [if_neg h12, if_pos (show nI (op k) = kI 11 by rw [h11b]; rfl)]
              refine ⟨hib2, ?_⟩
              rw [if_neg (show ¬ nI (op k) = kI 12 from ne 12 (by decide) h12)]
              by_cases e : s (n - 1) = kI 0
              · rw [if_pos e, if_pos e]; exact A
              · rw [if_neg e, if_neg e]; exact B
          · rw [if_neg h11, if_neg (show ¬ nI (op k) = kI 11 from ne 11 (by decide) (by omega)), if_neg (show ¬ nI (op k) = kI 12 from ne 12 (by decide) (by omega))]
            have g2 : 2 ≤ op k := by omega
            have g9 : op k ≤ 9 := by omega
            obtain ⟨hn, hnx⟩ := evI_bin hI0 hkb hs g2 g9
            have htp : nI n - kI 1 = nI (n - 1) := pk_sub (b := 1) (by omega)
            have htp2 : nI (n - 1) - kI 1 = nI (n - 2) := by rw [show nI (n - 1) - kI 1 = nI (n - 1 - 1) from pk_sub (b := 1) (by omega)]; rfl
            have hib2 : inB (nI (n - 1)) 260 = true := inB_nI (by omega) (by decide)
            have hib3 : inB (nI (n - 2)) 260 = true := inB_nI (by omega) (by decide)
            have e5 := i5 (n - 1) (by omega)
            have nx := ih (k + 1) (n - 1) _ (up2 u 129 (n - 2) (rkO (op k) (u 129 (n - 2)) (u 129 (n - 1)))) (by omega) (by rw [up86]; exact hnx) hS1 (fr2 _ _)
            rw [htp, htp2, nI_clamp (by omega), nI_clamp (by omega), rk_197 u g2 g9]
            by_cases hz : (op k = 5 ∨ op k = 6) ∧ s (n - 1) = 0
            · rw [if_pos hz]
              rcases hz.1 with e | e
              · rw [if_pos (show nI (op k) = kI 5 by rw [e]; rfl)]
                refine ⟨hib2, ?_⟩
                rw [if_pos (by rw [e5]; exact hz.2)]
                exact ⟨rfl, hfr⟩
              · rw [if_neg (show ¬ nI (op k) = kI 5 from ne 5 (by decide) (by omega)), if_pos (show nI (op k) = kI 6 by rw [e]; rfl)]
                refine ⟨hib2, ?_⟩
                rw [if_pos (by rw [e5]; exact hz.2)]
                exact ⟨rfl, hfr⟩
            · rw [if_neg hz]
              have nz5 : nI (op k) = kI 5 → ¬ u 129 (n - 1) = 0 := fun e h => hz ⟨Or.inl (nI_inj (by omega) (by decide) e), by rw [← e5]; exact h⟩
              have nz6 : nI (op k) = kI 6 → ¬ u 129 (n - 1) = 0 := fun e h => hz ⟨Or.inr (nI_inj (by omega) (by decide) e), by rw [← e5]; exact h⟩
              have all : (inB (nI (n - 2)) 260 = true ∧ inB (nI (n - 1)) 260 = true ∧ (¬ nI (op k) = kI 2 → ¬ nI (op k) = kI 3 → ¬ nI (op k) = kI 4 → nI (op k) = kI 5 → ¬ u 129 (n - 1) = 0) ∧ (¬ nI (op k) = kI 2 → ¬ nI (op k) = kI 3 → ¬ nI (op k) = kI 4 → ¬ nI (op k) = kI 5 → nI (op k) = kI 6 → ¬ u 129 (n - 1) = 0) ∧ inB (nI (n - 2)) 260 = true ∧ EI X (d + 1) 198 (16, [some (.ref 110), some (.int v1), some (.int (nI b)), some (.int (nI (n - 1))), some (.int (nI 0)), some (.int (nI (k + 1))), none, none], [], SH, (up2 u 129 (n - 2) (rkO (op k) (u 129 (n - 2)) (u 129 (n - 1))))) (fun x w1 => x = evF op ar V b f (k + 1) (n - 1) (upd s (n - 2) (rkO (op k) (s (n - 2)) (s (n - 1)))) ∧ ∀ a, a ≠ 129 → w1 a = w a)) := ⟨hib3, hib2, fun _ _ _ e => nz5 e, fun _ _ _ _ e => nz6 e, hib3, nx⟩
              by_cases e5b : nI (op k) = kI 5
              · rw [if_pos e5b]
                refine ⟨hib2, ?_⟩
                rw [if_neg (nz5 e5b)]
                exact all
              · rw [if_neg e5b]
                by_cases e6b : nI (op k) = kI 6
                · rw [if_pos e6b]
                  refine ⟨hib2, ?_⟩
                  rw [if_neg (nz6 e6b)]
                  exact all
                · rw [if_neg e6b]
                  exact all
theorem c_198 {X : Scr} {d a b : Nat} {w : Wd} {op ar : Nat → Nat} {V : Nat → Int32} {isC : Bool} (hab : a ≤ b) (hb : b ≤ 240) (hc : ∀ k, k < b → op k ≤ 12 ∧ ar k < 100000 ∧ w 124 k = nI (1048576 * op k + ar k)) (hV : ∀ j, j < 12 → w 130 j = V j) (hS : SEGW op ar a b isC) : CI X (d + 2) 198 [.ref 110, .int (nI a), .int (nI b)] w (fun x w1 => x = evF op ar V b 300 a 0 (fun _ => 0) ∧ ∀ c, c ≠ 129 → w1 c = w c) := by
  obtain ⟨ht, tb, s1, s2, s3, s4, s5⟩ := hS
  refine CI.of rfl (t198_110_at0 w _ _ ?_)
  have e1 : kI 260 * (nI a / kI 260) = nI 0 := by
    have := pk_div (a := a) (d := 260) (by omega) (by decide) (by decide)
    rw [show a / 260 = 0 by omega] at this
    rw [show nI a / kI 260 = nI 0 from this]
    rfl
  rw [e1]
  exact ev_198 (ht := ht) (tb := tb) hb hc hV 300 a 0 (fun _ => 0) w (by omega) ⟨hab, s1, s2, by omega, fun i hi => by omega, fun h => by rw [s4] at h; cases h⟩ s5 (fun _ _ => rfl)
theorem seg_bool {op ar : Nat → Nat} {V : Nat → Int32} {a b : Nat} (hab : a ≤ b) (hop : ∀ k, k < b → op k ≤ 12) (hS : SEGW op ar a b true) : evF op ar V b 300 a 0 (fun _ => 0) = kI 0 ∨ evF op ar V b 300 a 0 (fun _ => 0) = kI 1 := by
  obtain ⟨ht, tb, s1, s2, s3, s4, s5⟩ := hS
  exact evF_bool (ht := ht) (tb := tb) hop (s3 rfl) 300 a 0 (fun _ => 0) ⟨hab, s1, s2, by omega, fun i hi => by omega, fun h => by rw [s4] at h; cases h⟩ s5
end EVAL
