/-! regions -/
section REGIONS
def nbR (N : Nat → Nat) (A : Nat) : Nat → Nat
  | 0 => 0
  | n + 1 => if A.testBit n then nbR N A n ||| N n else nbR N A n
def stR (N : Nat → Nat) (A : Nat) : Nat := A ||| nbR N A 6
def itR (N : Nat → Nat) (A : Nat) : Nat → Nat
  | 0 => A
  | k + 1 => stR N (itR N A k)
theorem nbR_lt {N : Nat → Nat} {A : Nat} (hN : ∀ c, c < 6 → N c < 64) : ∀ n, n ≤ 6 → nbR N A n < 64
  | 0, _ => by show (0 : Nat) < 64; decide
  | n + 1, h => by
    have ih := nbR_lt (A := A) hN n (by omega)
    show (if A.testBit n then nbR N A n ||| N n else nbR N A n) < 64
    split
    · exact Nat.or_lt_two_pow (n := 6) ih (hN n (by omega))
    · exact ih
theorem itR_lt {N : Nat → Nat} {A : Nat} (hN : ∀ c, c < 6 → N c < 64) (hA : A < 64) : ∀ k, itR N A k < 64
  | 0 => hA
  | k + 1 => Nat.or_lt_two_pow (n := 6) (itR_lt hN hA k) (nbR_lt hN 6 (by decide))
def pc6 (A : Nat) : Nat := A % 2 + A / 2 % 2 + A / 4 % 2 + A / 8 % 2 + A / 16 % 2 + A / 32 % 2
theorem pc6_all : ∀ A, A < 64 → ∀ B, B < 64 → (A ||| B) ≠ A → pc6 A < pc6 (A ||| B) := by decide +kernel
theorem pc6_le (A : Nat) : pc6 A ≤ 6 := by unfold pc6; omega
theorem itR_fix {N : Nat → Nat} {A k : Nat} (h : stR N (itR N A k) = itR N A k) : ∀ i, itR N A (k + i) = itR N A k
  | 0 => rfl
  | i + 1 => by
    show stR N (itR N A (k + i)) = _
    rw [itR_fix h i, h]
def NO (w : Wd) (N : Nat → Nat) : Prop := ∀ c, c < 6 → w 6 c = nI (N c) ∧ N c < 64
theorem f58 {w : Wd} {N : Nat → Nat} {A : Nat} (hN : NO w N) (hA : A < 64) : F_58_3 (nI A) w = nI (nbR N A 6) := by
  have step : ∀ n a, n < 6 → (if F_154 (nI A) (nI n) w = 0 then nI a else nI a ||| w 6 n) = nI (if A.testBit n then a ||| N n else a) := by
    intro n a hn
    by_cases h : A.testBit n = true
    · rw [if_pos h, if_neg (by rw [isin_z w (by omega) (by omega)]; exact fun e => e h), (hN n hn).1, or_nI]
    · rw [if_neg h, if_pos (by rw [isin_z w (by omega) (by omega)]; exact h)]
  unfold F_58_3
  simp only [foldF]
  rw [show kI 0 = nI 0 from rfl, step 0 _ (by omega), step 1 _ (by omega), step 2 _ (by omega), step 3 _ (by omega), step 4 _ (by omega), step 5 _ (by omega)]
  rfl
theorem f59 {w : Wd} {N : Nat → Nat} {c : Nat} (hN : NO w N) (hc : c < 6) : F_59_3 (nI c) w = nI (itR N (2 ^ c) 6) := by
  have h2 : (2 : Nat) ^ c < 64 := (show (2 : Nat) ^ c < 2 ^ 6 from Nat.pow_lt_pow_right (by decide) hc)
  have hl : ∀ k, itR N (2 ^ c) k < 64 := fun k => itR_lt (fun c hc => (hN c hc).2) h2 k
  have step : ∀ k, (nI (itR N (2 ^ c) k) ||| F_58_3 (nI (itR N (2 ^ c) k)) w) = nI (itR N (2 ^ c) (k + 1)) := by
    intro k
    rw [f58 hN (hl k), or_nI]
    rfl
  unfold F_59_3
  simp only [foldF]
  rw [shl1_nI (by omega)]
  rw [show nI (2 ^ c) = nI (itR N (2 ^ c) 0) from rfl, step 0, step 1, step 2, step 3, step 4, step 5]
def NRf (w : Wd) (N : Nat → Nat) : Prop := ∀ c, c < 6 → w 115 c = nI (N c) ∧ N c < 64
theorem in_226 {X : Scr} {d A : Nat} {w : Wd} {v1 : Int32} {N : Nat → Nat} {Q : Int32 → Wd → Prop} (hN : NRf w N) (hA : A < 64) (kk : EI X (d + 1) 226 (6, [some (.ref 110), some (.int v1), some (.int (nI (stR N A))), some (.int (nI A)), none], [], SH, w) Q) : ∀ (m n : Nat), n + m = 6 → EI X (d + 1) 226 (16, [some (.ref 110), some (.int v1), some (.int (nI (A ||| nbR N A n))), some (.int (nI A)), some (.int (nI n))], [], SH, w) Q := by
  intro m
  induction m with
  | zero =>
    intro n h
    have hn : n = 6 := by omega
    subst hn
    refine t226_110_at16 w _ _ _ _ ?_
    rw [if_pos (by decide)]
    exact kk
  | succ m ih =>
    intro n h
    have ihn := ih (n + 1) (by omega)
    have e : nbR N A (n + 1) = if A.testBit n then nbR N A n ||| N n else nbR N A n := rfl
    refine t226_110_at16 w _ _ _ _ ?_
    rw [if_neg (lt_6 n (by omega)), k1, nI_clamp (by omega), (hN n (by omega)).1]
    by_cases hb : A.testBit n = true
    · rw [if_neg (by rw [has_z w (by omega) (by omega)]; exact fun x => x hb), or_nI]
      rw [if_pos hb] at e
      rw [e, ← Nat.or_assoc] at ihn
      exact ⟨inB_nI (by omega) (by decide), ihn⟩
    · rw [if_pos (by rw [has_z w (by omega) (by omega)]; exact hb)]
      rw [if_neg hb] at e
      rw [e] at ihn
      exact ihn
theorem l_226 {X : Scr} {d A0 : Nat} {w : Wd} {v1 : Int32} {N : Nat → Nat} (hN : NRf w N) (hA0 : A0 < 64) : ∀ (m k : Nat) (b : Nat), k + m = 6 → b < 64 → b ≠ itR N A0 k → k + 1 ≤ pc6 (itR N A0 k) → EI X (d + 1) 226 (6, [some (.ref 110), some (.int v1), some (.int (nI (itR N A0 k))), some (.int (nI b)), none], [], SH, w) (fun x w1 => x = nI (itR N A0 6) ∧ w1 = w) := by
  intro m
  have hlt : ∀ k, itR N A0 k < 64 := fun k => itR_lt (fun c hc => (hN c hc).2) hA0 k
  induction m with
  | zero =>
    intro k b h hb hne hp
    have := pc6_le (itR N A0 k)
    omega
  | succ m ih =>
    intro k b h hb hne hp
    have hk := hlt k
    refine t226_110_at6 w _ _ _ ?_
    rw [if_neg (by rw [nI_eq (by omega) (by omega)]; exact fun e => hne e.symm)]
    have z := in_226 (X := X) (d := d) (v1 := v1) (A := itR N A0 k) (Q := fun x w1 => x = nI (itR N A0 6) ∧ w1 = w) hN hk ?_ 6 0 rfl
    · rw [show itR N A0 k ||| nbR N (itR N A0 k) 0 = itR N A0 k from Nat.or_zero _] at z
      exact z
    · by_cases hf : stR N (itR N A0 k) = itR N A0 k
      · refine t226_110_at6 w _ _ _ ?_
        rw [hf, if_pos rfl]
        refine ⟨?_, rfl⟩
        have := itR_fix hf (m + 1)
        rw [h] at this
        rw [this]
      · have hp2 := pc6_all _ hk _ (nbR_lt (N := N) (A := itR N A0 k) (fun c hc => (hN c hc).2) 6 (by decide)) hf
        exact ih (k + 1) (itR N A0 k) (by omega) hk (fun e => hf e.symm) (by
          show k + 1 + 1 ≤ pc6 (itR N A0 k ||| nbR N (itR N A0 k) 6)
          omega)
theorem c_226 {X : Scr} {d c : Nat} {w : Wd} {N : Nat → Nat} (hN : NRf w N) (hc : c < 6) : CI X (d + 2) 226 [.ref 110, .int (nI c)] w (fun x w1 => x = nI (itR N (2 ^ c) 6) ∧ w1 = w) := by
  have h2 : (2 : Nat) ^ c < 64 := (show (2 : Nat) ^ c < 2 ^ 6 from Nat.pow_lt_pow_right (by decide) hc)
  have h0 : 0 < (2 : Nat) ^ c := Nat.pow_pos (by decide)
  refine CI.of rfl (t226_110_at0 w _ ?_)
  rw [shl1_nI (by omega)]
  refine l_226 hN h2 6 0 0 rfl (by decide) (by show 0 ≠ 2 ^ c; omega) ?_
  show 0 + 1 ≤ pc6 (2 ^ c)
  match c, hc with
  | 0, _ => decide
  | 1, _ => decide
  | 2, _ => decide
  | 3, _ => decide
  | 4, _ => decide
  | 5, _ => decide
  | n + 6, h => omega
/-- seen, how many -/
def rgC (N : Nat → Nat) (T : Nat) : Nat → Nat × Nat
  | 0 => (0, 0)
  | n + 1 => if (T.testBit n && !(rgC N T n).1.testBit n) = true then ((rgC N T n).1 ||| itR N (2 ^ n) 6, (rgC N T n).2 + 1) else rgC N T n
theorem rgC_lt {N : Nat → Nat} {T : Nat} (hN : ∀ c, c < 6 → N c < 64) : ∀ n, n ≤ 6 → (rgC N T n).1 < 64 ∧ (rgC N T n).2 ≤ n
  | 0, _ => ⟨by show (0 : Nat) < 64; decide, Nat.le_refl _⟩
  | n + 1, h => by
    have ih := rgC_lt (T := T) hN n (by omega)
    have h2 : (2 : Nat) ^ n < 64 := (show (2 : Nat) ^ n < 2 ^ 6 from Nat.pow_lt_pow_right (by decide) (by omega))
    have := itR_lt hN h2 6
    unfold rgC
    split
    · exact ⟨Nat.or_lt_two_pow (n := 6) ih.1 this, by show (rgC N T n).2 + 1 ≤ n + 1; omega⟩
    · exact ⟨ih.1, by omega⟩
theorem l_60 {X : Scr} {d T : Nat} {w : Wd} {N : Nat → Nat} (hN : NO w N) (hT : w 3 3 = nI T) (hT2 : T < 64) : ∀ (m n : Nat), n + m = 6 → EI X (d + 3) 60 (6, [some (.ref 3), some (.int (nI (rgC N T n).1)), some (.int (nI (rgC N T n).2)), some (.int (nI n))], [], SH, w) (fun x w1 => x = nI (rgC N T 6).2 ∧ w1 = w) := by
  intro m
  induction m with
  | zero =>
    intro n h
    have hn : n = 6 := by omega
    subst hn
    refine t60_3_at6 w _ _ _ ?_
    rw [if_pos (by decide)]
    exact ⟨rfl, rfl⟩
  | succ m ih =>
    intro n h
    have hn : n < 6 := by omega
    have ihn := ih (n + 1) (by omega)
    have e : rgC N T (n + 1) = if (T.testBit n && !(rgC N T n).1.testBit n) = true then ((rgC N T n).1 ||| itR N (2 ^ n) 6, (rgC N T n).2 + 1) else rgC N T n := rfl
    have hl : T &&& ((rgC N T n).1 ^^^ 4294967295) ≤ T := Nat.and_le_left
    refine t60_3_at6 w _ _ _ ?_
    rw [if_neg (lt_6 n hn), hT, andn_nI _ _ (by omega), k1, k1, f59 hN hn, or_nI]
    have hz : F_154 (nI (T &&& ((rgC N T n).1 ^^^ 4294967295))) (nI n) w = 0 ↔ ¬ (T.testBit n && !(rgC N T n).1.testBit n) = true := by
      rw [isin_z w (by omega) (by omega), tb_andn (by omega)]
    by_cases hb : (T.testBit n && !(rgC N T n).1.testBit n) = true
    · rw [if_neg (by rw [hz]; exact fun x => x hb)]
      rw [if_pos hb] at e
      rw [e] at ihn
      exact ihn
    · rw [if_pos (by rw [hz]; exact hb)]
      rw [if_neg hb] at e
      rw [e] at ihn
      exact ihn
theorem l_227 {X : Scr} {d T : Nat} {w : Wd} {v1 : Int32} {N : Nat → Nat} (hN : NRf w N) (hT2 : T < 64) : ∀ (m n L : Nat), n + m = 6 → L < 64 → (∀ i, i < 6 → L.testBit i = (T.testBit i && !(rgC N T n).1.testBit i)) → EI X (d + 3) 227 (34, [some (.ref 110), some (.int v1), some (.int (nI L)), some (.int (nI (rgC N T n).2)), some (.int (nI n))], [], SH, w) (fun x w1 => x = nI (rgC N T 6).2 ∧ w1 = w) := by
  intro m
  induction m with
  | zero =>
    intro n L h hL hB
    have hn : n = 6 := by omega
    subst hn
    refine t227_110_at34 (d := d + 1) w _ _ _ _ ?_
    rw [if_pos (by decide)]
    exact ⟨rfl, rfl⟩
  | succ m ih =>
    intro n L h hL hB
    have hn : n < 6 := by omega
    have e : rgC N T (n + 1) = if (T.testBit n && !(rgC N T n).1.testBit n) = true then ((rgC N T n).1 ||| itR N (2 ^ n) 6, (rgC N T n).2 + 1) else rgC N T n := rfl
    refine t227_110_at34 (d := d + 1) w _ _ _ _ ?_
    rw [if_neg (lt_6 n hn), k1, k1]
    by_cases hb : (T.testBit n && !(rgC N T n).1.testBit n) = true
    · rw [if_neg (by rw [has_z w (by omega) (by omega), hB n hn]; exact fun x => x hb)]
      rw [if_pos hb] at e
      refine CI.mono (c_226 (d := d + 1) hN hn) ?_
      intro x u ex
      obtain ⟨rfl, rfl⟩ := ex
      rw [andn_nI _ _ (by omega)]
      have hl : L &&& (itR N (2 ^ n) 6 ^^^ 4294967295) ≤ L := Nat.and_le_left
      have := ih (n + 1) (L &&& (itR N (2 ^ n) 6 ^^^ 4294967295)) (by omega) (by omega) (fun i hi => by
        rw [tb_andn (by omega), hB i hi, e]
        simp only [Nat.testBit_or]
        cases T.testBit i <;> cases (rgC N T n).1.testBit i <;> cases (itR N (2 ^ n) 6).testBit i <;> rfl)
      rw [e] at this
      exact this
    · rw [if_pos (by rw [has_z w (by omega) (by omega), hB n hn]; exact hb)]
      rw [if_neg hb] at e
      have := ih (n + 1) L (by omega) hL (fun i hi => by rw [e]; exact hB i hi)
      rw [e] at this
      exact this
theorem office_N {w : Wd} (hO : IOf w) : ∃ N : Nat → Nat, NO w N ∧ NRf w N := by
  obtain ⟨o1, o2, o3, o4, o5, o6, o7⟩ := hO
  have key : ∀ c, c < 6 → w 6 c = nI (w 6 c).toNatClampNeg ∧ (w 6 c).toNatClampNeg < 64 := by
    intro c hc
    obtain ⟨n, hn, e⟩ := (o7 c hc).2.2.2.2.2.1
    rw [e, nI_clamp (by omega)]
    exact ⟨rfl, by omega⟩
  exact ⟨fun c => (w 6 c).toNatClampNeg, key, fun c hc => by rw [(o7 c hc).2.2.1]; exact key c hc⟩
theorem J_regions {X : Scr} {w : Wd} (h : II w) (p : Int32) : JJ X 131 227 [.int p] w := by
  obtain ⟨N, hN, hR⟩ := office_N h.1
  obtain ⟨o1, -, -, ⟨T, hT, eT⟩, -⟩ := h.1
  unfold JJ
  refine CI.of (d := 59) rfl (t131_0_at0 (d := 56) w p ?_)
  have t : ∀ (Q : Int32 → Wd → Prop), _ → CI X 60 227 [.ref 110, .int p] w Q := fun Q H => CI.of (d := 59) rfl (t227_110_at0 (d := 57) w p H)
  by_cases hp : p = kI 100
  · rw [if_pos hp]
    refine CI.of (d := 58) rfl (t60_3_at0 (d := 55) w ?_)
    refine EI.mono (l_60 (d := 55) hN eT (by omega) 6 0 rfl) ?_
    intro x u ex
    obtain ⟨rfl, rfl⟩ := ex
    refine t _ ?_
    rw [if_pos hp, o1, eT]
    refine EI.mono (l_227 (d := 56) (T := T) hR (by omega) 6 0 T rfl (by omega) (fun i hi => ?_)) ?_
    · show T.testBit i = (T.testBit i && !(0 : Nat).testBit i)
      rw [Nat.zero_testBit]; simp
    · intro y u2 ey
      obtain ⟨rfl, rfl⟩ := ey
      exact ⟨rfl, h⟩
  · rw [if_neg hp]
    by_cases h1 : F_51_3 p w = 0
    · rw [if_pos h1]
      refine t _ ?_
      rw [if_neg hp, isC_eq o1, if_pos h1]
      exact ⟨rfl, h⟩
    · rw [if_neg h1]
      refine t _ ?_
      rw [if_neg hp, isC_eq o1, if_neg h1]
      obtain ⟨c, hc, rfl, -⟩ := hasC h1
      refine CI.mono (c_226 (d := 57) hR hc) ?_
      intro y u2 ey
      obtain ⟨rfl, rfl⟩ := ey
      exact ⟨by rw [f59 hN hc], h⟩
end REGIONS
