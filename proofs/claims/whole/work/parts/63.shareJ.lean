/-! share, breaks, loses -/
section SHAREJ
theorem office_P {w : Wd} (hO : IOf w) : ∃ P : Nat → Nat, PO w P ∧ PRf w P := by
  obtain ⟨o1, o2, o3, o4, o5, o6, o7⟩ := hO
  have key : ∀ c, c < 6 → w 4 c = nI (w 4 c).toNatClampNeg ∧ (w 4 c).toNatClampNeg ≤ 9999 := by
    intro c hc
    obtain ⟨n, hn, e⟩ := (o7 c hc).2.2.2.1
    rw [e, nI_clamp (by omega)]
    exact ⟨rfl, hn⟩
  refine ⟨fun c => (w 4 c).toNatClampNeg, key, fun c hc => ⟨?_, (key c hc).2, fun h => ?_⟩⟩
  · rw [(o7 c hc).1]; exact (key c hc).1
  · rw [isC_eq o1, isC_nI hc] at h
    have := (o7 c hc).2.2.2.2.2.2 h
    show (w 4 c).toNatClampNeg = 0
    rw [this]
    rfl
theorem c164 {w u : Wd} (e : u 110 6 = w 110 6) (p : Int32) : F_164_110 p u = F_164_110 p w := by unfold F_164_110; rw [e]; rfl
theorem c165 {w u : Wd} (e : u 110 7 = w 110 7) (p : Int32) : F_165_110 p u = F_165_110 p w := by unfold F_165_110; rw [e]; rfl
theorem J_share {X : Scr} {w : Wd} (h : II w) (p q r : Int32) : JJ X 128 223 [.int p, .int q, .int r] w := by
  obtain ⟨P, hP, hR⟩ := office_P h.1
  have o1 := h.1.1
  unfold JJ
  refine CI.of (d := 59) rfl (t128_0_at0 (d := 57) w p q r ?_)
  have t : ∀ (u : Wd) (Q : Int32 → Wd → Prop), _ → CI X 60 223 [.ref 110, .int p, .int q, .int r] u Q := fun u Q H => CI.of (d := 59) rfl (t223_110_at0 (d := 57) u p q r H)
  by_cases h1 : F_51_3 p w = 0
  · rw [if_pos h1]
    refine t w _ ?_
    rw [isC_eq o1, if_pos h1]
    exact ⟨rfl, h⟩
  rw [if_neg h1]
  by_cases h2 : F_153 q (kI 0) (kI 999) w = 0
  · rw [if_pos h2]
    refine t w _ ?_
    rw [isC_eq o1, if_neg h1, if_pos (show F_157 q (kI 0) (kI 999) w = 0 from h2)]
    exact ⟨rfl, h⟩
  rw [if_neg h2]
  by_cases h3 : F_153 r (kI 0) (kI 3) w = 0
  · rw [if_pos h3]
    refine t w _ ?_
    rw [isC_eq o1, if_neg h1, if_neg (show ¬ F_157 q (kI 0) (kI 999) w = 0 from h2), if_pos (show F_157 r (kI 0) (kI 3) w = 0 from h3)]
    exact ⟨rfl, h⟩
  rw [if_neg h3]
  obtain ⟨c, hc, rfl, -⟩ := hasC h1
  obtain ⟨many, -, hm, rfl⟩ := within_z (a := 0) (b := 999) (by decide) (by decide) h2
  obtain ⟨way, -, hw, rfl⟩ := within_z (a := 0) (b := 3) (by decide) (by decide) h3
  refine CU.mono (c_91 (d := 54) hP hw (by omega) (fun _ => hm)) ?_
  intro w1 e1
  have fr := e1.2
  refine t w1 _ ?_
  rw [c164 (w := w) (by rw [fr 110 (by decide) (by decide)]), isC_eq o1, if_neg h1, if_neg (show ¬ F_157 (nI many) (kI 0) (kI 999) w1 = 0 from h2), if_neg (show ¬ F_157 (nI way) (kI 0) (kI 3) w1 = 0 from h3)]
  have hR1 : PRf w1 P := hR.cg (fr 114 (by decide) (by decide)) (by rw [fr 110 (by decide) (by decide)])
  refine CU.mono (c_222 (d := 54) hR1 hw (by omega) (fun _ => hm)) ?_
  intro w2 e2
  refine ⟨inB_nI hc (by decide), ?_, ?_⟩
  · rw [nI_clamp (by omega), e2.1 c hc]
    unfold F_90_89
    rw [if_neg (in5 hc), nI_clamp (by omega), e1.1 c hc]
  · refine h.ss (SS.of [90, 92, 133] (fun a ha => ?_) (by decide))
    simp only [List.mem_cons, List.not_mem_nil, or_false, not_or] at ha
    rw [e2.2 a ha.2.2, fr a ha.1 ha.2.1]
/-! breaks -/
theorem tk_zero {P : Nat → Nat} {many c : Nat} (ha : 0 < pS P) (hp : P c = 0) : ∀ j, j ≤ many - qS P many 6 → tk P many j c = false
  | 0, _ => rfl
  | j + 1, h => by
    have ih := tk_zero (many := many) ha hp j (by omega)
    obtain ⟨b1, b2, b3⟩ := tk_best (P := P) (many := many) (j := j) ha (by omega)
    have hne : c ≠ bstF (rst P many (tk P many j)) 5 := fun e => by
      rw [← e, hp, Nat.zero_mul, Nat.zero_mod] at b3
      omega
    show (tk P many j c || c == bstF (rst P many (tk P many j)) 5) = false
    rw [ih]
    simpa using hne
theorem shW_zero {P : Nat → Nat} {way c : Nat} (hp : P c = 0) : ∀ m, shW P way m c = 0
  | 0 => rfl
  | m + 1 => by
    have ih := shW_zero (way := way) hp m
    show stW P way (shW P way m) c = 0
    rw [stW_app]
    cases hb : pkW P (shW P way m) way 6 with
    | none => exact ih
    | some b =>
      have := (pkW_lt 6 b hb).2
      have hne : ¬ c = b := fun e => this (by rw [← e]; exact hp)
      show (if c = b then shW P way m c + 1 else shW P way m c) = 0
      rw [if_neg hne]
      exact ih
theorem shN_zero {P : Nat → Nat} {many way c : Nat} (hp : P c = 0) : shN P many way c = 0 := by
  unfold shN shR
  split
  · split
    · rfl
    · rename_i ha
      rw [hp, Nat.zero_mul, Nat.zero_div, tk_zero (by omega) hp _ (Nat.le_refl _)]
      rfl
  · split
    · rfl
    · exact shW_zero hp many
theorem shR_le {P : Nat → Nat} {many c : Nat} (hc : P c ≤ pS P) : shR P many c ≤ many + 1 := by
  unfold shR
  split
  · omega
  · rename_i ha
    have h1 : P c * many / pS P ≤ many := by
      have : P c * many ≤ pS P * many := Nat.mul_le_mul_right _ hc
      have h2 := Nat.div_le_div_right (c := pS P) this
      rw [Nat.mul_div_cancel_left _ (by omega)] at h2
      exact h2
    have := Bool.toNat_le (tk P many (many - qS P many 6) c)
    omega
theorem P_le_pS {P : Nat → Nat} {c : Nat} (hc : c < 6) : P c ≤ pS P := by
  unfold pS
  match c, hc with
  | 0, _ => omega
  | 1, _ => omega
  | 2, _ => omega
  | 3, _ => omega
  | 4, _ => omega
  | 5, _ => omega
  | n + 6, h => omega
theorem shN_le {P : Nat → Nat} {many way c : Nat} (hc : c < 6) : shN P many way c ≤ many + 1 := by
  unfold shN
  split
  · exact shR_le (P_le_pS hc)
  · split
    · omega
    · have := shW_le (P := P) (way := way) many c; omega
/-- bits of those that f holds of -/
def bkS (f : Nat → Bool) : Nat → Nat
  | 0 => 0
  | n + 1 => if f n then bkS f n ||| 2 ^ n else bkS f n
theorem bkS_lt (f : Nat → Bool) : ∀ n, n < 31 → bkS f n < 2 ^ n
  | 0, _ => by show (0 : Nat) < 2 ^ 0; decide
  | n + 1, h => by
    have ih := bkS_lt f n (by omega)
    have h2 : (2 : Nat) ^ n < 2 ^ (n + 1) := Nat.pow_lt_pow_right (by decide) (by omega)
    unfold bkS
    split
    · exact Nat.or_lt_two_pow (by omega) h2
    · omega
def brF (P s : Nat → Nat) (many c : Nat) : Bool := decide (s c < P c * many / pS P) || decide ((P c * many + pS P - 1) / pS P < s c)
theorem hi_nI {x a : Nat} (hx : x < 2 ^ 30) (ha : 0 < a) (ha2 : a < 2 ^ 30) : ((nI x + nI a) - kI 1) / nI a = nI ((x + a - 1) / a) := by
  rw [nI_add, show nI (x + a) - kI 1 = nI (x + a - 1) from pk_sub (b := 1) (by omega), pk_div (by omega) ha (by omega)]
theorem pm30 {a b : Nat} (ha : a ≤ 9999) (hb : b ≤ 999) : a * b < 2 ^ 30 := by
  have := Nat.mul_le_mul ha hb
  omega
theorem l_97 {X : Scr} {d many : Nat} {u : Wd} {P s : Nat → Nat} (hP : PO u P) (ha : 0 < pS P) (hm : many ≤ 999) (hs : ∀ c, c < 6 → u 90 c = nI (s c) ∧ s c ≤ 1000) : ∀ (m n : Nat), n + m = 6 → EI X (d + 2) 97 (13, [some (.ref 89), some (.int (nI many)), some (.int (nI (pS P))), some (.int (nI (bkS (brF P s many) n))), some (.int (nI n)), none], [], SH, u) (fun x w1 => x = nI (bkS (brF P s many) 6) ∧ w1 = u) := by
  intro m
  have hsp := hP.pS_le
  induction m with
  | zero =>
    intro n h
    have hn : n = 6 := by omega
    subst hn
    refine t97_89_at13 u _ _ _ _ ?_
    rw [if_pos (by decide)]
    exact ⟨rfl, rfl⟩
  | succ m ih =>
    intro n h
    have hn : n < 6 := by omega
    have hib : inB (nI n) 6 = true := inB_nI hn (by decide)
    have hne : ¬ nI (pS P) = 0 := nI_ne0 ha (by omega)
    have hx := pm30 (hP n hn).2 hm
    have ihn := ih (n + 1) (by omega)
    have e : bkS (brF P s many) (n + 1) = if brF P s many n then bkS (brF P s many) n ||| 2 ^ n else bkS (brF P s many) n := rfl
    refine t97_89_at13 u _ _ _ _ ?_
    rw [if_neg (lt_6 n hn), if_neg (nI_nle ha (by omega)), peopleOf_nI hn, (hP n hn).1, pk_mul, pk_div (by omega) ha (by omega), hi_nI hx ha (by omega), nI_clamp (by omega), (hs n hn).1, k1, shl1_nI (by omega), or_nI]
    refine ⟨hib, hne, ?_⟩
    have hsn := (hs n hn).2
    have hd : P n * many / pS P < 2 ^ 31 := by have := Nat.div_le_self (P n * many) (pS P); omega
    have hd2 : (P n * many + pS P - 1) / pS P < 2 ^ 31 := by have := Nat.div_le_self (P n * many + pS P - 1) (pS P); omega
    by_cases c1 : s n < P n * many / pS P
    · rw [if_pos (nI_lt c1 hd)]
      rw [if_pos (by unfold brF; rw [decide_eq_true c1]; rfl)] at e
      rw [e] at ihn
      exact ihn
    · rw [if_neg (by rw [nI_ltI (by omega) hd]; exact c1)]
      refine ⟨hib, hne, ?_⟩
      by_cases c2 : (P n * many + pS P - 1) / pS P < s n
      · rw [if_neg (by rw [nI_leI (by omega) hd2]; omega)]
        rw [if_pos (by unfold brF; rw [decide_eq_true c2]; simp)] at e
        rw [e] at ihn
        exact ihn
      · rw [if_pos (by rw [nI_leI (by omega) hd2]; omega)]
        rw [if_neg (by unfold brF; rw [decide_eq_false c1, decide_eq_false c2]; simp)] at e
        rw [e] at ihn
        exact ihn
theorem c_97 {X : Scr} {d many : Nat} {u : Wd} {P s : Nat → Nat} (hP : PO u P) (hm : many ≤ 999) (hs : ∀ c, c < 6 → u 90 c = nI (s c) ∧ s c ≤ 1000) : CI X (d + 3) 97 [.ref 89, .int (nI many)] u (fun x w1 => x = nI (if pS P = 0 then 0 else bkS (brF P s many) 6) ∧ w1 = u) := by
  refine CI.of rfl (t97_89_at0 u _ ?_)
  rw [all_PO hP]
  by_cases ha : pS P = 0
  · rw [ha, if_pos rfl]
    refine t97_89_at13 u _ _ _ _ ?_
    rw [if_neg (by decide), if_pos (by decide)]
    exact ⟨rfl, rfl⟩
  · rw [if_neg ha]
    exact l_97 hP (by omega) hm hs 6 0 rfl
theorem l_225 {X : Scr} {d many : Nat} {u : Wd} {P s : Nat → Nat} {v2 : Int32} (hP : PRf u P) (hm : many ≤ 999) (hs : ∀ c, c < 6 → u 133 c = nI (s c) ∧ s c ≤ 1000 ∧ (P c = 0 → s c = 0)) : ∀ (m n : Nat), n + m = 6 → EI X (d + 3) 225 (39, [some (.ref 110), some (.int (nI many)), some (.int v2), some (.int (nI (pS P))), some (.int (nI (if pS P = 0 then 0 else bkS (brF P s many) n))), some (.int (nI n)), none, none], [], SH, u) (fun x w1 => x = nI (if pS P = 0 then 0 else bkS (brF P s many) 6) ∧ w1 = u) := by
  intro m
  have hsp := hP.pS_le
  induction m with
  | zero =>
    intro n h
    have hn : n = 6 := by omega
    subst hn
    refine t225_110_at39 u _ _ _ _ _ ?_
    rw [if_pos (by decide)]
    exact ⟨rfl, rfl⟩
  | succ m ih =>
    intro n h
    have hn : n < 6 := by omega
    have hib : inB (nI n) 6 = true := inB_nI hn (by decide)
    have ihn := ih (n + 1) (by omega)
    have e : bkS (brF P s many) (n + 1) = if brF P s many n then bkS (brF P s many) n ||| 2 ^ n else bkS (brF P s many) n := rfl
    refine t225_110_at39 u _ _ _ _ _ ?_
    rw [if_neg (lt_6 n hn), nI_clamp (by omega), k1]
    by_cases ha : pS P = 0
    · simp only [if_pos ha] at ihn ⊢
      split
      · exact ihn
      · rw [if_pos (by rw [ha]; rfl)]; exact ihn
    · simp only [if_neg ha] at ihn ⊢
      have hne : ¬ nI (pS P) = 0 := nI_ne0 (by omega) (by omega)
      have hx := pm30 (hP n hn).2.1 hm
      have hsn := hs n hn
      by_cases hz : F_164_110 (nI n) u = 0
      · rw [if_pos hz]
        have hp := (hP n hn).2.2 hz
        have : brF P s many n = false := by
          unfold brF
          rw [hp, hsn.2.2 hp]
          simp
        rw [if_neg (by rw [this]; simp)] at e
        rw [e] at ihn
        exact ihn
      · rw [if_neg hz, if_neg hne, (hP n hn).1, pk_mul, pk_div (by omega) (by omega) (by omega), hi_nI hx (by omega) (by omega), hsn.1, shl1_nI (by omega), or_nI]
        refine ⟨hib, hne, hib, hne, hib, ?_⟩
        have hd : P n * many / pS P < 2 ^ 31 := by have := Nat.div_le_self (P n * many) (pS P); omega
        have hd2 : (P n * many + pS P - 1) / pS P < 2 ^ 31 := by have := Nat.div_le_self (P n * many + pS P - 1) (pS P); omega
        have ef : F_157 (nI (s n)) (nI (P n * many / pS P)) (nI ((P n * many + pS P - 1) / pS P)) u = if brF P s many n then kI 0 else kI 1 := by
          unfold F_157 brF
          by_cases c1 : s n < P n * many / pS P
          · rw [if_pos (nI_lt c1 hd), decide_eq_true c1]; rfl
          · rw [if_neg (by rw [nI_ltI (by omega) hd]; exact c1), decide_eq_false c1]
            by_cases c2 : (P n * many + pS P - 1) / pS P < s n
            · rw [if_pos (by rw [nI_ltI hd2 (by omega)]; exact c2), decide_eq_true c2]; rfl
            · rw [if_neg (by rw [nI_ltI hd2 (by omega)]; exact c2), decide_eq_false c2]; rfl
        rw [ef]
        cases hb : brF P s many n with
        | true =>
          rw [hb, if_pos rfl] at e
          rw [e] at ihn
          rw [if_pos rfl, if_pos (show kI 0 = 0 from rfl)]
          exact ihn
        | false =>
          rw [hb, if_neg (by decide)] at e
          rw [e] at ihn
          rw [if_neg (by decide)]
          exact ihn
theorem J_breaks {X : Scr} {w : Wd} (h : II w) (q r : Int32) : JJ X 130 225 [.int q, .int r] w := by
  obtain ⟨P, hP, hR⟩ := office_P h.1
  unfold JJ
  refine CI.of (d := 59) rfl (t130_0_at0 (d := 58) w q r ?_)
  have t : ∀ (u : Wd) (Q : Int32 → Wd → Prop), _ → CI X 60 225 [.ref 110, .int q, .int r] u Q := fun u Q H => CI.of (d := 59) rfl (t225_110_at0 (d := 56) u q r H)
  by_cases h2 : F_153 q (kI 0) (kI 999) w = 0
  · rw [if_pos h2]
    refine t w _ ?_
    rw [if_pos (show F_157 q (kI 0) (kI 999) w = 0 from h2)]
    exact ⟨rfl, h⟩
  rw [if_neg h2]
  by_cases h3 : F_153 r (kI 0) (kI 3) w = 0
  · rw [if_pos h3]
    refine t w _ ?_
    rw [if_neg (show ¬ F_157 q (kI 0) (kI 999) w = 0 from h2), if_pos (show F_157 r (kI 0) (kI 3) w = 0 from h3)]
    exact ⟨rfl, h⟩
  rw [if_neg h3]
  obtain ⟨many, -, hm, rfl⟩ := within_z (a := 0) (b := 999) (by decide) (by decide) h2
  obtain ⟨way, -, hw, rfl⟩ := within_z (a := 0) (b := 3) (by decide) (by decide) h3
  refine CU.mono (c_91 (d := 54) hP hw (by omega) (fun _ => hm)) ?_
  intro w1 e1
  have fr := e1.2
  have hP1 : PO w1 P := hP.cg (fr 4 (by decide) (by decide))
  have hs1 : ∀ c, c < 6 → w1 90 c = nI (shN P many way c) ∧ shN P many way c ≤ 1000 := fun c hc => ⟨e1.1 c hc, by have := shN_le (P := P) (many := many) (way := way) hc; omega⟩
  refine CI.mono (c_97 (d := 56) hP1 hm hs1) ?_
  intro x w1b ex
  obtain ⟨rfl, rfl⟩ := ex
  refine t _ _ ?_
  rw [if_neg (show ¬ F_157 (nI many) (kI 0) (kI 999) w1b = 0 from h2), if_neg (show ¬ F_157 (nI way) (kI 0) (kI 3) w1b = 0 from h3)]
  have hR1 : PRf w1b P := hR.cg (fr 114 (by decide) (by decide)) (by rw [fr 110 (by decide) (by decide)])
  refine CU.mono (c_222 (d := 54) hR1 hw (by omega) (fun _ => hm)) ?_
  intro w2 e2
  have hR2 : PRf w2 P := hR1.cg (e2.2 114 (by decide)) (by rw [e2.2 110 (by decide)])
  have hs2 : ∀ c, c < 6 → w2 133 c = nI (shN P many way c) ∧ shN P many way c ≤ 1000 ∧ (P c = 0 → shN P many way c = 0) := fun c hc => ⟨e2.1 c hc, (hs1 c hc).2, fun hp => shN_zero hp⟩
  rw [all_PRf hR2]
  have l := l_225 (X := X) (d := 56) (v2 := nI way) hR2 hm hs2 6 0 rfl
  have z0 : (if pS P = 0 then 0 else bkS (brF P (fun c => shN P many way c) many) 0) = 0 := by split <;> rfl
  rw [z0] at l
  refine EI.mono l ?_
  intro y w3 e3
  obtain ⟨rfl, rfl⟩ := e3
  refine ⟨rfl, h.ss (SS.of [90, 92, 133] (fun a ha => ?_) (by decide))⟩
  simp only [List.mem_cons, List.not_mem_nil, or_false, not_or] at ha
  rw [e2.2 a ha.2.2, fr a ha.1 ha.2.1]
end SHAREJ
