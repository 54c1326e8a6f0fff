/-! inARow, check, spaced, feed -/
section CALLS3
def cnt (P : Nat → Bool) : Nat → Nat → Nat
  | 0, k => k
  | m + 1, k => if P k then cnt P m (k + 1) else k
theorem cnt_congr {P R : Nat → Bool} : ∀ (m k : Nat), (∀ i, i < k + m → P i = R i) → cnt P m k = cnt R m k
  | 0, _, _ => rfl
  | m + 1, k, h => by
    unfold cnt
    rw [h k (by omega), cnt_congr m (k + 1) (fun i hi => h i (by omega))]
theorem lp_142 {X : Scr} {d : Nat} {w : Wd} {f : Nat} (hf : f < 6) : ∀ (m k : Nat), k + m = 8 → EI X (d + 2) 142 (17, [some (.ref 0), some (.int (nI f)), some (.int (nI k)), some (.int (nI k))], [], SH, w) (fun x w1 => x = nI (cnt (fun k => decide (w 11 (6 * k + f) = w 5 f)) m k) ∧ w1 = w) := by
  intro m
  induction m with
  | zero =>
    intro k h
    have hk : k = 8 := by omega
    subst hk
    refine t142_0_at17 w _ _ _ ?_
    rw [if_pos (by decide)]
    exact ⟨rfl, rfl⟩
  | succ m ih =>
    intro k h
    refine t142_0_at17 w _ _ _ ?_
    rw [if_neg (lt_8 k (by omega)), if_pos rfl, pubOf7 hf (by omega), targetOf_nI hf, k1]
    unfold cnt
    by_cases hp : w 11 (6 * k + f) = w 5 f
    · rw [if_pos hp, if_pos (decide_eq_true hp)]
      exact ih (k + 1) (by omega)
    · rw [if_neg hp, if_neg (by simpa using hp)]
      refine t142_0_at17 w _ _ _ ?_
      by_cases h8 : (kI 8) ≤ nI (k + 1)
      · rw [if_pos h8]; exact ⟨rfl, rfl⟩
      · rw [if_neg h8, if_neg (by rw [nI_eq (by omega) (by omega)]; omega)]; exact ⟨rfl, rfl⟩
theorem lp_245 {X : Scr} {d : Nat} {w : Wd} {f : Nat} (hf : f < 6) : ∀ (m k : Nat), k + m = 8 → EI X (d + 2) 245 (12, [some (.ref 110), some (.int (nI f)), some (.int (nI k))], [], SH, w) (fun x w1 => x = nI (cnt (fun k => decide (w 111 (108 + 8 * f + k) = w 116 f)) m k) ∧ w1 = w) := by
  intro m
  induction m with
  | zero =>
    intro k h
    have hk : k = 8 := by omega
    subst hk
    refine t245_110_at12 w _ _ ?_
    rw [if_pos (by decide)]
    exact ⟨rfl, rfl⟩
  | succ m ih =>
    intro k h
    refine t245_110_at12 w _ _ ?_
    rw [if_neg (lt_8 k (by omega)), ixP, k1, nI_clamp (by omega), nI_clamp (by omega)]
    refine ⟨inB_nI (by omega) (by decide), inB_nI hf (by decide), ?_⟩
    unfold cnt
    by_cases hp : w 111 (108 + 8 * f + k) = w 116 f
    · rw [if_pos hp, if_pos (decide_eq_true hp)]
      exact ih (k + 1) (by omega)
    · rw [if_neg hp, if_neg (by simpa using hp)]
      exact ⟨rfl, rfl⟩
theorem J_inARow {X : Scr} {w : Wd} (h : II w) (p : Int32) : JJ X 142 245 [.int p] w := by
  obtain ⟨o1, o2, o3, o4, o5, o6, o7⟩ := h.1
  obtain ⟨⟨b1, b2, b3, b4, b5, b6, b7, b8, b9⟩, -⟩ := h.2.1
  unfold JJ
  by_cases h1 : F_52_3 p w = 0
  · refine CI.of (d := 59) rfl (t142_0_at0 (d := 57) w p ?_)
    rw [if_pos h1]
    refine CI.of (d := 59) rfl (t245_110_at0 (d := 57) w p ?_)
    rw [isF_eq o2, if_pos h1]
    exact ⟨rfl, h⟩
  · obtain ⟨f, hf, rfl, -⟩ := hasF h1
    refine CI.of (d := 59) rfl (t142_0_at0 (d := 57) w _ ?_)
    rw [if_neg h1]
    refine EI.mono (lp_142 hf 8 0 rfl) ?_
    intro x w1 e
    obtain ⟨rfl, rfl⟩ := e
    refine CI.of (d := 59) rfl (t245_110_at0 (d := 57) _ _ ?_)
    rw [isF_eq o2, if_neg h1]
    refine EI.mono (lp_245 hf 8 0 rfl) ?_
    intro y w2 e
    obtain ⟨rfl, rfl⟩ := e
    refine ⟨?_, h⟩
    rw [cnt_congr 8 0 (P := fun k => decide (w2 111 (108 + 8 * f + k) = w2 116 f)) (R := fun k => decide (w2 11 (6 * k + f) = w2 5 f))]
    intro i hi
    have hi : i < 8 := by omega
    show decide _ = decide _
    rw [b4 f i hf hi, (o7 f hf).2.1]
/-- the first from k on that P does not hold of, or -1 -/
def ffN (P : Nat → Bool) : Nat → Nat → Int32
  | 0, _ => kI (-1)
  | m + 1, k => if P k then ffN P m (k + 1) else nI k
theorem ffN_congr {P R : Nat → Bool} : ∀ (m k : Nat), (∀ i, i < k + m → P i = R i) → ffN P m k = ffN R m k
  | 0, _, _ => rfl
  | m + 1, k, h => by
    unfold ffN
    rw [h k (by omega), ffN_congr m (k + 1) (fun i hi => h i (by omega))]
theorem lp_149 {X : Scr} {d : Nat} {w : Wd} {f n : Nat} (hf : f < 6) (hn : n ≤ 6) (hs : nI n ≤ w 1 1) : ∀ (m k : Nat), k + m = n → EI X (d + 2) 149 (33, [some (.ref 0), some (.int (nI f)), some (.int (nI n)), some (.int (kI (-1))), some (.int (nI k))], [], SH, w) (fun x w1 => x = ffN (fun c => decide (w 2 c = w 8 (6 * c + f) - w 8 (6 * c + f) / kI 256 * kI 256)) m k ∧ w1 = up2 w 1 1 (kI 0)) := by
  intro m
  induction m with
  | zero =>
    intro k h
    have hk : k = n := by omega
    subst hk
    refine t149_0_at33 w _ _ _ _ ?_
    rw [if_pos (Int32.le_refl _)]
    exact ⟨rfl, rfl⟩
  | succ m ih =>
    intro k h
    have hkn : k < n := by omega
    have hks : ¬ w 1 1 ≤ nI k := by
      intro e
      have := Int32.le_trans hs e
      rw [nI_leI (by omega) (by omega)] at this
      omega
    refine t149_0_at33 w _ _ _ _ ?_
    rw [if_neg (by rw [nI_leI (by omega) (by omega)]; omega), if_pos rfl]
    refine ⟨fun _ _ => inB_nI (by omega) (by decide), ?_⟩
    have e1 : F_106_1 (nI k) w = w 2 k := by
      unfold F_106_1
      rw [if_neg (nI_pos (by omega)), if_neg hks, nI_clamp (by omega)]
    rw [e1, countOf7 (by omega) hf, k1]
    unfold ffN
    by_cases hp : w 2 k = w 8 (6 * k + f) - w 8 (6 * k + f) / kI 256 * kI 256
    · rw [if_pos hp, if_pos (decide_eq_true hp)]
      exact ih (k + 1) (by omega)
    · rw [if_neg hp, if_neg (by simpa using hp)]
      refine t149_0_at33 w _ _ _ _ ?_
      by_cases h8 : nI n ≤ nI (k + 1)
      · rw [if_pos h8]; exact ⟨rfl, rfl⟩
      · rw [if_neg h8, if_neg (by
          intro e
          have : (nI k).toInt = (kI (-1)).toInt := by rw [e]
          rw [nI_toInt (by omega), kI_toInt (by omega) (by omega)] at this
          omega)]
        exact ⟨rfl, rfl⟩
theorem lp_256 {X : Scr} {d : Nat} {w : Wd} {f n : Nat} (hf : f < 6) (hn : n ≤ 6) : ∀ (m k : Nat), k + m = n → EI X (d + 2) 256 (36, [some (.ref 110), some (.int (nI f)), some (.int (nI n)), some (.int (nI k))], [], SH, w) (fun x w1 => x = ffN (fun c => decide (w 117 c &&& kI 255 = if F_164_110 (nI c) w = 0 then kI 0 else w 111 (6 * c + f) - w 111 (6 * c + f) / kI 256 * kI 256)) m k ∧ w1 = w) := by
  intro m
  induction m with
  | zero =>
    intro k h
    have hk : k = n := by omega
    subst hk
    refine t256_110_at36 w _ _ _ ?_
    rw [if_pos (Int32.le_refl _)]
    exact ⟨rfl, rfl⟩
  | succ m ih =>
    intro k h
    refine t256_110_at36 w _ _ _ ?_
    rw [if_neg (by rw [nI_leI (by omega) (by omega)]; omega)]
    refine ⟨inB_nI (by omega) (by decide), ?_⟩
    rw [ixC, countR (by omega) hf, k1, nI_clamp (by omega)]
    unfold ffN
    by_cases h0 : F_164_110 (nI k) w = 0
    · rw [if_pos h0, if_pos h0]
      by_cases hp : w 117 k &&& kI 255 = kI 0
      · rw [if_pos hp, if_pos (decide_eq_true hp)]
        exact ih (k + 1) (by omega)
      · rw [if_neg hp, if_neg (by simpa using hp)]
        exact ⟨rfl, rfl⟩
    · rw [if_neg h0, if_neg h0]
      refine ⟨inB_nI (by omega) (by decide), ?_⟩
      by_cases hp : w 117 k &&& kI 255 = w 111 (6 * k + f) - w 111 (6 * k + f) / kI 256 * kI 256
      · rw [if_pos hp, if_pos (decide_eq_true hp)]
        exact ih (k + 1) (by omega)
      · rw [if_neg hp, if_neg (by simpa using hp)]
        exact ⟨rfl, rfl⟩
theorem J_check {X : Scr} {w : Wd} (h : II w) (p q : Int32) : JJ X 149 256 [.int p, .int q] w := by
  have h0 := h
  obtain ⟨hO, hB, hK, hT, hL, hD, hR⟩ := h
  obtain ⟨o1, o2, o3, o4, o5, o6, o7⟩ := hO
  obtain ⟨⟨b1, b2, b3, b4, b5, b6, b7, b8, b9⟩, n1, n2, -⟩ := hB
  obtain ⟨t1, t2, t3⟩ := hT
  unfold JJ
  refine CI.of (d := 59) rfl (t149_0_at0 (d := 57) w p q ?_)
  by_cases h1 : F_52_3 p w = 0
  · rw [if_pos h1]
    refine CI.of (d := 59) rfl (t256_110_at0 (d := 57) w p q ?_)
    rw [isF_eq o2, if_pos h1]
    exact ⟨rfl, h0⟩
  rw [if_neg h1]
  obtain ⟨f, hf, rfl, -⟩ := hasF h1
  have hc : (F_105_1 q (kI 0) (kI 6) w) = if F_153 q (kI 0) (kI 6) w = 0 then kI 0 else if w 1 1 < q then kI 0 else kI 1 := rfl
  by_cases h2 : F_153 q (kI 0) (kI 6) w = 0
  · rw [hc, if_pos h2, if_pos (show kI 0 = 0 from rfl)]
    refine CI.of (d := 59) rfl (t256_110_at0 (d := 57) w _ q ?_)
    rw [isF_eq o2, if_neg h1, if_pos (show F_157 q (kI 0) (kI 6) w = 0 from h2)]
    exact ⟨rfl, h0⟩
  by_cases h3 : w 1 1 < q
  · rw [hc, if_neg h2, if_pos h3, if_pos (show kI 0 = 0 from rfl)]
    refine CI.of (d := 59) rfl (t256_110_at0 (d := 57) w _ q ?_)
    rw [isF_eq o2, if_neg h1, if_neg (show ¬ F_157 q (kI 0) (kI 6) w = 0 from h2), t1, if_neg (Int32.not_le.mpr h3)]
    exact ⟨rfl, h0⟩
  rw [hc, if_neg h2, if_neg h3, if_neg (by decide)]
  obtain ⟨n, -, hn, rfl⟩ := within_z (a := 0) (b := 6) (by decide) (by decide) h2
  have hle := Int32.not_lt.mp h3
  refine EI.mono (lp_149 (d := 57) hf hn hle n 0 (Nat.zero_add n)) ?_
  intro x w1 e
  obtain ⟨rfl, rfl⟩ := e
  refine CI.of (d := 59) rfl (t256_110_at0 (d := 57) _ _ _ ?_)
  have f1 : F_165_110 (nI f) (up2 w 1 1 (kI 0)) = F_165_110 (nI f) w := rfl
  rw [f1, isF_eq o2, if_neg h1, if_neg (show ¬ F_157 (nI n) (kI 0) (kI 6) (up2 w 1 1 (kI 0)) = 0 from h2), if_pos (show nI n ≤ (up2 w 1 1 (kI 0)) 110 10 from (by rw [up2_ne (by decide), t1]; exact hle))]
  refine EI.mono (lp_256 (d := 57) hf hn n 0 (Nat.zero_add n)) ?_
  intro y w2 e
  obtain ⟨rfl, rfl⟩ := e
  refine ⟨?_, ⟨o1, o2, o3, o4, o5, o6, o7⟩, h0.2.1.cg rfl rfl rfl rfl rfl rfl rfl, hK.cg rfl rfl rfl rfl rfl rfl rfl rfl rfl, ⟨rfl, ⟨0, by decide, rfl⟩, fun i hi h9 => ?_⟩, hL.cg rfl rfl rfl rfl rfl rfl rfl rfl rfl rfl rfl rfl rfl, hD.cg rfl rfl (fun a h1 h2 => by rw [up2_ne (by omega), up2_ne (by omega)]) rfl rfl, hR.cg rfl rfl rfl rfl rfl rfl rfl rfl rfl rfl⟩
  · refine ffN_congr n 0 ?_
    intro c hcn
    have hc6 : c < 6 := by omega
    show decide (w 117 c &&& kI 255 = if F_164_110 (nI c) (up2 (up2 w 1 1 (kI 0)) 110 10 (kI 0)) = 0 then kI 0 else w 111 (6 * c + f) - w 111 (6 * c + f) / kI 256 * kI 256) = _
    have e1 : F_164_110 (nI c) (up2 (up2 w 1 1 (kI 0)) 110 10 (kI 0)) = F_164_110 (nI c) w := rfl
    rw [e1, isC_eq o1]
    have e2 : w 2 c = w 117 c &&& kI 255 := t3 c (by omega) (by
      refine Int32.lt_of_lt_of_le ?_ hle
      exact nI_lt (by omega) (by omega))
    rw [← e2, b1 _ (by omega)]
    by_cases g : F_51_3 (nI c) w = 0
    · rw [if_pos g, n2 c f hc6 hf ((isC_nI hc6).mp g)]
      rfl
    · rw [if_neg g]
  · exact absurd h9 (nI_nlt (b := 0) (by omega) (by omega))
def JL (X : Scr) (kc kr : Nat) (a : List Value) (w : Wd) : Prop := CL X 60 kc (.ref 0 :: a) w (fun x w1 => CL X 60 kr (.ref 110 :: a) w1 (fun y w2 => y = x ∧ II w2))
def spN (b f : Int32) : Nat → Nat → Int64 → Int64
  | 0, _, a => a
  | m + 1, k, a => spN b f m (k + 1) ((a * ((f - b) + nI k).toInt64) / (nI k).toInt64)
theorem EL.mono {X : Scr} {d kc : Nat} {q : PSt} {Q1 Q : Int64 → Wd → Prop} (h : EL X d kc q Q1) (hq : ∀ x w1, Q1 x w1 → Q x w1) : EL X d kc q Q := EV.mono h (fun _ _ _ e => by obtain ⟨x, a, b, c⟩ := e; exact ⟨x, a, b, hq _ _ c⟩)
theorem lp_145 {X : Scr} {d b : Nat} {w : Wd} {v2 v3 v4 : Int32} (hb : b ≤ 12) : ∀ (m k : Nat) (a : Int64), k + m = b + 1 → 1 ≤ k → EL X (d + 1) 145 (59, [some (.ref 0), some (.int (nI b)), some (.int v2), some (.int v3), some (.int v4), some (.long a), none, some (.int (nI k))], [], SH, w) (fun x w1 => x = spN (nI b) v4 m k a ∧ w1 = w) := by
  intro m
  induction m with
  | zero =>
    intro k a h h1
    refine t145_0_at59 w _ _ _ _ _ _ ?_
    rw [if_pos (nI_lt (by omega) (by omega))]
    exact ⟨rfl, rfl⟩
  | succ m ih =>
    intro k a h h1
    refine t145_0_at59 w _ _ _ _ _ _ ?_
    rw [if_neg (nI_nlt (by omega) (by omega)), k1]
    refine ⟨?_, ih (k + 1) _ (by omega) (by omega)⟩
    intro e
    have e2 := congrArg Int64.toInt e
    rw [Int32.toInt_toInt64, nI_toInt (by omega)] at e2
    have : (0 : Int64).toInt = 0 := rfl
    omega
theorem lp_252 {X : Scr} {d b : Nat} {w : Wd} {v2 v3 v4 : Int32} (hb : b ≤ 12) : ∀ (m k : Nat) (a : Int64), k + m = b + 1 → 1 ≤ k → EL X (d + 1) 252 (59, [some (.ref 110), some (.int (nI b)), some (.int v2), some (.int v3), some (.int v4), some (.long a), none, some (.int (nI k))], [], SH, w) (fun x w1 => x = spN (nI b) v4 m k a ∧ w1 = w) := by
  intro m
  induction m with
  | zero =>
    intro k a h h1
    refine t252_110_at59 w _ _ _ _ _ _ ?_
    rw [if_pos (nI_lt (by omega) (by omega))]
    exact ⟨rfl, rfl⟩
  | succ m ih =>
    intro k a h h1
    refine t252_110_at59 w _ _ _ _ _ _ ?_
    rw [if_neg (nI_nlt (by omega) (by omega)), k1]
    refine ⟨?_, ih (k + 1) _ (by omega) (by omega)⟩
    intro e
    have e2 := congrArg Int64.toInt e
    rw [Int32.toInt_toInt64, nI_toInt (by omega)] at e2
    have : (0 : Int64).toInt = 0 := rfl
    omega
theorem J_spaced {X : Scr} {w : Wd} (h : II w) (p q r : Int32) : JL X 145 252 [.int p, .int q, .int r] w := by
  unfold JL
  refine CL.of (d := 59) rfl (t145_0_at0 (d := 58) w p q r ?_)
  have t : ∀ (Q : Int64 → Wd → Prop), _ → CL X 60 252 [.ref 110, .int p, .int q, .int r] w Q := fun Q H => CL.of (d := 59) rfl (t252_110_at0 (d := 58) w p q r H)
  by_cases h1 : F_153 p (kI 1) (kI 12) w = 0
  · rw [if_pos h1]
    refine t _ ?_
    rw [if_pos (show F_157 p (kI 1) (kI 12) w = 0 from h1)]
    exact ⟨rfl, h⟩
  rw [if_neg h1]
  by_cases h2 : F_153 q (kI 1) (kI 60) w = 0
  · rw [if_pos h2]
    refine t _ ?_
    rw [if_neg (show ¬ F_157 p (kI 1) (kI 12) w = 0 from h1), if_pos (show F_157 q (kI 1) (kI 60) w = 0 from h2)]
    exact ⟨rfl, h⟩
  rw [if_neg h2]
  by_cases h3 : F_153 r (kI 1) (kI 20) w = 0
  · rw [if_pos h3]
    refine t _ ?_
    rw [if_neg (show ¬ F_157 p (kI 1) (kI 12) w = 0 from h1), if_neg (show ¬ F_157 q (kI 1) (kI 60) w = 0 from h2), if_pos (show F_157 r (kI 1) (kI 20) w = 0 from h3)]
    exact ⟨rfl, h⟩
  rw [if_neg h3]
  by_cases h4 : p ≤ (q - ((p - (kI 1)) * (r - (kI 1))))
  · rw [if_pos h4]
    obtain ⟨b, hb1, hb, rfl⟩ := within_z (a := 1) (b := 12) (by decide) (by decide) h1
    refine EL.mono (lp_145 (d := 58) hb b 1 _ (by omega) (by omega)) ?_
    intro x w1 e
    obtain ⟨rfl, rfl⟩ := e
    refine t _ ?_
    rw [if_neg (show ¬ F_157 (nI b) (kI 1) (kI 12) w1 = 0 from h1), if_neg (show ¬ F_157 q (kI 1) (kI 60) w1 = 0 from h2), if_neg (show ¬ F_157 r (kI 1) (kI 20) w1 = 0 from h3), if_pos h4]
    refine EL.mono (lp_252 (d := 58) hb b 1 _ (by omega) (by omega)) ?_
    intro y w2 e
    obtain ⟨rfl, rfl⟩ := e
    exact ⟨rfl, h⟩
  · rw [if_neg h4]
    refine t _ ?_
    rw [if_neg (show ¬ F_157 p (kI 1) (kI 12) w = 0 from h1), if_neg (show ¬ F_157 q (kI 1) (kI 60) w = 0 from h2), if_neg (show ¬ F_157 r (kI 1) (kI 20) w = 0 from h3), if_neg h4]
    exact ⟨rfl, h⟩
end CALLS3
