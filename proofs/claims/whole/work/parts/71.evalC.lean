section EVALC
theorem ev_46_22 {X : Scr} {d b : Nat} {v2 v3 : Int32} {w : Wd} {op ar ht : Nat → Nat} {tb : Nat → Bool} {V : Nat → Int32} (hb : b ≤ 240) (hc : ∀ k, k < b → ∃ cd, CRel (w 23 k) (w 24 k) cd (op k) (ar k)) (hV : ∀ j, j < 12 → w 85 j = V j) : ∀ (f k n dn : Nat) (s : Nat → Int32) (u : Wd), b - k < f → dn ≤ k → evI op ar ht tb b k n s (u 86) → (∀ j, k ≤ j → j < b → stOK op ar ht tb b j) → (∀ a, a ≠ 86 → u a = w a) → EI X (d + 1) 46 (40, [some (.ref 84), some (.ref 22), some (.int v2), some (.int v3), some (.ref 23), some (.ref 24), some (.int (nI b)), some (.int (tpI n)), some (.int (nI k)), some (.int (nI dn)), none, none, none], [], SH, u) (fun x w1 => x = evF op ar V b f k n s ∧ ∀ a, a ≠ 86 → w1 a = w a) := by
  intro f
  induction f with
  | zero => intro k n dn s u h; omega
  | succ f ih =>
    intro k n dn s u hf hdn hI hS hfr
    have hI0 := hI
    obtain ⟨i1, i2, i3, i4, i5, i6⟩ := hI
    refine t46_84_22_at40 u _ _ _ _ _ _ ?_
    unfold evF
    by_cases hk : b ≤ k
    · have hkb : k = b := by omega
      have hn : n = 1 := by rw [← i2, hkb]; exact i3
      subst hn
      rw [if_pos hk]
      have fin : (if 0 ≤ tpI 1 then (inB (tpI 1) 64 = true ∧ (u 86 (tpI 1).toNatClampNeg = s 0 ∧ ∀ a, a ≠ 86 → u a = w a)) else (kI 0 = s 0 ∧ ∀ a, a ≠ 86 → u a = w a)) := by
        rw [if_pos (by decide)]
        exact ⟨by decide, i5 0 (by omega), hfr⟩
      by_cases h240 : kI 240 ≤ nI dn
      · rw [if_pos h240]
        exact fin
      · rw [if_neg h240, if_pos (nI_le hk (by omega))]
        exact fin
    · have hkb : k < b := by omega
      rw [if_neg hk, if_neg (lt_240 dn (by omega)), if_neg (nI_ge hkb (by omega)), nI_clamp (by omega), hfr 23 (by decide), hfr 24 (by decide), k1, k1]
      obtain ⟨cd, r1, r2, r3, r4, r5⟩ := hc k hkb
      have hs := hS k (Nat.le_refl _) hkb
      have hS1 : ∀ j, k + 1 ≤ j → j < b → stOK op ar ht tb b j := fun j h1 h2 => hS j (by omega) h2
      have hib : inB (nI k) 240 = true := inB_nI (by omega) (by decide)
      refine ⟨hib, hib, ?_⟩
      rw [r5]
      have fr2 : ∀ i v, ∀ a, a ≠ 86 → (up2 u 86 i v) a = w a := fun i v a ha => by rw [up2_ne ha]; exact hfr a ha
      have up86 : ∀ i v, (up2 u 86 i v) 86 = upd (u 86) i v := fun i v => up2_self
      by_cases h1 : op k ≤ 1
      · have hpu := fun v => evI_push (v := v) hI0 hkb hs h1
        have hs2 := hs
        unfold stOK at hs2
        rw [if_pos h1] at hs2
        rw [if_pos h1, tpI_up, nI_clamp (by omega)]
        have hlt : nI n < kI 64 := nI_lt (b := 64) (by omega) (by decide)
        have hib2 : inB (nI n) 64 = true := inB_nI (by omega) (by decide)
        by_cases h0 : op k = 0
        · rw [if_pos h0, show w 23 k = kI 1 by rw [r4, h0]; rfl, if_pos rfl, if_pos hlt]
          refine ⟨hib2, ?_⟩
          have := ih (k + 1) (n + 1) (dn + 1) (upd s n (nI (ar k))) (up2 u 86 n (nI (ar k))) (by omega) (by omega) (by rw [up86]; exact hpu _) hS1 (fr2 _ _)
          rw [show tpI (n + 1) = nI n from tpI_pos (n := n + 1) (by omega)] at this
          exact this
        · have h01 : op k = 1 := by omega
          rw [if_neg h0, show w 23 k = kI 2 by rw [r4, h01]; rfl, if_neg (by decide), if_pos rfl, if_pos hlt]
          have har := hs2.2.2.2 h01
          have e47 : F_47_84 (nI (ar k)) u = V (ar k) := by
            unfold F_47_84
            rw [if_neg (nI_pos (by omega)), if_neg (lt_12 _ har), nI_clamp (by omega), hfr 85 (by decide), hV _ har]
          rw [e47]
          refine ⟨fun _ _ => inB_nI har (by decide), hib2, ?_⟩
          have := ih (k + 1) (n + 1) (dn + 1) (upd s n (V (ar k))) (up2 u 86 n (V (ar k))) (by omega) (by omega) (by rw [up86]; exact hpu _) hS1 (fr2 _ _)
          rw [show tpI (n + 1) = nI n from tpI_pos (n := n + 1) (by omega)] at this
          exact this
      · rw [if_neg h1]
        by_cases h10 : op k = 10
        · rw [if_pos h10, show w 23 k = kI 33 by rw [r4, h10]; rfl, if_neg (by decide), if_neg (by decide)]
          have hh := evI_not hI0 hkb hs h10
          have hn := hh.1
          have hnx := hh.2
          have htp := tpI_pos hn
          rw [htp, if_pos (nI_pos' (by omega)), if_pos rfl, nI_clamp (by omega)]
          have hib2 : inB (nI (n - 1)) 64 = true := inB_nI (by omega) (by decide)
          refine ⟨hib2, hib2, ?_⟩
          have := ih (k + 1) n (dn + 1) _ (up2 u 86 (n - 1) (kI 1 - u 86 (n - 1))) (by omega) (by omega) (by rw [up86]; exact hnx) hS1 (fr2 _ _)
          rw [htp] at this
          exact this
        · rw [if_neg h10]
          by_cases h11 : 11 ≤ op k
          · rw [if_pos h11]
            obtain ⟨hn, hj1, hj2, hj3⟩ := evI_jmp hI0 hkb hs h11
            have htp := tpI_pos hn
            have hib2 : inB (nI (n - 1)) 64 = true := inB_nI (by omega) (by decide)
            have hjb := hj2.1
            have hmx : (if nI (k + 1) < nI (ar k) then nI (ar k) else nI (k + 1)) = nI (ar k) := by
              by_cases e : ar k = k + 1
              · rw [e, if_neg Int32.lt_irrefl]
              · rw [if_pos (nI_lt (by omega) (by omega))]
            have A := ih (ar k) n (dn + 1) s u (by omega) (by omega) hj2 (fun j h1 h2 => hS j (by omega) h2) hfr
            have B := ih (k + 1) (n - 1) (dn + 1) s u (by omega) (by omega) hj3 hS1 hfr
            rw [htp] at A
            rw [← tpI_dn hn, htp, ← sub1] at B
            rw [htp, if_pos (nI_pos' (by omega)), nI_clamp (by omega), i5 (n - 1) (by omega), hmx]
            by_cases h12 : op k = 12
            · rw [if_pos h12, show w 23 k = kI 124 by rw [r4, h12]; rfl, if_neg (by decide), if_neg (by decide), if_neg (by decide), if_neg (by decide), if_pos rfl]
              refine ⟨hib2, ?_⟩
              by_cases e : s (n - 1) = kI 1
              · rw [if_pos e, if_pos e]; exact A
              · rw [if_neg e, if_neg e]; exact B
            · have h11b : op k = 11 := by omega
              rw [if_neg h12, show w 23 k = kI 38 by rw [r4, h11b]; rfl, if_neg (by decide), if_neg (by decide), if_neg (by decide), if_pos rfl]
              refine ⟨hib2, ?_⟩
              rw [if_neg (by decide)]
              by_cases e : s (n - 1) = kI 0
              · rw [if_pos e, if_pos e]; exact A
              · rw [if_neg e, if_neg e]; exact B
          · rw [if_neg h11]
            have g2 : 2 ≤ op k := by omega
            have g9 : op k ≤ 9 := by omega
            obtain ⟨hn, hnx⟩ := evI_bin hI0 hkb hs g2 g9
            obtain ⟨n1, n2, n3, n4, n5⟩ := sg_ne g2 g9
            have htp := tpI_pos (n := n) (by omega)
            have hib2 : inB (nI (n - 1)) 64 = true := inB_nI (by omega) (by decide)
            have hib3 : inB (nI (n - 2)) 64 = true := inB_nI (by omega) (by decide)
            have e1 : nI (n - 1) + kI (-1) = nI (n - 2) := by rw [show nI (n - 1) + kI (-1) = nI (n - 1 - 1) from sb_m1 (by omega)]; rfl
            have e2 : nI (n - 2) + kI 1 = nI (n - 1) := by rw [k1, show n - 2 + 1 = n - 1 by omega]
            rw [r4, if_neg n1, if_neg n2, htp, if_pos (nI_pos' (by omega)), if_neg n3, if_neg n4, if_neg n5, if_neg (show ¬ nI (n - 1) < kI 1 from nI_nlt (b := 1) (by omega) (by omega)), e1, e2, nI_clamp (by omega), nI_clamp (by omega)]
            refine ⟨hib2, ?_⟩
            have e5 := i5 (n - 1) (by omega)
            by_cases hz : (op k = 5 ∨ op k = 6) ∧ s (n - 1) = 0
            · rw [if_pos hz, if_neg (by rw [rf_48 u g2 g9, e5]; exact fun h => h hz)]
              exact ⟨rfl, hfr⟩
            · rw [if_neg hz, if_pos (by rw [rf_48 u g2 g9, e5]; exact hz), rk_49 u g2 g9 (by rw [e5]; exact hz)]
              refine ⟨hib3, hib2, fun _ h => h, fun _ _ _ _ _ h => h, hib3, ?_⟩
              have := ih (k + 1) (n - 1) (dn + 1) _ (up2 u 86 (n - 2) (rkO (op k) (u 86 (n - 2)) (u 86 (n - 1)))) (by omega) (by omega) (by rw [up86]; exact hnx) hS1 (fr2 _ _)
              rw [← tpI_dn (n := n) (by omega), htp, e1] at this
              exact this
theorem c_46_22 {X : Scr} {d a b : Nat} {w : Wd} {op ar : Nat → Nat} {V : Nat → Int32} {isC : Bool} (hab : a ≤ b) (hb : b ≤ 240) (hc : ∀ k, k < b → ∃ cd, CRel (w 23 k) (w 24 k) cd (op k) (ar k)) (hV : ∀ j, j < 12 → w 85 j = V j) (hS : SEGW op ar a b isC) : CI X (d + 2) 46 [.ref 84, .ref 22, .int (nI a), .int (nI b)] w (fun x w1 => x = evF op ar V b 300 a 0 (fun _ => 0) ∧ ∀ c, c ≠ 86 → w1 c = w c) := by
  obtain ⟨ht, tb, s1, s2, s3, s4, s5⟩ := hS
  refine CI.of rfl (t46_84_22_at0 w _ _ ?_)
  have e1 : (if (if (Int32.ofNat 240) < (Int32.ofNat 240) then (Int32.ofNat 240) else (Int32.ofNat 240)) < nI b then (if (Int32.ofNat 240) < (Int32.ofNat 240) then (Int32.ofNat 240) else (Int32.ofNat 240)) else nI b) = nI b := by
    rw [if_neg (show ¬ (Int32.ofNat 240) < (Int32.ofNat 240) from Int32.lt_irrefl), if_neg (show ¬ (Int32.ofNat 240) < nI b from nI_nlt (b := b) (a := 240) hb (by decide))]
  have e2 : (if (kI 0) < nI a then nI a else (kI 0)) = nI a := by
    by_cases h : a = 0
    · subst h; rfl
    · rw [if_pos (show kI 0 < nI a from nI_lt (a := 0) (by omega) (by omega))]
  rw [e1, e2]
  exact ev_46_22 (ht := ht) (tb := tb) hb hc hV 300 a 0 0 (fun _ => 0) w (by omega) (by omega) ⟨hab, s1, s2, by omega, fun i hi => by omega, fun h => by rw [s4] at h; cases h⟩ s5 (fun _ _ => rfl)
theorem ev_46_37 {X : Scr} {d b : Nat} {v2 v3 : Int32} {w : Wd} {op ar ht : Nat → Nat} {tb : Nat → Bool} {V : Nat → Int32} (hb : b ≤ 80) (hc : ∀ k, k < b → ∃ cd, CRel (w 38 k) (w 39 k) cd (op k) (ar k)) (hV : ∀ j, j < 12 → w 85 j = V j) : ∀ (f k n dn : Nat) (s : Nat → Int32) (u : Wd), b - k < f → dn ≤ k → evI op ar ht tb b k n s (u 86) → (∀ j, k ≤ j → j < b → stOK op ar ht tb b j) → (∀ a, a ≠ 86 → u a = w a) → EI X (d + 1) 46 (40, [some (.ref 84), some (.ref 37), some (.int v2), some (.int v3), some (.ref 38), some (.ref 39), some (.int (nI b)), some (.int (tpI n)), some (.int (nI k)), some (.int (nI dn)), none, none, none], [], SH, u) (fun x w1 => x = evF op ar V b f k n s ∧ ∀ a, a ≠ 86 → w1 a = w a) := by
  intro f
  induction f with
  | zero => intro k n dn s u h; omega
  | succ f ih =>
    intro k n dn s u hf hdn hI hS hfr
    have hI0 := hI
    obtain ⟨i1, i2, i3, i4, i5, i6⟩ := hI
    refine t46_84_37_at40 u _ _ _ _ _ _ ?_
    unfold evF
    by_cases hk : b ≤ k
    · have hkb : k = b := by omega
      have hn : n = 1 := by rw [← i2, hkb]; exact i3
      subst hn
      rw [if_pos hk]
      have fin : (if 0 ≤ tpI 1 then (inB (tpI 1) 64 = true ∧ (u 86 (tpI 1).toNatClampNeg = s 0 ∧ ∀ a, a ≠ 86 → u a = w a)) else (kI 0 = s 0 ∧ ∀ a, a ≠ 86 → u a = w a)) := by
        rw [if_pos (by decide)]
        exact ⟨by decide, i5 0 (by omega), hfr⟩
      by_cases h240 : kI 240 ≤ nI dn
      · rw [if_pos h240]
        exact fin
      · rw [if_neg h240, if_pos (nI_le hk (by omega))]
        exact fin
    · have hkb : k < b := by omega
      rw [if_neg hk, if_neg (lt_240 dn (by omega)), if_neg (nI_ge hkb (by omega)), nI_clamp (by omega), hfr 38 (by decide), hfr 39 (by decide), k1, k1]
      obtain ⟨cd, r1, r2, r3, r4, r5⟩ := hc k hkb
      have hs := hS k (Nat.le_refl _) hkb
      have hS1 : ∀ j, k + 1 ≤ j → j < b → stOK op ar ht tb b j := fun j h1 h2 => hS j (by omega) h2
      have hib : inB (nI k) 80 = true := inB_nI (by omega) (by decide)
      refine ⟨hib, hib, ?_⟩
      rw [r5]
      have fr2 : ∀ i v, ∀ a, a ≠ 86 → (up2 u 86 i v) a = w a := fun i v a ha => by rw [up2_ne ha]; exact hfr a ha
      have up86 : ∀ i v, (up2 u 86 i v) 86 = upd (u 86) i v := fun i v => up2_self
      by_cases h1 : op k ≤ 1
      · have hpu := fun v => evI_push (v := v) hI0 hkb hs h1
        have hs2 := hs
        unfold stOK at hs2
        rw [if_pos h1] at hs2
        rw [if_pos h1, tpI_up, nI_clamp (by omega)]
        have hlt : nI n < kI 64 := nI_lt (b := 64) (by omega) (by decide)
        have hib2 : inB (nI n) 64 = true := inB_nI (by omega) (by decide)
        by_cases h0 : op k = 0
        · rw [if_pos h0, show w 38 k = kI 1 by rw [r4, h0]; rfl, if_pos rfl, if_pos hlt]
          refine ⟨hib2, ?_⟩
          have := ih (k + 1) (n + 1) (dn + 1) (upd s n (nI (ar k))) (up2 u 86 n (nI (ar k))) (by omega) (by omega) (by rw [up86]; exact hpu _) hS1 (fr2 _ _)
          rw [show tpI (n + 1) = nI n from tpI_pos (n := n + 1) (by omega)] at this
          exact this
        · have h01 : op k = 1 := by omega
          rw [if_neg h0, show w 38 k = kI 2 by rw [r4, h01]; rfl, if_neg (by decide), if_pos rfl, if_pos hlt]
          have har := hs2.2.2.2 h01
          have e47 : F_47_84 (nI (ar k)) u = V (ar k) := by
            unfold F_47_84
            rw [if_neg (nI_pos (by omega)), if_neg (lt_12 _ har), nI_clamp (by omega), hfr 85 (by decide), hV _ har]
          rw [e47]
          refine ⟨fun _ _ => inB_nI har (by decide), hib2, ?_⟩
          have := ih (k + 1) (n + 1) (dn + 1) (upd s n (V (ar k))) (up2 u 86 n (V (ar k))) (by omega) (by omega) (by rw [up86]; exact hpu _) hS1 (fr2 _ _)
          rw [show tpI (n + 1) = nI n from tpI_pos (n := n + 1) (by omega)] at this
          exact this
      · rw [if_neg h1]
        by_cases h10 : op k = 10
        · rw [if_pos h10, show w 38 k = kI 33 by rw [r4, h10]; rfl, if_neg (by decide), if_neg (by decide)]
          have hh := evI_not hI0 hkb hs h10
          have hn := hh.1
          have hnx := hh.2
          have htp := tpI_pos hn
          rw [htp, if_pos (nI_pos' (by omega)), if_pos rfl, nI_clamp (by omega)]
          have hib2 : inB (nI (n - 1)) 64 = true := inB_nI (by omega) (by decide)
          refine ⟨hib2, hib2, ?_⟩
          have := ih (k + 1) n (dn + 1) _ (up2 u 86 (n - 1) (kI 1 - u 86 (n - 1))) (by omega) (by omega) (by rw [up86]; exact hnx) hS1 (fr2 _ _)
          rw [htp] at this
          exact this
        · rw [if_neg h10]
          by_cases h11 : 11 ≤ op k
          · rw [if_pos h11]
            obtain ⟨hn, hj1, hj2, hj3⟩ := evI_jmp hI0 hkb hs h11
            have htp := tpI_pos hn
            have hib2 : inB (nI (n - 1)) 64 = true := inB_nI (by omega) (by decide)
            have hjb := hj2.1
            have hmx : (if nI (k + 1) < nI (ar k) then nI (ar k) else nI (k + 1)) = nI (ar k) := by
              by_cases e : ar k = k + 1
              · rw [e, if_neg Int32.lt_irrefl]
              · rw [if_pos (nI_lt (by omega) (by omega))]
            have A := ih (ar k) n (dn + 1) s u (by omega) (by omega) hj2 (fun j h1 h2 => hS j (by omega) h2) hfr
            have B := ih (k + 1) (n - 1) (dn + 1) s u (by omega) (by omega) hj3 hS1 hfr
            rw [htp] at A
            rw [← tpI_dn hn, htp, ← sub1] at B
            rw [htp, if_pos (nI_pos' (by omega)), nI_clamp (by omega), i5 (n - 1) (by omega), hmx]
            by_cases h12 : op k = 12
            · rw [if_pos h12, show w 38 k = kI 124 by rw [r4, h12]; rfl, if_neg (by decide), if_neg (by decide), if_neg (by decide), if_neg (by decide), if_pos rfl]
              refine ⟨hib2, ?_⟩
              by_cases e : s (n - 1) = kI 1
              · rw [if_pos e, if_pos e]; exact A
              · rw [if_neg e, if_neg e]; exact B
            · have h11b : op k = 11 := by omega
              rw [if_neg h12, show w 38 k = kI 38 by rw [r4, h11b]; rfl, if_neg (by decide), if_neg (by decide), if_neg (by decide), if_pos rfl]
              refine ⟨hib2, ?_⟩
              rw [if_neg (by decide)]
              by_cases e : s (n - 1) = kI 0
              · rw [if_pos e, if_pos e]; exact A
              · rw [if_neg e, if_neg e]; exact B
          · rw [if_neg h11]
            have g2 : 2 ≤ op k := by omega
            have g9 : op k ≤ 9 := by omega
            obtain ⟨hn, hnx⟩ := evI_bin hI0 hkb hs g2 g9
            obtain ⟨n1, n2, n3, n4, n5⟩ := sg_ne g2 g9
            have htp := tpI_pos (n := n) (by omega)
            have hib2 : inB (nI (n - 1)) 64 = true := inB_nI (by omega) (by decide)
            have hib3 : inB (nI (n - 2)) 64 = true := inB_nI (by omega) (by decide)
            have e1 : nI (n - 1) + kI (-1) = nI (n - 2) := by rw [show nI (n - 1) + kI (-1) = nI (n - 1 - 1) from sb_m1 (by omega)]; rfl
            have e2 : nI (n - 2) + kI 1 = nI (n - 1) := by rw [k1, show n - 2 + 1 = n - 1 by omega]
            rw [r4, if_neg n1, if_neg n2, htp, if_pos (nI_pos' (by omega)), if_neg n3, if_neg n4, if_neg n5, if_neg (show ¬ nI (n - 1) < kI 1 from nI_nlt (b := 1) (by omega) (by omega)), e1, e2, nI_clamp (by omega), nI_clamp (by omega)]
            refine ⟨hib2, ?_⟩
            have e5 := i5 (n - 1) (by omega)
            by_cases hz : (op k = 5 ∨ op k = 6) ∧ s (n - 1) = 0
            · rw [if_pos hz, if_neg (by rw [rf_48 u g2 g9, e5]; exact fun h => h hz)]
              exact ⟨rfl, hfr⟩
            · rw [if_neg hz, if_pos (by rw [rf_48 u g2 g9, e5]; exact hz), rk_49 u g2 g9 (by rw [e5]; exact hz)]
              refine ⟨hib3, hib2, fun _ h => h, fun _ _ _ _ _ h => h, hib3, ?_⟩
              have := ih (k + 1) (n - 1) (dn + 1) _ (up2 u 86 (n - 2) (rkO (op k) (u 86 (n - 2)) (u 86 (n - 1)))) (by omega) (by omega) (by rw [up86]; exact hnx) hS1 (fr2 _ _)
              rw [← tpI_dn (n := n) (by omega), htp, e1] at this
              exact this
theorem c_46_37 {X : Scr} {d a b : Nat} {w : Wd} {op ar : Nat → Nat} {V : Nat → Int32} {isC : Bool} (hab : a ≤ b) (hb : b ≤ 80) (hc : ∀ k, k < b → ∃ cd, CRel (w 38 k) (w 39 k) cd (op k) (ar k)) (hV : ∀ j, j < 12 → w 85 j = V j) (hS : SEGW op ar a b isC) : CI X (d + 2) 46 [.ref 84, .ref 37, .int (nI a), .int (nI b)] w (fun x w1 => x = evF op ar V b 300 a 0 (fun _ => 0) ∧ ∀ c, c ≠ 86 → w1 c = w c) := by
  obtain ⟨ht, tb, s1, s2, s3, s4, s5⟩ := hS
  refine CI.of rfl (t46_84_37_at0 w _ _ ?_)
  have e1 : (if (if (Int32.ofNat 80) < (Int32.ofNat 80) then (Int32.ofNat 80) else (Int32.ofNat 80)) < nI b then (if (Int32.ofNat 80) < (Int32.ofNat 80) then (Int32.ofNat 80) else (Int32.ofNat 80)) else nI b) = nI b := by
    rw [if_neg (show ¬ (Int32.ofNat 80) < (Int32.ofNat 80) from Int32.lt_irrefl), if_neg (show ¬ (Int32.ofNat 80) < nI b from nI_nlt (b := b) (a := 80) hb (by decide))]
  have e2 : (if (kI 0) < nI a then nI a else (kI 0)) = nI a := by
    by_cases h : a = 0
    · subst h; rfl
    · rw [if_pos (show kI 0 < nI a from nI_lt (a := 0) (by omega) (by omega))]
  rw [e1, e2]
  exact ev_46_37 (ht := ht) (tb := tb) hb hc hV 300 a 0 0 (fun _ => 0) w (by omega) (by omega) ⟨hab, s1, s2, by omega, fun i hi => by omega, fun h => by rw [s4] at h; cases h⟩ s5 (fun _ _ => rfl)
theorem ev_46_44 {X : Scr} {d b : Nat} {v2 v3 : Int32} {w : Wd} {op ar ht : Nat → Nat} {tb : Nat → Bool} {V : Nat → Int32} (hb : b ≤ 80) (hc : ∀ k, k < b → ∃ cd, CRel (w 45 k) (w 46 k) cd (op k) (ar k)) (hV : ∀ j, j < 12 → w 85 j = V j) : ∀ (f k n dn : Nat) (s : Nat → Int32) (u : Wd), b - k < f → dn ≤ k → evI op ar ht tb b k n s (u 86) → (∀ j, k ≤ j → j < b → stOK op ar ht tb b j) → (∀ a, a ≠ 86 → u a = w a) → EI X (d + 1) 46 (40, [some (.ref 84), some (.ref 44), some (.int v2), some (.int v3), some (.ref 45), some (.ref 46), some (.int (nI b)), some (.int (tpI n)), some (.int (nI k)), some (.int (nI dn)), none, none, none], [], SH, u) (fun x w1 => x = evF op ar V b f k n s ∧ ∀ a, a ≠ 86 → w1 a = w a) := by
  intro f
  induction f with
  | zero => intro k n dn s u h; omega
  | succ f ih =>
    intro k n dn s u hf hdn hI hS hfr
    have hI0 := hI
    obtain ⟨i1, i2, i3, i4, i5, i6⟩ := hI
    refine t46_84_44_at40 u _ _ _ _ _ _ ?_
    unfold evF
    by_cases hk : b ≤ k
    · have hkb : k = b := by omega
      have hn : n = 1 := by rw [← i2, hkb]; exact i3
      subst hn
      rw [if_pos hk]
      have fin : (if 0 ≤ tpI 1 then (inB (tpI 1) 64 = true ∧ (u 86 (tpI 1).toNatClampNeg = s 0 ∧ ∀ a, a ≠ 86 → u a = w a)) else (kI 0 = s 0 ∧ ∀ a, a ≠ 86 → u a = w a)) := by
        rw [if_pos (by decide)]
        exact ⟨by decide, i5 0 (by omega), hfr⟩
      by_cases h240 : kI 240 ≤ nI dn
      · rw [if_pos h240]
        exact fin
      · rw [if_neg h240, if_pos (nI_le hk (by omega))]
        exact fin
    · have hkb : k < b := by omega
      rw [if_neg hk, if_neg (lt_240 dn (by omega)), if_neg (nI_ge hkb (by omega)), nI_clamp (by omega), hfr 45 (by decide), hfr 46 (by decide), k1, k1]
      obtain ⟨cd, r1, r2, r3, r4, r5⟩ := hc k hkb
      have hs := hS k (Nat.le_refl _) hkb
      have hS1 : ∀ j, k + 1 ≤ j → j < b → stOK op ar ht tb b j := fun j h1 h2 => hS j (by omega) h2
      have hib : inB (nI k) 80 = true := inB_nI (by omega) (by decide)
      refine ⟨hib, hib, ?_⟩
      rw [r5]
      have fr2 : ∀ i v, ∀ a, a ≠ 86 → (up2 u 86 i v) a = w a := fun i v a ha => by rw [up2_ne ha]; exact hfr a ha
      have up86 : ∀ i v, (up2 u 86 i v) 86 = upd (u 86) i v := fun i v => up2_self
      by_cases h1 : op k ≤ 1
      · have hpu := fun v => evI_push (v := v) hI0 hkb hs h1
        have hs2 := hs
        unfold stOK at hs2
        rw [if_pos h1] at hs2
        rw [if_pos h1, tpI_up, nI_clamp (by omega)]
        have hlt : nI n < kI 64 := nI_lt (b := 64) (by omega) (by decide)
        have hib2 : inB (nI n) 64 = true := inB_nI (by omega) (by decide)
        by_cases h0 : op k = 0
        · rw [if_pos h0, show w 45 k = kI 1 by rw [r4, h0]; rfl, if_pos rfl, if_pos hlt]
          refine ⟨hib2, ?_⟩
          have := ih (k + 1) (n + 1) (dn + 1) (upd s n (nI (ar k))) (up2 u 86 n (nI (ar k))) (by omega) (by omega) (by rw [up86]; exact hpu _) hS1 (fr2 _ _)
          rw [show tpI (n + 1) = nI n from tpI_pos (n := n + 1) (by omega)] at this
          exact this
        · have h01 : op k = 1 := by omega
          rw [if_neg h0, show w 45 k = kI 2 by rw [r4, h01]; rfl, if_neg (by decide), if_pos rfl, if_pos hlt]
          have har := hs2.2.2.2 h01
          have e47 : F_47_84 (nI (ar k)) u = V (ar k) := by
            unfold F_47_84
            rw [if_neg (nI_pos (by omega)), if_neg (lt_12 _ har), nI_clamp (by omega), hfr 85 (by decide), hV _ har]
          rw [e47]
          refine ⟨fun _ _ => inB_nI har (by decide), hib2, ?_⟩
          have := ih (k + 1) (n + 1) (dn + 1) (upd s n (V (ar k))) (up2 u 86 n (V (ar k))) (by omega) (by omega) (by rw [up86]; exact hpu _) hS1 (fr2 _ _)
          rw [show tpI (n + 1) = nI n from tpI_pos (n := n + 1) (by omega)] at this
          exact this
      · rw [if_neg h1]
        by_cases h10 : op k = 10
        · rw [if_pos h10, show w 45 k = kI 33 by rw [r4, h10]; rfl, if_neg (by decide), if_neg (by decide)]
          have hh := evI_not hI0 hkb hs h10
          have hn := hh.1
          have hnx := hh.2
          have htp := tpI_pos hn
          rw [htp, if_pos (nI_pos' (by omega)), if_pos rfl, nI_clamp (by omega)]
          have hib2 : inB (nI (n - 1)) 64 = true := inB_nI (by omega) (by decide)
          refine ⟨hib2, hib2, ?_⟩
          have := ih (k + 1) n (dn + 1) _ (up2 u 86 (n - 1) (kI 1 - u 86 (n - 1))) (by omega) (by omega) (by rw [up86]; exact hnx) hS1 (fr2 _ _)
          rw [htp] at this
          exact this
        · rw [if_neg h10]
          by_cases h11 : 11 ≤ op k
          · rw [if_pos h11]
            obtain ⟨hn, hj1, hj2, hj3⟩ := evI_jmp hI0 hkb hs h11
            have htp := tpI_pos hn
            have hib2 : inB (nI (n - 1)) 64 = true := inB_nI (by omega) (by decide)
            have hjb := hj2.1
            have hmx : (if nI (k + 1) < nI (ar k) then nI (ar k) else nI (k + 1)) = nI (ar k) := by
              by_cases e : ar k = k + 1
              · rw [e, if_neg Int32.lt_irrefl]
              · rw [if_pos (nI_lt (by omega) (by omega))]
            have A := ih (ar k) n (dn + 1) s u (by omega) (by omega) hj2 (fun j h1 h2 => hS j (by omega) h2) hfr
            have B := ih (k + 1) (n - 1) (dn + 1) s u (by omega) (by omega) hj3 hS1 hfr
            rw [htp] at A
            rw [← tpI_dn hn, htp, ← sub1] at B
            rw [htp, if_pos (nI_pos' (by omega)), nI_clamp (by omega), i5 (n - 1) (by omega), hmx]
            by_cases h12 : op k = 12
            · rw [if_pos h12, show w 45 k = kI 124 by rw [r4, h12]; rfl, if_neg (by decide), if_neg (by decide), if_neg (by decide), if_neg (by decide), if_pos rfl]
              refine ⟨hib2, ?_⟩
              by_cases e : s (n - 1) = kI 1
              · rw [if_pos e, if_pos e]; exact A
              · rw [if_neg e, if_neg e]; exact B
            · have h11b : op k = 11 := by omega
              rw [if_neg h12, show w 45 k = kI 38 by rw [r4, h11b]; rfl, if_neg (by decide), if_neg (by decide), if_neg (by decide), if_pos rfl]
              refine ⟨hib2, ?_⟩
              rw [if_neg (by decide)]
              by_cases e : s (n - 1) = kI 0
              · rw [if_pos e, if_pos e]; exact A
              · rw [if_neg e, if_neg e]; exact B
          · rw [if_neg h11]
            have g2 : 2 ≤ op k := by omega
            have g9 : op k ≤ 9 := by omega
            obtain ⟨hn, hnx⟩ := evI_bin hI0 hkb hs g2 g9
            obtain ⟨n1, n2, n3, n4, n5⟩ := sg_ne g2 g9
            have htp := tpI_pos (n := n) (by omega)
            have hib2 : inB (nI (n - 1)) 64 = true := inB_nI (by omega) (by decide)
            have hib3 : inB (nI (n - 2)) 64 = true := inB_nI (by omega) (by decide)
            have e1 : nI (n - 1) + kI (-1) = nI (n - 2) := by rw [show nI (n - 1) + kI (-1) = nI (n - 1 - 1) from sb_m1 (by omega)]; rfl
            have e2 : nI (n - 2) + kI 1 = nI (n - 1) := by rw [k1, show n - 2 + 1 = n - 1 by omega]
            rw [r4, if_neg n1, if_neg n2, htp, if_pos (nI_pos' (by omega)), if_neg n3, if_neg n4, if_neg n5, if_neg (show ¬ nI (n - 1) < kI 1 from nI_nlt (b := 1) (by omega) (by omega)), e1, e2, nI_clamp (by omega), nI_clamp (by omega)]
            refine ⟨hib2, ?_⟩
            have e5 := i5 (n - 1) (by omega)
            by_cases hz : (op k = 5 ∨ op k = 6) ∧ s (n - 1) = 0
            · rw [if_pos hz, if_neg (by rw [rf_48 u g2 g9, e5]; exact fun h => h hz)]
              exact ⟨rfl, hfr⟩
            · rw [if_neg hz, if_pos (by rw [rf_48 u g2 g9, e5]; exact hz), rk_49 u g2 g9 (by rw [e5]; exact hz)]
              refine ⟨hib3, hib2, fun _ h => h, fun _ _ _ _ _ h => h, hib3, ?_⟩
              have := ih (k + 1) (n - 1) (dn + 1) _ (up2 u 86 (n - 2) (rkO (op k) (u 86 (n - 2)) (u 86 (n - 1)))) (by omega) (by omega) (by rw [up86]; exact hnx) hS1 (fr2 _ _)
              rw [← tpI_dn (n := n) (by omega), htp, e1] at this
              exact this
theorem c_46_44 {X : Scr} {d a b : Nat} {w : Wd} {op ar : Nat → Nat} {V : Nat → Int32} {isC : Bool} (hab : a ≤ b) (hb : b ≤ 80) (hc : ∀ k, k < b → ∃ cd, CRel (w 45 k) (w 46 k) cd (op k) (ar k)) (hV : ∀ j, j < 12 → w 85 j = V j) (hS : SEGW op ar a b isC) : CI X (d + 2) 46 [.ref 84, .ref 44, .int (nI a), .int (nI b)] w (fun x w1 => x = evF op ar V b 300 a 0 (fun _ => 0) ∧ ∀ c, c ≠ 86 → w1 c = w c) := by
  obtain ⟨ht, tb, s1, s2, s3, s4, s5⟩ := hS
  refine CI.of rfl (t46_84_44_at0 w _ _ ?_)
  have e1 : (if (if (Int32.ofNat 80) < (Int32.ofNat 80) then (Int32.ofNat 80) else (Int32.ofNat 80)) < nI b then (if (Int32.ofNat 80) < (Int32.ofNat 80) then (Int32.ofNat 80) else (Int32.ofNat 80)) else nI b) = nI b := by
    rw [if_neg (show ¬ (Int32.ofNat 80) < (Int32.ofNat 80) from Int32.lt_irrefl), if_neg (show ¬ (Int32.ofNat 80) < nI b from nI_nlt (b := b) (a := 80) hb (by decide))]
  have e2 : (if (kI 0) < nI a then nI a else (kI 0)) = nI a := by
    by_cases h : a = 0
    · subst h; rfl
    · rw [if_pos (show kI 0 < nI a from nI_lt (a := 0) (by omega) (by omega))]
  rw [e1, e2]
  exact ev_46_44 (ht := ht) (tb := tb) hb hc hV 300 a 0 0 (fun _ => 0) w (by omega) (by omega) ⟨hab, s1, s2, by omega, fun i hi => by omega, fun h => by rw [s4] at h; cases h⟩ s5 (fun _ _ => rfl)
theorem ev_46_51 {X : Scr} {d b : Nat} {v2 v3 : Int32} {w : Wd} {op ar ht : Nat → Nat} {tb : Nat → Bool} {V : Nat → Int32} (hb : b ≤ 80) (hc : ∀ k, k < b → ∃ cd, CRel (w 52 k) (w 53 k) cd (op k) (ar k)) (hV : ∀ j, j < 12 → w 85 j = V j) : ∀ (f k n dn : Nat) (s : Nat → Int32) (u : Wd), b - k < f → dn ≤ k → evI op ar ht tb b k n s (u 86) → (∀ j, k ≤ j → j < b → stOK op ar ht tb b j) → (∀ a, a ≠ 86 → u a = w a) → EI X (d + 1) 46 (40, [some (.ref 84), some (.ref 51), some (.int v2), some (.int v3), some (.ref 52), some (.ref 53), some (.int (nI b)), some (.int (tpI n)), some (.int (nI k)), some (.int (nI dn)), none, none, none], [], SH, u) (fun x w1 => x = evF op ar V b f k n s ∧ ∀ a, a ≠ 86 → w1 a = w a) := by
  intro f
  induction f with
  | zero => intro k n dn s u h; omega
  | succ f ih =>
    intro k n dn s u hf hdn hI hS hfr
    have hI0 := hI
    obtain ⟨i1, i2, i3, i4, i5, i6⟩ := hI
    refine t46_84_51_at40 u _ _ _ _ _ _ ?_
    unfold evF
    by_cases hk : b ≤ k
    · have hkb : k = b := by omega
      have hn : n = 1 := by rw [← i2, hkb]; exact i3
      subst hn
      rw [if_pos hk]
      have fin : (if 0 ≤ tpI 1 then (inB (tpI 1) 64 = true ∧ (u 86 (tpI 1).toNatClampNeg = s 0 ∧ ∀ a, a ≠ 86 → u a = w a)) else (kI 0 = s 0 ∧ ∀ a, a ≠ 86 → u a = w a)) := by
        rw [if_pos (by decide)]
        exact ⟨by decide, i5 0 (by omega), hfr⟩
      by_cases h240 : kI 240 ≤ nI dn
      · rw [if_pos h240]
        exact fin
      · rw [if_neg h240, if_pos (nI_le hk (by omega))]
        exact fin
    · have hkb : k < b := by omega
      rw [if_neg hk, if_neg (lt_240 dn (by omega)), if_neg (nI_ge hkb (by omega)), nI_clamp (by omega), hfr 52 (by decide), hfr 53 (by decide), k1, k1]
      obtain ⟨cd, r1, r2, r3, r4, r5⟩ := hc k hkb
      have hs := hS k (Nat.le_refl _) hkb
      have hS1 : ∀ j, k + 1 ≤ j → j < b → stOK op ar ht tb b j := fun j h1 h2 => hS j (by omega) h2
      have hib : inB (nI k) 80 = true := inB_nI (by omega) (by decide)
      refine ⟨hib, hib, ?_⟩
      rw [r5]
      have fr2 : ∀ i v, ∀ a, a ≠ 86 → (up2 u 86 i v) a = w a := fun i v a ha => by rw [up2_ne ha]; exact hfr a ha
      have up86 : ∀ i v, (up2 u 86 i v) 86 = upd (u 86) i v := fun i v => up2_self
      by_cases h1 : op k ≤ 1
      · have hpu := fun v => evI_push (v := v) hI0 hkb hs h1
        have hs2 := hs
        unfold stOK at hs2
        rw [if_pos h1] at hs2
        rw [if_pos h1, tpI_up, nI_clamp (by omega)]
        have hlt : nI n < kI 64 := nI_lt (b := 64) (by omega) (by decide)
        have hib2 : inB (nI n) 64 = true := inB_nI (by omega) (by decide)
        by_cases h0 : op k = 0
        · rw [if_pos h0, show w 52 k = kI 1 by rw [r4, h0]; rfl, if_pos rfl, if_pos hlt]
          refine ⟨hib2, ?_⟩
          have := ih (k + 1) (n + 1) (dn + 1) (upd s n (nI (ar k))) (up2 u 86 n (nI (ar k))) (by omega) (by omega) (by rw [up86]; exact hpu _) hS1 (fr2 _ _)
          rw [show tpI (n + 1) = nI n from tpI_pos (n := n + 1) (by omega)] at this
          exact this
        · have h01 : op k = 1 := by omega
          rw [if_neg h0, show w 52 k = kI 2 by rw [r4, h01]; rfl, if_neg (by decide), if_pos rfl, if_pos hlt]
          have har := hs2.2.2.2 h01
          have e47 : F_47_84 (nI (ar k)) u = V (ar k) := by
            unfold F_47_84
            rw [if_neg (nI_pos (by omega)), if_neg (lt_12 _ har), nI_clamp (by omega), hfr 85 (by decide), hV _ har]
          rw [e47]
          refine ⟨fun _ _ => inB_nI har (by decide), hib2, ?_⟩
          have := ih (k + 1) (n + 1) (dn + 1) (upd s n (V (ar k))) (up2 u 86 n (V (ar k))) (by omega) (by omega) (by rw [up86]; exact hpu _) hS1 (fr2 _ _)
          rw [show tpI (n + 1) = nI n from tpI_pos (n := n + 1) (by omega)] at this
          exact this
      · rw [if_neg h1]
        by_cases h10 : op k = 10
        · rw [if_pos h10, show w 52 k = kI 33 by rw [r4, h10]; rfl, if_neg (by decide), if_neg (by decide)]
          have hh := evI_not hI0 hkb hs h10
          have hn := hh.1
          have hnx := hh.2
          have htp := tpI_pos hn
          rw [htp, if_pos (nI_pos' (by omega)), if_pos rfl, nI_clamp (by omega)]
          have hib2 : inB (nI (n - 1)) 64 = true := inB_nI (by omega) (by decide)
          refine ⟨hib2, hib2, ?_⟩
          have := ih (k + 1) n (dn + 1) _ (up2 u 86 (n - 1) (kI 1 - u 86 (n - 1))) (by omega) (by omega) (by rw [up86]; exact hnx) hS1 (fr2 _ _)
          rw [htp] at this
          exact this
        · rw [if_neg h10]
          by_cases h11 : 11 ≤ op k
          · rw [if_pos h11]
            obtain ⟨hn, hj1, hj2, hj3⟩ := evI_jmp hI0 hkb hs h11
            have htp := tpI_pos hn
            have hib2 : inB (nI (n - 1)) 64 = true := inB_nI (by omega) (by decide)
            have hjb := hj2.1
            have hmx : (if nI (k + 1) < nI (ar k) then nI (ar k) else nI (k + 1)) = nI (ar k) := by
              by_cases e : ar k = k + 1
              · rw [e, if_neg Int32.lt_irrefl]
              · rw [if_pos (nI_lt (by omega) (by omega))]
            have A := ih (ar k) n (dn + 1) s u (by omega) (by omega) hj2 (fun j h1 h2 => hS j (by omega) h2) hfr
            have B := ih (k + 1) (n - 1) (dn + 1) s u (by omega) (by omega) hj3 hS1 hfr
            rw [htp] at A
            rw [← tpI_dn hn, htp, ← sub1] at B
            rw [htp, if_pos (nI_pos' (by omega)), nI_clamp (by omega), i5 (n - 1) (by omega), hmx]
            by_cases h12 : op k = 12
            · rw [if_pos h12, show w 52 k = kI 124 by rw [r4, h12]; rfl, if_neg (by decide), if_neg (by decide), if_neg (by decide), if_neg (by decide), if_pos rfl]
              refine ⟨hib2, ?_⟩
              by_cases e : s (n - 1) = kI 1
              · rw [if_pos e, if_pos e]; exact A
              · rw [if_neg e, if_neg e]; exact B
            · have h11b : op k = 11 := by omega
              rw [if_neg h12, show w 52 k = kI 38 by rw [r4, h11b]; rfl, if_neg (by decide), if_neg (by decide), if_neg (by decide), if_pos rfl]
              refine ⟨hib2, ?_⟩
              rw [if_neg (by decide)]
              by_cases e : s (n - 1) = kI 0
              · rw [if_pos e, if_pos e]; exact A
              · rw [if_neg e, if_neg e]; exact B
          · rw [if_neg h11]
            have g2 : 2 ≤ op k := by omega
            have g9 : op k ≤ 9 := by omega
            obtain ⟨hn, hnx⟩ := evI_bin hI0 hkb hs g2 g9
            obtain ⟨n1, n2, n3, n4, n5⟩ := sg_ne g2 g9
            have htp := tpI_pos (n := n) (by omega)
            have hib2 : inB (nI (n - 1)) 64 = true := inB_nI (by omega) (by decide)
            have hib3 : inB (nI (n - 2)) 64 = true := inB_nI (by omega) (by decide)
            have e1 : nI (n - 1) + kI (-1) = nI (n - 2) := by rw [show nI (n - 1) + kI (-1) = nI (n - 1 - 1) from sb_m1 (by omega)]; rfl
            have e2 : nI (n - 2) + kI 1 = nI (n - 1) := by rw [k1, show n - 2 + 1 = n - 1 by omega]
            rw [r4, if_neg n1, if_neg n2, htp, if_pos (nI_pos' (by omega)), if_neg n3, if_neg n4, if_neg n5, if_neg (show ¬ nI (n - 1) < kI 1 from nI_nlt (b := 1) (by omega) (by omega)), e1, e2, nI_clamp (by omega), nI_clamp (by omega)]
            refine ⟨hib2, ?_⟩
            have e5 := i5 (n - 1) (by omega)
            by_cases hz : (op k = 5 ∨ op k = 6) ∧ s (n - 1) = 0
            · rw [if_pos hz, if_neg (by rw [rf_48 u g2 g9, e5]; exact fun h => h hz)]
              exact ⟨rfl, hfr⟩
            · rw [if_neg hz, if_pos (by rw [rf_48 u g2 g9, e5]; exact hz), rk_49 u g2 g9 (by rw [e5]; exact hz)]
              refine ⟨hib3, hib2, fun _ h => h, fun _ _ _ _ _ h => h, hib3, ?_⟩
              have := ih (k + 1) (n - 1) (dn + 1) _ (up2 u 86 (n - 2) (rkO (op k) (u 86 (n - 2)) (u 86 (n - 1)))) (by omega) (by omega) (by rw [up86]; exact hnx) hS1 (fr2 _ _)
              rw [← tpI_dn (n := n) (by omega), htp, e1] at this
              exact this
theorem c_46_51 {X : Scr} {d a b : Nat} {w : Wd} {op ar : Nat → Nat} {V : Nat → Int32} {isC : Bool} (hab : a ≤ b) (hb : b ≤ 80) (hc : ∀ k, k < b → ∃ cd, CRel (w 52 k) (w 53 k) cd (op k) (ar k)) (hV : ∀ j, j < 12 → w 85 j = V j) (hS : SEGW op ar a b isC) : CI X (d + 2) 46 [.ref 84, .ref 51, .int (nI a), .int (nI b)] w (fun x w1 => x = evF op ar V b 300 a 0 (fun _ => 0) ∧ ∀ c, c ≠ 86 → w1 c = w c) := by
  obtain ⟨ht, tb, s1, s2, s3, s4, s5⟩ := hS
  refine CI.of rfl (t46_84_51_at0 w _ _ ?_)
  have e1 : (if (if (Int32.ofNat 80) < (Int32.ofNat 80) then (Int32.ofNat 80) else (Int32.ofNat 80)) < nI b then (if (Int32.ofNat 80) < (Int32.ofNat 80) then (Int32.ofNat 80) else (Int32.ofNat 80)) else nI b) = nI b := by
    rw [if_neg (show ¬ (Int32.ofNat 80) < (Int32.ofNat 80) from Int32.lt_irrefl), if_neg (show ¬ (Int32.ofNat 80) < nI b from nI_nlt (b := b) (a := 80) hb (by decide))]
  have e2 : (if (kI 0) < nI a then nI a else (kI 0)) = nI a := by
    by_cases h : a = 0
    · subst h; rfl
    · rw [if_pos (show kI 0 < nI a from nI_lt (a := 0) (by omega) (by omega))]
  rw [e1, e2]
  exact ev_46_51 (ht := ht) (tb := tb) hb hc hV 300 a 0 0 (fun _ => 0) w (by omega) (by omega) ⟨hab, s1, s2, by omega, fun i hi => by omega, fun h => by rw [s4] at h; cases h⟩ s5 (fun _ _ => rfl)
theorem ev_46_58 {X : Scr} {d b : Nat} {v2 v3 : Int32} {w : Wd} {op ar ht : Nat → Nat} {tb : Nat → Bool} {V : Nat → Int32} (hb : b ≤ 80) (hc : ∀ k, k < b → ∃ cd, CRel (w 59 k) (w 60 k) cd (op k) (ar k)) (hV : ∀ j, j < 12 → w 85 j = V j) : ∀ (f k n dn : Nat) (s : Nat → Int32) (u : Wd), b - k < f → dn ≤ k → evI op ar ht tb b k n s (u 86) → (∀ j, k ≤ j → j < b → stOK op ar ht tb b j) → (∀ a, a ≠ 86 → u a = w a) → EI X (d + 1) 46 (40, [some (.ref 84), some (.ref 58), some (.int v2), some (.int v3), some (.ref 59), some (.ref 60), some (.int (nI b)), some (.int (tpI n)), some (.int (nI k)), some (.int (nI dn)), none, none, none], [], SH, u) (fun x w1 => x = evF op ar V b f k n s ∧ ∀ a, a ≠ 86 → w1 a = w a) := by
  intro f
  induction f with
  | zero => intro k n dn s u h; omega
  | succ f ih =>
    intro k n dn s u hf hdn hI hS hfr
    have hI0 := hI
    obtain ⟨i1, i2, i3, i4, i5, i6⟩ := hI
    refine t46_84_58_at40 u _ _ _ _ _ _ ?_
    unfold evF
    by_cases hk : b ≤ k
    · have hkb : k = b := by omega
      have hn : n = 1 := by rw [← i2, hkb]; exact i3
      subst hn
      rw [if_pos hk]
      have fin : (if 0 ≤ tpI 1 then (inB (tpI 1) 64 = true ∧ (u 86 (tpI 1).toNatClampNeg = s 0 ∧ ∀ a, a ≠ 86 → u a = w a)) else (kI 0 = s 0 ∧ ∀ a, a ≠ 86 → u a = w a)) := by
        rw [if_pos (by decide)]
        exact ⟨by decide, i5 0 (by omega), hfr⟩
      by_cases h240 : kI 240 ≤ nI dn
      · rw [if_pos h240]
        exact fin
      · rw [if_neg h240, if_pos (nI_le hk (by omega))]
        exact fin
    · have hkb : k < b := by omega
      rw [if_neg hk, if_neg (lt_240 dn (by omega)), if_neg (nI_ge hkb (by omega)), nI_clamp (by omega), hfr 59 (by decide), hfr 60 (by decide), k1, k1]
      obtain ⟨cd, r1, r2, r3, r4, r5⟩ := hc k hkb
      have hs := hS k (Nat.le_refl _) hkb
      have hS1 : ∀ j, k + 1 ≤ j → j < b → stOK op ar ht tb b j := fun j h1 h2 => hS j (by omega) h2
      have hib : inB (nI k) 80 = true := inB_nI (by omega) (by decide)
      refine ⟨hib, hib, ?_⟩
      rw [r5]
      have fr2 : ∀ i v, ∀ a, a ≠ 86 → (up2 u 86 i v) a = w a := fun i v a ha => by rw [up2_ne ha]; exact hfr a ha
      have up86 : ∀ i v, (up2 u 86 i v) 86 = upd (u 86) i v := fun i v => up2_self
      by_cases h1 : op k ≤ 1
      · have hpu := fun v => evI_push (v := v) hI0 hkb hs h1
        have hs2 := hs
        unfold stOK at hs2
        rw [if_pos h1] at hs2
        rw [if_pos h1, tpI_up, nI_clamp (by omega)]
        have hlt : nI n < kI 64 := nI_lt (b := 64) (by omega) (by decide)
        have hib2 : inB (nI n) 64 = true := inB_nI (by omega) (by decide)
        by_cases h0 : op k = 0
        · rw [if_pos h0, show w 59 k = kI 1 by rw [r4, h0]; rfl, if_pos rfl, if_pos hlt]
          refine ⟨hib2, ?_⟩
          have := ih (k + 1) (n + 1) (dn + 1) (upd s n (nI (ar k))) (up2 u 86 n (nI (ar k))) (by omega) (by omega) (by rw [up86]; exact hpu _) hS1 (fr2 _ _)
          rw [show tpI (n + 1) = nI n from tpI_pos (n := n + 1) (by omega)] at this
          exact this
        · have h01 : op k = 1 := by omega
          rw [if_neg h0, show w 59 k = kI 2 by rw [r4, h01]; rfl, if_neg (by decide), if_pos rfl, if_pos hlt]
          have har := hs2.2.2.2 h01
          have e47 : F_47_84 (nI (ar k)) u = V (ar k) := by
            unfold F_47_84
            rw [if_neg (nI_pos (by omega)), if_neg (lt_12 _ har), nI_clamp (by omega), hfr 85 (by decide), hV _ har]
          rw [e47]
          refine ⟨fun _ _ => inB_nI har (by decide), hib2, ?_⟩
          have := ih (k + 1) (n + 1) (dn + 1) (upd s n (V (ar k))) (up2 u 86 n (V (ar k))) (by omega) (by omega) (by rw [up86]; exact hpu _) hS1 (fr2 _ _)
          rw [show tpI (n + 1) = nI n from tpI_pos (n := n + 1) (by omega)] at this
          exact this
      · rw [if_neg h1]
        by_cases h10 : op k = 10
        · rw [if_pos h10, show w 59 k = kI 33 by rw [r4, h10]; rfl, if_neg (by decide), if_neg (by decide)]
          have hh := evI_not hI0 hkb hs h10
          have hn := hh.1
          have hnx := hh.2
          have htp := tpI_pos hn
          rw [htp, if_pos (nI_pos' (by omega)), if_pos rfl, nI_clamp (by omega)]
          have hib2 : inB (nI (n - 1)) 64 = true := inB_nI (by omega) (by decide)
          refine ⟨hib2, hib2, ?_⟩
          have := ih (k + 1) n (dn + 1) _ (up2 u 86 (n - 1) (kI 1 - u 86 (n - 1))) (by omega) (by omega) (by rw [up86]; exact hnx) hS1 (fr2 _ _)
          rw [htp] at this
          exact this
        · rw [if_neg h10]
          by_cases h11 : 11 ≤ op k
          · rw [if_pos h11]
            obtain ⟨hn, hj1, hj2, hj3⟩ := evI_jmp hI0 hkb hs h11
            have htp := tpI_pos hn
            have hib2 : inB (nI (n - 1)) 64 = true := inB_nI (by omega) (by decide)
            have hjb := hj2.1
            have hmx : (if nI (k + 1) < nI (ar k) then nI (ar k) else nI (k + 1)) = nI (ar k) := by
              by_cases e : ar k = k + 1
              · rw [e, if_neg Int32.lt_irrefl]
              · rw [if_pos (nI_lt (by omega) (by omega))]
            have A := ih (ar k) n (dn + 1) s u (by omega) (by omega) hj2 (fun j h1 h2 => hS j (by omega) h2) hfr
            have B := ih (k + 1) (n - 1) (dn + 1) s u (by omega) (by omega) hj3 hS1 hfr
            rw [htp] at A
            rw [← tpI_dn hn, htp, ← sub1] at B
            rw [htp, if_pos (nI_pos' (by omega)), nI_clamp (by omega), i5 (n - 1) (by omega), hmx]
            by_cases h12 : op k = 12
            · rw [if_pos h12, show w 59 k = kI 124 by rw [r4, h12]; rfl, if_neg (by decide), if_neg (by decide), if_neg (by decide), if_neg (by decide), if_pos rfl]
              refine ⟨hib2, ?_⟩
              by_cases e : s (n - 1) = kI 1
              · rw [if_pos e, if_pos e]; exact A
              · rw [if_neg e, if_neg e]; exact B
            · have h11b : op k = 11 := by omega
              rw [if_neg h12, show w 59 k = kI 38 by rw [r4, h11b]; rfl, if_neg (by decide), if_neg (by decide), if_neg (by decide), if_pos rfl]
              refine ⟨hib2, ?_⟩
              rw [if_neg (by decide)]
              by_cases e : s (n - 1) = kI 0
              · rw [if_pos e, if_pos e]; exact A
              · rw [if_neg e, if_neg e]; exact B
          · rw [if_neg h11]
            have g2 : 2 ≤ op k := by omega
            have g9 : op k ≤ 9 := by omega
            obtain ⟨hn, hnx⟩ := evI_bin hI0 hkb hs g2 g9
            obtain ⟨n1, n2, n3, n4, n5⟩ := sg_ne g2 g9
            have htp := tpI_pos (n := n) (by omega)
            have hib2 : inB (nI (n - 1)) 64 = true := inB_nI (by omega) (by decide)
            have hib3 : inB (nI (n - 2)) 64 = true := inB_nI (by omega) (by decide)
            have e1 : nI (n - 1) + kI (-1) = nI (n - 2) := by rw [show nI (n - 1) + kI (-1) = nI (n - 1 - 1) from sb_m1 (by omega)]; rfl
            have e2 : nI (n - 2) + kI 1 = nI (n - 1) := by rw [k1, show n - 2 + 1 = n - 1 by omega]
            rw [r4, if_neg n1, if_neg n2, htp, if_pos (nI_pos' (by omega)), if_neg n3, if_neg n4, if_neg n5, if_neg (show ¬ nI (n - 1) < kI 1 from nI_nlt (b := 1) (by omega) (by omega)), e1, e2, nI_clamp (by omega), nI_clamp (by omega)]
            refine ⟨hib2, ?_⟩
            have e5 := i5 (n - 1) (by omega)
            by_cases hz : (op k = 5 ∨ op k = 6) ∧ s (n - 1) = 0
            · rw [if_pos hz, if_neg (by rw [rf_48 u g2 g9, e5]; exact fun h => h hz)]
              exact ⟨rfl, hfr⟩
            · rw [if_neg hz, if_pos (by rw [rf_48 u g2 g9, e5]; exact hz), rk_49 u g2 g9 (by rw [e5]; exact hz)]
              refine ⟨hib3, hib2, fun _ h => h, fun _ _ _ _ _ h => h, hib3, ?_⟩
              have := ih (k + 1) (n - 1) (dn + 1) _ (up2 u 86 (n - 2) (rkO (op k) (u 86 (n - 2)) (u 86 (n - 1)))) (by omega) (by omega) (by rw [up86]; exact hnx) hS1 (fr2 _ _)
              rw [← tpI_dn (n := n) (by omega), htp, e1] at this
              exact this
theorem c_46_58 {X : Scr} {d a b : Nat} {w : Wd} {op ar : Nat → Nat} {V : Nat → Int32} {isC : Bool} (hab : a ≤ b) (hb : b ≤ 80) (hc : ∀ k, k < b → ∃ cd, CRel (w 59 k) (w 60 k) cd (op k) (ar k)) (hV : ∀ j, j < 12 → w 85 j = V j) (hS : SEGW op ar a b isC) : CI X (d + 2) 46 [.ref 84, .ref 58, .int (nI a), .int (nI b)] w (fun x w1 => x = evF op ar V b 300 a 0 (fun _ => 0) ∧ ∀ c, c ≠ 86 → w1 c = w c) := by
  obtain ⟨ht, tb, s1, s2, s3, s4, s5⟩ := hS
  refine CI.of rfl (t46_84_58_at0 w _ _ ?_)
  have e1 : (if (if (Int32.ofNat 80) < (Int32.ofNat 80) then (Int32.ofNat 80) else (Int32.ofNat 80)) < nI b then (if (Int32.ofNat 80) < (Int32.ofNat 80) then (Int32.ofNat 80) else (Int32.ofNat 80)) else nI b) = nI b := by
    rw [if_neg (show ¬ (Int32.ofNat 80) < (Int32.ofNat 80) from Int32.lt_irrefl), if_neg (show ¬ (Int32.ofNat 80) < nI b from nI_nlt (b := b) (a := 80) hb (by decide))]
  have e2 : (if (kI 0) < nI a then nI a else (kI 0)) = nI a := by
    by_cases h : a = 0
    · subst h; rfl
    · rw [if_pos (show kI 0 < nI a from nI_lt (a := 0) (by omega) (by omega))]
  rw [e1, e2]
  exact ev_46_58 (ht := ht) (tb := tb) hb hc hV 300 a 0 0 (fun _ => 0) w (by omega) (by omega) ⟨hab, s1, s2, by omega, fun i hi => by omega, fun h => by rw [s4] at h; cases h⟩ s5 (fun _ _ => rfl)
theorem ev_46_65 {X : Scr} {d b : Nat} {v2 v3 : Int32} {w : Wd} {op ar ht : Nat → Nat} {tb : Nat → Bool} {V : Nat → Int32} (hb : b ≤ 80) (hc : ∀ k, k < b → ∃ cd, CRel (w 66 k) (w 67 k) cd (op k) (ar k)) (hV : ∀ j, j < 12 → w 85 j = V j) : ∀ (f k n dn : Nat) (s : Nat → Int32) (u : Wd), b - k < f → dn ≤ k → evI op ar ht tb b k n s (u 86) → (∀ j, k ≤ j → j < b → stOK op ar ht tb b j) → (∀ a, a ≠ 86 → u a = w a) → EI X (d + 1) 46 (40, [some (.ref 84), some (.ref 65), some (.int v2), some (.int v3), some (.ref 66), some (.ref 67), some (.int (nI b)), some (.int (tpI n)), some (.int (nI k)), some (.int (nI dn)), none, none, none], [], SH, u) (fun x w1 => x = evF op ar V b f k n s ∧ ∀ a, a ≠ 86 → w1 a = w a) := by
  intro f
  induction f with
  | zero => intro k n dn s u h; omega
  | succ f ih =>
    intro k n dn s u hf hdn hI hS hfr
    have hI0 := hI
    obtain ⟨i1, i2, i3, i4, i5, i6⟩ := hI
    refine t46_84_65_at40 u _ _ _ _ _ _ ?_
    unfold evF
    by_cases hk : b ≤ k
    · have hkb : k = b := by omega
      have hn : n = 1 := by rw [← i2, hkb]; exact i3
      subst hn
      rw [if_pos hk]
      have fin : (if 0 ≤ tpI 1 then (inB (tpI 1) 64 = true ∧ (u 86 (tpI 1).toNatClampNeg = s 0 ∧ ∀ a, a ≠ 86 → u a = w a)) else (kI 0 = s 0 ∧ ∀ a, a ≠ 86 → u a = w a)) := by
        rw [if_pos (by decide)]
        exact ⟨by decide, i5 0 (by omega), hfr⟩
      by_cases h240 : kI 240 ≤ nI dn
      · rw [if_pos h240]
        exact fin
      · rw [if_neg h240, if_pos (nI_le hk (by omega))]
        exact fin
    · have hkb : k < b := by omega
      rw [if_neg hk, if_neg (lt_240 dn (by omega)), if_neg (nI_ge hkb (by omega)), nI_clamp (by omega), hfr 66 (by decide), hfr 67 (by decide), k1, k1]
      obtain ⟨cd, r1, r2, r3, r4, r5⟩ := hc k hkb
      have hs := hS k (Nat.le_refl _) hkb
      have hS1 : ∀ j, k + 1 ≤ j → j < b → stOK op ar ht tb b j := fun j h1 h2 => hS j (by omega) h2
      have hib : inB (nI k) 80 = true := inB_nI (by omega) (by decide)
      refine ⟨hib, hib, ?_⟩
      rw [r5]
      have fr2 : ∀ i v, ∀ a, a ≠ 86 → (up2 u 86 i v) a = w a := fun i v a ha => by rw [up2_ne ha]; exact hfr a ha
      have up86 : ∀ i v, (up2 u 86 i v) 86 = upd (u 86) i v := fun i v => up2_self
      by_cases h1 : op k ≤ 1
      · have hpu := fun v => evI_push (v := v) hI0 hkb hs h1
        have hs2 := hs
        unfold stOK at hs2
        rw [if_pos h1] at hs2
        rw [if_pos h1, tpI_up, nI_clamp (by omega)]
        have hlt : nI n < kI 64 := nI_lt (b := 64) (by omega) (by decide)
        have hib2 : inB (nI n) 64 = true := inB_nI (by omega) (by decide)
        by_cases h0 : op k = 0
        · rw [if_pos h0, show w 66 k = kI 1 by rw [r4, h0]; rfl, if_pos rfl, if_pos hlt]
          refine ⟨hib2, ?_⟩
          have := ih (k + 1) (n + 1) (dn + 1) (upd s n (nI (ar k))) (up2 u 86 n (nI (ar k))) (by omega) (by omega) (by rw [up86]; exact hpu _) hS1 (fr2 _ _)
          rw [show tpI (n + 1) = nI n from tpI_pos (n := n + 1) (by omega)] at this
          exact this
        · have h01 : op k = 1 := by omega
          rw [if_neg h0, show w 66 k = kI 2 by rw [r4, h01]; rfl, if_neg (by decide), if_pos rfl, if_pos hlt]
          have har := hs2.2.2.2 h01
          have e47 : F_47_84 (nI (ar k)) u = V (ar k) := by
            unfold F_47_84
            rw [if_neg (nI_pos (by omega)), if_neg (lt_12 _ har), nI_clamp (by omega), hfr 85 (by decide), hV _ har]
          rw [e47]
          refine ⟨fun _ _ => inB_nI har (by decide), hib2, ?_⟩
          have := ih (k + 1) (n + 1) (dn + 1) (upd s n (V (ar k))) (up2 u 86 n (V (ar k))) (by omega) (by omega) (by rw [up86]; exact hpu _) hS1 (fr2 _ _)
          rw [show tpI (n + 1) = nI n from tpI_pos (n := n + 1) (by omega)] at this
          exact this
      · rw [if_neg h1]
        by_cases h10 : op k = 10
        · rw [if_pos h10, show w 66 k = kI 33 by rw [r4, h10]; rfl, if_neg (by decide), if_neg (by decide)]
          have hh := evI_not hI0 hkb hs h10
          have hn := hh.1
          have hnx := hh.2
          have htp := tpI_pos hn
          rw [htp, if_pos (nI_pos' (by omega)), if_pos rfl, nI_clamp (by omega)]
          have hib2 : inB (nI (n - 1)) 64 = true := inB_nI (by omega) (by decide)
          refine ⟨hib2, hib2, ?_⟩
          have := ih (k + 1) n (dn + 1) _ (up2 u 86 (n - 1) (kI 1 - u 86 (n - 1))) (by omega) (by omega) (by rw [up86]; exact hnx) hS1 (fr2 _ _)
          rw [htp] at this
          exact this
        · rw [if_neg h10]
          by_cases h11 : 11 ≤ op k
          · rw [if_pos h11]
            obtain ⟨hn, hj1, hj2, hj3⟩ := evI_jmp hI0 hkb hs h11
            have htp := tpI_pos hn
            have hib2 : inB (nI (n - 1)) 64 = true := inB_nI (by omega) (by decide)
            have hjb := hj2.1
            have hmx : (if nI (k + 1) < nI (ar k) then nI (ar k) else nI (k + 1)) = nI (ar k) := by
              by_cases e : ar k = k + 1
              · rw [e, if_neg Int32.lt_irrefl]
              · rw [if_pos (nI_lt (by omega) (by omega))]
            have A := ih (ar k) n (dn + 1) s u (by omega) (by omega) hj2 (fun j h1 h2 => hS j (by omega) h2) hfr
            have B := ih (k + 1) (n - 1) (dn + 1) s u (by omega) (by omega) hj3 hS1 hfr
            rw [htp] at A
            rw [← tpI_dn hn, htp, ← sub1] at B
            rw [htp, if_pos (nI_pos' (by omega)), nI_clamp (by omega), i5 (n - 1) (by omega), hmx]
            by_cases h12 : op k = 12
            · rw [if_pos h12, show w 66 k = kI 124 by rw [r4, h12]; rfl, if_neg (by decide), if_neg (by decide), if_neg (by decide), if_neg (by decide), if_pos rfl]
              refine ⟨hib2, ?_⟩
              by_cases e : s (n - 1) = kI 1
              · rw [if_pos e, if_pos e]; exact A
              · rw [if_neg e, if_neg e]; exact B
            · have h11b : op k = 11 := by omega
              rw [if_neg h12, show w 66 k = kI 38 by rw [r4, h11b]; rfl, if_neg (by decide), if_neg (by decide), if_neg (by decide), if_pos rfl]
              refine ⟨hib2, ?_⟩
              rw [if_neg (by decide)]
              by_cases e : s (n - 1) = kI 0
              · rw [if_pos e, if_pos e]; exact A
              · rw [if_neg e, if_neg e]; exact B
          · rw [if_neg h11]
            have g2 : 2 ≤ op k := by omega
            have g9 : op k ≤ 9 := by omega
            obtain ⟨hn, hnx⟩ := evI_bin hI0 hkb hs g2 g9
            obtain ⟨n1, n2, n3, n4, n5⟩ := sg_ne g2 g9
            have htp := tpI_pos (n := n) (by omega)
            have hib2 : inB (nI (n - 1)) 64 = true := inB_nI (by omega) (by decide)
            have hib3 : inB (nI (n - 2)) 64 = true := inB_nI (by omega) (by decide)
            have e1 : nI (n - 1) + kI (-1) = nI (n - 2) := by rw [show nI (n - 1) + kI (-1) = nI (n - 1 - 1) from sb_m1 (by omega)]; rfl
            have e2 : nI (n - 2) + kI 1 = nI (n - 1) := by rw [k1, show n - 2 + 1 = n - 1 by omega]
            rw [r4, if_neg n1, if_neg n2, htp, if_pos (nI_pos' (by omega)), if_neg n3, if_neg n4, if_neg n5, if_neg (show ¬ nI (n - 1) < kI 1 from nI_nlt (b := 1) (by omega) (by omega)), e1, e2, nI_clamp (by omega), nI_clamp (by omega)]
            refine ⟨hib2, ?_⟩
            have e5 := i5 (n - 1) (by omega)
            by_cases hz : (op k = 5 ∨ op k = 6) ∧ s (n - 1) = 0
            · rw [if_pos hz, if_neg (by rw [rf_48 u g2 g9, e5]; exact fun h => h hz)]
              exact ⟨rfl, hfr⟩
            · rw [if_neg hz, if_pos (by rw [rf_48 u g2 g9, e5]; exact hz), rk_49 u g2 g9 (by rw [e5]; exact hz)]
              refine ⟨hib3, hib2, fun _ h => h, fun _ _ _ _ _ h => h, hib3, ?_⟩
              have := ih (k + 1) (n - 1) (dn + 1) _ (up2 u 86 (n - 2) (rkO (op k) (u 86 (n - 2)) (u 86 (n - 1)))) (by omega) (by omega) (by rw [up86]; exact hnx) hS1 (fr2 _ _)
              rw [← tpI_dn (n := n) (by omega), htp, e1] at this
              exact this
theorem c_46_65 {X : Scr} {d a b : Nat} {w : Wd} {op ar : Nat → Nat} {V : Nat → Int32} {isC : Bool} (hab : a ≤ b) (hb : b ≤ 80) (hc : ∀ k, k < b → ∃ cd, CRel (w 66 k) (w 67 k) cd (op k) (ar k)) (hV : ∀ j, j < 12 → w 85 j = V j) (hS : SEGW op ar a b isC) : CI X (d + 2) 46 [.ref 84, .ref 65, .int (nI a), .int (nI b)] w (fun x w1 => x = evF op ar V b 300 a 0 (fun _ => 0) ∧ ∀ c, c ≠ 86 → w1 c = w c) := by
  obtain ⟨ht, tb, s1, s2, s3, s4, s5⟩ := hS
  refine CI.of rfl (t46_84_65_at0 w _ _ ?_)
  have e1 : (if (if (Int32.ofNat 80) < (Int32.ofNat 80) then (Int32.ofNat 80) else (Int32.ofNat 80)) < nI b then (if (Int32.ofNat 80) < (Int32.ofNat 80) then (Int32.ofNat 80) else (Int32.ofNat 80)) else nI b) = nI b := by
    rw [if_neg (show ¬ (Int32.ofNat 80) < (Int32.ofNat 80) from Int32.lt_irrefl), if_neg (show ¬ (Int32.ofNat 80) < nI b from nI_nlt (b := b) (a := 80) hb (by decide))]
  have e2 : (if (kI 0) < nI a then nI a else (kI 0)) = nI a := by
    by_cases h : a = 0
    · subst h; rfl
    · rw [if_pos (show kI 0 < nI a from nI_lt (a := 0) (by omega) (by omega))]
  rw [e1, e2]
  exact ev_46_65 (ht := ht) (tb := tb) hb hc hV 300 a 0 0 (fun _ => 0) w (by omega) (by omega) ⟨hab, s1, s2, by omega, fun i hi => by omega, fun h => by rw [s4] at h; cases h⟩ s5 (fun _ _ => rfl)
theorem ev_46_72 {X : Scr} {d b : Nat} {v2 v3 : Int32} {w : Wd} {op ar ht : Nat → Nat} {tb : Nat → Bool} {V : Nat → Int32} (hb : b ≤ 80) (hc : ∀ k, k < b → ∃ cd, CRel (w 73 k) (w 74 k) cd (op k) (ar k)) (hV : ∀ j, j < 12 → w 85 j = V j) : ∀ (f k n dn : Nat) (s : Nat → Int32) (u : Wd), b - k < f → dn ≤ k → evI op ar ht tb b k n s (u 86) → (∀ j, k ≤ j → j < b → stOK op ar ht tb b j) → (∀ a, a ≠ 86 → u a = w a) → EI X (d + 1) 46 (40, [some (.ref 84), some (.ref 72), some (.int v2), some (.int v3), some (.ref 73), some (.ref 74), some (.int (nI b)), some (.int (tpI n)), some (.int (nI k)), some (.int (nI dn)), none, none, none], [], SH, u) (fun x w1 => x = evF op ar V b f k n s ∧ ∀ a, a ≠ 86 → w1 a = w a) := by
  intro f
  induction f with
  | zero => intro k n dn s u h; omega
  | succ f ih =>
    intro k n dn s u hf hdn hI hS hfr
    have hI0 := hI
    obtain ⟨i1, i2, i3, i4, i5, i6⟩ := hI
    refine t46_84_72_at40 u _ _ _ _ _ _ ?_
    unfold evF
    by_cases hk : b ≤ k
    · have hkb : k = b := by omega
      have hn : n = 1 := by rw [← i2, hkb]; exact i3
      subst hn
      rw [if_pos hk]
      have fin : (if 0 ≤ tpI 1 then (inB (tpI 1) 64 = true ∧ (u 86 (tpI 1).toNatClampNeg = s 0 ∧ ∀ a, a ≠ 86 → u a = w a)) else (kI 0 = s 0 ∧ ∀ a, a ≠ 86 → u a = w a)) := by
        rw [if_pos (by decide)]
        exact ⟨by decide, i5 0 (by omega), hfr⟩
      by_cases h240 : kI 240 ≤ nI dn
      · rw [if_pos h240]
        exact fin
      · rw [if_neg h240, if_pos (nI_le hk (by omega))]
        exact fin
    · have hkb : k < b := by omega
      rw [if_neg hk, if_neg (lt_240 dn (by omega)), if_neg (nI_ge hkb (by omega)), nI_clamp (by omega), hfr 73 (by decide), hfr 74 (by decide), k1, k1]
      obtain ⟨cd, r1, r2, r3, r4, r5⟩ := hc k hkb
      have hs := hS k (Nat.le_refl _) hkb
      have hS1 : ∀ j, k + 1 ≤ j → j < b → stOK op ar ht tb b j := fun j h1 h2 => hS j (by omega) h2
      have hib : inB (nI k) 80 = true := inB_nI (by omega) (by decide)
      refine ⟨hib, hib, ?_⟩
      rw [r5]
      have fr2 : ∀ i v, ∀ a, a ≠ 86 → (up2 u 86 i v) a = w a := fun i v a ha => by rw [up2_ne ha]; exact hfr a ha
      have up86 : ∀ i v, (up2 u 86 i v) 86 = upd (u 86) i v := fun i v => up2_self
      by_cases h1 : op k ≤ 1
      · have hpu := fun v => evI_push (v := v) hI0 hkb hs h1
        have hs2 := hs
        unfold stOK at hs2
        rw [if_pos h1] at hs2
        rw [if_pos h1, tpI_up, nI_clamp (by omega)]
        have hlt : nI n < kI 64 := nI_lt (b := 64) (by omega) (by decide)
        have hib2 : inB (nI n) 64 = true := inB_nI (by omega) (by decide)
        by_cases h0 : op k = 0
        · rw [if_pos h0, show w 73 k = kI 1 by rw [r4, h0]; rfl, if_pos rfl, if_pos hlt]
          refine ⟨hib2, ?_⟩
          have := ih (k + 1) (n + 1) (dn + 1) (upd s n (nI (ar k))) (up2 u 86 n (nI (ar k))) (by omega) (by omega) (by rw [up86]; exact hpu _) hS1 (fr2 _ _)
          rw [show tpI (n + 1) = nI n from tpI_pos (n := n + 1) (by omega)] at this
          exact this
        · have h01 : op k = 1 := by omega
          rw [if_neg h0, show w 73 k = kI 2 by rw [r4, h01]; rfl, if_neg (by decide), if_pos rfl, if_pos hlt]
          have har := hs2.2.2.2 h01
          have e47 : F_47_84 (nI (ar k)) u = V (ar k) := by
            unfold F_47_84
            rw [if_neg (nI_pos (by omega)), if_neg (lt_12 _ har), nI_clamp (by omega), hfr 85 (by decide), hV _ har]
          rw [e47]
          refine ⟨fun _ _ => inB_nI har (by decide), hib2, ?_⟩
          have := ih (k + 1) (n + 1) (dn + 1) (upd s n (V (ar k))) (up2 u 86 n (V (ar k))) (by omega) (by omega) (by rw [up86]; exact hpu _) hS1 (fr2 _ _)
          rw [show tpI (n + 1) = nI n from tpI_pos (n := n + 1) (by omega)] at this
          exact this
      · rw [if_neg h1]
        by_cases h10 : op k = 10
        · rw [if_pos h10, show w 73 k = kI 33 by rw [r4, h10]; rfl, if_neg (by decide), if_neg (by decide)]
          have hh := evI_not hI0 hkb hs h10
          have hn := hh.1
          have hnx := hh.2
          have htp := tpI_pos hn
          rw [htp, if_pos (nI_pos' (by omega)), if_pos rfl, nI_clamp (by omega)]
          have hib2 : inB (nI (n - 1)) 64 = true := inB_nI (by omega) (by decide)
          refine ⟨hib2, hib2, ?_⟩
          have := ih (k + 1) n (dn + 1) _ (up2 u 86 (n - 1) (kI 1 - u 86 (n - 1))) (by omega) (by omega) (by rw [up86]; exact hnx) hS1 (fr2 _ _)
          rw [htp] at this
          exact this
        · rw [if_neg h10]
          by_cases h11 : 11 ≤ op k
          · rw [if_pos h11]
            obtain ⟨hn, hj1, hj2, hj3⟩ := evI_jmp hI0 hkb hs h11
            have htp := tpI_pos hn
            have hib2 : inB (nI (n - 1)) 64 = true := inB_nI (by omega) (by decide)
            have hjb := hj2.1
            have hmx : (if nI (k + 1) < nI (ar k) then nI (ar k) else nI (k + 1)) = nI (ar k) := by
              by_cases e : ar k = k + 1
              · rw [e, if_neg Int32.lt_irrefl]
              · rw [if_pos (nI_lt (by omega) (by omega))]
            have A := ih (ar k) n (dn + 1) s u (by omega) (by omega) hj2 (fun j h1 h2 => hS j (by omega) h2) hfr
            have B := ih (k + 1) (n - 1) (dn + 1) s u (by omega) (by omega) hj3 hS1 hfr
            rw [htp] at A
            rw [← tpI_dn hn, htp, ← sub1] at B
            rw [htp, if_pos (nI_pos' (by omega)), nI_clamp (by omega), i5 (n - 1) (by omega), hmx]
            by_cases h12 : op k = 12
            · rw [if_pos h12, show w 73 k = kI 124 by rw [r4, h12]; rfl, if_neg (by decide), if_neg (by decide), if_neg (by decide), if_neg (by decide), if_pos rfl]
              refine ⟨hib2, ?_⟩
              by_cases e : s (n - 1) = kI 1
              · rw [if_pos e, if_pos e]; exact A
              · rw [if_neg e, if_neg e]; exact B
            · have h11b : op k = 11 := by omega
              rw [if_neg h12, show w 73 k = kI 38 by rw [r4, h11b]; rfl, if_neg (by decide), if_neg (by decide), if_neg (by decide), if_pos rfl]
              refine ⟨hib2, ?_⟩
              rw [if_neg (by decide)]
              by_cases e : s (n - 1) = kI 0
              · rw [if_pos e, if_pos e]; exact A
              · rw [if_neg e, if_neg e]; exact B
          · rw [if_neg h11]
            have g2 : 2 ≤ op k := by omega
            have g9 : op k ≤ 9 := by omega
            obtain ⟨hn, hnx⟩ := evI_bin hI0 hkb hs g2 g9
            obtain ⟨n1, n2, n3, n4, n5⟩ := sg_ne g2 g9
            have htp := tpI_pos (n := n) (by omega)
            have hib2 : inB (nI (n - 1)) 64 = true := inB_nI (by omega) (by decide)
            have hib3 : inB (nI (n - 2)) 64 = true := inB_nI (by omega) (by decide)
            have e1 : nI (n - 1) + kI (-1) = nI (n - 2) := by rw [show nI (n - 1) + kI (-1) = nI (n - 1 - 1) from sb_m1 (by omega)]; rfl
            have e2 : nI (n - 2) + kI 1 = nI (n - 1) := by rw [k1, show n - 2 + 1 = n - 1 by omega]
            rw [r4, if_neg n1, if_neg n2, htp, if_pos (nI_pos' (by omega)), if_neg n3, if_neg n4, if_neg n5, if_neg (show ¬ nI (n - 1) < kI 1 from nI_nlt (b := 1) (by omega) (by omega)), e1, e2, nI_clamp (by omega), nI_clamp (by omega)]
            refine ⟨hib2, ?_⟩
            have e5 := i5 (n - 1) (by omega)
            by_cases hz : (op k = 5 ∨ op k = 6) ∧ s (n - 1) = 0
            · rw [if_pos hz, if_neg (by rw [rf_48 u g2 g9, e5]; exact fun h => h hz)]
              exact ⟨rfl, hfr⟩
            · rw [if_neg hz, if_pos (by rw [rf_48 u g2 g9, e5]; exact hz), rk_49 u g2 g9 (by rw [e5]; exact hz)]
              refine ⟨hib3, hib2, fun _ h => h, fun _ _ _ _ _ h => h, hib3, ?_⟩
              have := ih (k + 1) (n - 1) (dn + 1) _ (up2 u 86 (n - 2) (rkO (op k) (u 86 (n - 2)) (u 86 (n - 1)))) (by omega) (by omega) (by rw [up86]; exact hnx) hS1 (fr2 _ _)
              rw [← tpI_dn (n := n) (by omega), htp, e1] at this
              exact this
theorem c_46_72 {X : Scr} {d a b : Nat} {w : Wd} {op ar : Nat → Nat} {V : Nat → Int32} {isC : Bool} (hab : a ≤ b) (hb : b ≤ 80) (hc : ∀ k, k < b → ∃ cd, CRel (w 73 k) (w 74 k) cd (op k) (ar k)) (hV : ∀ j, j < 12 → w 85 j = V j) (hS : SEGW op ar a b isC) : CI X (d + 2) 46 [.ref 84, .ref 72, .int (nI a), .int (nI b)] w (fun x w1 => x = evF op ar V b 300 a 0 (fun _ => 0) ∧ ∀ c, c ≠ 86 → w1 c = w c) := by
  obtain ⟨ht, tb, s1, s2, s3, s4, s5⟩ := hS
  refine CI.of rfl (t46_84_72_at0 w _ _ ?_)
  have e1 : (if (if (Int32.ofNat 80) < (Int32.ofNat 80) then (Int32.ofNat 80) else (Int32.ofNat 80)) < nI b then (if (Int32.ofNat 80) < (Int32.ofNat 80) then (Int32.ofNat 80) else (Int32.ofNat 80)) else nI b) = nI b := by
    rw [if_neg (show ¬ (Int32.ofNat 80) < (Int32.ofNat 80) from Int32.lt_irrefl), if_neg (show ¬ (Int32.ofNat 80) < nI b from nI_nlt (b := b) (a := 80) hb (by decide))]
  have e2 : (if (kI 0) < nI a then nI a else (kI 0)) = nI a := by
    by_cases h : a = 0
    · subst h; rfl
    · rw [if_pos (show kI 0 < nI a from nI_lt (a := 0) (by omega) (by omega))]
  rw [e1, e2]
  exact ev_46_72 (ht := ht) (tb := tb) hb hc hV 300 a 0 0 (fun _ => 0) w (by omega) (by omega) ⟨hab, s1, s2, by omega, fun i hi => by omega, fun h => by rw [s4] at h; cases h⟩ s5 (fun _ _ => rfl)
end EVALC
