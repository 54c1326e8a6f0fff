/-! rising: costs, the two calls -/
section RISINGJ
theorem in12 {n : Nat} {w : Wd} (h : n < 13) : ¬ F_153 (nI n) (kI 0) (kI 12) w = 0 := by
  have := within_nI (n := n) (a := 0) (b := 12) (w := w) (by omega) (by decide) (by decide)
  rw [if_pos (by omega)] at this
  intro e
  rw [show F_153 (nI n) (kI 0) (kI 12) w = 1 from this] at e
  exact absurd e (by decide)
theorem lv_41 {l : Nat} {w : Wd} (hl : l < 12) : F_41_95 (nI l) w = w 99 l := by
  unfold F_41_95; rw [if_neg (in11 hl), nI_clamp (by omega)]
theorem tl_42 {m l : Nat} {w : Wd} (hm : m < 13) (hl : l < 12) : F_42_95 (nI m) (nI l) w = w 100 (12 * m + l) := by
  unfold F_42_95; rw [if_neg (in12 hm), if_neg (in11 hl), ixH, nI_clamp (by omega)]
def RS (w : Wd) (r S : Nat → Nat) : Prop := ∀ i, i < 12 → w 98 i = nI (r i) ∧ w 99 i = nI (S i)
theorem cs_40 {m l : Nat} {w : Wd} {r S : Nat → Nat} (hR : RS w r S) (hB : RB r S) (hm : m < 12) (hl : l < 12) (ht : w 100 (12 * (m + 1) + l) = nI (tl r S (11 - m) l)) : F_40_95 (nI m) (nI l) w = nI (cst r S (11 - m) l) := by
  have b1 := (hB m hm).1
  have b2 := (hB l hl).2
  unfold F_40_95
  rw [if_neg (in11 hm), lv_41 hl, nI_clamp (by omega), (hR m hm).1, (hR l hl).2, abs_sub (by omega) (by omega), k1, tl_42 (by omega) hl, ht, nI_add]
  unfold cst
  rw [show 11 - (11 - m) = m by omega]
def TW (w u : Wd) (r S : Nat → Nat) (m0 : Nat) : Prop := (∀ m j, m0 ≤ m → m ≤ 12 → j < 12 → u 100 (12 * m + j) = nI (tl r S (12 - m) j)) ∧ ∀ a, a ≠ 100 → u a = w a
theorem ix144 (j : Nat) : (kI 144) + nI j = nI (144 + j) := nI_add 144 j
theorem l_39a {X : Scr} {d : Nat} {w : Wd} {Q : Wd → Prop} (kk : ∀ u : Wd, (∀ j, j < 12 → u 100 (144 + j) = nI 0) → (∀ a, a ≠ 100 → u a = w a) → EU X (d + 3) 39 (28, [some (.ref 95), some (.int (kI 11)), none, none], [], SH, u) Q) : ∀ (n j : Nat) (u : Wd), j + n = 12 → (∀ i, i < j → u 100 (144 + i) = nI 0) → (∀ a, a ≠ 100 → u a = w a) → EU X (d + 3) 39 (2, [some (.ref 95), some (.int (nI j)), none, none], [], SH, u) Q := by
  intro n
  induction n with
  | zero =>
    intro j u h h1 h2
    have e : j = 12 := by omega
    subst e
    refine t39_95_at2 u _ ?_
    rw [if_pos (by decide)]
    exact kk u h1 h2
  | succ n ih =>
    intro j u h h1 h2
    refine t39_95_at2 u _ ?_
    rw [if_neg (lt_12 j (by omega)), ix144, nI_clamp (by omega), k1]
    refine ⟨inB_nI (by omega) (by decide), ih (j + 1) _ (by omega) (fun i hi => ?_) (fun a ha => by rw [up2_ne ha]; exact h2 a ha)⟩
    rw [up2_at]
    by_cases e : i = j
    · rw [if_pos (by omega)]; rfl
    · rw [if_neg (by omega)]; exact h1 i (by omega)
theorem tpI_neg : tpI 0 < 0 := by decide
theorem tpI_nn {n : Nat} (h : n < 2 ^ 31) : ¬ tpI (n + 1) < 0 := by
  rw [tpI_pos (by omega)]
  exact nI_pos (by omega)
theorem tpI_s (n : Nat) : tpI (n + 1) = nI n := by
  rw [tpI_pos (by omega)]; rfl
theorem tpI_m (n : Nat) : nI n + kI (-1) = tpI n := rfl
theorem l_39c {X : Scr} {d m : Nat} {w : Wd} {r S : Nat → Nat} {Q : Wd → Prop} (hR : RS w r S) (hB : RB r S) (hm : m < 12) (kk : ∀ u : Wd, TW w u r S m → EU X (d + 3) 39 (28, [some (.ref 95), some (.int (tpI m)), none, none], [], SH, u) Q) : ∀ (n : Nat) (u : Wd), n ≤ 12 → TW w u r S (m + 1) → (∀ j, n ≤ j → j < 12 → u 100 (12 * m + j) = nI (tl r S (12 - m) j)) → EU X (d + 3) 39 (43, [some (.ref 95), some (.int (nI m)), some (.int (nI (mnU (cst r S (11 - m)) (12 - n)))), some (.int (tpI n))], [], SH, u) Q := by
  intro n
  induction n with
  | zero =>
    intro u hn hT h1
    refine t39_95_at43 u _ _ _ ?_
    rw [if_pos tpI_neg, tpI_m]
    refine kk u ⟨fun m2 j h2 h3 h4 => ?_, hT.2⟩
    by_cases e : m2 = m
    · rw [e]; exact h1 j (by omega) h4
    · exact hT.1 m2 j (by omega) h3 h4
  | succ n ih =>
    intro u hn hT h1
    refine t39_95_at43 u _ _ _ ?_
    have hRu : RS u r S := fun i hi => by rw [hT.2 98 (by decide), hT.2 99 (by decide)]; exact hR i hi
    have ht := hT.1 (m + 1) n (by omega) (by omega) (by omega)
    rw [show 12 - (m + 1) = 11 - m by omega] at ht
    have b1 := cst_le hB (k := 11 - m) (j := n) (by omega) (by omega)
    have b2 := mnU_11 (f := cst r S (11 - m)) (12 - (n + 1))
    have b3 := cst_le hB (k := 11 - m) (j := 11) (by omega) (by omega)
    rw [if_neg (tpI_nn (by omega)), tpI_s, tpI_m, cs_40 hRu hB hm (by omega) ht, mn_nI (by omega) (by omega), ixH, nI_clamp (by omega)]
    have e : min (cst r S (11 - m) n) (mnU (cst r S (11 - m)) (12 - (n + 1))) = mnU (cst r S (11 - m)) (12 - n) := by
      rw [show 12 - n = 12 - (n + 1) + 1 by omega]
      show _ = min (cst r S (11 - m) (11 - (12 - (n + 1)))) (mnU (cst r S (11 - m)) (12 - (n + 1)))
      rw [show 11 - (12 - (n + 1)) = n by omega]
    rw [e]
    refine ⟨inB_nI (by omega) (by decide), ih _ (by omega) ⟨fun m2 j h2 h3 h4 => ?_, fun a ha => by rw [up2_ne ha]; exact hT.2 a ha⟩ (fun j h2 h3 => ?_)⟩
    · rw [up2_at, if_neg (by omega)]
      exact hT.1 m2 j h2 h3 h4
    · rw [up2_at]
      by_cases e2 : j = n
      · rw [if_pos (by omega), e2, show 12 - m = 11 - m + 1 by omega, tl_s]
      · rw [if_neg (by omega)]; exact h1 j (by omega) h3
theorem l_39b {X : Scr} {d : Nat} {w : Wd} {r S : Nat → Nat} (hR : RS w r S) (hB : RB r S) : ∀ (n : Nat) (u : Wd), n ≤ 12 → TW w u r S n → EU X (d + 3) 39 (28, [some (.ref 95), some (.int (tpI n)), none, none], [], SH, u) (fun u2 => TW w u2 r S 0) := by
  intro n
  induction n with
  | zero =>
    intro u hn hT
    refine t39_95_at28 u _ ?_
    rw [if_pos tpI_neg]
    exact hT
  | succ n ih =>
    intro u hn hT
    have hRu : RS u r S := fun i hi => by rw [hT.2 98 (by decide), hT.2 99 (by decide)]; exact hR i hi
    have ht := hT.1 (n + 1) 11 (by omega) (by omega) (by omega)
    rw [show 12 - (n + 1) = 11 - n by omega] at ht
    refine t39_95_at28 u _ ?_
    rw [if_neg (tpI_nn (by omega)), tpI_s, show F_40_95 (nI n) (kI 11) u = nI (cst r S (11 - n) 11) from cs_40 (l := 11) hRu hB (by omega) (by decide) ht]
    exact l_39c (X := X) (d := d) (w := w) (r := r) (S := S) hR hB (by omega) (fun u2 h2 => ih u2 (by omega) h2) 12 u (by omega) hT (fun j h1 h2 => by omega)
theorem c_39 {X : Scr} {d : Nat} {w : Wd} {r S : Nat → Nat} (hR : RS w r S) (hB : RB r S) : CU X (d + 4) 39 [.ref 95] w (fun u2 => TW w u2 r S 0) := by
  refine CU.of rfl (t39_95_at0 (d := d) w ?_)
  refine l_39a (d := d) ?_ 12 0 w rfl (fun i hi => by omega) (fun _ _ => rfl)
  intro u h1 h2
  refine l_39b hR hB 12 u (by omega) ⟨fun m j h3 h4 h5 => ?_, h2⟩
  have e : m = 12 := by omega
  subst e
  exact h1 j h5
/-- the search for the level -/
theorem l_36c {X : Scr} {d m a b : Nat} {v2 : Int32} {w : Wd} {r S : Nat → Nat} {Q : Wd → Prop} (hR : RS w r S) (hB : RB r S) (hm : m < 12) (ht : ∀ j, j < 12 → w 100 (12 * (m + 1) + j) = nI (tl r S (11 - m) j)) (hb : b < 12) (hlow : ∀ i, a ≤ i → i < b → cst r S (11 - m) b < cst r S (11 - m) i) (kk : EU X (d + 3) 36 (49, [some (.ref 95), some (.ref 7), some (.int v2), some (.int (nI b)), some (.int (nI (m + 1))), none, none], [], SH, up2 w 101 m (nI (S b))) Q) : ∀ (n i : Nat), a ≤ i → i + n = b → EU X (d + 3) 36 (68, [some (.ref 95), some (.ref 7), some (.int v2), some (.int (nI i)), some (.int (nI m)), some (.int (nI (cst r S (11 - m) b))), some (.int (nI (i - a)))], [], SH, w) Q := by
  intro n
  have cb := cst_le hB (k := 11 - m) (j := b) (by omega) hb
  induction n with
  | zero =>
    intro i h1 h2
    have e : i = b := by omega
    subst e
    refine t36_95_7_at68 w _ _ _ _ _ ?_
    rw [if_neg (lt_12 (i - a) (by omega)), cs_40 hR hB hm hb (ht i hb), if_pos (nI_le (Nat.le_refl _) (by omega)), k1, nI_clamp (by omega), lv_41 hb, (hR i hb).2]
    exact ⟨inB_nI hm (by decide), kk⟩
  | succ n ih =>
    intro i h1 h2
    have ci := cst_le hB (k := 11 - m) (j := i) (by omega) (by omega)
    have hl := hlow i h1 (by omega)
    refine t36_95_7_at68 w _ _ _ _ _ ?_
    rw [if_neg (lt_12 (i - a) (by omega)), cs_40 hR hB hm (by omega) (ht i (by omega)), if_neg (nI_ge hl (by omega)), k1, k1]
    have g := ih (i + 1) (by omega) (by omega)
    rw [show i + 1 - a = i - a + 1 by omega] at g
    exact g
theorem l_36b {X : Scr} {d : Nat} {v2 : Int32} {w : Wd} {r S : Nat → Nat} (hR : RS w r S) (hB : RB r S) (ht : ∀ m j, m ≤ 12 → j < 12 → w 100 (12 * m + j) = nI (tl r S (12 - m) j)) : ∀ (n m : Nat) (u : Wd), m + n = 12 → (∀ a, a ≠ 101 → u a = w a) → (∀ i, i < m → u 101 i = nI (S (atF r S (i + 1)))) → EU X (d + 3) 36 (49, [some (.ref 95), some (.ref 7), some (.int v2), some (.int (nI (atF r S m))), some (.int (nI m)), none, none], [], SH, u) (fun u2 => (∀ a, a ≠ 101 → u2 a = w a) ∧ ∀ i, i < 12 → u2 101 i = nI (S (atF r S (i + 1)))) := by
  intro n
  induction n with
  | zero =>
    intro m u h hF h1
    have e : m = 12 := by omega
    subst e
    refine t36_95_7_at49 u _ _ _ ?_
    rw [if_pos (by decide)]
    exact ⟨hF, h1⟩
  | succ n ih =>
    intro m u h hF h1
    have hm : m < 12 := by omega
    have ha := atF_le (r := r) (S := S) m
    have hb := atF_le (r := r) (S := S) (m + 1)
    have hRu : RS u r S := fun i hi => by rw [hF 98 (by decide), hF 99 (by decide)]; exact hR i hi
    obtain ⟨i1, i2, i3, i4⟩ := amF_is (f := cst r S (11 - m)) (a := atF r S m) (11 - atF r S m)
    have hmin := am_min (r := r) (S := S) (k := 11 - m) ha
    refine t36_95_7_at49 u _ _ _ ?_
    rw [if_neg (lt_12 m hm), tl_42 (by omega) (by omega), hF 100 (by decide), ht m _ (by omega) (by omega), show 12 - m = 11 - m + 1 by omega, ← hmin]
    have g := l_36c (X := X) (d := d) (m := m) (a := atF r S m) (b := amF (cst r S (11 - m)) (atF r S m) (11 - atF r S m)) (v2 := v2) (w := u) (Q := fun u2 => (∀ a, a ≠ 101 → u2 a = w a) ∧ ∀ i, i < 12 → u2 101 i = nI (S (atF r S (i + 1)))) hRu hB hm (fun j hj => by rw [hF 100 (by decide), ht (m + 1) j (by omega) hj, show 12 - (m + 1) = 11 - m by omega]) (by omega) i4 ?_ (amF (cst r S (11 - m)) (atF r S m) (11 - atF r S m) - atF r S m) (atF r S m) (Nat.le_refl _) (by omega)
    · rw [Nat.sub_self] at g
      exact g
    · refine ih (m + 1) _ (by omega) (fun a ha => by rw [up2_ne ha]; exact hF a ha) (fun i hi => ?_)
      rw [up2_at]
      by_cases e : i = m
      · rw [if_pos e, e]; rfl
      · rw [if_neg e]; exact h1 i (by omega)
/-- makeRising -/
theorem c_36 {X : Scr} {d f : Nat} {w : Wd} {r S : Nat → Nat} (hf : f < 6) (hB : RB r S) (hr : ∀ m, m < 12 → w 10 (12 * f + m) = nI (r m)) (hS : ∀ (L : Nat → Int32) (i : Nat), i < 12 → srF (fun m => nI (r m)) L 12 i = nI (S i)) : CU X (d + 6) 36 [.ref 95, .ref 7, .int (nI f)] w (fun u2 => u2 95 10 = nI (tl r S 12 0) ∧ (∀ i, i < 12 → u2 101 i = nI (S (atF r S (i + 1)))) ∧ (∀ a, a ≠ 95 → a ≠ 98 → a ≠ 99 → a ≠ 100 → a ≠ 101 → u2 a = w a)) := by
  have fillR : ∀ (n m : Nat) (u : Wd) (Q : Wd → Prop), m + n = 12 → (∀ a, a ≠ 98 → u a = w a) → (∀ i, i < m → u 98 i = nI (r i)) → (∀ u2 : Wd, (∀ a, a ≠ 98 → u2 a = w a) → (∀ i, i < 12 → u2 98 i = nI (r i)) → EU X (d + 5) 36 (2, [some (.ref 95), some (.ref 7), some (.int (nI f)), some (.int (nI 12)), none, none, none], [], SH, u2) Q) → EU X (d + 5) 36 (2, [some (.ref 95), some (.ref 7), some (.int (nI f)), some (.int (nI m)), none, none, none], [], SH, u) Q := by
    intro n
    induction n with
    | zero =>
      intro m u Q h hF h1 kk
      have e : m = 12 := by omega
      subst e
      exact kk u hF h1
    | succ n ih =>
      intro m u Q h hF h1 kk
      refine t36_95_7_at2 (d := d + 2) u _ _ ?_
      rw [if_neg (lt_12 m (by omega)), nI_clamp (by omega), k1, histOf7 hf (by omega), hF 10 (by decide), hr m (by omega)]
      refine ⟨inB_nI (by omega) (by decide), ih (m + 1) _ Q (by omega) (fun a ha => by rw [up2_ne ha]; exact hF a ha) (fun i hi => ?_) kk⟩
      rw [up2_at]
      by_cases e : i = m
      · rw [if_pos e, e]
      · rw [if_neg e]; exact h1 i (by omega)
  refine CU.of rfl (t36_95_7_at0 (d := d + 2) w _ ?_)
  refine fillR 12 0 w _ rfl (fun _ _ => rfl) (fun i hi => by omega) ?_
  intro u1 hF1 h98
  refine t36_95_7_at2 (d := d + 2) u1 _ _ ?_
  rw [if_pos (by decide)]
  refine CU.mono (CU.of (d := d + 4) rfl (t38_95_at0 (d := d + 3) u1 (l_38 (d := d + 3) (w := u1) 12 0 u1 rfl (fun _ _ => rfl) rfl))) ?_
  intro u2 hU
  obtain ⟨hF2, h99⟩ := hU
  have hR2 : RS u2 r S := fun i hi => by
    rw [hF2 98 (by decide), h99, srF_v (v2 := fun m => nI (r m)) 12 (fun i hi => h98 i hi)]
    exact ⟨h98 i hi, hS _ i hi⟩
  refine CU.mono (c_39 (d := d + 1) hR2 hB) ?_
  intro u3 hT
  have fr : ∀ a, a ≠ 98 → a ≠ 99 → a ≠ 100 → u3 a = w a := fun a h1 h2 h3 => by rw [hT.2 a h3, hF2 a h2, hF1 a h1]
  have e100 : u3 100 (kI 0).toNatClampNeg = nI (tl r S 12 0) := hT.1 0 0 (by omega) (by omega) (by omega)
  rw [e100]
  refine EU.mono (l_36b (d := d + 2) (w := up2 u3 95 10 (nI (tl r S 12 0))) (r := r) (S := S) (fun i hi => ?_) hB (fun m j h1 h2 => ?_) 12 0 _ rfl (fun _ _ => rfl) (fun i hi => by omega)) ?_
  · rw [up2_ne (by decide), up2_ne (by decide), hT.2 98 (by decide), hT.2 99 (by decide)]; exact hR2 i hi
  · rw [up2_ne (by decide)]; exact hT.1 m j (by omega) h1 h2
  intro u4 hU
  obtain ⟨hF4, h101⟩ := hU
  refine ⟨?_, h101, fun a a1 a2 a3 a4 a5 => ?_⟩
  · rw [hF4 95 (by decide), up2_at, if_pos rfl]
  · rw [hF4 a a5, up2_ne a1, fr a a2 a3 a4]
/-! the reference -/
def CO (w u : Wd) (r S : Nat → Nat) (m0 : Nat) : Prop := (∀ m j, m0 ≤ m → m < 12 → j < 12 → u 151 (12 * m + j) = nI (cst r S (11 - m) j)) ∧ ∀ a, a ≠ 151 → u a = w a
theorem ixK (m j : Nat) : ((kI 12) * nI m) + nI j = nI (12 * m + j) := by
  show (nI 12 * nI m) + nI j = _
  rw [pk_mul, nI_add]
theorem l_250c {X : Scr} {d f m : Nat} {w : Wd} {r S : Nat → Nat} {Q : Wd → Prop} (hf : f < 6) (hB : RB r S) (hm : m < 12) (hr : ∀ m, m < 12 → w 111 (36 + 12 * f + m) = nI (r m)) (hS : ∀ i, i < 12 → w 150 i = nI (S i)) (kk : ∀ u : Wd, CO w u r S m → EU X (d + 1) 250 (86, [some (.ref 110), some (.int (nI f)), some (.int (tpI m)), none, none], [], SH, u) Q) : ∀ (n : Nat) (u : Wd) (z : Int32), n ≤ 12 → CO w u r S (m + 1) → (∀ j, n ≤ j → j < 12 → u 151 (12 * m + j) = nI (cst r S (11 - m) j)) → (m ≠ 11 → z = if n = 12 then kI 100000000 else nI (tl r S (11 - m) n)) → EU X (d + 1) 250 (98, [some (.ref 110), some (.int (nI f)), some (.int (nI m)), some (.int z), some (.int (tpI n))], [], SH, u) Q := by
  intro n
  induction n with
  | zero =>
    intro u z hn hT h1 hz
    refine t250_110_at98 u _ _ _ _ ?_
    rw [if_pos tpI_neg, tpI_m]
    refine kk u ⟨fun m2 j h2 h3 h4 => ?_, hT.2⟩
    by_cases e : m2 = m
    · rw [e]; exact h1 j (by omega) h4
    · exact hT.1 m2 j (by omega) h3 h4
  | succ n ih =>
    intro u z hn hT h1 hz
    have b1 := (hB m hm).1
    have b2 := (hB n (by omega)).2
    have eabs : F_160 ((u 111 (36 + 12 * f + m)) - (u 150 n)) u = nI (dst (r m) (S n)) := by
      rw [hT.2 111 (by decide), hT.2 150 (by decide), hr m hm, hS n (by omega), abs_160 (by omega) (by omega)]
    have ec : cst r S (11 - m) n = dst (r m) (S n) + tl r S (11 - m) n := by
      unfold cst
      rw [show 11 - (11 - m) = m by omega]
    have fin : ∀ y : Int32, y = nI (cst r S (11 - m) n) → (CO w (up2 u 151 (12 * m + n) y) r S (m + 1) ∧ ∀ j, n ≤ j → j < 12 → (up2 u 151 (12 * m + n) y) 151 (12 * m + j) = nI (cst r S (11 - m) j)) := by
      intro y hy
      refine ⟨⟨fun m2 j h2 h3 h4 => ?_, fun a ha => by rw [up2_ne ha]; exact hT.2 a ha⟩, fun j h2 h3 => ?_⟩
      · rw [up2_at, if_neg (by omega)]; exact hT.1 m2 j h2 h3 h4
      · rw [up2_at]
        by_cases e2 : j = n
        · rw [if_pos (by omega), hy, e2]
        · rw [if_neg (by omega)]; exact h1 j (by omega) h3
    refine t250_110_at98 u _ _ _ _ ?_
    rw [if_neg (tpI_nn (by omega)), tpI_s, tpI_m, ixG, ixK, nI_clamp (by omega), nI_clamp (by omega), nI_clamp (by omega)]
    by_cases e11 : m = 11
    · rw [if_pos (show nI m = kI 11 by rw [e11]; rfl), eabs, add0]
      have ty : tl r S (11 - m) n = 0 := by rw [e11]; rfl
      rw [ty, Nat.add_zero] at ec
      obtain ⟨f1, f2⟩ := fin _ (by rw [ec])
      exact ⟨inB_nI (by omega) (by decide), inB_nI (by omega) (by decide), inB_nI (by omega) (by decide), ih _ _ (by omega) f1 f2 (fun e => absurd e11 e)⟩
    · have hz2 := hz e11
      obtain ⟨k, hk⟩ : ∃ k, 11 - m = k + 1 := ⟨11 - m - 1, by omega⟩
      rw [if_neg (show ¬ nI m = kI 11 from fun e => e11 (nI_inj (by omega) (by decide) e)), k1, ixK, nI_clamp (by omega), hT.1 (m + 1) n (Nat.le_refl _) (by omega) (by omega), show 11 - (m + 1) = k by omega]
      have b3 := cst_le hB (k := k) (j := n) (by omega) (by omega)
      have ez : F_158 z (nI (cst r S k n)) u = nI (tl r S (11 - m) n) := by
        rw [hz2, hk]
        by_cases e12 : n + 1 = 12
        · rw [if_pos e12, show kI 100000000 = nI 100000000 from rfl, mn_nI2 (by omega) (by omega), Nat.min_eq_left (by omega), tl_s, show 12 - n = 1 by omega]
          show _ = nI (min (cst r S k 11) (cst r S k 11))
          rw [Nat.min_self, show n = 11 by omega]
        · rw [if_neg e12, tl_s (j := n + 1), tl_s (j := n)]
          have b5 := mnU_11 (f := cst r S k) (12 - (n + 1))
          have b6 := cst_le hB (k := k) (j := 11) (by omega) (by omega)
          rw [mn_nI2 (by omega) (by omega), show 12 - n = 12 - (n + 1) + 1 by omega]
          show _ = nI (min (cst r S k (11 - (12 - (n + 1)))) (mnU (cst r S k) (12 - (n + 1))))
          rw [show 11 - (12 - (n + 1)) = n by omega]
      rw [ez, eabs, nI_add, ← ec]
      obtain ⟨f1, f2⟩ := fin _ rfl
      exact ⟨inB_nI (by omega) (by decide), inB_nI (by omega) (by decide), inB_nI (by omega) (by decide), inB_nI (by omega) (by decide), ih _ _ (by omega) f1 f2 (fun _ => by rw [if_neg (by omega)])⟩
theorem l_250b {X : Scr} {d f : Nat} {w : Wd} {r S : Nat → Nat} (hf : f < 6) (hB : RB r S) (hr : ∀ m, m < 12 → w 111 (36 + 12 * f + m) = nI (r m)) (hS : ∀ i, i < 12 → w 150 i = nI (S i)) : ∀ (n : Nat) (u : Wd), n ≤ 12 → CO w u r S n → EU X (d + 1) 250 (86, [some (.ref 110), some (.int (nI f)), some (.int (tpI n)), none, none], [], SH, u) (fun u2 => CO w u2 r S 0) := by
  intro n
  induction n with
  | zero =>
    intro u hn hT
    refine t250_110_at86 u _ _ ?_
    rw [if_pos tpI_neg]
    exact hT
  | succ n ih =>
    intro u hn hT
    refine t250_110_at86 u _ _ ?_
    rw [if_neg (tpI_nn (by omega)), tpI_s]
    exact l_250c (X := X) (d := d) (w := w) (r := r) (S := S) hf hB (by omega) hr hS (fun u2 h2 => ih u2 (by omega) h2) 12 u _ (by omega) hT (fun j h1 h2 => by omega) (fun _ => by rw [if_pos rfl])
theorem c_250 {X : Scr} {d f : Nat} {w : Wd} {r S : Nat → Nat} (hf : f < 6) (hB : RB r S) (hr : ∀ m, m < 12 → w 111 (36 + 12 * f + m) = nI (r m)) (hS : ∀ (L : Nat → Int32) (i : Nat), i < 12 → srF (fun m => nI (r m)) L 12 i = nI (S i)) : CU X (d + 2) 250 [.ref 110, .int (nI f)] w (fun u2 => (∀ i, i < 12 → u2 150 i = nI (S i)) ∧ (∀ m j, m < 12 → j < 12 → u2 151 (12 * m + j) = nI (cst r S (11 - m) j)) ∧ ∀ a, a ≠ 150 → a ≠ 151 → u2 a = w a) := by
  refine CU.of rfl (t250_110_at0 (d := d) w _ ?_)
  refine l_250s (d := d) hf ?_ 12 0 w rfl (fun _ _ => rfl) rfl
  intro u hF h150
  have hS2 : ∀ i, i < 12 → u 150 i = nI (S i) := fun i hi => by
    rw [h150, srF_v (v2 := fun m => nI (r m)) 12 (fun i hi => hr i hi)]
    exact hS _ i hi
  refine EU.mono (l_250b (d := d) (w := u) hf hB (fun m hm => by rw [hF 111 (by decide)]; exact hr m hm) hS2 12 u (by omega) ⟨fun m j h1 h2 h3 => by omega, fun _ _ => rfl⟩) ?_
  intro u2 hC
  exact ⟨fun i hi => by rw [hC.2 150 (by decide)]; exact hS2 i hi, fun m j h1 h2 => hC.1 m j (by omega) h1 h2, fun a h1 h2 => by rw [hC.2 a h2]; exact hF a h1⟩
theorem l_251c {X : Scr} {d m a : Nat} {v1 v2 v3 : Int32} {w : Wd} {r S : Nat → Nat} {Q : Int32 → Wd → Prop} (hB : RB r S) (hm : m < 12) (ha : a ≤ 11) (hC : ∀ j, j < 12 → w 151 (12 * m + j) = nI (cst r S (11 - m) j)) (kk : EI X (d + 2) 251 (51, [some (.ref 110), some (.int v1), some (.int v2), some (.int v3), some (.int (nI m)), some (.int (nI (amF (cst r S (11 - m)) a (11 - a)))), some (.int (nI 12))], [], SH, w) Q) : ∀ (k n : Nat), n + k = 11 - a → EI X (d + 2) 251 (51, [some (.ref 110), some (.int v1), some (.int v2), some (.int v3), some (.int (nI m)), some (.int (nI (amF (cst r S (11 - m)) a n))), some (.int (nI (a + n + 1)))], [], SH, w) Q := by
  intro k
  induction k with
  | zero =>
    intro n h
    have e : n = 11 - a := by omega
    rw [e, show a + (11 - a) + 1 = 12 by omega]
    exact kk
  | succ k ih =>
    intro n h
    have g := ih (n + 1) (by omega)
    obtain ⟨i1, i2, -, -⟩ := amF_is (f := cst r S (11 - m)) (a := a) n
    have e : amF (cst r S (11 - m)) a (n + 1) = if cst r S (11 - m) (a + n + 1) < cst r S (11 - m) (amF (cst r S (11 - m)) a n) then a + n + 1 else amF (cst r S (11 - m)) a n := rfl
    have b1 := cst_le hB (k := 11 - m) (j := a + n + 1) (by omega) (by omega)
    have b2 := cst_le hB (k := 11 - m) (j := amF (cst r S (11 - m)) a n) (by omega) (by omega)
    refine t251_110_at51 w _ _ _ _ _ _ ?_
    rw [if_neg (lt_12 (a + n + 1) (by omega)), ixK, ixK, nI_clamp (by omega), nI_clamp (by omega), hC _ (by omega), hC _ (by omega), k1]
    refine ⟨inB_nI (by omega) (by decide), inB_nI (by omega) (by decide), ?_⟩
    by_cases hc : cst r S (11 - m) (a + n + 1) < cst r S (11 - m) (amF (cst r S (11 - m)) a n)
    · rw [if_neg (nI_ge hc (by omega))]
      rw [if_pos hc] at e
      rw [e] at g
      exact g
    · rw [if_pos (nI_le (by omega) (by omega))]
      rw [if_neg hc] at e
      rw [e] at g
      exact g
theorem l_251 {X : Scr} {d : Nat} {v1 v2 : Int32} {w : Wd} {r S : Nat → Nat} {Q : Int32 → Wd → Prop} (hB : RB r S) (hS : ∀ i, i < 12 → w 150 i = nI (S i)) (hC : ∀ m j, m < 12 → j < 12 → w 151 (12 * m + j) = nI (cst r S (11 - m) j)) (h100 : v2 = kI 100 → Q (nI (tl r S 12 0)) w) (hm : ∀ m, m < 12 → v2 = nI m → Q (nI (S (atF r S (m + 1)))) w) : ∀ (n m : Nat), m + n = 12 → (v2 = kI 100 → m = 0) → (v2 ≠ kI 100 → ∃ k, v2 = nI k ∧ m ≤ k ∧ k < 12) → EI X (d + 2) 251 (36, [some (.ref 110), some (.int v1), some (.int v2), some (.int (nI (atF r S m))), some (.int (nI m)), none, none], [], SH, w) Q := by
  intro n
  induction n with
  | zero =>
    intro m h h1 h2
    exfalso
    by_cases e : v2 = kI 100
    · have := h1 e; omega
    · obtain ⟨k, _, a1, a2⟩ := h2 e; omega
  | succ n ih =>
    intro m h h1 h2
    have hm12 : m < 12 := by omega
    have ha := atF_le (r := r) (S := S) m
    have hb := atF_le (r := r) (S := S) (m + 1)
    refine t251_110_at36 w _ _ _ _ ?_
    rw [if_neg (lt_12 m hm12), k1]
    refine l_251c (a := atF r S m) (r := r) (S := S) hB hm12 ha (fun j hj => hC m j hm12 hj) ?_ (11 - atF r S m) 0 (by omega)
    have eat : amF (cst r S (11 - m)) (atF r S m) (11 - atF r S m) = atF r S (m + 1) := rfl
    have hmin := am_min (r := r) (S := S) (k := 11 - m) ha
    rw [eat] at hmin ⊢
    refine t251_110_at51 w _ _ _ _ _ _ ?_
    rw [if_pos (by decide), nI_clamp (by omega), k1]
    by_cases e : v2 = kI 100
    · rw [if_pos e]
      have m0 := h1 e
      subst m0
      have hm1 : cst r S 11 (atF r S 1) = tl r S 12 0 := hmin
      have hb1 := atF_le (r := r) (S := S) 1
      have c1 : w 151 (atF r S 1) = nI (tl r S 12 0) := by
        have c0 := hC 0 (atF r S 1) (by omega) (by omega)
        rw [Nat.mul_zero, Nat.zero_add] at c0
        rw [c0, ← hm1]
      rw [show w 151 (atF r S (0 + 1)) = nI (tl r S 12 0) from c1]
      exact ⟨inB_nI (by omega) (by decide), h100 e⟩
    · rw [if_neg e]
      by_cases e2 : v2 = nI m
      · rw [if_pos e2, hS _ (by omega)]
        exact ⟨inB_nI (by omega) (by decide), hm m hm12 e2⟩
      · rw [if_neg e2]
        obtain ⟨k, a0, a1, a2⟩ := h2 e
        have : k ≠ m := fun e3 => e2 (by rw [a0, e3])
        exact ih (m + 1) (by omega) (fun e3 => absurd e3 e) (fun _ => ⟨k, a0, by omega, a2⟩)
theorem J_rising {X : Scr} {w : Wd} (h : II w) (p q : Int32) : JJ X 144 251 [.int p, .int q] w := by
  have h0 := h
  obtain ⟨hO, hB, hK, hT, hL, hD, hR⟩ := h
  have o2 := hO.2.1
  unfold JJ
  refine CI.of (d := 59) rfl (t144_0_at0 (d := 57) w p q ?_)
  have t : ∀ (u : Wd) (Q : Int32 → Wd → Prop), _ → CI X 60 251 [.ref 110, .int p, .int q] u Q := fun u Q H => CI.of (d := 59) rfl (t251_110_at0 (d := 57) u p q H)
  by_cases h1 : F_52_3 p w = 0
  · rw [if_pos h1]
    refine t w _ ?_
    rw [isF_eq o2, if_pos h1]
    exact ⟨rfl, h0⟩
  rw [if_neg h1]
  have h1r : ∀ u : Wd, u 110 7 = w 110 7 → ¬ F_165_110 p u = 0 := fun u e => by rw [c165 e, isF_eq o2]; exact h1
  obtain ⟨f, hf, rfl, -⟩ := hasF h1
  have hn := hB.2.2.2.1
  have hdec : ∀ m, m < 12 → w 111 (36 + 12 * f + m) = nI (w 111 (36 + 12 * f + m)).toNatClampNeg ∧ (w 111 (36 + 12 * f + m)).toNatClampNeg ≤ 9999 := by
    intro m hm
    obtain ⟨k, hk, e⟩ := hn (12 * f + m) (by omega)
    rw [show 36 + 12 * f + m = 36 + (12 * f + m) by omega, e, nI_clamp (by omega)]
    exact ⟨rfl, hk⟩
  have hex : ∃ r S : Nat → Nat, RB r S ∧ (∀ m, m < 12 → w 111 (36 + 12 * f + m) = nI (r m)) ∧ ∀ (L : Nat → Int32) (i : Nat), i < 12 → srF (fun m => nI (r m)) L 12 i = nI (S i) := by
    refine ⟨fun m => (w 111 (36 + 12 * f + m)).toNatClampNeg, fun i => (srF (fun m => nI (w 111 (36 + 12 * f + m)).toNatClampNeg) (fun _ => 0) 12 i).toNatClampNeg, fun i hi => ⟨(hdec i hi).2, ?_⟩, fun m hm => (hdec m hm).1, fun L i hi => ?_⟩
    · obtain ⟨k, hk, e⟩ := srF_P (P := fun x => nn x 9999) (v := fun m => nI (w 111 (36 + 12 * f + m)).toNatClampNeg) (L := fun _ => 0) 12 (fun j hj => ⟨_, (hdec j hj).2, rfl⟩) i hi
      show (srF (fun m => nI (w 111 (36 + 12 * f + m)).toNatClampNeg) (fun _ => 0) 12 i).toNatClampNeg ≤ 9999
      rw [e, nI_clamp (by omega)]
      exact hk
    · obtain ⟨k, hk, e⟩ := srF_P (P := fun x => nn x 9999) (v := fun m => nI (w 111 (36 + 12 * f + m)).toNatClampNeg) (L := fun _ => 0) 12 (fun j hj => ⟨_, (hdec j hj).2, rfl⟩) i hi
      rw [srF_cg (M := fun _ => 0) 12 i hi]
      show _ = nI (srF (fun m => nI (w 111 (36 + 12 * f + m)).toNatClampNeg) (fun _ => 0) 12 i).toNatClampNeg
      rw [e, nI_clamp (by omega)]
  obtain ⟨r, S, hRB, hr, hS⟩ := hex
  have hr10 : ∀ m, m < 12 → w 10 (12 * f + m) = nI (r m) := fun m hm => by
    rw [hB.1.2.2.1 (12 * f + m) (by omega), ← Nat.add_assoc]
    exact hr m hm
  have run : ∀ (Q1 : Wd → Prop), (∀ u : Wd, u 95 10 = nI (tl r S 12 0) → (∀ i, i < 12 → u 101 i = nI (S (atF r S (i + 1)))) → (∀ a, a ≠ 95 → a ≠ 98 → a ≠ 99 → a ≠ 100 → a ≠ 101 → u a = w a) → Q1 u) → CU X 59 36 [.ref 95, .ref 7, .int (nI f)] w Q1 := by
    intro Q1 kk
    refine CU.mono (c_36 (d := 53) hf hRB hr10 hS) ?_
    intro u hU
    exact kk u hU.1 hU.2.1 hU.2.2
  have fin : ∀ (u : Wd) (z : Int32), (∀ a, a ≠ 95 → a ≠ 98 → a ≠ 99 → a ≠ 100 → a ≠ 101 → u a = w a) → (q = kI 100 → z = nI (tl r S 12 0)) → (∀ m, m < 12 → q = nI m → z = nI (S (atF r S (m + 1)))) → (q ≠ kI 100 → ∃ k, q = nI k ∧ k < 12) → CI X 60 251 [.ref 110, .int (nI f), .int q] u (fun y u3 => y = z ∧ II u3) := by
    intro u z hF z1 z2 hq
    refine t u _ ?_
    rw [if_neg (h1r u (by rw [hF 110 (by decide) (by decide) (by decide) (by decide) (by decide)]))]
    have go : CU X 59 250 [.ref 110, .int (nI f)] u (fun w1 => EI X 59 251 (36, [some (.ref 110), some (.int (nI f)), some (.int q), some (.int (kI 0)), some (.int (kI 0)), none, none], [], SH, w1) (fun y u3 => y = z ∧ II u3)) := by
      refine CU.mono (c_250 (d := 57) hf hRB (fun m hm => by rw [hF 111 (by decide) (by decide) (by decide) (by decide) (by decide)]; exact hr m hm) hS) ?_
      intro u2 hU
      obtain ⟨c1, c2, c3⟩ := hU
      have hII : II u2 := h0.ss (SS.of [95, 98, 99, 100, 101, 150, 151] (fun a ha => by
        simp only [List.mem_cons, List.not_mem_nil, or_false, not_or] at ha
        rw [c3 a ha.2.2.2.2.2.1 ha.2.2.2.2.2.2, hF a ha.1 ha.2.1 ha.2.2.1 ha.2.2.2.1 ha.2.2.2.2.1]) (by decide))
      exact l_251 (d := 57) hRB c1 c2 (fun e => ⟨(z1 e).symm, hII⟩) (fun m hm e => ⟨(z2 m hm e).symm, hII⟩) 12 0 rfl (fun _ => rfl) (fun e => by obtain ⟨k, e1, e2⟩ := hq e; exact ⟨k, e1, Nat.zero_le _, e2⟩)
    by_cases e : q = kI 100
    · rw [if_pos e]; exact go
    · rw [if_neg e]
      obtain ⟨k, e1, e2⟩ := hq e
      rw [if_neg (show ¬ F_157 q (kI 0) (kI 11) u = 0 by rw [e1]; exact (in11 (w := u) e2 : ¬ F_153 (nI k) (kI 0) (kI 11) u = 0))]
      exact go
  by_cases h2 : F_153 q (kI 0) (kI 11) w = 0
  · rw [if_pos h2]
    by_cases e : q = kI 100
    · rw [if_pos e]
      refine run _ ?_
      intro u u1 u2 u3
      rw [u1]
      refine fin u _ u3 (fun _ => rfl) (fun m hm e2 => ?_) (fun e2 => absurd e e2)
      rw [e] at e2
      have := nI_inj (a := 100) (b := m) (by decide) (by omega) e2
      omega
    · rw [if_neg e]
      refine t w _ ?_
      rw [if_neg (h1r w rfl), if_neg e, if_pos (show F_157 q (kI 0) (kI 11) w = 0 from h2)]
      exact ⟨rfl, h0⟩
  · rw [if_neg h2]
    obtain ⟨m, -, hm, rfl⟩ := within_z (a := 0) (b := 11) (by decide) (by decide) h2
    have ne : ¬ nI m = kI 100 := fun e => by
      have := nI_inj (a := m) (b := 100) (by omega) (by decide) e
      omega
    refine run _ ?_
    intro u u1 u2 u3
    have e37 : F_37_95 (nI m) u = nI (S (atF r S (m + 1))) := by
      unfold F_37_95
      rw [if_neg (in11 (by omega)), nI_clamp (by omega), u2 m (by omega)]
    rw [if_neg ne, e37]
    refine fin u _ u3 (fun e => absurd e ne) (fun m2 hm2 e2 => ?_) (fun _ => ⟨m, rfl, by omega⟩)
    rw [nI_inj (a := m) (b := m2) (by omega) (by omega) e2]
end RISINGJ
