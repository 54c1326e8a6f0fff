/-! record, keep, undo, inARow, check, spaced -/
section CALLS2
theorem rec_or {s : Int32} {c : Nat} (hs : nn s 1048575) (hc : c < 20) : nn (s ||| nI (2 ^ c)) 1048575 := by
  obtain ⟨S, hS, rfl⟩ := hs
  rw [or_nI]
  have hb : S ||| 2 ^ c < 2 ^ 20 := by
    have h2 : (2 : Nat) ^ c < 2 ^ 20 := Nat.pow_lt_pow_right (by decide) hc
    exact Nat.or_lt_two_pow (by omega) h2
  exact ⟨_, by omega, rfl⟩
theorem J_record {X : Scr} {w : Wd} (h : II w) (p q r s t : Int32) : JJ X 135 235 [.int p, .int q, .int r, .int s, .int t] w := by
  refine JJ.ofFG (m_135_0 w p q r s t) (m_235_110 _ p q r s t) rfl ?_
  by_cases h1 : F_153 p (kI 0) (kI 19) w = 0
  · have e1 : G_135_0 p q r s t w = w := by unfold G_135_0; rw [if_pos h1]
    have e2 : ∀ u, G_235_110 p q r s t u = u := fun u => by unfold G_235_110; rw [if_pos (show F_157 p (kI 0) (kI 19) u = 0 from h1)]
    rw [e1, e2]; exact h
  by_cases h2 : F_153 q (kI 0) (kI 5) w = 0
  · have e1 : G_135_0 p q r s t w = w := by unfold G_135_0; rw [if_neg h1, if_pos h2]
    have e2 : ∀ u, G_235_110 p q r s t u = u := fun u => by unfold G_235_110; rw [if_neg (show ¬ F_157 p (kI 0) (kI 19) u = 0 from h1), if_pos (show F_157 q (kI 0) (kI 5) u = 0 from h2)]
    rw [e1, e2]; exact h
  by_cases h3 : F_153 r (kI 0) (kI 99) w = 0
  · have e1 : G_135_0 p q r s t w = w := by unfold G_135_0; rw [if_neg h1, if_neg h2, if_pos h3]
    have e2 : ∀ u, G_235_110 p q r s t u = u := fun u => by unfold G_235_110; rw [if_neg (show ¬ F_157 p (kI 0) (kI 19) u = 0 from h1), if_neg (show ¬ F_157 q (kI 0) (kI 5) u = 0 from h2), if_pos (show F_157 r (kI 0) (kI 99) u = 0 from h3)]
    rw [e1, e2]; exact h
  by_cases h4 : F_153 s (kI 0) (kI 23) w = 0
  · have e1 : G_135_0 p q r s t w = w := by unfold G_135_0; rw [if_neg h1, if_neg h2, if_neg h3, if_pos h4]
    have e2 : ∀ u, G_235_110 p q r s t u = u := fun u => by unfold G_235_110; rw [if_neg (show ¬ F_157 p (kI 0) (kI 19) u = 0 from h1), if_neg (show ¬ F_157 q (kI 0) (kI 5) u = 0 from h2), if_neg (show ¬ F_157 r (kI 0) (kI 99) u = 0 from h3), if_pos (show F_157 s (kI 0) (kI 23) u = 0 from h4)]
    rw [e1, e2]; exact h
  by_cases h5 : F_153 t (kI 0) (kI 9) w = 0
  · have e1 : G_135_0 p q r s t w = w := by unfold G_135_0; rw [if_neg h1, if_neg h2, if_neg h3, if_neg h4, if_pos h5]
    have e2 : ∀ u, G_235_110 p q r s t u = u := fun u => by unfold G_235_110; rw [if_neg (show ¬ F_157 p (kI 0) (kI 19) u = 0 from h1), if_neg (show ¬ F_157 q (kI 0) (kI 5) u = 0 from h2), if_neg (show ¬ F_157 r (kI 0) (kI 99) u = 0 from h3), if_neg (show ¬ F_157 s (kI 0) (kI 23) u = 0 from h4), if_pos (show F_157 t (kI 0) (kI 9) u = 0 from h5)]
    rw [e1, e2]; exact h
  have e1 : G_135_0 p q r s t w = (up2 (up2 (up2 (up2 (up2 w 103 p.toNatClampNeg q) 104 p.toNatClampNeg r) 105 p.toNatClampNeg s) 106 p.toNatClampNeg t) 102 6 ((w 102 6) ||| ((kI 1) <<< (p &&& 31)))) := by unfold G_135_0; rw [if_neg h1, if_neg h2, if_neg h3, if_neg h4, if_neg h5]
  have e2 : ∀ u, G_235_110 p q r s t u = (up2 (up2 (up2 (up2 (up2 u 110 56 ((u 110 56) ||| ((kI 1) <<< (p &&& 31)))) 140 p.toNatClampNeg q) 141 p.toNatClampNeg r) 142 p.toNatClampNeg s) 143 p.toNatClampNeg t) := fun u => by unfold G_235_110; rw [if_neg (show ¬ F_157 p (kI 0) (kI 19) u = 0 from h1), if_neg (show ¬ F_157 q (kI 0) (kI 5) u = 0 from h2), if_neg (show ¬ F_157 r (kI 0) (kI 99) u = 0 from h3), if_neg (show ¬ F_157 s (kI 0) (kI 23) u = 0 from h4), if_neg (show ¬ F_157 t (kI 0) (kI 9) u = 0 from h5)]
  rw [e2, e1]
  obtain ⟨c, -, hc, rfl⟩ := within_z (a := 0) (b := 19) (by decide) (by decide) h1
  obtain ⟨n2, -, g2, rfl⟩ := within_z (a := 0) (b := 5) (by decide) (by decide) h2
  obtain ⟨n3, -, g3, rfl⟩ := within_z (a := 0) (b := 99) (by decide) (by decide) h3
  obtain ⟨n4, -, g4, rfl⟩ := within_z (a := 0) (b := 23) (by decide) (by decide) h4
  obtain ⟨n5, -, g5, rfl⟩ := within_z (a := 0) (b := 9) (by decide) (by decide) h5
  rw [nI_clamp (by omega), shl1_nI (by omega)]
  obtain ⟨hO, hB, hK, hT, hL, hD, hR⟩ := h
  obtain ⟨r1, r2, r3⟩ := hR
  refine ⟨hO.cg rfl rfl rfl rfl rfl rfl rfl rfl rfl rfl, hB.cg rfl rfl rfl rfl rfl rfl rfl, hK.cg rfl rfl rfl rfl rfl rfl rfl rfl rfl, hT.cg rfl rfl rfl rfl, hL.cg rfl rfl rfl rfl rfl rfl rfl rfl rfl rfl rfl rfl rfl, hD.cg rfl rfl (fun a h1 h2 => by rw [up2_ne (by omega), up2_ne (by omega), up2_ne (by omega), up2_ne (by omega), up2_ne (by omega), up2_ne (by omega), up2_ne (by omega), up2_ne (by omega), up2_ne (by omega), up2_ne (by omega)]) rfl rfl, ?_, rec_or r2 (by omega), fun i hi => ?_⟩
  · show w 110 56 ||| nI (2 ^ c) = w 102 6 ||| nI (2 ^ c)
    rw [r1]
  · obtain ⟨q1, q2, q3, q4, q5, q6, q7, q8⟩ := r3 i hi
    show (if i = c then nI n2 else w 140 i) = (if i = c then nI n2 else w 103 i) ∧ (if i = c then nI n3 else w 141 i) = (if i = c then nI n3 else w 104 i) ∧ (if i = c then nI n4 else w 142 i) = (if i = c then nI n4 else w 105 i) ∧ (if i = c then nI n5 else w 143 i) = (if i = c then nI n5 else w 106 i) ∧ nn (if i = c then nI n2 else w 103 i) 5 ∧ nn (if i = c then nI n3 else w 104 i) 99 ∧ nn (if i = c then nI n4 else w 105 i) 23 ∧ nn (if i = c then nI n5 else w 106 i) 9
    by_cases e : i = c
    · simp only [if_pos e]
      exact ⟨trivial, trivial, trivial, trivial, ⟨_, g2, rfl⟩, ⟨_, g3, rfl⟩, ⟨_, g4, rfl⟩, ⟨_, g5, rfl⟩⟩
    · simp only [if_neg e]
      exact ⟨q1, q2, q3, q4, q5, q6, q7, q8⟩
/-- what one Books takes over of another -/
theorem to_12_7 {w : Wd} {n : Nat → Int32} (h : BK 7 w n) : BK 12 (G_10_12_7 w) n ∧ ∀ a, ¬ (12 ≤ a ∧ a ≤ 16) → G_10_12_7 w a = w a := by
  obtain ⟨b1, b2, b3, b4, b5, b6, b7, b8, b9⟩ := h
  refine ⟨⟨fun i hi => ?_, fun i hi => ?_, fun i hi => ?_, fun f k hf hk => ?_, b5, b6, b7, b8, b9⟩, fun a ha => ?_⟩
  · show (if 0 ≤ i ∧ i < 0 + 36 then w 8 (0 + (i - 0)) else w 13 i) = n i
    rw [if_pos (by omega), show 0 + (i - 0) = i by omega]; exact b1 i hi
  · show (if 0 ≤ i ∧ i < 0 + 6 then w 9 (0 + (i - 0)) else w 14 i) = _
    rw [if_pos (by omega), show 0 + (i - 0) = i by omega]; exact b2 i hi
  · show (if 0 ≤ i ∧ i < 0 + 72 then w 10 (0 + (i - 0)) else w 15 i) = _
    rw [if_pos (by omega), show 0 + (i - 0) = i by omega]; exact b3 i hi
  · show (if 0 ≤ 6 * k + f ∧ 6 * k + f < 0 + 48 then w 11 (0 + (6 * k + f - 0)) else w 16 (6 * k + f)) = _
    rw [if_pos (by omega), show 0 + (6 * k + f - 0) = 6 * k + f by omega]; exact b4 f k hf hk
  · have cp : ∀ (u : Wd) (a0 a1 sp dp n : Nat), a ≠ a1 → cp2 u a0 a1 sp dp n a = u a := fun u a0 a1 sp dp n h => if_neg h
    unfold G_10_12_7
    rw [up2_ne (by omega), up2_ne (by omega), up2_ne (by omega), up2_ne (by omega), up2_ne (by omega), cp _ _ _ _ _ _ (by omega), cp _ _ _ _ _ _ (by omega), cp _ _ _ _ _ _ (by omega), cp _ _ _ _ _ _ (by omega)]
theorem to_7_12 {w : Wd} {n : Nat → Int32} (h : BK 12 w n) : BK 7 (G_10_7_12 w) n ∧ ∀ a, ¬ (7 ≤ a ∧ a ≤ 11) → G_10_7_12 w a = w a := by
  obtain ⟨b1, b2, b3, b4, b5, b6, b7, b8, b9⟩ := h
  refine ⟨⟨fun i hi => ?_, fun i hi => ?_, fun i hi => ?_, fun f k hf hk => ?_, b5, b6, b7, b8, b9⟩, fun a ha => ?_⟩
  · show (if 0 ≤ i ∧ i < 0 + 36 then w 13 (0 + (i - 0)) else w 8 i) = n i
    rw [if_pos (by omega), show 0 + (i - 0) = i by omega]; exact b1 i hi
  · show (if 0 ≤ i ∧ i < 0 + 6 then w 14 (0 + (i - 0)) else w 9 i) = _
    rw [if_pos (by omega), show 0 + (i - 0) = i by omega]; exact b2 i hi
  · show (if 0 ≤ i ∧ i < 0 + 72 then w 15 (0 + (i - 0)) else w 10 i) = _
    rw [if_pos (by omega), show 0 + (i - 0) = i by omega]; exact b3 i hi
  · show (if 0 ≤ 6 * k + f ∧ 6 * k + f < 0 + 48 then w 16 (0 + (6 * k + f - 0)) else w 11 (6 * k + f)) = _
    rw [if_pos (by omega), show 0 + (6 * k + f - 0) = 6 * k + f by omega]; exact b4 f k hf hk
  · have cp : ∀ (u : Wd) (a0 a1 sp dp n : Nat), a ≠ a1 → cp2 u a0 a1 sp dp n a = u a := fun u a0 a1 sp dp n h => if_neg h
    unfold G_10_7_12
    rw [up2_ne (by omega), up2_ne (by omega), up2_ne (by omega), up2_ne (by omega), up2_ne (by omega), cp _ _ _ _ _ _ (by omega), cp _ _ _ _ _ _ (by omega), cp _ _ _ _ _ _ (by omega), cp _ _ _ _ _ _ (by omega)]
/-- rows that are the same as far as they count -/
theorem BK.row {b : Nat} {w : Wd} {n m : Nat → Int32} (h : BK b w n) (e : ∀ i, i < 162 → m i = n i) : BK b w m := by
  obtain ⟨b1, b2, b3, b4, b5, b6, b7, b8, b9⟩ := h
  refine ⟨fun i hi => ?_, fun i hi => ?_, fun i hi => ?_, fun f k hf hk => ?_, ?_, ?_, ?_, ?_, ?_⟩
  · rw [e _ (by omega)]; exact b1 i hi
  · unfold sum6; rw [e _ (by omega), e _ (by omega), e _ (by omega), e _ (by omega), e _ (by omega), e _ (by omega)]; exact b2 i hi
  · rw [e _ (by omega)]; exact b3 i hi
  · rw [e _ (by omega)]; exact b4 f k hf hk
  all_goals (rw [e _ (by omega)]; assumption)
theorem NV.row {s : Int32} {n m : Nat → Int32} (h : NV s n) (e : ∀ i, i < 162 → m i = n i) : NV s m := by
  obtain ⟨n1, n2, n3, n4, n5, n6, n7⟩ := h
  refine ⟨fun i hi => ?_, fun c f hc hf h0 => ?_, fun i hi => ?_, ?_, ?_, ?_, ?_⟩
  · rw [e _ (by omega)]; exact n1 i hi
  · rw [e _ (by omega)]; exact n2 c f hc hf h0
  · rw [e _ (by omega)]; exact n3 i hi
  all_goals (rw [e _ (by omega)]; assumption)
theorem J_keep {X : Scr} {w : Wd} (h : II w) : JJ X 147 254 [] w := by
  obtain ⟨hO, hB, hK, hT, hL, hD, hR⟩ := h
  obtain ⟨k1, k2⟩ := to_12_7 hB.1
  unfold JJ
  refine CI.mono (CI.ofF (m_147_0 (d := 57) w)) ?_
  intro x1 u1 e1
  obtain ⟨rfl, rfl⟩ := e1
  refine CI.of (d := 59) rfl (t254_110_at0 (d := 58) _ (CU.mono (c_163_111_113 (d := 57) _) ?_))
  intro u2 e2
  subst e2
  have z : ∀ a, ¬ (12 ≤ a ∧ a ≤ 16) → a ≠ 0 → a ≠ 110 → a ≠ 113 → cpA (up2 (G_147_0 w) 110 64 (kI 1)) 111 113 162 a = w a := by
    intro a h1 h2 h3 h4
    rw [cpA_ne h4, up2_ne h3]
    unfold G_147_0
    rw [up2_ne h2, k2 a h1]
  have z0 : ∀ j, j ≠ 17 → cpA (up2 (G_147_0 w) 110 64 (kI 1)) 111 113 162 0 j = w 0 j := by
    intro j hj
    rw [cpA_ne (by decide), up2_ne (by decide)]
    unfold G_147_0
    rw [up2_at, if_neg hj, k2 0 (by omega)]
  have z110 : ∀ j, j ≠ 64 → cpA (up2 (G_147_0 w) 110 64 (kI 1)) 111 113 162 110 j = w 110 j := by
    intro j hj
    rw [cpA_ne (by decide), up2_at, if_neg hj]
    unfold G_147_0
    rw [up2_ne (by decide), k2 110 (by omega)]
  have z17 : cpA (up2 (G_147_0 w) 110 64 (kI 1)) 111 113 162 0 17 = 1 := by
    rw [cpA_ne (by decide), up2_ne (by decide)]
    unfold G_147_0
    rw [up2_at, if_pos rfl]; rfl
  have z64 : cpA (up2 (G_147_0 w) 110 64 (kI 1)) 111 113 162 110 64 = 1 := by
    rw [cpA_ne (by decide), up2_at, if_pos rfl]; rfl
  have zk : ∀ a, 12 ≤ a → a ≤ 16 → cpA (up2 (G_147_0 w) 110 64 (kI 1)) 111 113 162 a = G_10_12_7 w a := by
    intro a h1 h2
    rw [cpA_ne (by omega), up2_ne (by omega)]
    unfold G_147_0
    rw [up2_ne (by omega)]
  have z113 : ∀ i, i < 162 → cpA (up2 (G_147_0 w) 110 64 (kI 1)) 111 113 162 113 i = w 111 i := by
    intro i hi
    rw [cpA_at, if_pos hi, up2_ne (by decide)]
    unfold G_147_0
    rw [up2_ne (by decide), k2 111 (by omega)]
  have e111 : cpA (up2 (G_147_0 w) 110 64 (kI 1)) 111 113 162 111 = w 111 := z 111 (by omega) (by decide) (by decide) (by decide)
  refine ⟨?_, ?_⟩
  · rw [e111]
    unfold F_147_0
    rw [k2 7 (by omega)]
    exact hB.1.2.2.2.2.2.1.symm
  · generalize cpA (up2 (G_147_0 w) 110 64 (kI 1)) 111 113 162 = u at z z0 z110 z17 z64 zk z113 e111
    have z3 : u 3 = w 3 := z 3 (by omega) (by decide) (by decide) (by decide)
    refine ⟨hO.cg z3 (z 4 (by omega) (by decide) (by decide) (by decide)) (z 5 (by omega) (by decide) (by decide) (by decide)) (z 6 (by omega) (by decide) (by decide) (by decide)) (z 114 (by omega) (by decide) (by decide) (by decide)) (z 115 (by omega) (by decide) (by decide) (by decide)) (z 116 (by omega) (by decide) (by decide) (by decide)) (z110 6 (by decide)) (z110 7 (by decide)) (z110 8 (by decide)),
      hB.cg (by rw [z3]) e111 (z 7 (by omega) (by decide) (by decide) (by decide)) (z 8 (by omega) (by decide) (by decide) (by decide)) (z 9 (by omega) (by decide) (by decide) (by decide)) (z 10 (by omega) (by decide) (by decide) (by decide)) (z 11 (by omega) (by decide) (by decide) (by decide)),
      ⟨by rw [z17, z64], Or.inr z17, fun _ => ⟨?_, ?_⟩⟩,
      hT.cg (z 2 (by omega) (by decide) (by decide) (by decide)) (z 117 (by omega) (by decide) (by decide) (by decide)) (by rw [z 1 (by omega) (by decide) (by decide) (by decide)]) (z110 10 (by decide)),
      hL.cg (z 22 (by omega) (by decide) (by decide) (by decide)) (z 23 (by omega) (by decide) (by decide) (by decide)) (z 24 (by omega) (by decide) (by decide) (by decide)) (z 25 (by omega) (by decide) (by decide) (by decide)) (z 26 (by omega) (by decide) (by decide) (by decide)) (z 27 (by omega) (by decide) (by decide) (by decide)) (z 28 (by omega) (by decide) (by decide) (by decide)) (z 124 (by omega) (by decide) (by decide) (by decide)) (z 125 (by omega) (by decide) (by decide) (by decide)) (z 126 (by omega) (by decide) (by decide) (by decide)) (z 127 (by omega) (by decide) (by decide) (by decide)) (z 128 (by omega) (by decide) (by decide) (by decide)) (z110 19 (by decide)),
      hD.cg (z0 16 (by decide)) (z110 57 (by decide)) (fun a h1 h2 => z a (by omega) (by omega) (by omega) (by omega)) (z 144 (by omega) (by decide) (by decide) (by decide)) (z 145 (by omega) (by decide) (by decide) (by decide)),
      hR.cg (z 103 (by omega) (by decide) (by decide) (by decide)) (z 104 (by omega) (by decide) (by decide) (by decide)) (z 105 (by omega) (by decide) (by decide) (by decide)) (z 106 (by omega) (by decide) (by decide) (by decide)) (z 140 (by omega) (by decide) (by decide) (by decide)) (z 141 (by omega) (by decide) (by decide) (by decide)) (z 142 (by omega) (by decide) (by decide) (by decide)) (z 143 (by omega) (by decide) (by decide) (by decide)) (by rw [z 102 (by omega) (by decide) (by decide) (by decide)]) (z110 56 (by decide))⟩
    · exact (k1.congr (zk 12 (by decide) (by decide)) (zk 13 (by decide) (by decide)) (zk 14 (by decide) (by decide)) (zk 15 (by decide) (by decide)) (zk 16 (by decide) (by decide))).row z113
    · rw [z3]
      exact hB.2.row z113
theorem J_undo {X : Scr} {w : Wd} (h : II w) : JJ X 148 255 [] w := by
  have h0 := h
  obtain ⟨hO, hB, hK, hT, hL, hD, hR⟩ := h
  obtain ⟨y1, y2, y3⟩ := hK
  unfold JJ
  refine CI.mono (CI.ofF (m_148_0 (d := 57) w)) ?_
  intro x1 u1 e1
  obtain ⟨rfl, rfl⟩ := e1
  by_cases hz : w 0 17 = 0
  · have e1 : G_148_0 w = w ∧ F_148_0 w = kI 0 := by unfold G_148_0 F_148_0; rw [if_pos hz, if_pos hz]; exact ⟨rfl, rfl⟩
    rw [e1.1, e1.2]
    refine CI.of (d := 59) rfl (t255_110_at0 (d := 58) _ ?_)
    rw [if_pos (by rw [y1, hz])]
    exact ⟨rfl, h0⟩
  · have h17 : w 0 17 = 1 := by rcases y2 with e | e <;> first | exact absurd e hz | exact e
    obtain ⟨bk, nv⟩ := y3 h17
    obtain ⟨k1, k2⟩ := to_7_12 bk
    have e1 : G_148_0 w = G_10_7_12 w ∧ F_148_0 w = kI 1 := by unfold G_148_0 F_148_0; rw [if_neg hz, if_neg hz]; exact ⟨rfl, rfl⟩
    rw [e1.1, e1.2]
    refine CI.of (d := 59) rfl (t255_110_at0 (d := 58) _ ?_)
    rw [if_neg (by rw [k2 110 (by omega), y1, h17]; decide)]
    refine CU.mono (c_163_113_111 (d := 57) _) ?_
    intro u2 e2
    subst e2
    refine ⟨rfl, ?_⟩
    have z : ∀ a, ¬ (7 ≤ a ∧ a ≤ 11) → a ≠ 111 → cpA (G_10_7_12 w) 113 111 162 a = w a := by
      intro a h1 h4
      rw [cpA_ne h4, k2 a h1]
    have zk : ∀ a, 7 ≤ a → a ≤ 11 → cpA (G_10_7_12 w) 113 111 162 a = G_10_7_12 w a := fun a h1 h2 => cpA_ne (by omega)
    have z111 : ∀ i, i < 162 → cpA (G_10_7_12 w) 113 111 162 111 i = w 113 i := by
      intro i hi
      rw [cpA_at, if_pos hi, k2 113 (by omega)]
    generalize cpA (G_10_7_12 w) 113 111 162 = u at z zk z111
    have z3 : u 3 = w 3 := z 3 (by omega) (by decide)
    have z110 : u 110 = w 110 := z 110 (by omega) (by decide)
    have z0 : u 0 = w 0 := z 0 (by omega) (by decide)
    refine ⟨hO.cg z3 (z 4 (by omega) (by decide)) (z 5 (by omega) (by decide)) (z 6 (by omega) (by decide)) (z 114 (by omega) (by decide)) (z 115 (by omega) (by decide)) (z 116 (by omega) (by decide)) (by rw [z110]) (by rw [z110]) (by rw [z110]),
      ⟨(k1.congr (zk 7 (by decide) (by decide)) (zk 8 (by decide) (by decide)) (zk 9 (by decide) (by decide)) (zk 10 (by decide) (by decide)) (zk 11 (by decide) (by decide))).row z111, by rw [z3]; exact nv.row z111⟩,
      IK.cg (w := w) ⟨y1, y2, y3⟩ (by rw [z3]) (z 113 (by omega) (by decide)) (by rw [z0]) (by rw [z110]) (z 12 (by omega) (by decide)) (z 13 (by omega) (by decide)) (z 14 (by omega) (by decide)) (z 15 (by omega) (by decide)) (z 16 (by omega) (by decide)),
      hT.cg (z 2 (by omega) (by decide)) (z 117 (by omega) (by decide)) (by rw [z 1 (by omega) (by decide)]) (by rw [z110]),
      hL.cg (z 22 (by omega) (by decide)) (z 23 (by omega) (by decide)) (z 24 (by omega) (by decide)) (z 25 (by omega) (by decide)) (z 26 (by omega) (by decide)) (z 27 (by omega) (by decide)) (z 28 (by omega) (by decide)) (z 124 (by omega) (by decide)) (z 125 (by omega) (by decide)) (z 126 (by omega) (by decide)) (z 127 (by omega) (by decide)) (z 128 (by omega) (by decide)) (by rw [z110]),
      hD.cg (by rw [z0]) (by rw [z110]) (fun a h1 h2 => z a (by omega) (by omega)) (z 144 (by omega) (by decide)) (z 145 (by omega) (by decide)),
      hR.cg (z 103 (by omega) (by decide)) (z 104 (by omega) (by decide)) (z 105 (by omega) (by decide)) (z 106 (by omega) (by decide)) (z 140 (by omega) (by decide)) (z 141 (by omega) (by decide)) (z 142 (by omega) (by decide)) (z 143 (by omega) (by decide)) (by rw [z 102 (by omega) (by decide)]) (by rw [z110])⟩
end CALLS2
