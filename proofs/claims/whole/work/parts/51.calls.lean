/-! next, counted, record, published, count, keep, undo -/
section CALLS
theorem J_next {X : Scr} {w : Wd} (h : II w) (p q r : Int32) : JJ X 118 170 [.int p, .int q, .int r] w := by
  obtain ⟨hO, hB, hK, hT, hL, hD, hR⟩ := h
  obtain ⟨o1, o2, o3, o4, o5, o6, o7⟩ := hO
  by_cases hg : F_51_3 p w = 0 ∨ F_51_3 q w = 0 ∨ p = q
  · have e1 : G_118_0 p q r w = w ∧ F_118_0 p q r w = 0 := by
      unfold G_118_0 F_118_0
      by_cases h1 : F_51_3 p w = 0
      · rw [if_pos h1, if_pos h1]; exact ⟨rfl, rfl⟩
      · rw [if_neg h1, if_neg h1]
        by_cases h2 : F_51_3 q w = 0
        · rw [if_pos h2, if_pos h2]; exact ⟨rfl, rfl⟩
        · rw [if_neg h2, if_neg h2]
          have h3 : p = q := by rcases hg with h | h | h <;> first | exact absurd h h1 | exact absurd h h2 | exact h
          rw [if_pos h3, if_pos h3]; exact ⟨rfl, rfl⟩
    have e2 : G_170_110 p q r w = w ∧ F_170_110 p q r w = 0 := by
      unfold G_170_110 F_170_110
      rw [isC_eq o1, isC_eq o1]
      by_cases h1 : F_51_3 p w = 0
      · rw [if_pos h1, if_pos h1]; exact ⟨rfl, rfl⟩
      · rw [if_neg h1, if_neg h1]
        by_cases h2 : F_51_3 q w = 0
        · rw [if_pos h2, if_pos h2]; exact ⟨rfl, rfl⟩
        · rw [if_neg h2, if_neg h2]
          have h3 : p = q := by rcases hg with h | h | h <;> first | exact absurd h h1 | exact absurd h h2 | exact h
          rw [if_pos h3, if_pos h3]; exact ⟨rfl, rfl⟩
    refine JJ.ofFG (w1 := w) (w2 := w) (x := 0) (y := 0) ?_ ?_ rfl ⟨⟨o1, o2, o3, o4, o5, o6, o7⟩, hB, hK, hT, hL, hD, hR⟩
    · have := m_118_0 (X := X) (d := 57) w p q r
      rw [e1.1, e1.2] at this
      exact this
    · refine CV.mono (m_170_110 (X := X) w p q r ?_ ?_ ?_ ?_) ?_
      all_goals first | (intro a1 a2 a3; exfalso; rw [isC_eq o1] at a1 a2; rcases hg with h | h | h <;> contradiction) | skip
      all_goals first | (intro a1 a2 a3 a4; exfalso; rw [isC_eq o1] at a1 a2; rcases hg with h | h | h <;> contradiction) | skip
      intro v s1 w1 e
      rw [e2.1, e2.2] at e
      exact e
  · have h1 : ¬ F_51_3 p w = 0 := fun e => hg (Or.inl e)
    have h2 : ¬ F_51_3 q w = 0 := fun e => hg (Or.inr (Or.inl e))
    have h3 : ¬ p = q := fun e => hg (Or.inr (Or.inr e))
    obtain ⟨a, ha, rfl, -⟩ := hasC h1
    obtain ⟨b, hb, rfl, -⟩ := hasC h2
    have hab : a ≠ b := fun e => h3 (by rw [e])
    have e1 : G_118_0 (nI a) (nI b) r w = if r = 0 then up2 (up2 w 6 a (w 6 a &&& (nI (2 ^ b) ^^^ kI (-1)))) 6 b (w 6 b &&& (nI (2 ^ a) ^^^ kI (-1))) else up2 (up2 w 6 a (w 6 a ||| nI (2 ^ b))) 6 b (w 6 b ||| nI (2 ^ a)) := by
      unfold G_118_0 G_56_3
      rw [if_neg h1, if_neg h2, if_neg h3, nI_clamp (by omega), nI_clamp (by omega), shl1_nI (by omega), shl1_nI (by omega)]
      have i1 : ∀ u : Wd, ¬ F_153 (nI a) (kI 0) (kI 5) u = 0 := fun u => in5 ha
      have i2 : ∀ u : Wd, ¬ F_153 (nI b) (kI 0) (kI 5) u = 0 := fun u => in5 hb
      rw [if_neg (i1 w)]
      by_cases hr : r = 0
      · rw [if_pos hr, if_pos hr, if_pos hr, if_neg (i2 _), up2_at, if_neg (fun e => hab e.symm)]
      · rw [if_neg hr, if_neg hr, if_neg hr, if_neg (i2 _), up2_at, if_neg (fun e => hab e.symm)]
    have e1f : F_118_0 (nI a) (nI b) r w = 1 := by unfold F_118_0; rw [if_neg h1, if_neg h2, if_neg h3]; rfl
    have c6 : ∀ c, c ≠ 6 → G_118_0 (nI a) (nI b) r w c = w c := by
      intro c hc
      rw [e1]
      by_cases hr : r = 0
      · rw [if_pos hr, up2_ne hc, up2_ne hc]
      · rw [if_neg hr, up2_ne hc, up2_ne hc]
    have k1 : ∀ p, F_164_110 p (G_118_0 (nI a) (nI b) r w) = F_51_3 p w := by
      intro p
      unfold F_164_110 F_51_3
      rw [c6 110 (by decide), o1]
      rfl
    generalize hu : G_118_0 (nI a) (nI b) r w = u at c6 k1
    have e2 : G_170_110 (nI a) (nI b) r u = if r = 0 then up2 (up2 u 115 a (w 115 a &&& (nI (2 ^ b) ^^^ kI (-1)))) 115 b (w 115 b &&& (nI (2 ^ a) ^^^ kI (-1))) else up2 (up2 u 115 a (w 115 a ||| nI (2 ^ b))) 115 b (w 115 b ||| nI (2 ^ a)) := by
      unfold G_170_110
      rw [k1, k1, if_neg h1, if_neg h2, if_neg h3, nI_clamp (by omega), nI_clamp (by omega), shl1_nI (by omega), shl1_nI (by omega), c6 115 (by decide)]
      by_cases hr : r = 0
      · rw [if_pos hr, if_pos hr, up2_at, if_neg (fun e => hab e.symm), c6 115 (by decide)]
      · rw [if_neg hr, if_neg hr, up2_at, if_neg (fun e => hab e.symm), c6 115 (by decide)]
    have e2f : F_170_110 (nI a) (nI b) r u = 1 := by unfold F_170_110; rw [k1, k1, if_neg h1, if_neg h2, if_neg h3]; rfl
    have hia : inB (nI a) 6 = true := inB_nI ha (by decide)
    have hib : inB (nI b) 6 = true := inB_nI hb (by decide)
    refine JJ.ofFG (w1 := u) (w2 := G_170_110 (nI a) (nI b) r u) (x := 1) (y := 1) ?_ ?_ rfl ?_
    · have := m_118_0 (X := X) (d := 57) w (nI a) (nI b) r
      rw [hu, e1f] at this
      exact this
    · refine CV.mono (m_170_110 (X := X) u (nI a) (nI b) r ?_ ?_ ?_ ?_) ?_
      all_goals first | (intros; assumption) | skip
      intro v s1 w1 e
      rw [e2f] at e
      exact e
    · rw [e2, ← hu, e1]
      obtain ⟨-, -, pa, -, -, na, -⟩ := o7 a ha
      obtain ⟨-, -, pb, -, -, nb, -⟩ := o7 b hb
      have ona : ∀ c, c < 6 → ∀ x : Int32, nn x 63 → nn (x ||| nI (2 ^ c)) 63 := fun c hc x hx => (told_or hx hc).1
      by_cases hr : r = 0
      · rw [if_pos hr, if_pos hr]
        refine ⟨⟨o1, o2, o3, o4, o5, o6, fun i hi => ?_⟩, hB.cg rfl rfl rfl rfl rfl rfl rfl, hK.cg rfl rfl rfl rfl rfl rfl rfl rfl rfl, hT.cg rfl rfl rfl rfl, hL.cg rfl rfl rfl rfl rfl rfl rfl rfl rfl rfl rfl rfl rfl, hD.cg rfl rfl (fun a h1 h2 => by rw [up2_ne (by omega), up2_ne (by omega), up2_ne (by omega), up2_ne (by omega)]) rfl rfl, hR.cg rfl rfl rfl rfl rfl rfl rfl rfl rfl rfl⟩
        obtain ⟨q1, q2, q3, q4, q5, q6, q7⟩ := o7 i hi
        refine ⟨q1, q2, ?_, q4, q5, ?_, q7⟩
        · show (if i = b then w 115 b &&& (nI (2 ^ a) ^^^ kI (-1)) else if i = a then w 115 a &&& (nI (2 ^ b) ^^^ kI (-1)) else w 115 i) = (if i = b then w 6 b &&& (nI (2 ^ a) ^^^ kI (-1)) else if i = a then w 6 a &&& (nI (2 ^ b) ^^^ kI (-1)) else w 6 i)
          rw [pa, pb, q3]
        · show nn (if i = b then w 6 b &&& (nI (2 ^ a) ^^^ kI (-1)) else if i = a then w 6 a &&& (nI (2 ^ b) ^^^ kI (-1)) else w 6 i) 63
          split
          · exact nn_and nb _
          · split
            · exact nn_and na _
            · exact q6
      · rw [if_neg hr, if_neg hr]
        refine ⟨⟨o1, o2, o3, o4, o5, o6, fun i hi => ?_⟩, hB.cg rfl rfl rfl rfl rfl rfl rfl, hK.cg rfl rfl rfl rfl rfl rfl rfl rfl rfl, hT.cg rfl rfl rfl rfl, hL.cg rfl rfl rfl rfl rfl rfl rfl rfl rfl rfl rfl rfl rfl, hD.cg rfl rfl (fun a h1 h2 => by rw [up2_ne (by omega), up2_ne (by omega), up2_ne (by omega), up2_ne (by omega)]) rfl rfl, hR.cg rfl rfl rfl rfl rfl rfl rfl rfl rfl rfl⟩
        obtain ⟨q1, q2, q3, q4, q5, q6, q7⟩ := o7 i hi
        refine ⟨q1, q2, ?_, q4, q5, ?_, q7⟩
        · show (if i = b then w 115 b ||| nI (2 ^ a) else if i = a then w 115 a ||| nI (2 ^ b) else w 115 i) = (if i = b then w 6 b ||| nI (2 ^ a) else if i = a then w 6 a ||| nI (2 ^ b) else w 6 i)
          rw [pa, pb, q3]
        · show nn (if i = b then w 6 b ||| nI (2 ^ a) else if i = a then w 6 a ||| nI (2 ^ b) else w 6 i) 63
          split
          · exact ona a ha _ nb
          · split
            · exact ona b hb _ na
            · exact q6
theorem J_counted {X : Scr} {w : Wd} (h : II w) (p q : Int32) : JJ X 126 214 [.int p, .int q] w := by
  obtain ⟨o1, o2, o3, o4, o5, o6, o7⟩ := h.1
  obtain ⟨⟨b1, b2, b3, b4, b5, b6, b7, b8, b9⟩, -⟩ := h.2.1
  refine JJ.ofFG (m_126_0 w p q) (m_214_110 w p q ?_) ?_ h
  · intro h1 h2
    rw [isC_eq o1] at h1
    rw [isF_eq o2] at h2
    obtain ⟨c, hc, rfl, -⟩ := hasC h1
    obtain ⟨f, hf, rfl, -⟩ := hasF h2
    rw [ixC]
    exact inB_nI (by omega) (by decide)
  · unfold F_214_110 F_126_0
    rw [isC_eq o1, isF_eq o2]
    by_cases h1 : F_51_3 p w = 0
    · rw [if_pos h1, if_pos h1]
    · rw [if_neg h1, if_neg h1]
      by_cases h2 : F_52_3 q w = 0
      · rw [if_pos h2, if_pos h2]
      · rw [if_neg h2, if_neg h2]
        obtain ⟨c, hc, rfl, -⟩ := hasC h1
        obtain ⟨f, hf, rfl, -⟩ := hasF h2
        rw [countR hc hf, countOf7 hc hf, b1 _ (by omega)]
theorem J_published {X : Scr} {w : Wd} (h : II w) (p q : Int32) : JJ X 141 244 [.int p, .int q] w := by
  obtain ⟨o1, o2, o3, o4, o5, o6, o7⟩ := h.1
  obtain ⟨⟨b1, b2, b3, b4, b5, b6, b7, b8, b9⟩, -⟩ := h.2.1
  refine JJ.ofFG (m_141_0 w p q) (m_244_110 w p q ?_) ?_ h
  · intro h1 h2
    rw [isF_eq o2] at h1
    obtain ⟨f, hf, rfl, -⟩ := hasF h1
    obtain ⟨k, -, hk, rfl⟩ := within_z (a := 0) (b := 7) (by decide) (by decide) (show ¬ F_153 q (kI 0) (kI 7) w = 0 from h2)
    rw [ixP]
    exact inB_nI (by omega) (by decide)
  · unfold F_244_110 F_141_0
    rw [isF_eq o2]
    by_cases h1 : F_52_3 p w = 0
    · rw [if_pos h1, if_pos h1]
    · rw [if_neg h1, if_neg h1]
      by_cases h2 : F_153 q (kI 0) (kI 7) w = 0
      · rw [if_pos h2, if_pos (show F_157 q (kI 0) (kI 7) w = 0 from h2)]
      · rw [if_neg h2, if_neg (show ¬ F_157 q (kI 0) (kI 7) w = 0 from h2)]
        obtain ⟨f, hf, rfl, -⟩ := hasF h1
        obtain ⟨k, -, hk, rfl⟩ := within_z (a := 0) (b := 7) (by decide) (by decide) h2
        rw [ixP, nI_clamp (by omega), pubOf7 hf (by omega), b4 f k hf (by omega)]
theorem J_count {X : Scr} {w : Wd} (h : II w) (p : Int32) : JJ X 150 257 [.int p] w := by
  have hO := h.1
  obtain ⟨o1, o2, o3, o4, o5, o6, o7⟩ := h.1
  obtain ⟨⟨b1, b2, b3, b4, b5, b6, b7, b8, b9⟩, -⟩ := h.2.1
  have key : F_257_110 p w = F_150_0 p w := by
    by_cases h0 : p = kI 0
    · subst h0; exact b6.symm
    by_cases h1 : p = kI 1
    · subst h1; exact b5.symm
    by_cases h2 : p = kI 2
    · subst h2; exact o1
    by_cases h3 : p = kI 3
    · subst h3; exact o2
    by_cases h4 : p = kI 4
    · subst h4; exact b8.symm
    by_cases h5 : p = kI 5
    · subst h5; exact b7.symm
    by_cases h6 : p = kI 6
    · subst h6; exact o3
    by_cases h7 : p = kI 7
    · subst h7; exact h.2.2.2.2.1.1
    by_cases h8 : p = kI 8
    · subst h8; exact h.2.2.2.1.1
    by_cases h9 : p = kI 9
    · subst h9; exact b9.symm
    by_cases h10 : p = kI 10
    · subst h10; exact h.2.2.2.2.2.2.1
    by_cases h11 : p = kI 11
    · subst h11; exact h.2.2.2.2.2.1.1
    by_cases h12 : p = kI 12
    · subst h12; exact allPeople_eq hO
    have m20 : F_153 (p - kI 20) (kI 0) (kI 5) w = 0 → F_153 p (kI 20) (kI 25) w = 0 := fun e => Classical.byContradiction fun hn => by
      obtain ⟨m, hm1, hm2, rfl⟩ := within_z (a := 20) (b := 25) (by decide) (by decide) hn
      rw [show nI m - kI 20 = nI (m - 20) from pk_sub hm1] at e
      exact in5 (by omega) e
    have m30 : F_153 (p - kI 30) (kI 0) (kI 5) w = 0 → F_153 p (kI 30) (kI 35) w = 0 := fun e => Classical.byContradiction fun hn => by
      obtain ⟨m, hm1, hm2, rfl⟩ := within_z (a := 30) (b := 35) (by decide) (by decide) hn
      rw [show nI m - kI 30 = nI (m - 30) from pk_sub hm1] at e
      exact in5 (by omega) e
    unfold F_257_110 F_150_0
    rw [if_neg h0, if_neg h1, if_neg h2, if_neg h3, if_neg h4, if_neg h5, if_neg h6, if_neg h7, if_neg h8, if_neg h9, if_neg h10, if_neg h11, if_neg h12]
    rw [if_neg h0, if_neg h1, if_neg h2, if_neg h3, if_neg h4, if_neg h5, if_neg h6, if_neg h7, if_neg h8, if_neg h9, if_neg h10, if_neg h11, if_neg h12]
    rw [isC_eq o1, isC_eq o1]
    by_cases g1 : F_153 (p - kI 20) (kI 0) (kI 5) w = 0
    · have g2 : F_51_3 (p - kI 20) w = 0 := by unfold F_51_3; rw [if_pos g1]; rfl
      rw [if_pos g2, if_pos (m20 g1)]
      by_cases g3 : F_153 (p - kI 30) (kI 0) (kI 5) w = 0
      · have g4 : F_51_3 (p - kI 30) w = 0 := by unfold F_51_3; rw [if_pos g3]; rfl
        rw [if_pos g4, if_pos (m30 g3)]
      · obtain ⟨m, -, hm, e⟩ := within_z (a := 0) (b := 5) (by decide) (by decide) g3
        have e2 : p = nI (m + 30) := by
          have := congrArg (· + kI 30) e
          simp only [Int32.sub_add_cancel] at this
          rw [this]
          exact nI_add m 30
        rw [if_neg (show ¬ F_153 p (kI 30) (kI 35) w = 0 by rw [e2]; have := within_nI (n := m + 30) (a := 30) (b := 35) (w := w) (by omega) (by decide) (by decide); rw [if_pos (by omega)] at this; intro e9; rw [show F_153 (nI (m + 30)) (kI 30) (kI 35) w = 1 from this] at e9; exact absurd e9 (by decide))]
        rw [e]
        by_cases g4 : F_51_3 (nI m) w = 0
        · rw [if_pos g4, if_pos g4]
        · rw [if_neg g4, if_neg g4, nI_clamp (by omega), peopleOf_nI (by omega), (o7 m (by omega)).1]
    · obtain ⟨m, -, hm, e⟩ := within_z (a := 0) (b := 5) (by decide) (by decide) g1
      have e2 : p = nI (m + 20) := by
        have := congrArg (· + kI 20) e
        simp only [Int32.sub_add_cancel] at this
        rw [this]
        exact nI_add m 20
      rw [if_neg (show ¬ F_153 p (kI 20) (kI 25) w = 0 by rw [e2]; have := within_nI (n := m + 20) (a := 20) (b := 25) (w := w) (by omega) (by decide) (by decide); rw [if_pos (by omega)] at this; intro e9; rw [show F_153 (nI (m + 20)) (kI 20) (kI 25) w = 1 from this] at e9; exact absurd e9 (by decide))]
      have g5 : F_51_3 (p - kI 30) w = 0 := by
        have hlt : p - kI 30 < kI 0 := by
          rw [e2]
          exact pk_sneg (a := m + 20) (b := 30) (by decide) (by omega)
        unfold F_51_3 F_153
        rw [if_pos hlt]
        rfl
      rw [e, if_pos g5]
      by_cases g4 : F_51_3 (nI m) w = 0
      · rw [if_pos g4, if_pos g4]
      · rw [if_neg g4, if_neg g4, nI_clamp (by omega), neighOf_nI (by omega), (o7 m (by omega)).2.2.1]
  have ib : ∀ q, ¬ F_164_110 q w = 0 → inB q 6 = true := fun q hq => by
    rw [isC_eq o1] at hq
    obtain ⟨c, hc, rfl, -⟩ := hasC hq
    exact inB_nI hc (by decide)
  refine JJ.ofFG (m_150_0 w p) (m_257_110 w p ?_ ?_) key h
  · intros; exact ib _ (by assumption)
  · intros; exact ib _ (by assumption)
end CALLS
