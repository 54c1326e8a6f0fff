/-! the invariant holds behind both constructors -/
section LAWC
set_option maxRecDepth 100000 in
theorem wM_a : (wM 3 3 = 0 ∧ wM 3 4 = 0 ∧ wM 3 5 = 0) ∧ (wM 110 6 = 0 ∧ wM 110 7 = 0 ∧ wM 110 8 = 0 ∧ wM 110 10 = 0 ∧ wM 110 19 = 0 ∧ wM 110 56 = 0 ∧ wM 110 57 = 0 ∧ wM 110 64 = 0) ∧ (wM 0 16 = 0 ∧ wM 0 17 = 0 ∧ wM 1 1 = 0 ∧ wM 22 7 = 0 ∧ wM 102 6 = 0) ∧ (wM 7 4 = 0 ∧ wM 7 5 = 0 ∧ wM 7 6 = 0 ∧ wM 7 7 = 0 ∧ wM 7 8 = 1) ∧ (wM 111 157 = 0 ∧ wM 111 158 = 0 ∧ wM 111 159 = 0 ∧ wM 111 160 = 0 ∧ wM 111 161 = 1) := by decide +kernel
set_option maxRecDepth 100000 in
theorem wM_b : (∀ c, c < 6 → wM 114 c = 0 ∧ wM 4 c = 0 ∧ wM 116 c = 0 ∧ wM 5 c = 0 ∧ wM 115 c = 0 ∧ wM 6 c = 0 ∧ wM 9 c = 0) ∧ (∀ i, i < 36 → wM 8 i = 0) ∧ (∀ i, i < 108 → wM 111 i = 0) ∧ (∀ i, i < 72 → wM 10 i = 0) ∧ (∀ i, i < 48 → wM 11 i = -2 ∧ wM 111 (108 + i) = -2) := by decide +kernel
set_option maxRecDepth 100000 in
theorem wM_c : ∀ r, r < 20 → (wM 140 r = 0 ∧ wM 103 r = 0 ∧ wM 141 r = 0 ∧ wM 104 r = 0) ∧ (wM 142 r = 0 ∧ wM 105 r = 0 ∧ wM 143 r = 0 ∧ wM 106 r = 0) := by decide +kernel
theorem nn0 (m : Nat) : nn 0 m := ⟨0, Nat.zero_le m, rfl⟩
theorem nI_nlt0 {q : Nat} (h : q < 2 ^ 31) : ¬ nI q < 0 := nI_pos h
theorem II_wM : II wM := by
  obtain ⟨⟨a1, a2, a3⟩, ⟨b1, b2, b3, b4, b5, b6, b7, b8⟩, ⟨c1, c2, c3, c4, c5⟩, ⟨d1, d2, d3, d4, d5⟩, e1, e2, e3, e4, e5⟩ := wM_a
  obtain ⟨p1, p2, p3, p4, p5⟩ := wM_b
  refine ⟨?_, ?_, ?_, ?_, ?_, ?_, ?_⟩
  · refine ⟨by rw [b1, a1], by rw [b2, a2], by rw [b3, a3], by rw [a1]; exact nn0 _, by rw [a2]; exact nn0 _, by rw [a3]; exact nn0 _, fun c hc => ?_⟩
    obtain ⟨q1, q2, q3, q4, q5, q6, q7⟩ := p1 c hc
    refine ⟨by rw [q1, q2], by rw [q3, q4], by rw [q5, q6], by rw [q2]; exact nn0 _, by rw [q4]; exact nn0 _, by rw [q6]; exact nn0 _, fun _ => q2⟩
  · refine ⟨⟨fun i hi => ?_, fun f hf => ?_, fun i hi => ?_, fun f k hf hk => ?_, by rw [d1, e1], by rw [d2, e2], by rw [d3, e3], by rw [d4, e4], by rw [d5, e5]⟩, fun i hi => ?_, fun c f hc hf _ => p3 _ (by omega), fun i hi => ?_, by rw [e1]; exact nn0 _, by rw [e2]; exact nn0 _, by rw [e3]; exact nn0 _, by rw [e5]; exact ⟨1, by decide, rfl⟩⟩
    · show wM 8 i = wM 111 i
      rw [p2 i hi, p3 i (by omega)]
    · show wM 9 f = sum6 (wM 111) f
      unfold sum6
      rw [(p1 f hf).2.2.2.2.2.2, p3 f (by omega), p3 _ (by omega), p3 _ (by omega), p3 _ (by omega), p3 _ (by omega), p3 _ (by omega)]
      decide
    · show wM 10 i = wM 111 (36 + i)
      rw [p4 i hi, p3 _ (by omega)]
    · show wM 11 (6 * k + f) = wM 111 (108 + 8 * f + k)
      have h1 := (p5 (6 * k + f) (by omega)).1
      have h2 := (p5 (8 * f + k) (by omega)).2
      rw [← Nat.add_assoc] at h2
      rw [h1, h2]
    · rw [p3 i (by omega)]; exact nn0 _
    · rw [p3 _ (by omega)]; exact nn0 _
  · refine ⟨by rw [b8, c2], Or.inl c2, fun h => ?_⟩
    rw [c2] at h
    exact absurd h (by decide)
  · refine ⟨by rw [b4, c3], by rw [c3]; exact nn0 _, fun i hi h => ?_⟩
    rw [c3] at h
    exact absurd h (nI_nlt0 (by omega))
  · refine ⟨by rw [b5, c4], by rw [c4]; exact nn0 _, fun _ => 0, fun _ => 0, 0, by decide, fun k hk => absurd hk (by omega), fun q hq h => ?_⟩
    rw [c4] at h
    exact absurd h (nI_nlt0 (by omega))
  · refine ⟨by rw [b7, c1], by rw [c1]; exact nn0 _, fun d hd h => ?_⟩
    rw [c1] at h
    exact absurd ((isin_z (S := 0) wM (by decide) (by omega)).mpr (by simp)) h
  · refine ⟨by rw [b6, c5], by rw [c5]; exact nn0 _, fun r hr => ?_⟩
    obtain ⟨⟨q1, q2, q3, q4⟩, q5, q6, q7, q8⟩ := wM_c r hr
    refine ⟨by rw [q1, q2], by rw [q3, q4], by rw [q5, q6], by rw [q7, q8], by rw [q2]; exact nn0 _, by rw [q4]; exact nn0 _, by rw [q6]; exact nn0 _, by rw [q8]; exact nn0 _⟩
theorem PURE_all {L : Nat} (xs : Nat → Int32) (hL : L ≤ 3072) : PURE L xs := pure_all II_wM xs hL
end LAWC
