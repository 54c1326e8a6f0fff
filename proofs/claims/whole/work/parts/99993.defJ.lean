/-! definition: the two calls -/
section DEFJ
theorem II.df {w u : Wd} (h : II w) (s0 : ∀ a, stC a = true → (a < 37 ∨ 78 < a) → a ≠ 144 → a ≠ 145 → u a = w a) (l : ID u) (t1 : u 1 1 = kI 0) (t2 : u 110 10 = kI 0) (s2 : u 0 17 = w 0 17) (s4 : u 102 6 = w 102 6) (sj : ∀ j, (j = 6 ∨ j = 7 ∨ j = 8 ∨ j = 19 ∨ j = 56 ∨ j = 64) → u 110 j = w 110 j) : II u := by
  obtain ⟨h1, h2, h3, h4, h5, h6, h7⟩ := h
  have e3 := s0 3 rfl (by decide) (by decide) (by decide)
  have e33 : u 3 3 = w 3 3 := by rw [e3]
  refine ⟨h1.cg e3 (s0 4 rfl (by decide) (by decide) (by decide)) (s0 5 rfl (by decide) (by decide) (by decide)) (s0 6 rfl (by decide) (by decide) (by decide)) (s0 114 rfl (by decide) (by decide) (by decide)) (s0 115 rfl (by decide) (by decide) (by decide)) (s0 116 rfl (by decide) (by decide) (by decide)) (sj 6 (by decide)) (sj 7 (by decide)) (sj 8 (by decide)),
    h2.cg e33 (s0 111 rfl (by decide) (by decide) (by decide)) (s0 7 rfl (by decide) (by decide) (by decide)) (s0 8 rfl (by decide) (by decide) (by decide)) (s0 9 rfl (by decide) (by decide) (by decide)) (s0 10 rfl (by decide) (by decide) (by decide)) (s0 11 rfl (by decide) (by decide) (by decide)),
    h3.cg e33 (s0 113 rfl (by decide) (by decide) (by decide)) s2 (sj 64 (by decide)) (s0 12 rfl (by decide) (by decide) (by decide)) (s0 13 rfl (by decide) (by decide) (by decide)) (s0 14 rfl (by decide) (by decide) (by decide)) (s0 15 rfl (by decide) (by decide) (by decide)) (s0 16 rfl (by decide) (by decide) (by decide)),
    ⟨by rw [t1, t2], by rw [t1]; exact ⟨0, by decide, rfl⟩, fun i hi hlt => ?_⟩,
    h5.cg (s0 22 rfl (by decide) (by decide) (by decide)) (s0 23 rfl (by decide) (by decide) (by decide)) (s0 24 rfl (by decide) (by decide) (by decide)) (s0 25 rfl (by decide) (by decide) (by decide)) (s0 26 rfl (by decide) (by decide) (by decide)) (s0 27 rfl (by decide) (by decide) (by decide)) (s0 28 rfl (by decide) (by decide) (by decide)) (s0 124 rfl (by decide) (by decide) (by decide)) (s0 125 rfl (by decide) (by decide) (by decide)) (s0 126 rfl (by decide) (by decide) (by decide)) (s0 127 rfl (by decide) (by decide) (by decide)) (s0 128 rfl (by decide) (by decide) (by decide)) (sj 19 (by decide)), l,
    h7.cg (s0 103 rfl (by decide) (by decide) (by decide)) (s0 104 rfl (by decide) (by decide) (by decide)) (s0 105 rfl (by decide) (by decide) (by decide)) (s0 106 rfl (by decide) (by decide) (by decide)) (s0 140 rfl (by decide) (by decide) (by decide)) (s0 141 rfl (by decide) (by decide) (by decide)) (s0 142 rfl (by decide) (by decide) (by decide)) (s0 143 rfl (by decide) (by decide) (by decide)) s4 (sj 56 (by decide))⟩
  rw [t1] at hlt
  exact absurd hlt (nI_nlt (b := 0) (by omega) (by omega))
end DEFJ
