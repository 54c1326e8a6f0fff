/-! months -/
section MONTHSJ
theorem told_fc {w : Wd} (o1 : w 110 6 = w 3 3) : ∃ fc : Nat → Bool, (∀ c, c < 6 → (F_51_3 (nI c) w = 0 ↔ fc c = false)) ∧ (∀ c, c < 6 → (F_164_110 (nI c) w = 0 ↔ fc c = false)) := by
  refine ⟨fun c => !decide (F_51_3 (nI c) w = 0), fun c hc => ?_, fun c hc => ?_⟩
  · simp
  · rw [isC_eq o1]; simp
theorem told_ft {w : Wd} (o2 : w 110 7 = w 3 4) : ∃ ft : Nat → Bool, (∀ c, c < 6 → (F_52_3 (nI c) w = 0 ↔ ft c = false)) ∧ (∀ c, c < 6 → (F_165_110 (nI c) w = 0 ↔ ft c = false)) := by
  refine ⟨fun c => !decide (F_52_3 (nI c) w = 0), fun c hc => ?_, fun c hc => ?_⟩
  · simp
  · rw [isF_eq o2]; simp
theorem NV.split {fc : Nat → Bool} {w : Wd} {n : Nat → Int32} (h : NV (w 3 3) n) (hfc : ∀ c, c < 6 → (F_51_3 (nI c) w = 0 ↔ fc c = false)) : NVn n ∧ ZR fc n := by
  obtain ⟨n1, n2, n3, n4, n5, n6, n7⟩ := h
  exact ⟨⟨n1, n3, n4, n5, n6, n7⟩, fun c g hc hg hz => n2 c g hc hg ((isC_nI hc).mp ((hfc c hc).mpr hz))⟩
theorem NV.join {fc : Nat → Bool} {w : Wd} {n : Nat → Int32} (h : NVn n) (h2 : ZR fc n) (hfc : ∀ c, c < 6 → (F_51_3 (nI c) w = 0 ↔ fc c = false)) : NV (w 3 3) n := by
  obtain ⟨n1, n3, n4, n5, n6, n7⟩ := h
  exact ⟨n1, fun c g hc hg hz => h2 c g hc hg ((hfc c hc).mp ((isC_nI hc).mpr hz)), n3, n4, n5, n6, n7⟩
theorem J_months {X : Scr} {w : Wd} (h : II w) (p : Int32) : JJ X 124 212 [.int p] w := by
  have h0 := h
  obtain ⟨hO, hB, hK, hT, hL, hD, hR⟩ := h
  have hOO := hO
  obtain ⟨o1, o2, o3, o4, o5, o6, o7⟩ := hO
  obtain ⟨fc, f1, f2⟩ := told_fc o1
  obtain ⟨ft, g1, g2⟩ := told_ft o2
  obtain ⟨op, ar, lt, la, lm, lb, cnt, len, LC, LR, LV⟩ := law_of hL
  obtain ⟨v1, v2⟩ := hB.2.split f1
  unfold JJ
  refine CI.of (d := 59) rfl (t124_0_at0 (d := 58) w p ?_)
  have t : ∀ (u : Wd) (Q : Int32 → Wd → Prop), _ → CI X 60 212 [.ref 110, .int p] u Q := fun u Q H => CI.of (d := 59) rfl (t212_110_at0 (d := 58) u p H)
  by_cases h1 : F_153 p (kI 1) (kI 60) w = 0
  · rw [if_pos h1]
    refine t w _ ?_
    rw [if_pos (show F_157 p (kI 1) (kI 60) w = 0 from h1)]
    exact ⟨rfl, h0⟩
  rw [if_neg h1]
  obtain ⟨n, -, hn, rfl⟩ := within_z (a := 1) (b := 60) (by decide) (by decide) h1
  refine CU.mono (c_21_7 (d := 50) (fc := fc) (ft := ft) hn LC LV f1 g1 o6 hB.1 v1) ?_
  intro ua hA
  obtain ⟨a1, a2, a3, a4, a5, a6, a7⟩ := hA
  have fr : ∀ a, 110 ≤ a → ua a = w a := fun a ha => a7 a (by omega) (by omega) (by omega) (by omega)
  have e3 : ua 3 = w 3 := a7 3 (by omega) (by decide) (by decide) (by decide)
  refine t ua _ ?_
  rw [if_neg (show ¬ F_157 (nI n) (kI 1) (kI 60) ua = 0 from h1)]
  have LR1 : LWR ua op ar lt la lm lb cnt len := LR.cg2 (by rw [fr 110 (by decide)]) (fun a h1 h2 => fr a (by omega))
  refine CU.mono (c_211 (d := 49) (fc := fc) (ft := ft) hn LR1 LV (fun c hc => by rw [c164 (w := w) (by rw [fr 110 (by decide)])]; exact f2 c hc) (fun f hf => by rw [c165 (w := w) (by rw [fr 110 (by decide)])]; exact g2 f hf) (by rw [fr 110 (by decide), o3]; exact o6) (by rw [fr 111 (by decide)]; exact v1) (by rw [fr 111 (by decide)]; exact v2)) ?_
  intro ub hBb
  have eT : ∀ f, f < 6 → w 116 f = w 5 f := fun f hf => (o7 f hf).2.1
  have eP : ∀ c, c < 6 → w 114 c = w 4 c := fun c hc => (o7 c hc).1
  rw [fr 111 (by decide), fr 116 (by decide), fr 114 (by decide), fr 110 (by decide), o3] at hBb
  rw [msF_cg (T := w 5) (Pp := w 4) eT eP] at hBb
  generalize msF fc ft (lawA op ar lt la lm lb cnt (kI 110) 99) (lawA op ar lt la lm lb cnt (kI 100) 10) (lawX op ar lt lm lb cnt) (lawA op ar lt la lm lb cnt (kI 107) 99) (w 5) (w 4) (w 3 5) n (w 111, kI 0, kI 0, kI 0, kI 0) = R at a1 a2 a3 a4 a5 hBb
  obtain ⟨b1, b2, b3, b4, b5, b6, b7, b8, b9⟩ := hBb
  refine ⟨by rw [b4, a3], ?_⟩
  have z : ∀ a, ¬ (7 ≤ a ∧ a ≤ 11) → a ≠ 85 → a ≠ 86 → a ≠ 87 → a ≠ 110 → a ≠ 111 → a ≠ 129 → a ≠ 130 → ub a = w a := fun a h1 h2 h3 h4 h5 h6 h7 h8 => by rw [b9 a h5 h6 h7 h8, a7 a h1 h2 h3 h4]
  have zj : ∀ j, j ≠ 36 → j ≠ 37 → j ≠ 38 → j ≠ 39 → j ≠ 40 → ub 110 j = w 110 j := fun j h1 h2 h3 h4 h5 => by rw [b8 j h1 h2 h3 h4 h5, fr 110 (by decide)]
  have zb : ∀ a, 7 ≤ a → a ≤ 11 → ub a = ua a := fun a h1 h2 => b9 a (by omega) (by omega) (by omega) (by omega)
  have z3 : ub 3 = w 3 := z 3 (by omega) (by decide) (by decide) (by decide) (by decide) (by decide) (by decide) (by decide)
  refine ⟨hOO.cg z3 (z 4 (by omega) (by decide) (by decide) (by decide) (by decide) (by decide) (by decide) (by decide)) (z 5 (by omega) (by decide) (by decide) (by decide) (by decide) (by decide) (by decide) (by decide)) (z 6 (by omega) (by decide) (by decide) (by decide) (by decide) (by decide) (by decide) (by decide)) (z 114 (by omega) (by decide) (by decide) (by decide) (by decide) (by decide) (by decide) (by decide)) (z 115 (by omega) (by decide) (by decide) (by decide) (by decide) (by decide) (by decide) (by decide)) (z 116 (by omega) (by decide) (by decide) (by decide) (by decide) (by decide) (by decide) (by decide)) (zj 6 (by decide) (by decide) (by decide) (by decide) (by decide)) (zj 7 (by decide) (by decide) (by decide) (by decide) (by decide)) (zj 8 (by decide) (by decide) (by decide) (by decide) (by decide)),
    ⟨?_, ?_⟩,
    hK.cg (by rw [z3]) (z 113 (by omega) (by decide) (by decide) (by decide) (by decide) (by decide) (by decide) (by decide)) (by rw [z 0 (by omega) (by decide) (by decide) (by decide) (by decide) (by decide) (by decide) (by decide)]) (zj 64 (by decide) (by decide) (by decide) (by decide) (by decide)) (z 12 (by omega) (by decide) (by decide) (by decide) (by decide) (by decide) (by decide) (by decide)) (z 13 (by omega) (by decide) (by decide) (by decide) (by decide) (by decide) (by decide) (by decide)) (z 14 (by omega) (by decide) (by decide) (by decide) (by decide) (by decide) (by decide) (by decide)) (z 15 (by omega) (by decide) (by decide) (by decide) (by decide) (by decide) (by decide) (by decide)) (z 16 (by omega) (by decide) (by decide) (by decide) (by decide) (by decide) (by decide) (by decide)),
    hT.cg (z 2 (by omega) (by decide) (by decide) (by decide) (by decide) (by decide) (by decide) (by decide)) (z 117 (by omega) (by decide) (by decide) (by decide) (by decide) (by decide) (by decide) (by decide)) (by rw [z 1 (by omega) (by decide) (by decide) (by decide) (by decide) (by decide) (by decide) (by decide)]) (zj 10 (by decide) (by decide) (by decide) (by decide) (by decide)),
    hL.cg (z 22 (by omega) (by decide) (by decide) (by decide) (by decide) (by decide) (by decide) (by decide)) (z 23 (by omega) (by decide) (by decide) (by decide) (by decide) (by decide) (by decide) (by decide)) (z 24 (by omega) (by decide) (by decide) (by decide) (by decide) (by decide) (by decide) (by decide)) (z 25 (by omega) (by decide) (by decide) (by decide) (by decide) (by decide) (by decide) (by decide)) (z 26 (by omega) (by decide) (by decide) (by decide) (by decide) (by decide) (by decide) (by decide)) (z 27 (by omega) (by decide) (by decide) (by decide) (by decide) (by decide) (by decide) (by decide)) (z 28 (by omega) (by decide) (by decide) (by decide) (by decide) (by decide) (by decide) (by decide)) (z 124 (by omega) (by decide) (by decide) (by decide) (by decide) (by decide) (by decide) (by decide)) (z 125 (by omega) (by decide) (by decide) (by decide) (by decide) (by decide) (by decide) (by decide)) (z 126 (by omega) (by decide) (by decide) (by decide) (by decide) (by decide) (by decide) (by decide)) (z 127 (by omega) (by decide) (by decide) (by decide) (by decide) (by decide) (by decide) (by decide)) (z 128 (by omega) (by decide) (by decide) (by decide) (by decide) (by decide) (by decide) (by decide)) (zj 19 (by decide) (by decide) (by decide) (by decide) (by decide)),
    hD.cg (by rw [z 0 (by omega) (by decide) (by decide) (by decide) (by decide) (by decide) (by decide) (by decide)]) (zj 57 (by decide) (by decide) (by decide) (by decide) (by decide)) (fun a h1 h2 => z a (by omega) (by omega) (by omega) (by omega) (by omega) (by omega) (by omega) (by omega)) (z 144 (by omega) (by decide) (by decide) (by decide) (by decide) (by decide) (by decide) (by decide)) (z 145 (by omega) (by decide) (by decide) (by decide) (by decide) (by decide) (by decide) (by decide)),
    hR.cg (z 103 (by omega) (by decide) (by decide) (by decide) (by decide) (by decide) (by decide) (by decide)) (z 104 (by omega) (by decide) (by decide) (by decide) (by decide) (by decide) (by decide) (by decide)) (z 105 (by omega) (by decide) (by decide) (by decide) (by decide) (by decide) (by decide) (by decide)) (z 106 (by omega) (by decide) (by decide) (by decide) (by decide) (by decide) (by decide) (by decide)) (z 140 (by omega) (by decide) (by decide) (by decide) (by decide) (by decide) (by decide) (by decide)) (z 141 (by omega) (by decide) (by decide) (by decide) (by decide) (by decide) (by decide) (by decide)) (z 142 (by omega) (by decide) (by decide) (by decide) (by decide) (by decide) (by decide) (by decide)) (z 143 (by omega) (by decide) (by decide) (by decide) (by decide) (by decide) (by decide) (by decide)) (by rw [z 102 (by omega) (by decide) (by decide) (by decide) (by decide) (by decide) (by decide) (by decide)]) (zj 56 (by decide) (by decide) (by decide) (by decide) (by decide))⟩
  · rw [b1]
    exact a1.congr (zb 7 (by decide) (by decide)) (zb 8 (by decide) (by decide)) (zb 9 (by decide) (by decide)) (zb 10 (by decide) (by decide)) (zb 11 (by decide) (by decide))
  · rw [b1, z3]
    exact NV.join (w := w) b2 b3 f1
end MONTHSJ
