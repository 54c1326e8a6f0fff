/-! law: the two calls -/
section LAWJ
theorem II.lw {w u : Wd} (h : II w) (s0 : ∀ a, stC a = true → (a < 22 ∨ 28 < a) → (a < 124 ∨ 128 < a) → u a = w a) (l : IL u) (t1 : u 1 1 = kI 0) (t2 : u 110 10 = kI 0) (s1 : u 0 16 = w 0 16) (s2 : u 0 17 = w 0 17) (s4 : u 102 6 = w 102 6) (sj : ∀ j, (j = 6 ∨ j = 7 ∨ j = 8 ∨ j = 56 ∨ j = 57 ∨ j = 64) → u 110 j = w 110 j) : II u := by
  obtain ⟨h1, h2, h3, h4, h5, h6, h7⟩ := h
  have e3 := s0 3 rfl (by decide) (by decide)
  have e33 : u 3 3 = w 3 3 := by rw [e3]
  refine ⟨h1.cg e3 (s0 4 rfl (by decide) (by decide)) (s0 5 rfl (by decide) (by decide)) (s0 6 rfl (by decide) (by decide)) (s0 114 rfl (by decide) (by decide)) (s0 115 rfl (by decide) (by decide)) (s0 116 rfl (by decide) (by decide)) (sj 6 (by decide)) (sj 7 (by decide)) (sj 8 (by decide)),
    h2.cg e33 (s0 111 rfl (by decide) (by decide)) (s0 7 rfl (by decide) (by decide)) (s0 8 rfl (by decide) (by decide)) (s0 9 rfl (by decide) (by decide)) (s0 10 rfl (by decide) (by decide)) (s0 11 rfl (by decide) (by decide)),
    h3.cg e33 (s0 113 rfl (by decide) (by decide)) s2 (sj 64 (by decide)) (s0 12 rfl (by decide) (by decide)) (s0 13 rfl (by decide) (by decide)) (s0 14 rfl (by decide) (by decide)) (s0 15 rfl (by decide) (by decide)) (s0 16 rfl (by decide) (by decide)),
    ⟨by rw [t1, t2], by rw [t1]; exact ⟨0, by decide, rfl⟩, fun i hi hlt => ?_⟩, l,
    h6.cg s1 (sj 57 (by decide)) (fun a h1 h2 => s0 a (by simp [stC]; omega) (by omega) (by omega)) (s0 144 rfl (by decide) (by decide)) (s0 145 rfl (by decide) (by decide)),
    h7.cg (s0 103 rfl (by decide) (by decide)) (s0 104 rfl (by decide) (by decide)) (s0 105 rfl (by decide) (by decide)) (s0 106 rfl (by decide) (by decide)) (s0 140 rfl (by decide) (by decide)) (s0 141 rfl (by decide) (by decide)) (s0 142 rfl (by decide) (by decide)) (s0 143 rfl (by decide) (by decide)) s4 (sj 56 (by decide))⟩
  rw [t1] at hlt
  exact absurd hlt (nI_nlt (b := 0) (by omega) (by omega))
theorem stz (a : Nat) (h : stC a = true) : a ≠ 1 ∧ (a < 29 ∨ 35 < a) ∧ a ≠ 110 ∧ (a < 118 ∨ 123 < a) := by
  refine ⟨fun e => (by subst e; cases h), ?_, fun e => (by subst e; cases h), ?_⟩
  · refine Decidable.byContradiction (fun hn => ?_)
    have : a = 29 ∨ a = 30 ∨ a = 31 ∨ a = 32 ∨ a = 33 ∨ a = 34 ∨ a = 35 := by omega
    rcases this with e | e | e | e | e | e | e <;> (subst e; cases h)
  · refine Decidable.byContradiction (fun hn => ?_)
    have : a = 118 ∨ a = 119 ∨ a = 120 ∨ a = 121 ∨ a = 122 ∨ a = 123 := by omega
    rcases this with e | e | e | e | e | e <;> (subst e; cases h)
theorem J_law {X : Scr} {w : Wd} (h : II w) (p : Int32) : JJ X 122 196 [.int p] w := by
  have h0 := h
  obtain ⟨hO, hB, hK, hT, hL, hD, hR⟩ := h
  obtain ⟨sz, hsz, es⟩ := hT.2.1
  have er10 : w 110 10 = nI sz := by rw [hT.1]; exact es
  unfold JJ
  by_cases h1 : F_105_1 p (kI 1) (kI 240) w = 0
  · refine CI.of (d := 59) rfl (t122_0_at0 (d := 57) w p ?_)
    rw [if_pos h1]
    refine CI.of (d := 59) rfl (t196_110_at0 (d := 57) w p ?_)
    by_cases h2 : F_157 p (kI 1) (kI 240) w = 0
    · rw [if_pos h2]; exact ⟨rfl, h0⟩
    · rw [if_neg h2]
      unfold F_105_1 at h1
      rw [if_neg (show ¬ F_153 p (kI 1) (kI 240) w = 0 from h2)] at h1
      by_cases h3 : w 1 1 < p
      · rw [if_neg (show ¬ p ≤ w 110 10 by rw [hT.1]; exact Int32.not_le.mpr h3)]; exact ⟨rfl, h0⟩
      · rw [if_neg h3] at h1; exact absurd h1 (by decide)
  obtain ⟨n, n1, n2, n3, rfl⟩ := f105 (a := 1) (b := 240) es hsz (by decide) (by decide) h1
  have h2 : ¬ F_157 (nI n) (kI 1) (kI 240) w = 0 := by
    have := within_nI (n := n) (a := 1) (b := 240) (w := w) (by omega) (by decide) (by decide)
    rw [if_pos (by omega)] at this
    intro e
    rw [show F_157 (nI n) (kI 1) (kI 240) w = 1 from this] at e
    exact absurd e (by decide)
  obtain ⟨ch, c1, c2⟩ := txt_of hT es n3 hsz
  have hc : CHn256 ch n := by
    refine ⟨fun i => ?_, c2, fun i hi => (c1 i hi).2.1⟩
    by_cases e : n ≤ i
    · rw [c2 i e]; omega
    · have := (c1 i (by omega)).2.1; omega
  have ok := ruA_ok hc n2
  have refR : ∀ (ub : Wd) (Q : Int32 → Wd → Prop), (∀ a, 110 ≤ a → ub a = w a) → (∀ r, ruA ch = .inl r → ∀ v, GRr (G_195_110 (nI n) ub) v → Q r (up2 v 110 10 (kI 0))) → (∀ y, ruA ch = .inr y → ∀ v, RSr (G_195_110 (nI n) ub) v ch n y → ∀ v2 : Wd, (∀ a, a ≠ 110 → (a < 124 ∨ 128 < a) → v2 a = v a) → (∀ j, j ≠ 10 → j ≠ 19 → v2 110 j = v 110 j) → v2 110 10 = kI 0 → v2 110 19 = nI y.2.2 → (∀ i, i < y.1.2.2.2 → v2 124 i = v 118 i) → (∀ i, i < y.2.2 → v2 125 i = v 120 i ∧ v2 126 i = v 121 i ∧ v2 127 i = v 122 i ∧ v2 128 i = v 123 i) → Q (nI y.2.2) v2) → CI X 60 196 [.ref 110, .int (nI n)] ub Q := by
    intro ub Q fb q0 q1
    exact c_196 (e := 51) n2 h2 (by rw [fb 110 (by decide), er10]; exact nI_le n3 (by omega)) (fun i hi => by rw [fb 117 (by decide)]; exact ⟨(c1 i hi).2.2, (c1 i hi).2.1⟩) c2 q0 q1
  have s195 : ∀ (ub : Wd), (∀ a, a ≠ 110 → G_195_110 (nI n) ub a = ub a) ∧ ∀ j, (j < 11 ∨ 18 < j) → G_195_110 (nI n) ub 110 j = ub 110 j := by
    intro ub
    unfold G_195_110
    exact ⟨fun a ha => by rw [up2_ne ha, up2_ne ha, up2_ne ha, up2_ne ha, up2_ne ha, up2_ne ha], fun j hj => by rw [up2_at, if_neg (by omega), up2_at, if_neg (by omega), up2_at, if_neg (by omega), up2_at, if_neg (by omega), up2_at, if_neg (by omega), up2_at, if_neg (by omega)]⟩
  have s77 : ∀ v, GRc (G_77_29 (G_107_1 (nI n) w)) v → ∀ a, a ≠ 1 → (a < 29 ∨ 35 < a) → G_108_1 v a = w a := by
    intro v g a x1 x2
    unfold G_108_1
    rw [up2_ne x1, g.1 a x1 x2]
    unfold G_77_29
    rw [up2_ne (by omega), up2_ne (by omega)]
    exact (g107 (w := w) (v := nI n)).1 a x1
  have s11 : ∀ v, G_108_1 v 1 1 = kI 0 := fun v => by unfold G_108_1; rw [up2_at, if_pos rfl]
  refine c_122 (d := 57) h1 ?_
  refine c_62 (d := 22) n2 es n3 hsz c1 c2 (fun e er v g => Or.inl ⟨ok.2 e er, ?_⟩) (fun y er v g => Or.inr ⟨rfl, y.1.2.2.2, y.2.2, ?_, ?_, ?_, ?_, ?_⟩)
  · have fb : ∀ a, 110 ≤ a → G_108_1 v a = w a := fun a ha => s77 v g a (by omega) (by omega)
    refine refR _ _ fb (fun r er2 v2 g2 => ?_) (fun y er2 => by rw [er] at er2; cases er2)
    rw [er] at er2
    refine ⟨(Sum.inl.inj er2).symm, ?_⟩
    have q : ∀ a, a ≠ 1 → (a < 29 ∨ 35 < a) → a ≠ 110 → (a < 118 ∨ 123 < a) → (up2 v2 110 10 (kI 0)) a = w a := fun a x1 x2 x3 x4 => by rw [up2_ne x3, g2.1 a x3 x4, (s195 _).1 a x3]; exact s77 v g a x1 x2
    have qj : ∀ j, j ≠ 10 → (j < 11 ∨ 18 < j) → (up2 v2 110 10 (kI 0)) 110 j = w 110 j := fun j x1 x2 => by rw [up2_at, if_neg x1, g2.2 j (by omega), (s195 _).2 j x2, fb 110 (by decide)]
    refine h0.txt (fun a ha _ _ _ => q a (stz a ha).1 (stz a ha).2.1 (stz a ha).2.2.1 (stz a ha).2.2.2) (hB.cg (by rw [q 3 (by decide) (by decide) (by decide) (by decide)]) (q 111 (by decide) (by decide) (by decide) (by decide)) (q 7 (by decide) (by decide) (by decide) (by decide)) (q 8 (by decide) (by decide) (by decide) (by decide)) (q 9 (by decide) (by decide) (by decide) (by decide)) (q 10 (by decide) (by decide) (by decide) (by decide)) (q 11 (by decide) (by decide) (by decide) (by decide))) ?_ (by rw [up2_at, if_pos rfl]) (by rw [q 0 (by decide) (by decide) (by decide) (by decide)]) (by rw [q 0 (by decide) (by decide) (by decide) (by decide)]) (by rw [q 102 (by decide) (by decide) (by decide) (by decide)]) (fun j hj => qj j (by omega) (by omega))
    rw [up2_ne (by decide), g2.1 1 (by decide) (by decide), (s195 _).1 1 (by decide)]
    exact s11 v
  · unfold G_108_1; rw [up2_ne (by decide)]; exact g.2.2.1.1
  · exact g.2.2.1.2.1
  · unfold G_108_1; rw [up2_ne (by decide)]; exact g.2.2.2.2.2.2.1
  · exact g.2.2.2.2.2.2.2.1
  · have hR2 := ok.1 y er
    have f6 : G_108_1 v 29 6 = nI y.1.2.2.2 := by unfold G_108_1; rw [up2_ne (by decide)]; exact g.2.2.1.1
    have f7 : G_108_1 v 29 7 = nI y.2.2 := by unfold G_108_1; rw [up2_ne (by decide)]; exact g.2.2.2.2.2.2.1
    have f8 : ∀ a, a ≠ 1 → G_108_1 v a = v a := fun a ha => by unfold G_108_1; exact up2_ne ha
    obtain ⟨k1, k2, k3, k4⟩ := g76 f6 g.2.2.1.2.1 f7 g.2.2.2.2.2.2.2.1
    have fb : ∀ a, 110 ≤ a → G_76_22_29 (G_108_1 v) a = w a := fun a ha => by rw [k1 a (by omega)]; exact s77 v g.1 a (by omega) (by omega)
    refine refR _ _ fb (fun r er2 => by rw [er] at er2; cases er2) (fun y2 er2 v2 g2 v3 m1 m2 m3 m4 m5 m6 => ?_)
    rw [er] at er2
    have ey : y = y2 := Sum.inr.inj er2
    subst ey
    refine ⟨rfl, ?_⟩
    have o3 : ∀ a, a ≠ 110 → (a < 118 ∨ 123 < a) → (a < 124 ∨ 128 < a) → v3 a = G_76_22_29 (G_108_1 v) a := fun a x1 x2 x3 => by rw [m1 a x1 x3, g2.1.1 a x1 x2, (s195 _).1 a x1]
    have q : ∀ a, a ≠ 1 → (a < 29 ∨ 35 < a) → a ≠ 110 → (a < 118 ∨ 123 < a) → (a < 22 ∨ 28 < a) → (a < 124 ∨ 128 < a) → v3 a = w a := fun a x1 x2 x3 x4 x5 x6 => by rw [o3 a x3 x4 x6, k1 a x5]; exact s77 v g.1 a x1 x2
    have qj : ∀ j, j ≠ 10 → j ≠ 19 → (j < 11 ∨ 18 < j) → v3 110 j = w 110 j := fun j x1 x2 x3 => by rw [m2 j x1 x2, g2.1.2 j (by omega), (s195 _).2 j x3, fb 110 (by decide)]
    have e22 : v3 22 7 = nI y.2.2 := by rw [o3 22 (by decide) (by decide) (by decide)]; exact k2
    refine h0.lw (fun a ha x5 x6 => q a (stz a ha).1 (stz a ha).2.1 (stz a ha).2.2.1 (stz a ha).2.2.2 x5 x6) ⟨by rw [m4, e22], ⟨y.2.2, hR2.2.2.2.1, e22⟩, y.1.2.1, y.1.2.2.1, y.1.2.2.2, g.2.2.1.2.1, fun k hk => ?_, fun i hi hlt => ?_⟩ ?_ m3 (by rw [q 0 (by decide) (by decide) (by decide) (by decide) (by decide) (by decide)]) (by rw [q 0 (by decide) (by decide) (by decide) (by decide) (by decide) (by decide)]) (by rw [q 102 (by decide) (by decide) (by decide) (by decide) (by decide) (by decide)]) (fun j hj => qj j (by omega) (by omega) (by omega))
    · have b := hR2.1 k hk
      have c := g.2.2.1.2.2 k hk
      refine ⟨b.1, b.2, ?_, ?_, ?_⟩
      · rw [m5 k hk]; exact g2.2.2.1.2 k hk
      · rw [o3 23 (by decide) (by decide) (by decide), (k3 k hk).1, f8 30 (by decide)]; exact c.1
      · rw [o3 24 (by decide) (by decide) (by decide), (k3 k hk).2, f8 31 (by decide)]; exact c.2
    · rw [e22] at hlt
      have hm := hR2.2.2.2.1
      have hiM : i < y.2.2 := (nI_ltI (by omega) (by omega)).mp hlt
      obtain ⟨r1, r2, r3, r4⟩ := g.2.2.2.2.2.2.2.2 i hiM
      obtain ⟨t1, t2, t3, t4⟩ := g2.2.2.2.2.2.2.2 i hiM
      obtain ⟨d1, d2, d3, d4⟩ := m6 i hiM
      obtain ⟨l1, l2, l3, l4⟩ := k4 i hiM
      rw [f8 32 (by decide)] at l1
      rw [f8 33 (by decide)] at l2
      rw [f8 34 (by decide)] at l3
      rw [f8 35 (by decide)] at l4
      have z1 : v3 25 i = nI (y.2.1 i).1 := by rw [o3 25 (by decide) (by decide) (by decide), l1]; exact r1
      have z2 : v3 26 i = nI (y.2.1 i).2.1 := by rw [o3 26 (by decide) (by decide) (by decide), l2]; exact r2
      have z3 : v3 27 i = nI (y.2.1 i).2.2.1 := by rw [o3 27 (by decide) (by decide) (by decide), l3]; exact r3
      have z4 : v3 28 i = nI (y.2.1 i).2.2.2 := by rw [o3 28 (by decide) (by decide) (by decide), l4]; exact r4
      obtain ⟨w1, w2, w3, w4, w5, w6⟩ := hR2.2.2.2.2 i hiM
      refine ⟨by rw [d1, t1, z1], by rw [d2, t2, z2], by rw [d3, t3, z3], by rw [d4, t4, z4], (y.2.1 i).2.1, (y.2.1 i).2.2.1, (y.2.1 i).2.2.2, z2, z3, z4, w1, w2, w3, fun hne => w4 (fun e => hne (by rw [z1, e]; rfl)), w5⟩
    · rw [o3 1 (by decide) (by decide) (by decide), k1 1 (by decide)]
      exact s11 v
end LAWJ
