/-! rules, part 2: the class's readRule and readRules -/
section RULES2
theorem RSp.st {w u : Wd} {ch : Nat → Nat} {n m z a : Nat} {t : PSs} {rl : Nat → Ru} (h : RSp w u ch n t rl m z a) : STc u u ch n t := ⟨GPc.refl _, h.2.1, h.2.2.1, h.2.2.2.1, h.2.2.2.2.1, h.2.2.2.2.2.1⟩
theorem RSc.st {w u : Wd} {ch : Nat → Nat} {n : Nat} {x : RuS} (h : RSc w u ch n x) : STc u u ch n x.1 := ⟨GPc.refl _, h.2.1, h.2.2.1, h.2.2.2.1, h.2.2.2.2.1, h.2.2.2.2.2.1⟩
/-- the sum of a rule, then its condition -/
theorem re_c {X : Scr} {d n m z a : Nat} {w u : Wd} {ch : Nat → Nat} {s : PSs} {rl : Nat → Ru} {Q : Int32 → Wd → Prop} (h : RSp w u ch n s rl m z a) (q0 : ∀ e, eF ch 6 s = .inl e → ∀ v, GRc w v → v 1 4 = e → Q (kI 0) v) (q1 : ∀ t, eF ch 6 s = .inr t → (∀ e, bkF ch 6 t = .inl e → ∀ v, GRc w v → v 1 4 = e → Q (kI 0) v) ∧ (∀ q, bkF ch 6 t = .inr q → ∀ v, RSc w v ch n (q, updR rl m (z, a, t.2.2.2, q.2.2.2), m + 1) → Q (kI 1) v)) : CI X (d + 35) 70 [.ref 79, .int (kI 0)] u (fun x2 w2 => (if x2 = 0 then Q (kI 0) w2 else ((¬ (Int32.ofNat 16) ≤ (w2 29 7) → (inB (w2 29 7) 16 = true)) ∧ CI X (d + 35) 65 [.ref 79, .int (kI 0)] (G_81_29 w2) (fun x3 w3 => (if x3 = 0 then Q (kI 0) w3 else ((¬ (Int32.ofNat 16) ≤ (w3 29 7) → (inB (w3 29 7) 16 = true)) ∧ Q (kI 1) (G_82_29 w3))))))) := by
  have hs := h.st
  obtain ⟨h1, h2, h3, h4, h5, h6, h7, h8, h9, h10, h11⟩ := h
  have hc := h2.c256
  refine CI.mono (cE6 (d := d) hc u s hs) (fun x v hv => ?_)
  obtain ⟨g1, g2, g3⟩ := hv
  have hG : GRc w v := h1.trans (GRc.gp g1)
  cases er : eF ch 6 s with
  | inl e =>
    rw [er] at g3
    rw [g3.1, if_pos (by decide)]
    exact q0 e er v hG g3.2
  | inr t =>
    rw [er] at g3
    obtain ⟨gx, s1, s2, s3, s4, s5, s6⟩ := g3
    rw [gx, if_neg (by decide)]
    have f32 : v 32 = u 32 := g1.1 32 (by decide) (by decide) (by decide) (by decide)
    have f33 : v 33 = u 33 := g1.1 33 (by decide) (by decide) (by decide) (by decide)
    have f34 : v 34 = u 34 := g1.1 34 (by decide) (by decide) (by decide) (by decide)
    have f35 : v 35 = u 35 := g1.1 35 (by decide) (by decide) (by decide) (by decide)
    refine rb_c (d := d) (w := w) (rl := rl) (m := m) (z := z) (a := a) (n := n) (ch := ch) (t := t) ⟨hG, s2, s3, s4, s5, s6, by rw [g1.2.2 7 (by decide)]; exact h7, h8, fun i hi => ?_, by rw [f32]; exact h10, by rw [f33]; exact h11⟩ (q1 t er).1 (q1 t er).2
    unfold RU1
    rw [f32, f33, f34, f35]
    exact h9 i hi
theorem RSc.begin {w u : Wd} {ch : Nat → Nat} {n : Nat} {x : RuS} (h : RSc w u ch n x) (hz : ch x.1.1 < 256) (hm : x.2.2 < 16) : ((G_112_1 u) 29 7 = nI x.2.2) ∧ RSp w (G_80_29 (F_110_1 u) (G_112_1 u)) ch n (x.1.1 + 1, x.1.2) x.2.1 x.2.2 (ch x.1.1) x.1.2.2.2 := by
  obtain ⟨h1, h2, h3, h4, h5, h6, h7, h8, h9⟩ := h
  have f7 : (G_112_1 u) 29 7 = nI x.2.2 := by unfold G_112_1; rw [up2_ne (by decide)]; exact h7
  have f6 : (G_112_1 u) 29 6 = nI x.1.2.2.2 := by unfold G_112_1; rw [up2_ne (by decide)]; exact h3.1
  refine ⟨f7, ?_⟩
  have e80 : G_80_29 (F_110_1 u) (G_112_1 u) = up2 (up2 (up2 (G_112_1 u) 32 x.2.2 (nI (ch x.1.1))) 33 x.2.2 (nI x.1.2.2.2)) 34 x.2.2 (nI x.1.2.2.2) := by
    unfold G_80_29
    rw [if_neg (by rw [f7]; exact nI_ge (a := x.2.2) (b := 16) hm (by decide)), f7, nI_clamp (by omega), f6, h2.sg, enC_lt hz]
  rw [e80]
  have t1 : TXC (G_112_1 u) ch n (x.1.1 + 1) := h2.step hz
  have n1 : ∀ a, a ≠ 1 → G_112_1 u a = u a := fun a ha => by unfold G_112_1; exact up2_ne ha
  refine ⟨(((h1.trans (GRc.p1 (Or.inl rfl))).trans (GRc.p (by decide))).trans (GRc.p (by decide))).trans (GRc.p (by decide)), t1.gp (by rw [up2_ne (by decide), up2_ne (by decide), up2_ne (by decide)]) (by rw [up2_ne (by decide), up2_ne (by decide), up2_ne (by decide)]), h3.cg (by rw [up2_ne (by decide), up2_ne (by decide), up2_ne (by decide), n1 29 (by decide)]) (by rw [up2_ne (by decide), up2_ne (by decide), up2_ne (by decide), n1 30 (by decide)]) (by rw [up2_ne (by decide), up2_ne (by decide), up2_ne (by decide), n1 31 (by decide)]), ?_, by show x.1.2.2.2 ≤ x.1.1 + 1; omega, h6, by rw [up2_ne (by decide), up2_ne (by decide), up2_ne (by decide)]; exact f7, hm, fun i hi => ?_, ?_, ?_⟩
  · rw [up2_ne (by decide), up2_ne (by decide), up2_ne (by decide)]
    unfold G_112_1
    rw [up2_at, if_neg (by decide)]
    exact h4
  · unfold RU1
    rw [up2_ne (by decide), up2_ne (by decide), up2_at, if_neg (by omega), up2_ne (by decide), up2_at, if_neg (by omega), up2_ne (by decide), up2_at, if_neg (by omega), up2_ne (by decide), up2_ne (by decide), up2_ne (by decide), up2_ne (by decide), up2_ne (by decide), n1 32 (by decide), n1 33 (by decide), n1 34 (by decide), n1 35 (by decide)]
    exact h9 i hi
  · rw [up2_ne (by decide), up2_ne (by decide), up2_at, if_pos rfl]
  · rw [up2_ne (by decide), up2_at, if_pos rfl]
/-- readRule -/
theorem c_64 {X : Scr} {d n : Nat} {w u : Wd} {ch : Nat → Nat} {x : RuS} {Q : Int32 → Wd → Prop} (h : RSc w u ch n x) (q0 : ∀ e, ruF ch x = .inl e → ∀ v, GRc w v → v 1 4 = e → Q (kI 0) v) (q1 : ∀ y, ruF ch x = .inr y → ∀ v, RSc w v ch n y → Q (kI 1) v) : CI X (d + 36) 64 [.ref 79] u Q := by
  have h0 := h
  obtain ⟨h1, h2, h3, h4, h5, h6, h7, h8, h9⟩ := h
  have his : ∀ z, z < 256 → (F_110_1 u = nI z ↔ ch x.1.1 = z) := fun z hz => by rw [h2.sg]; exact enC_eq hz
  have i110 : F_110_1 u = kI 110 ↔ ch x.1.1 = 110 := his 110 (by decide)
  have i100 : F_110_1 u = kI 100 ↔ ch x.1.1 = 100 := his 100 (by decide)
  have i107 : F_110_1 u = kI 107 ↔ ch x.1.1 = 107 := his 107 (by decide)
  have i120 : F_110_1 u = kI 120 ↔ ch x.1.1 = 120 := his 120 (by decide)
  refine CI.of rfl (t64_79_at0 (d := d + 33) u ⟨h2.ix, ?_⟩)
  unfold ruF at q0 q1
  by_cases hok : okLe (ch x.1.1)
  · rw [if_pos hok] at q0 q1
    have hz : ch x.1.1 < 256 := by have : ch x.1.1 = 110 ∨ ch x.1.1 = 100 ∨ ch x.1.1 = 107 ∨ ch x.1.1 = 120 := hok; omega
    by_cases hm : x.2.2 = 16
    · rw [if_pos hm] at q0
      have hlt : ¬ u 29 7 < kI 16 := by rw [h7, hm]; decide
      have hq : Q (F_115_1 (kI 4) u) (G_115_1 (kI 4) u) := by
        rw [h2.fail]
        exact q0 _ rfl _ (h1.trans (GRc.p1 (Or.inr rfl))) (by rw [up2_at, if_pos rfl])
      simp only [if_neg hlt]
      by_cases e1 : ch x.1.1 = 110
      · rw [if_pos (i110.mpr e1)]; exact hq
      rw [if_neg (fun e => e1 (i110.mp e))]
      by_cases e2 : ch x.1.1 = 100
      · rw [if_pos (i100.mpr e2)]; exact hq
      rw [if_neg (fun e => e2 (i100.mp e))]
      by_cases e3 : ch x.1.1 = 107
      · rw [if_pos (i107.mpr e3)]; exact hq
      rw [if_neg (fun e => e3 (i107.mp e)), if_pos (i120.mpr (by have : ch x.1.1 = 110 ∨ ch x.1.1 = 100 ∨ ch x.1.1 = 107 ∨ ch x.1.1 = 120 := hok; omega))]
      exact hq
    · rw [if_neg hm] at q0 q1
      have hm2 : x.2.2 < 16 := by omega
      have hlt : u 29 7 < kI 16 := by rw [h7]; exact nI_lt (b := 16) hm2 (by decide)
      obtain ⟨f7, hb⟩ := h0.begin hz hm2
      have ia := ix16 f7 (by omega)
      simp only [if_pos hlt]
      unfold hdF at q0 q1
      have core : ch x.1.1 ≠ 120 → CI X (d + 35) 70 [.ref 79, .int (kI 0)] (G_80_29 (F_110_1 u) (G_112_1 u)) (fun x2 w2 => (if x2 = 0 then Q (kI 0) w2 else ((¬ (Int32.ofNat 16) ≤ (w2 29 7) → (inB (w2 29 7) 16 = true)) ∧ CI X (d + 35) 65 [.ref 79, .int (kI 0)] (G_81_29 w2) (fun x3 w3 => (if x3 = 0 then Q (kI 0) w3 else ((¬ (Int32.ofNat 16) ≤ (w3 29 7) → (inB (w3 29 7) 16 = true)) ∧ Q (kI 1) (G_82_29 w3))))))) := by
        intro h120
        rw [if_neg h120] at q0 q1
        refine re_c (d := d) hb (fun e er v g1 g2 => ?_) (fun t er => ⟨fun e er2 v g1 g2 => ?_, fun q er2 v g1 => ?_⟩)
        · rw [er] at q0; exact q0 e rfl v g1 g2
        · rw [er] at q0; dsimp only at q0; rw [er2] at q0; exact q0 e rfl v g1 g2
        · rw [er] at q1; dsimp only at q1; rw [er2] at q1; exact q1 _ rfl v g1
      by_cases e1 : ch x.1.1 = 110
      · rw [if_pos (i110.mpr e1)]
        refine ⟨ia, ?_⟩
        rw [if_neg (fun e => by have := i120.mp e; omega)]
        exact core (by omega)
      rw [if_neg (fun e => e1 (i110.mp e))]
      by_cases e2 : ch x.1.1 = 100
      · rw [if_pos (i100.mpr e2)]
        refine ⟨ia, ?_⟩
        rw [if_neg (fun e => by have := i120.mp e; omega)]
        exact core (by omega)
      rw [if_neg (fun e => e2 (i100.mp e))]
      by_cases e3 : ch x.1.1 = 107
      · rw [if_pos (i107.mpr e3)]
        refine ⟨ia, ?_⟩
        rw [if_neg (fun e => by have := i120.mp e; omega)]
        exact core (by omega)
      have e4 : ch x.1.1 = 120 := by have : ch x.1.1 = 110 ∨ ch x.1.1 = 100 ∨ ch x.1.1 = 107 ∨ ch x.1.1 = 120 := hok; omega
      rw [if_neg (fun e => e3 (i107.mp e)), if_pos (i120.mpr e4)]
      rw [if_pos e4] at q0 q1
      dsimp only at q0 q1
      refine ⟨ia, rb_c (d := d) hb (fun e er v g1 g2 => ?_) (fun q er v g1 => ?_)⟩
      · rw [er] at q0; exact q0 e rfl v g1 g2
      · rw [er] at q1; exact q1 _ rfl v g1
  · rw [if_neg hok] at q0
    have hok2 : ¬ (ch x.1.1 = 110 ∨ ch x.1.1 = 100 ∨ ch x.1.1 = 107 ∨ ch x.1.1 = 120) := hok
    rw [if_neg (fun e => by have := i110.mp e; omega), if_neg (fun e => by have := i100.mp e; omega), if_neg (fun e => by have := i107.mp e; omega), if_neg (fun e => by have := i120.mp e; omega), h2.fail]
    exact q0 _ rfl _ (h1.trans (GRc.p1 (Or.inr rfl))) (by rw [up2_at, if_pos rfl])
/-! readRules -/
theorem e_62 {X : Scr} {d : Nat} {w : Wd} {v1 v3 : Int32} {Q : Int32 → Wd → Prop} (h : Q (F_108_1 w) (G_108_1 w)) : EI X (d + 3) 62 (22, [some (.ref 79), some (.int v1), some (.int (kI 0)), some (.int v3)], [], SH, w) Q := by
  refine t62_79_at22 w _ _ _ ?_
  by_cases e : kI 240 ≤ v3
  · rw [if_pos e]; exact h
  · rw [if_neg e, if_pos (by decide)]; exact h
theorem l_62 {X : Scr} {d n : Nat} {w : Wd} {ch : Nat → Nat} {v1 : Int32} {Q : Int32 → Wd → Prop} : ∀ (m k : Nat) (x : RuS) (u : Wd), k + m = 240 → RSc w u ch n x → (∀ e, ruL ch m x = .inl e → ∀ v, GRc w v → v 1 4 = e → Q e (G_108_1 v)) → (∀ y, ruL ch m x = .inr y → ∀ v, RSc w v ch n y → Q (kI 0) (G_108_1 v)) → EI X (d + 36) 62 (22, [some (.ref 79), some (.int v1), some (.int (kI 1)), some (.int (nI k))], [], SH, u) Q := by
  intro m
  induction m with
  | zero =>
    intro k x u hk h q0 q1
    refine t62_79_at22 (d := d + 33) u _ _ _ ?_
    rw [if_pos (show kI 240 ≤ nI k from nI_le (a := 240) (b := k) (by omega) (by omega))]
    have := q1 x rfl u h
    rw [← h.2.2.2.1] at this
    exact this
  | succ m ih =>
    intro k x u hk h q0 q1
    have hst := h.st
    have hp := h.2.1
    refine t62_79_at22 (d := d + 33) u _ _ _ ?_
    rw [if_neg (show ¬ kI 240 ≤ nI k from nI_ge (a := k) (b := 240) (by omega) (by decide)), if_neg (by decide)]
    unfold ruL at q0 q1
    have h109 : F_109_1 u = 0 ↔ ¬ ch x.1.1 = 256 := by
      unfold F_109_1
      rw [← h.2.1.end, hp.2.1, hp.1]
      have a1 := hp.2.2.1
      have a2 := hp.2.2.2.1
      by_cases e : x.1.1 < n
      · rw [if_pos (nI_lt e (by omega))]
        exact ⟨fun _ => by omega, fun _ => rfl⟩
      · rw [if_neg (nI_nlt (by omega) (by omega))]
        exact ⟨fun ee => absurd ee (by decide), fun ee => absurd (Nat.le_of_not_lt e) ee⟩
    by_cases h256 : ch x.1.1 = 256
    · rw [if_pos h256] at q1
      rw [if_neg (fun e => h109.mp e h256)]
      have := q1 x rfl u h
      rw [← h.2.2.2.1] at this
      exact this
    · rw [if_neg h256] at q0 q1
      rw [if_pos (h109.mpr h256)]
      refine ⟨h.2.1.ix, ?_⟩
      by_cases h59 : ch x.1.1 = 59
      · rw [if_pos h59] at q0 q1
        have hy := f113_y (z := 59) hst (by decide) h59
        rw [show (kI 59 : Int32) = kI ((59 : Nat) : Int) from rfl, hy.1, if_neg (by decide)]
        have hs : RSc w (G_113_1 (kI ((59 : Nat) : Int)) u) ch n ((x.1.1 + 1, x.1.2), x.2) := by
          obtain ⟨g1, g2, g3, g4, g5, g6⟩ := hy.2
          obtain ⟨h1, h2, h3, h4, h5, h6, h7, h8, h9⟩ := h
          refine ⟨h1.trans (GRc.gp g1), g2, g3, g4, g5, g6, by rw [g1.2.2 7 (by decide)]; exact h7, h8, fun i hi => ?_⟩
          unfold RU1
          rw [g1.1 32 (by decide) (by decide) (by decide) (by decide), g1.1 33 (by decide) (by decide) (by decide) (by decide), g1.1 34 (by decide) (by decide) (by decide) (by decide), g1.1 35 (by decide) (by decide) (by decide) (by decide)]
          exact h9 i hi
        refine c_64 (d := d) hs (fun e er v g1 g2 => ?_) (fun y er v g1 => ?_)
        · rw [if_pos (by decide)]
          rw [er] at q0
          refine e_62 (d := d + 33) ?_
          have := q0 e rfl v g1 g2
          rw [← g2] at this
          exact this
        · rw [if_neg (by decide), k1]
          rw [er] at q0 q1
          exact ih (k + 1) y v (by omega) g1 q0 q1
      · rw [if_neg h59] at q0
        have hy := f113_n (z := 59) hst (by decide) h59
        rw [show (kI 59 : Int32) = kI ((59 : Nat) : Int) from rfl, hy.1, if_pos (by decide)]
        obtain ⟨g1, g2, g3, g4⟩ := hy.2
        refine e_62 (d := d + 33) ?_
        have := q0 _ rfl _ (h.1.trans (GRc.gp g1)) g4
        rw [← g4] at this
        exact this
end RULES2
