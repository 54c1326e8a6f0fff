/-! definitions, part 1: the class's readDefinition; the reference's copy -/
section DEF1
def dfA (ch : Nat → Nat) : PRs := match bkF ch 6 (0, cd0) with
  | .inl e => .inl e
  | .inr t => if ch t.1 = 256 then .inr t else .inl (flt (kI 1) t.1)
theorem c_63 {X : Scr} {d n sz : Nat} {w : Wd} {ch : Nat → Nat} {Q : Int32 → Wd → Prop} (hn : n ≤ 240) (hs : w 1 1 = nI sz) (hns : n ≤ sz) (hz : sz ≤ 260) (h1 : ∀ i, i < n → w 2 i = nI (ch i) ∧ ch i < 256 ∧ w 117 i &&& kI 255 = nI (ch i)) (h2 : ∀ i, n ≤ i → ch i = 256) (q0 : ∀ e, dfA ch = .inl e → ∀ v, GRc (G_77_29 (G_107_1 (nI n) w)) v → Q e (G_108_1 v)) (q1 : ∀ t, dfA ch = .inr t → ∀ v, GRc (G_77_29 (G_107_1 (nI n) w)) v → CCd v t.2 → v 29 7 = nI 1 → v 34 0 = nI 0 → v 35 0 = nI t.2.2.2 → Q (kI 0) (G_108_1 v)) : CI X (d + 36) 63 [.ref 79, .int (nI n)] w Q := by
  have T0 := TXC.start (w := w) hs hns hz h1 h2
  have e77 : ∀ u : Wd, (∀ a, a ≠ 29 → G_77_29 u a = u a) ∧ G_77_29 u 29 6 = nI 0 ∧ G_77_29 u 29 7 = nI 0 := by
    intro u
    unfold G_77_29
    exact ⟨fun a ha => by rw [up2_ne ha, up2_ne ha], by rw [up2_at, if_neg (by decide), up2_at, if_pos rfl]; rfl, by rw [up2_at, if_pos rfl]; rfl⟩
  obtain ⟨a1, a2, a3⟩ := e77 (G_107_1 (nI n) w)
  have e14 : G_77_29 (G_107_1 (nI n) w) 1 4 = kI 0 := by rw [a1 1 (by decide)]; exact (g107 (w := w) (v := nI n)).2.1
  have T1 : TXC (G_77_29 (G_107_1 (nI n) w)) ch n 0 := T0.gp (a1 1 (by decide)) (a1 2 (by decide))
  refine CI.of rfl (t63_79_at0 (d := d + 32) w _ ?_)
  generalize hu : G_77_29 (G_107_1 (nI n) w) = u0 at *
  have e80 : G_80_29 (kI 40) u0 = up2 (up2 (up2 u0 32 0 (kI 40)) 33 0 (nI 0)) 34 0 (nI 0) := by
    unfold G_80_29
    rw [if_neg (by rw [a3]; decide), a3, a2]
    rfl
  refine ⟨ix16 a3 (by omega), ?_⟩
  rw [e80]
  have n1 : ∀ a, (a < 32 ∨ 34 < a) → (up2 (up2 (up2 u0 32 0 (kI 40)) 33 0 (nI 0)) 34 0 (nI 0)) a = u0 a := fun a ha => by rw [up2_ne (by omega), up2_ne (by omega), up2_ne (by omega)]
  have hst : STc (up2 (up2 (up2 u0 32 0 (kI 40)) 33 0 (nI 0)) 34 0 (nI 0)) (up2 (up2 (up2 u0 32 0 (kI 40)) 33 0 (nI 0)) 34 0 (nI 0)) ch n (0, cd0) := ⟨GPc.refl _, T1.gp (n1 1 (by omega)) (n1 2 (by omega)), ⟨by rw [n1 29 (by omega)]; exact a2, Nat.zero_le _, fun k hk => by have : k < 0 := hk; omega⟩, by rw [n1 1 (by omega)]; exact e14, Nat.le_refl _, hn⟩
  have hG0 : GRc u0 (up2 (up2 (up2 u0 32 0 (kI 40)) 33 0 (nI 0)) 34 0 (nI 0)) := ((GRc.p (by decide)).trans (GRc.p (by decide))).trans (GRc.p (by decide))
  refine CI.mono (cB6 (d := d) T1.c256 _ (0, cd0) hst) (fun x v hv => ?_)
  obtain ⟨g1, g2, g3⟩ := hv
  have hG : GRc u0 v := hG0.trans (GRc.gp g1)
  unfold dfA at q0 q1
  cases er : bkF ch 6 (0, cd0) with
  | inl e =>
    rw [er] at g3 q0
    rw [g3.1, if_pos (by decide)]
    have := q0 e rfl v hG
    rw [← g3.2] at this
    exact this
  | inr t =>
    rw [er] at g3 q0 q1
    dsimp only at q0 q1
    obtain ⟨gx, s1, s2, s3, s4, s5, s6⟩ := g3
    rw [gx, if_neg (by decide)]
    have f7 : v 29 7 = nI 0 := by rw [g1.2.2 7 (by decide), n1 29 (by omega)]; exact a3
    have f34 : v 34 0 = nI 0 := by rw [g1.1 34 (by decide) (by decide) (by decide) (by decide), up2_at, if_pos rfl]
    have e82 : G_82_29 v = up2 (up2 v 35 0 (nI t.2.2.2)) 29 7 (nI 1) := by
      unfold G_82_29
      rw [if_neg (by rw [f7]; decide), f7, s3.1]
      rfl
    have hG2 : GRc u0 (up2 (up2 v 35 0 (nI t.2.2.2)) 29 7 (nI 1)) := (hG.trans (GRc.p (by decide))).trans (GRc.p29 (Or.inr rfl))
    have T2 : TXC (up2 (up2 v 35 0 (nI t.2.2.2)) 29 7 (nI 1)) ch n t.1 := s2.gp (by rw [up2_ne (by decide), up2_ne (by decide)]) (by rw [up2_ne (by decide), up2_ne (by decide)])
    refine ⟨ix16 f7 (by omega), ?_⟩
    rw [e82]
    refine ⟨T2.ix, ?_⟩
    have hle := T2.le
    by_cases h256 : ch t.1 = 256
    · rw [if_pos h256] at q1
      have e113 : G_113_1 (kI (-1)) (up2 (up2 v 35 0 (nI t.2.2.2)) 29 7 (nI 1)) = up2 (up2 (up2 v 35 0 (nI t.2.2.2)) 29 7 (nI 1)) 1 3 ((up2 (up2 v 35 0 (nI t.2.2.2)) 29 7 (nI 1)) 1 3 + kI 1) := by
        unfold G_113_1
        rw [if_pos (by rw [T2.sg, h256]; rfl)]
      rw [e113]
      have := q1 t rfl (up2 (up2 (up2 v 35 0 (nI t.2.2.2)) 29 7 (nI 1)) 1 3 ((up2 (up2 v 35 0 (nI t.2.2.2)) 29 7 (nI 1)) 1 3 + kI 1)) (hG2.trans (GRc.p1 (Or.inl rfl))) (s3.cg (by rw [up2_ne (by decide), up2_at, if_neg (by decide), up2_ne (by decide)]) (by rw [up2_ne (by decide), up2_ne (by decide), up2_ne (by decide)]) (by rw [up2_ne (by decide), up2_ne (by decide), up2_ne (by decide)])) (by rw [up2_ne (by decide), up2_at, if_pos rfl]) (by rw [up2_ne (by decide), up2_ne (by decide), up2_ne (by decide)]; exact f34) (by rw [up2_ne (by decide), up2_ne (by decide), up2_at, if_pos rfl])
      have e4 : F_108_1 (up2 (up2 (up2 v 35 0 (nI t.2.2.2)) 29 7 (nI 1)) 1 3 ((up2 (up2 v 35 0 (nI t.2.2.2)) 29 7 (nI 1)) 1 3 + kI 1)) = kI 0 := by
        unfold F_108_1
        rw [up2_at, if_neg (by decide), up2_ne (by decide), up2_ne (by decide)]
        exact s4
      rw [e4]
      exact this
    · rw [if_neg h256] at q0
      have e113 : G_113_1 (kI (-1)) (up2 (up2 v 35 0 (nI t.2.2.2)) 29 7 (nI 1)) = up2 (up2 (up2 v 35 0 (nI t.2.2.2)) 29 7 (nI 1)) 1 4 (flt (kI 1) t.1) := by
        unfold G_113_1
        rw [if_neg (by rw [T2.sg, enC_lt (by omega)]; exact nI_m1 (by omega)), T2.fail]
      rw [e113]
      have := q0 _ rfl _ (hG2.trans (GRc.p1 (v := flt (kI 1) t.1) (Or.inr rfl)))
      have e4 : F_108_1 (up2 (up2 (up2 v 35 0 (nI t.2.2.2)) 29 7 (nI 1)) 1 4 (flt (kI 1) t.1)) = flt (kI 1) t.1 := by
        unfold F_108_1
        rw [up2_at, if_pos rfl]
      rw [e4]
      exact this
/-- the reference's copy of a definition -/
theorem l_238 {X : Scr} {e L D : Nat} {v2 v3 : Int32} {Q : Int32 → Wd → Prop} (hL : L ≤ 240) (hD : D < 6) : ∀ (m k : Nat) (u : Wd), k + m = L → u 110 16 = nI L → (∀ v : Wd, (∀ a, a ≠ 144 → v a = u a) → (∀ i, v 144 i = if 260 * D + k ≤ i ∧ i < 260 * D + L then u 118 (i - 260 * D) else u 144 i) → CI X (e + 7) 237 [.ref 110, .int (nI D)] v (fun x1 w1 => Q (F_162 x1 w1) w1)) → EI X (e + 7) 238 (103, [some (.ref 110), some (.int (nI D)), some (.int v2), some (.int v3), some (.int (nI k))], [], SH, u) Q := by
  intro m
  induction m with
  | zero =>
    intro k u hk h16 q
    refine t238_110_at103 (d := e + 5) u _ _ _ _ ?_
    rw [h16, if_pos (nI_le (by omega) (by omega))]
    exact q u (fun _ _ => rfl) (fun i => by rw [if_neg (by omega)])
  | succ m ih =>
    intro k u hk h16 q
    refine t238_110_at103 (d := e + 5) u _ _ _ _ ?_
    rw [h16, if_neg (nI_ge (by omega) (by omega)), nI_clamp (by omega), k1, show kI 260 * nI D = nI (260 * D) from pk_mul 260 D, nI_add, nI_clamp (by omega)]
    refine ⟨inB_nI (by omega) (by decide), inB_nI (by omega) (by decide), ih (k + 1) _ (by omega) (by rw [up2_ne (by decide)]; exact h16) (fun v g1 g2 => q v (fun a ha => by rw [g1 a ha, up2_ne ha]) (fun i => ?_))⟩
    rw [g2 i, up2_ne (show (118 : Nat) ≠ 144 by decide), up2_at]
    by_cases c1 : 260 * D + (k + 1) ≤ i ∧ i < 260 * D + L
    · rw [if_pos c1, if_pos ⟨by omega, c1.2⟩]
    · rw [if_neg c1]
      by_cases c2 : i = 260 * D + k
      · rw [if_pos c2, if_pos ⟨by omega, by omega⟩, c2, Nat.add_sub_cancel_left]
      · rw [if_neg c2, if_neg (by omega)]
end DEF1
