/-! rules, part 8: readRules and law as wholes -/
section RULES8
def cd0 : Cd := (fun _ => 0, fun _ => 0, 0)
def rx0 : RuS := ((0, cd0), (fun _ => (0, 0, 0, 0)), 0)
def ruA (ch : Nat → Nat) : Int32 ⊕ RuS := match ruF ch rx0 with
  | .inl e => .inl e
  | .inr y => ruL ch 240 y
theorem rx0_ok {n : Nat} : RWv n rx0 := ⟨fun k hk => by have : k < 0 := hk; omega, Nat.le_refl _, Nat.zero_le _, Nat.zero_le _, fun i hi => by have : i < 0 := hi; omega⟩
theorem ruA_ok {ch : Nat → Nat} {n : Nat} (hc : CHn256 ch n) (hn : n ≤ 240) : (∀ y, ruA ch = .inr y → RWv n y) ∧ ∀ r, ruA ch = .inl r → r < 0 := by
  unfold ruA
  cases er : ruF ch rx0 with
  | inl e => exact ⟨fun y h => (by cases h), fun r h => by rw [← Sum.inl.inj h]; exact ru_ng hc hn rx0_ok er⟩
  | inr y => exact ruL_ok hc hn 240 y (ru_ok hc hn rx0_ok er)
theorem c_62 {X : Scr} {d n sz : Nat} {w : Wd} {ch : Nat → Nat} {Q : Int32 → Wd → Prop} (hn : n ≤ 240) (hs : w 1 1 = nI sz) (hns : n ≤ sz) (hz : sz ≤ 260) (h1 : ∀ i, i < n → w 2 i = nI (ch i) ∧ ch i < 256 ∧ w 117 i &&& kI 255 = nI (ch i)) (h2 : ∀ i, n ≤ i → ch i = 256) (q0 : ∀ e, ruA ch = .inl e → ∀ v, GRc (G_77_29 (G_107_1 (nI n) w)) v → Q e (G_108_1 v)) (q1 : ∀ y, ruA ch = .inr y → ∀ v, RSc (G_77_29 (G_107_1 (nI n) w)) v ch n y → Q (kI 0) (G_108_1 v)) : CI X (d + 37) 62 [.ref 79, .int (nI n)] w Q := by
  have T0 := TXC.start (w := w) hs hns hz h1 h2
  have e77 : ∀ u : Wd, (∀ a, a ≠ 29 → G_77_29 u a = u a) ∧ G_77_29 u 29 6 = nI 0 ∧ G_77_29 u 29 7 = nI 0 := by
    intro u
    unfold G_77_29
    exact ⟨fun a ha => by rw [up2_ne ha, up2_ne ha], by rw [up2_at, if_neg (by decide), up2_at, if_pos rfl]; rfl, by rw [up2_at, if_pos rfl]; rfl⟩
  obtain ⟨a1, a2, a3⟩ := e77 (G_107_1 (nI n) w)
  have hs0 : RSc (G_77_29 (G_107_1 (nI n) w)) (G_77_29 (G_107_1 (nI n) w)) ch n rx0 := ⟨GRc.refl _, T0.gp (a1 1 (by decide)) (a1 2 (by decide)), ⟨a2, Nat.zero_le _, fun k hk => by have : k < 0 := hk; omega⟩, by rw [a1 1 (by decide)]; exact (g107 (w := w) (v := nI n)).2.1, Nat.le_refl _, hn, a3, Nat.zero_le _, fun i hi => by have : i < 0 := hi; omega⟩
  refine CI.of rfl (t62_79_at0 (d := d + 33) w _ ?_)
  unfold ruA at q0 q1
  refine c_64 (d := d) hs0 (fun e er v g1 g2 => ?_) (fun y er v g1 => ?_)
  · rw [er] at q0
    refine e_62 (d := d + 33) ?_
    have := q0 e rfl v g1
    rw [← g2] at this
    exact this
  · rw [er] at q0 q1
    exact l_62 (d := d) 240 0 y v (by omega) g1 (fun e h v2 g2 _ => q0 e h v2 g2) q1
theorem c_196 {X : Scr} {e n : Nat} {w : Wd} {ch : Nat → Nat} {Q : Int32 → Wd → Prop} (hn : n ≤ 240) (hF : ¬ F_157 (nI n) (kI 1) (kI 240) w = 0) (hle : nI n ≤ w 110 10) (h1 : ∀ i, i < n → w 117 i &&& kI 255 = nI (ch i) ∧ ch i < 256) (h2 : ∀ i, n ≤ i → ch i = 256) (q0 : ∀ r, ruA ch = .inl r → ∀ v, GRr (G_195_110 (nI n) w) v → Q r (up2 v 110 10 (kI 0))) (q1 : ∀ y, ruA ch = .inr y → ∀ v, RSr (G_195_110 (nI n) w) v ch n y → ∀ v2 : Wd, (∀ a, a ≠ 110 → (a < 124 ∨ 128 < a) → v2 a = v a) → (∀ j, j ≠ 10 → j ≠ 19 → v2 110 j = v 110 j) → v2 110 10 = kI 0 → v2 110 19 = nI y.2.2 → (∀ i, i < y.1.2.2.2 → v2 124 i = v 118 i) → (∀ i, i < y.2.2 → v2 125 i = v 120 i ∧ v2 126 i = v 121 i ∧ v2 127 i = v 122 i ∧ v2 128 i = v 123 i) → Q (nI y.2.2) v2) : CI X (e + 9) 196 [.ref 110, .int (nI n)] w Q := by
  have e195 : (∀ a, a ≠ 110 → G_195_110 (nI n) w a = w a) ∧ G_195_110 (nI n) w 110 11 = nI 0 ∧ G_195_110 (nI n) w 110 12 = nI n ∧ G_195_110 (nI n) w 110 16 = nI 0 ∧ G_195_110 (nI n) w 110 18 = nI 0 := by
    unfold G_195_110
    refine ⟨fun a ha => by rw [up2_ne ha, up2_ne ha, up2_ne ha, up2_ne ha, up2_ne ha, up2_ne ha], ?_, ?_, ?_, ?_⟩
    · rw [up2_at, if_neg (by decide), up2_at, if_neg (by decide), up2_at, if_neg (by decide), up2_at, if_neg (by decide), up2_at, if_neg (by decide), up2_at, if_pos rfl]; rfl
    · rw [up2_at, if_neg (by decide), up2_at, if_neg (by decide), up2_at, if_neg (by decide), up2_at, if_neg (by decide), up2_at, if_pos rfl]
    · rw [up2_at, if_neg (by decide), up2_at, if_neg (by decide), up2_at, if_neg (by decide), up2_at, if_pos rfl]; rfl
    · rw [up2_at, if_neg (by decide), up2_at, if_neg (by decide), up2_at, if_pos rfl]; rfl
  obtain ⟨a1, a2, a3, a4, a5⟩ := e195
  have hs0 : RSr (G_195_110 (nI n) w) (G_195_110 (nI n) w) ch n rx0 := ⟨GRr.refl _, ⟨a3, a2, by omega, Nat.zero_le _, fun i hi => by rw [a1 117 (by decide)]; exact h1 i hi, h2⟩, ⟨a4, fun k hk => by have : k < 0 := hk; omega⟩, Nat.le_refl _, hn, a5, Nat.zero_le _, fun i hi => by have : i < 0 := hi; omega⟩
  have hc := hs0.2.1.c256
  have hok := ruA_ok hc hn
  refine CI.of rfl (t196_110_at0 (d := e + 6) w _ ?_)
  rw [if_neg hF, if_pos hle]
  have key : ∀ y, ruA ch = .inr y → ∀ v, RSr (G_195_110 (nI n) w) v ch n y → EI X (e + 8) 196 (95, [some (.ref 110), some (.int (nI n)), some (.int (kI 1)), some (.int (kI 0))], [], SH, (up2 (up2 v 110 10 (kI 0)) 110 19 (v 110 18))) Q := by
    intro y ey v hv
    have hR := hok.1 y ey
    have hL : y.1.2.2.2 ≤ 240 := by have := hR.2.1; have := hR.2.2.1; omega
    have h16 : (up2 (up2 v 110 10 (kI 0)) 110 19 (v 110 18)) 110 16 = nI y.1.2.2.2 := by rw [up2_at, if_neg (by decide), up2_at, if_neg (by decide)]; exact hv.2.2.1.1
    refine l_196_95 (e := e) (L := y.1.2.2.2) hL y.1.2.2.2 0 _ (by omega) h16 (fun v3 g1 g2 => ?_)
    have h18 : v3 110 18 = nI y.2.2 := by rw [g1 110 (by decide), up2_at, if_neg (by decide), up2_at, if_neg (by decide)]; exact hv.2.2.2.2.2.1
    refine l_196_123 (e := e) (M := y.2.2) hR.2.2.2.1 y.2.2 0 v3 (by omega) h18 (fun v4 k1 k2 k3 => ?_)
    have o3 : ∀ a, a ≠ 110 → a ≠ 124 → v3 a = v a := fun a b1 b2 => by rw [g1 a b2, up2_ne b1, up2_ne b1]
    refine q1 y ey v hv v4 (fun a b1 b2 => by rw [k1 a (by omega), o3 a b1 (by omega)]) (fun j b1 b2 => by rw [k1 110 (by omega), g1 110 (by decide), up2_at, if_neg b2, up2_at, if_neg b1]) (by rw [k1 110 (by omega), g1 110 (by decide), up2_at, if_neg (by decide), up2_at, if_pos rfl]) (by rw [k1 110 (by omega), g1 110 (by decide), up2_at, if_pos rfl]; exact hv.2.2.2.2.2.1) (fun i hi => ?_) (fun i hi => ?_)
    · rw [k1 124 (by omega), g2 i, if_pos ⟨Nat.zero_le _, hi⟩, up2_ne (by decide), up2_ne (by decide)]
    · have := k2 i (Nat.zero_le _) hi
      rw [o3 120 (by decide) (by decide), o3 121 (by decide) (by decide), o3 122 (by decide) (by decide), o3 123 (by decide) (by decide)] at this
      exact this
  have q0b := q0
  unfold ruA at q0 key
  refine c_194 (e := e) hs0 (fun r er v g1 g2 => ?_) (fun y er v g1 => ?_)
  · rw [er] at q0
    refine f_196 (e := e) ?_
    rw [g2]
    exact q0 r rfl v g1
  · rw [er] at q0 key
    exact l_196 (e := e) 240 y v (by omega) g1 (fun r h v2 g2 _ => q0 r h v2 g2) key
end RULES8
