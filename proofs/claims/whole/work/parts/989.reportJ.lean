/-! report: the two calls -/
section REPORTJ
def rp0 (ch : Nat → Nat) (fc ft : Nat → Bool) : Int32 ⊕ (Nat × LNS) := match lneF ch fc ft 0 0 with
  | .inl e => .inl e
  | .inr r => rpF ch fc ft 120 1 (upA (fun _ => (0, 0, 0)) 0 (r.1, r.2.1, r.2.2.1)) r.2.2.2
theorem rp0_ok {ch : Nat → Nat} {fc ft : Nat → Bool} : (∀ e, rp0 ch fc ft = .inl e → e < 0) ∧ ∀ r, rp0 ch fc ft = .inr r → OKA fc r.1 r.2 := by
  unfold rp0
  cases er : lneF ch fc ft 0 0 with
  | inl x => exact ⟨fun e2 h => (by rw [← Sum.inl.inj h]; exact lneF_neg (by omega) er), fun r h => by cases h⟩
  | inr r =>
    obtain ⟨a1, a2, a3⟩ := lneF_ok er
    have a4 := lneF_up er
    have o0 : OKA fc 0 (fun _ => (0, 0, 0)) := ⟨by omega, fun i hi => by omega⟩
    exact rpF_ok 120 1 _ _ (by omega) (o0.up a2 a1)
theorem TXC.start {w : Wd} {ch : Nat → Nat} {n sz : Nat} (hs : w 1 1 = nI sz) (hn : n ≤ sz) (hz : sz ≤ 260) (h : ∀ i, i < n → w 2 i = nI (ch i) ∧ ch i < 256 ∧ w 117 i &&& kI 255 = nI (ch i)) (h2 : ∀ i, n ≤ i → ch i = 256) : TXC (G_107_1 (nI n) w) ch n 0 := by
  unfold G_107_1
  refine ⟨?_, ?_, by omega, by omega, ⟨sz, ?_, hn, hz⟩, fun i hi => ?_, h2⟩
  · rw [up2_at, if_neg (by decide), up2_at, if_neg (by decide), up2_at, if_pos rfl]
  · rw [up2_at, if_neg (by decide), up2_at, if_pos rfl]; rfl
  · rw [up2_at, if_neg (by decide), up2_at, if_neg (by decide), up2_at, if_neg (by decide)]; exact hs
  · rw [up2_ne (by decide), up2_ne (by decide), up2_ne (by decide)]; exact ⟨(h i hi).1, (h i hi).2.1⟩
theorem g107 {w : Wd} {v : Int32} : (∀ a, a ≠ 1 → G_107_1 v w a = w a) ∧ G_107_1 v w 1 4 = kI 0 ∧ G_107_1 v w 1 1 = w 1 1 := by
  unfold G_107_1
  refine ⟨fun a ha => by rw [up2_ne ha, up2_ne ha, up2_ne ha], ?_, ?_⟩
  · rw [up2_at, if_pos rfl]
  · rw [up2_at, if_neg (by decide), up2_at, if_neg (by decide), up2_at, if_neg (by decide)]
theorem c_85 {X : Scr} {d n sz : Nat} {w : Wd} {ch : Nat → Nat} {fc ft : Nat → Bool} (hn : n ≤ 120) (hs : w 1 1 = nI sz) (hns : n ≤ sz) (hz : sz ≤ 260) (h1 : ∀ i, i < n → w 2 i = nI (ch i) ∧ ch i < 256 ∧ w 117 i &&& kI 255 = nI (ch i)) (h2 : ∀ i, n ≤ i → ch i = 256) (hfc : ∀ c, c < 6 → (F_51_3 (nI c) w = 0 ↔ fc c = false)) (hft : ∀ c, c < 6 → (F_52_3 (nI c) w = 0 ↔ ft c = false)) : CI X (d + 9) 85 [.ref 80, .int (nI n)] w (fun x u2 => EC w u2 x (rp0 ch fc ft)) := by
  have T0 := TXC.start (w := w) hs hns hz h1 h2
  obtain ⟨g1, g2, g3⟩ := g107 (w := w) (v := nI n)
  have T1 : TXC (up2 (G_107_1 (nI n) w) 80 5 (kI 0)) ch n 0 := T0.cg (by rw [up2_ne (by decide)]) (by rw [up2_ne (by decide)]) (by rw [up2_ne (by decide)]) (by rw [up2_ne (by decide)])
  have e3 : (up2 (G_107_1 (nI n) w) 80 5 (kI 0)) 3 = w 3 := by rw [up2_ne (by decide), g1 3 (by decide)]
  refine CI.of rfl (t85_80_at0 (d := d + 5) w _ ?_)
  refine CI.mono (c_87 (d := d + 1) (k := 0) (fc := fc) (ft := ft) (by omega) T1 (by rw [up2_at, if_pos rfl]; rfl) (fun c hc => by rw [f51_cg (w := w) e3]; exact hfc c hc) (fun c hc => by rw [f52_cg (w := w) e3]; exact hft c hc)) ?_
  intro x u2 hL
  have hG2 : GC w u2 := fun a b1 b2 b3 b5 b6 => by rw [hL.1.1 a b1 b2 b3 b5 b6, up2_ne b2]; exact g1 a b1
  have e14 : (up2 (G_107_1 (nI n) w) 80 5 (kI 0)) 1 4 = kI 0 := by rw [up2_ne (by decide)]; exact g2
  unfold rp0
  cases er : lneF ch fc ft 0 0 with
  | inl e =>
    rw [er] at hL
    rw [hL.2.1]
    refine t85_80_at20 (d := d + 5) u2 _ _ _ ?_
    rw [if_neg (show ¬ kI 120 ≤ kI 0 by decide), if_pos (show kI 0 = 0 from rfl)]
    exact ⟨fun a b1 b2 b3 b5 b6 => by show up2 u2 1 1 _ a = _; rw [up2_ne b1]; exact hG2 a b1 b2 b3 b5 b6, by show up2 u2 1 1 _ 1 1 = _; rw [up2_at, if_pos rfl], hL.2.2⟩
  | inr r =>
    rw [er] at hL
    rw [hL.2.1]
    have hA0 : AC (up2 (G_107_1 (nI n) w) 80 5 (kI 0)) 0 (fun _ => (0, 0, 0)) := ⟨by rw [up2_at, if_pos rfl]; rfl, fun i hi => by omega⟩
    have h14 : u2 1 4 = kI 0 := by rw [hL.2.2.2.1]; exact e14
    exact l_85 (d := d) hn hfc hft 120 0 1 r.2.2.2 _ u2 rfl (Nat.zero_le _) hG2 hL.2.2.1 h14 (by omega) (hA0.up hL)
theorem f105 {p : Int32} {a b sz : Nat} {w : Wd} (hs : w 1 1 = nI sz) (hz : sz ≤ 260) (ha : a ≤ 1000) (hb : b ≤ 1000) (h : ¬ F_105_1 p (kI a) (kI b) w = 0) : ∃ n, a ≤ n ∧ n ≤ b ∧ n ≤ sz ∧ p = nI n := by
  unfold F_105_1 at h
  by_cases h1 : F_153 p (kI a) (kI b) w = 0
  · rw [if_pos h1] at h; exact absurd rfl h
  · rw [if_neg h1] at h
    obtain ⟨n, n1, n2, rfl⟩ := within_z (by omega) (by omega) h1
    by_cases h2 : w 1 1 < nI n
    · rw [if_pos h2] at h; exact absurd rfl h
    · rw [hs, nI_ltI (by omega) (by omega)] at h2
      exact ⟨n, n1, n2, by omega, rfl⟩
theorem J_report {X : Scr} {w : Wd} (h : II w) (p : Int32) : JJ X 123 203 [.int p] w := by
  have h0 := h
  obtain ⟨hO, hB, hK, hT, hL, hD, hR⟩ := h
  obtain ⟨o1, o2, o3, o4, o5, o6, o7⟩ := hO
  obtain ⟨fc, f1, f2⟩ := told_fc o1
  obtain ⟨ft, g1, g2⟩ := told_ft o2
  obtain ⟨v1, v2⟩ := hB.2.split f1
  obtain ⟨sz, hsz, es⟩ := hT.2.1
  have er10 : w 110 10 = nI sz := by rw [hT.1]; exact es
  unfold JJ
  refine CI.of (d := 59) rfl (t123_0_at0 (d := 57) w p ?_)
  have t : ∀ (u : Wd) (Q : Int32 → Wd → Prop), _ → CI X 60 203 [.ref 110, .int p] u Q := fun u Q H => CI.of (d := 59) rfl (t203_110_at0 (d := 57) u p H)
  by_cases h1 : F_105_1 p (kI 1) (kI 120) w = 0
  · rw [if_pos h1]
    refine t w _ ?_
    by_cases h2 : F_157 p (kI 1) (kI 120) w = 0
    · rw [if_pos h2]; exact ⟨rfl, h0⟩
    · rw [if_neg h2]
      unfold F_105_1 at h1
      rw [if_neg (show ¬ F_153 p (kI 1) (kI 120) w = 0 from h2)] at h1
      by_cases h3 : w 1 1 < p
      · rw [if_neg (show ¬ p ≤ w 110 10 by rw [hT.1]; exact Int32.not_le.mpr h3)]; exact ⟨rfl, h0⟩
      · rw [if_neg h3] at h1; exact absurd h1 (by decide)
  rw [if_neg h1]
  obtain ⟨n, n1, n2, n3, rfl⟩ := f105 (a := 1) (b := 120) es hsz (by decide) (by decide) h1
  have h2 : ¬ F_157 (nI n) (kI 1) (kI 120) w = 0 := by
    have := within_nI (n := n) (a := 1) (b := 120) (w := w) (by omega) (by decide) (by decide)
    rw [if_pos (by omega)] at this
    intro e
    rw [show F_157 (nI n) (kI 1) (kI 120) w = 1 from this] at e
    exact absurd e (by decide)
  obtain ⟨ch, c1, c2⟩ := txt_of hT es n3 hsz
  refine CI.mono (c_85 (d := 50) (fc := fc) (ft := ft) n2 es n3 hsz c1 c2 f1 g1) ?_
  intro x ua hE
  obtain ⟨hG, hsz0, hE⟩ := hE
  have ok := rp0_ok (ch := ch) (fc := fc) (ft := ft)
  have frz : ∀ a, 110 ≤ a → ua a = w a := fun a ha => hG a (by omega) (by omega) (by omega) (by omega) (by omega)
  have refR : ∀ (ub : Wd) (Q : Int32 → Wd → Prop), (∀ a, 110 ≤ a → ub a = w a) → (∀ e, rp0 ch fc ft = .inl e → ∀ u2, (∀ a, a ≠ 110 → a ≠ 131 → a ≠ 132 → u2 a = ub a) → (∀ j, (j = 6 ∨ j = 7 ∨ j = 8 ∨ j = 19 ∨ j = 56 ∨ j = 57 ∨ j = 64) → u2 110 j = w 110 j) → u2 110 10 = kI 0 → Q e u2) → (∀ r, rp0 ch fc ft = .inr r → ∀ u2, (∀ a, a ≠ 110 → a ≠ 111 → a ≠ 131 → a ≠ 132 → u2 a = ub a) → (∀ j, (j = 6 ∨ j = 7 ∨ j = 8 ∨ j = 19 ∨ j = 56 ∨ j = 57 ∨ j = 64) → u2 110 j = w 110 j) → u2 110 10 = kI 0 → u2 111 = enF r.2 r.1 0 (w 111) → Q (nI r.1) u2) → CI X 60 203 [.ref 110, .int (nI n)] ub Q := by
    intro ub Q fb qe qr
    refine t ub _ ?_
    rw [if_neg (show ¬ F_157 (nI n) (kI 1) (kI 120) ub = 0 from h2), fb 110 (by decide), er10, if_pos (nI_le n3 (by omega))]
    have s110 : ∀ j, j ≠ 11 → j ≠ 12 → j ≠ 15 → j ≠ 16 → j ≠ 17 → j ≠ 18 → j ≠ 35 → (up2 (G_195_110 (nI n) ub) 110 35 (kI 0)) 110 j = w 110 j := by
      intro j j1 j2 j3 j4 j5 j6 j7
      unfold G_195_110
      rw [up2_at, if_neg j7, up2_at, if_neg j5, up2_at, if_neg j3, up2_at, if_neg j6, up2_at, if_neg j4, up2_at, if_neg j2, up2_at, if_neg j1, fb 110 (by decide)]
    have sa : ∀ a, a ≠ 110 → (up2 (G_195_110 (nI n) ub) 110 35 (kI 0)) a = ub a := by
      intro a ha
      unfold G_195_110
      rw [up2_ne ha, up2_ne ha, up2_ne ha, up2_ne ha, up2_ne ha, up2_ne ha, up2_ne ha]
    have T1 : TXR (up2 (G_195_110 (nI n) ub) 110 35 (kI 0)) ch n 0 := by
      refine ⟨?_, ?_, by omega, by omega, fun i hi => ?_, c2⟩
      · unfold G_195_110
        rw [up2_at, if_neg (by decide), up2_at, if_neg (by decide), up2_at, if_neg (by decide), up2_at, if_neg (by decide), up2_at, if_neg (by decide), up2_at, if_pos rfl]
      · unfold G_195_110
        rw [up2_at, if_neg (by decide), up2_at, if_neg (by decide), up2_at, if_neg (by decide), up2_at, if_neg (by decide), up2_at, if_neg (by decide), up2_at, if_neg (by decide), up2_at, if_pos rfl]
        rfl
      · rw [sa 117 (by decide), fb 117 (by decide)]
        exact ⟨(c1 i hi).2.2, (c1 i hi).2.1⟩
    have e35 : (up2 (G_195_110 (nI n) ub) 110 35 (kI 0)) 110 35 = nI 0 := by rw [up2_at, if_pos rfl]; rfl
    have fcu : ∀ u : Wd, u 110 6 = w 110 6 → ∀ c, c < 6 → (F_164_110 (nI c) u = 0 ↔ fc c = false) := fun u e c hc => by rw [c164 (w := w) e]; exact f2 c hc
    have ftu : ∀ u : Wd, u 110 7 = w 110 7 → ∀ c, c < 6 → (F_165_110 (nI c) u = 0 ↔ ft c = false) := fun u e c hc => by rw [c165 (w := w) e]; exact g2 c hc
    have j6 := s110 6 (by decide) (by decide) (by decide) (by decide) (by decide) (by decide) (by decide)
    have j7 := s110 7 (by decide) (by decide) (by decide) (by decide) (by decide) (by decide) (by decide)
    refine CI.mono (c_202 (d := 56) (k := 0) (fc := fc) (ft := ft) (by omega) T1 e35 (fcu _ j6) (ftu _ j7)) ?_
    intro x2 u2 hL2
    have toW : ∀ u3, GR (up2 (G_195_110 (nI n) ub) 110 35 (kI 0)) u3 → (∀ a, a ≠ 110 → a ≠ 131 → a ≠ 132 → u3 a = ub a) ∧ ∀ j, (j = 6 ∨ j = 7 ∨ j = 8 ∨ j = 19 ∨ j = 56 ∨ j = 57 ∨ j = 64) → u3 110 j = w 110 j := by
      intro u3 hg
      refine ⟨fun a a1 a2 a3 => by rw [hg.1 a a1 a2 a3, sa a a1], fun j hj => ?_⟩
      rw [hg.2 j (by omega) (by omega) (by omega) (by omega)]
      exact s110 j (by omega) (by omega) (by omega) (by omega) (by omega) (by omega) (by omega)
    have hGR : GR (up2 (G_195_110 (nI n) ub) 110 35 (kI 0)) u2 := ⟨hL2.1.1, fun j b1 b2 b3 b4 => hL2.1.2 j b2 b3 b4⟩
    unfold rp0 at qe qr
    cases er : lneF ch fc ft 0 0 with
    | inl e =>
      rw [er] at hL2 qe
      rw [hL2.2.1]
      refine t203_110_at35 (d := 57) u2 _ _ ?_
      rw [if_pos (show kI 0 = 0 from rfl), hL2.2.2]
      have w2 := toW (up2 u2 110 10 (kI 0)) ⟨fun a a1 a2 a3 => by rw [up2_ne a1]; exact hGR.1 a a1 a2 a3, fun j b1 b2 b3 b4 => by rw [up2_at, if_neg b1]; exact hGR.2 j b1 b2 b3 b4⟩
      exact qe e rfl _ w2.1 w2.2 (by rw [up2_at, if_pos rfl])
    | inr r =>
      rw [er] at hL2 qe qr
      rw [hL2.2.1]
      have hA0 : AR (up2 (G_195_110 (nI n) ub) 110 35 (kI 0)) 0 (fun _ => (0, 0, 0)) := ⟨e35, fun i hi => by omega⟩
      have a3 := lneF_ok er
      have ok2 := rp0_ok (ch := ch) (fc := fc) (ft := ft)
      unfold rp0 at ok2
      rw [er] at ok2
      dsimp only at ok2 qe qr
      refine l_203 (d := 55) (w := up2 (G_195_110 (nI n) ub) 110 35 (kI 0)) (fc := fc) (ft := ft) n2 (fcu _ j6) (ftu _ j7) (fun _ _ _ _ q => q) 120 1 r.2.2.2 _ u2 (by omega) hGR hL2.2.2.1 (by omega) (hA0.up hL2) (fun e he u3 g3 z3 => ?_) (fun rr hr u3 g3 z3 a3 => ?_)
      · have w2 := toW u3 g3
        exact qe e he u3 w2.1 w2.2 z3
      · have w2 := toW u3 g3
        refine EI.mono (l_203e (d := 55) (w := u3) a3 (ok2.2 rr hr) rr.1 0 u3 (w 111) (Nat.zero_add _) (by rw [w2.1 111 (by decide) (by decide) (by decide), fb 111 (by decide)]) v1.1 (fun _ _ => rfl)) ?_
        intro y u4 hy
        obtain ⟨y1, y2, y3⟩ := hy
        rw [y1]
        exact qr rr hr u4 (fun a a1 a2 a3 a4 => by rw [y3 a a2]; exact w2.1 a a1 a3 a4) (fun j hj => by rw [y3 110 (by decide)]; exact w2.2 j hj) (by rw [y3 110 (by decide)]; exact z3) y2
  have stx : ∀ (a : Nat), stC a = true → a ≠ 1 ∧ a ≠ 80 ∧ a ≠ 81 ∧ a ≠ 82 ∧ a ≠ 83 ∧ a ≠ 110 ∧ a ≠ 131 ∧ a ≠ 132 := by
    intro a ha
    refine ⟨?_, ?_, ?_, ?_, ?_, ?_, ?_, ?_⟩ <;> (intro e; subst e; cases ha)
  cases er : rp0 ch fc ft with
  | inl e =>
    rw [er] at hE
    have hE2 : x = e := hE
    have hneg := ok.1 e er
    rw [hE2, if_neg (Int32.not_le.mpr hneg)]
    refine refR ua _ frz (fun e2 he2 u2 b1 b2 b3 => ?_) (fun r hr => by rw [er] at hr; cases hr)
    rw [er] at he2
    have ee : e = e2 := Sum.inl.inj he2
    refine ⟨ee.symm, h0.txt (fun a ha a8 a9 a11 => ?_) ?_ ?_ b3 ?_ ?_ ?_ b2⟩
    · obtain ⟨x1, x2, x3, x4, x5, x6, x7, x8⟩ := stx a ha
      rw [b1 a x6 x7 x8]; exact hG a x1 x2 x3 x4 x5
    · have q : ∀ a, a ≠ 1 → a ≠ 80 → a ≠ 81 → a ≠ 82 → a ≠ 83 → a ≠ 110 → a ≠ 131 → a ≠ 132 → u2 a = w a := fun a x1 x2 x3 x4 x5 x6 x7 x8 => by rw [b1 a x6 x7 x8]; exact hG a x1 x2 x3 x4 x5
      exact hB.cg (by rw [q 3 (by decide) (by decide) (by decide) (by decide) (by decide) (by decide) (by decide) (by decide)]) (q 111 (by decide) (by decide) (by decide) (by decide) (by decide) (by decide) (by decide) (by decide)) (q 7 (by decide) (by decide) (by decide) (by decide) (by decide) (by decide) (by decide) (by decide)) (q 8 (by decide) (by decide) (by decide) (by decide) (by decide) (by decide) (by decide) (by decide)) (q 9 (by decide) (by decide) (by decide) (by decide) (by decide) (by decide) (by decide) (by decide)) (q 10 (by decide) (by decide) (by decide) (by decide) (by decide) (by decide) (by decide) (by decide)) (q 11 (by decide) (by decide) (by decide) (by decide) (by decide) (by decide) (by decide) (by decide))
    · rw [b1 1 (by decide) (by decide) (by decide)]; exact hsz0
    · rw [b1 0 (by decide) (by decide) (by decide), hG 0 (by decide) (by decide) (by decide) (by decide) (by decide)]
    · rw [b1 0 (by decide) (by decide) (by decide), hG 0 (by decide) (by decide) (by decide) (by decide) (by decide)]
    · rw [b1 102 (by decide) (by decide) (by decide), hG 102 (by decide) (by decide) (by decide) (by decide) (by decide)]
  | inr r =>
    rw [er] at hE
    have hE2 : x = kI 0 ∧ AC ua r.1 r.2 := hE
    have hok := ok.2 r er
    rw [hE2.1, if_pos (show (0 : Int32) ≤ kI 0 by decide)]
    have Bua : BK 7 ua (w 111) := hB.1.congr (hG 7 (by decide) (by decide) (by decide) (by decide) (by decide)) (hG 8 (by decide) (by decide) (by decide) (by decide) (by decide)) (hG 9 (by decide) (by decide) (by decide) (by decide) (by decide)) (hG 10 (by decide) (by decide) (by decide) (by decide) (by decide)) (hG 11 (by decide) (by decide) (by decide) (by decide) (by decide))
    refine CU.mono (CU.of (d := 58) rfl (t86_80_7_at0 (d := 56) ua (l_86 (d := 56) (w := ua) hE2.2 hok r.1 0 ua (w 111) (Nat.zero_add _) Bua v1.1 (fun _ _ _ => rfl)))) ?_
    intro ub hU
    obtain ⟨b1, b2⟩ := hU
    have e80 : ub 80 5 = nI r.1 := by rw [b2 80 (by decide) (by decide)]; exact hE2.2.1
    rw [e80]
    refine refR ub _ (fun a ha => by rw [b2 a (by omega) (by omega)]; exact frz a ha) (fun e he => by rw [er] at he; cases he) (fun r2 hr2 u2 d1 d2 d3 d4 => ?_)
    rw [er] at hr2
    have er2 : r = r2 := Sum.inr.inj hr2
    subst er2
    have q : ∀ a, a ≠ 1 → a ≠ 8 → a ≠ 9 → a ≠ 80 → a ≠ 81 → a ≠ 82 → a ≠ 83 → a ≠ 110 → a ≠ 111 → a ≠ 131 → a ≠ 132 → u2 a = w a := fun a x1 x8 x9 x2 x3 x4 x5 y0 y1 y2 y3 => by rw [d1 a y0 y1 y2 y3, b2 a x8 x9]; exact hG a x1 x2 x3 x4 x5
    obtain ⟨nv, nz⟩ := enF_nv hok r.1 0 (w 111) (Nat.zero_add _) v1 v2
    have e33 : u2 3 = w 3 := q 3 (by decide) (by decide) (by decide) (by decide) (by decide) (by decide) (by decide) (by decide) (by decide) (by decide) (by decide)
    refine ⟨rfl, h0.txt (fun a ha a8 a9 a11 => ?_) ⟨?_, ?_⟩ ?_ d3 ?_ ?_ ?_ d2⟩
    · obtain ⟨x1, x2, x3, x4, x5, x6, x7, x8⟩ := stx a ha
      exact q a x1 a8 a9 x2 x3 x4 x5 x6 a11 x7 x8
    · rw [d4]
      exact b1.congr (d1 7 (by decide) (by decide) (by decide) (by decide)) (d1 8 (by decide) (by decide) (by decide) (by decide)) (d1 9 (by decide) (by decide) (by decide) (by decide)) (d1 10 (by decide) (by decide) (by decide) (by decide)) (d1 11 (by decide) (by decide) (by decide) (by decide))
    · rw [d4, e33]
      exact NV.join (w := w) nv nz f1
    · rw [d1 1 (by decide) (by decide) (by decide) (by decide), b2 1 (by decide) (by decide)]; exact hsz0
    · rw [q 0 (by decide) (by decide) (by decide) (by decide) (by decide) (by decide) (by decide) (by decide) (by decide) (by decide) (by decide)]
    · rw [q 0 (by decide) (by decide) (by decide) (by decide) (by decide) (by decide) (by decide) (by decide) (by decide) (by decide) (by decide)]
    · rw [q 102 (by decide) (by decide) (by decide) (by decide) (by decide) (by decide) (by decide) (by decide) (by decide) (by decide) (by decide)]
end REPORTJ
