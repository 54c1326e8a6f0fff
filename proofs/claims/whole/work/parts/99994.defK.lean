/-! definition: the two calls, the end -/
section DEFK
theorem J_definition {X : Scr} {w : Wd} (h : II w) (p q : Int32) : JJ X 136 238 [.int p, .int q] w := by
  have h0 := h
  obtain ⟨hO, hB, hK, hT, hL, hD, hR⟩ := h
  obtain ⟨sz, hsz, es⟩ := hT.2.1
  obtain ⟨R, hR1, eR1, eR2⟩ := hR.rec
  obtain ⟨d1, ⟨T, hT6, eT⟩, d3⟩ := hD
  have er10 : w 110 10 = nI sz := by rw [hT.1]; exact es
  unfold JJ
  by_cases h1 : F_153 p (kI 0) (kI 5) w = 0
  · refine CI.of (d := 59) rfl (t136_no (d := 57) w p q ?_ (fun e => absurd h1 e))
    refine CI.of (d := 59) rfl (t238_110_at0 (d := 57) w p q ?_)
    rw [if_pos (show F_157 p (kI 0) (kI 5) w = 0 from h1)]
    exact ⟨rfl, h0⟩
  by_cases h3 : F_105_1 q (kI 1) (kI 80) w = 0
  · refine CI.of (d := 59) rfl (t136_no (d := 57) w p q ?_ (fun _ => h3))
    refine CI.of (d := 59) rfl (t238_110_at0 (d := 57) w p q ?_)
    rw [if_neg (show ¬ F_157 p (kI 0) (kI 5) w = 0 from h1)]
    by_cases h2 : F_157 q (kI 1) (kI 80) w = 0
    · rw [if_pos h2]; exact ⟨rfl, h0⟩
    · rw [if_neg h2]
      unfold F_105_1 at h3
      rw [if_neg (show ¬ F_153 q (kI 1) (kI 80) w = 0 from h2)] at h3
      by_cases h4 : w 1 1 < q
      · rw [if_neg (show ¬ q ≤ w 110 10 by rw [hT.1]; exact Int32.not_le.mpr h4)]; exact ⟨rfl, h0⟩
      · rw [if_neg h4] at h3; exact absurd h3 (by decide)
  obtain ⟨k, -, hk5, rfl⟩ := within_z (a := 0) (b := 5) (by decide) (by decide) h1
  obtain ⟨n, n1, n2, n3, rfl⟩ := f105 (a := 1) (b := 80) es hsz (by decide) (by decide) h3
  have hk : k < 6 := by omega
  obtain ⟨ch, c1, c2⟩ := txt_of hT es n3 hsz
  have hc : CHn256 ch n := by
    refine ⟨fun i => ?_, c2, fun i hi => (c1 i hi).2.1⟩
    by_cases e : n ≤ i
    · rw [c2 i e]; omega
    · have := (c1 i (by omega)).2.1; omega
  have ok := dfA_ok hc (show n ≤ 240 by omega)
  have s195 : ∀ (ub : Wd), (∀ a, a ≠ 110 → G_195_110 (nI n) ub a = ub a) ∧ ∀ j, (j < 11 ∨ 18 < j) → G_195_110 (nI n) ub 110 j = ub 110 j := by
    intro ub
    unfold G_195_110
    exact ⟨fun a ha => by rw [up2_ne ha, up2_ne ha, up2_ne ha, up2_ne ha, up2_ne ha, up2_ne ha], fun j hj => by rw [up2_at, if_neg (by omega), up2_at, if_neg (by omega), up2_at, if_neg (by omega), up2_at, if_neg (by omega), up2_at, if_neg (by omega), up2_at, if_neg (by omega)]⟩
  have s77 : ∀ v, GRc (G_77_29 (G_107_1 (nI n) w)) v → ∀ a, a ≠ 1 → (a < 29 ∨ 35 < a) → G_108_1 v a = w a := by
    intro v g a x1 x2
    unfold G_108_1
    rw [up2_ne x1, g.1 a x1 x2]
    unfold G_77_29
    rw [up2_ne (by omega), up2_ne (by omega)]
    exact (g107 (w := w) (v := nI n)).1 a x1
  have s11 : ∀ v, G_108_1 v 1 1 = kI 0 := fun v => by unfold G_108_1; rw [up2_at, if_pos rfl]
  refine c_136 (d := 57) hk h3 ?_
  refine c_63 (d := 23) (by omega) es n3 hsz c1 c2 (fun e er v g => Or.inl ⟨ok.2 e er, ?_⟩) (fun t er v g hC f7 f34 f35 => Or.inr ⟨rfl, t.2.2.2, ?_, ?_, ?_, ?_⟩)
  · have fb : ∀ a, 110 ≤ a → G_108_1 v a = w a := fun a ha => s77 v g a (by omega) (by omega)
    refine c_238 (e := 52) hk n1 n2 (by rw [fb 110 (by decide), er10]; exact nI_le n3 (by omega)) (fun i hi => by rw [fb 117 (by decide)]; exact ⟨(c1 i hi).2.2, (c1 i hi).2.1⟩) c2 (fun r er2 v2 g2 => ?_) (fun y er2 => by rw [er] at er2; cases er2)
    rw [er] at er2
    refine ⟨(Sum.inl.inj er2).symm, ?_⟩
    have qq : ∀ a, a ≠ 1 → (a < 29 ∨ 35 < a) → a ≠ 110 → (a < 118 ∨ 123 < a) → (up2 v2 110 10 (kI 0)) a = w a := fun a x1 x2 x3 x4 => by rw [up2_ne x3, g2.1 a x3 (by omega) (by omega), (s195 _).1 a x3]; exact s77 v g a x1 x2
    have qj : ∀ j, j ≠ 10 → (j < 11 ∨ 18 < j) → (up2 v2 110 10 (kI 0)) 110 j = w 110 j := fun j x1 x2 => by rw [up2_at, if_neg x1, g2.2 j (by omega), (s195 _).2 j x2, fb 110 (by decide)]
    refine h0.txt (fun a ha _ _ _ => qq a (stz a ha).1 (stz a ha).2.1 (stz a ha).2.2.1 (stz a ha).2.2.2) (hB.cg (by rw [qq 3 (by decide) (by decide) (by decide) (by decide)]) (qq 111 (by decide) (by decide) (by decide) (by decide)) (qq 7 (by decide) (by decide) (by decide) (by decide)) (qq 8 (by decide) (by decide) (by decide) (by decide)) (qq 9 (by decide) (by decide) (by decide) (by decide)) (qq 10 (by decide) (by decide) (by decide) (by decide)) (qq 11 (by decide) (by decide) (by decide) (by decide))) ?_ (by rw [up2_at, if_pos rfl]) (by rw [qq 0 (by decide) (by decide) (by decide) (by decide)]) (by rw [qq 0 (by decide) (by decide) (by decide) (by decide)]) (by rw [qq 102 (by decide) (by decide) (by decide) (by decide)]) (fun j hj => qj j (by omega) (by omega))
    rw [up2_ne (by decide), g2.1 1 (by decide) (by decide) (by decide), (s195 _).1 1 (by decide)]
    exact s11 v
  · unfold G_108_1; rw [up2_ne (by decide)]; exact hC.1
  · have := (ok.1 t er).2.1; omega
  · unfold G_108_1; rw [up2_ne (by decide)]; exact f7
  · have hok := ok.1 t er
    have hL80 : t.2.2.2 ≤ 80 := by have := hok.2.1; omega
    have f6 : G_108_1 v 29 6 = nI t.2.2.2 := by unfold G_108_1; rw [up2_ne (by decide)]; exact hC.1
    have f8 : ∀ a, a ≠ 1 → G_108_1 v a = v a := fun a ha => by unfold G_108_1; exact up2_ne ha
    obtain ⟨k1, k2, k3, k4, k5⟩ := tgd hk f6 hL80 (show G_108_1 v 29 7 = nI 1 by rw [f8 29 (by decide)]; exact f7)
    rw [f8 34 (by decide), f34] at k4
    rw [f8 35 (by decide), f35] at k5
    have eT2 : TGd k (G_108_1 v) 0 16 = nI T := by rw [k1 0 (by omega), s77 v g 0 (by decide) (by decide)]; exact eT
    have hk2 : 2 ^ k ≤ 32 := by have : k = 0 ∨ k = 1 ∨ k = 2 ∨ k = 3 ∨ k = 4 ∨ k = 5 := by omega
                                rcases this with e | e | e | e | e | e <;> (subst e; decide)
    rw [eT2, shl1_nI (by omega), or_nI]
    have hTk : T ||| 2 ^ k < 64 := Nat.or_lt_two_pow (n := 6) (by omega) (by omega)
    have hDC : DFC (up2 (TGd k (G_108_1 v)) 0 16 (nI (T ||| 2 ^ k))) k t.2.1 t.2.2.1 t.2.2.2 := by
      refine ⟨hL80, fun i hi => ⟨_, (hok.1 i hi).1, (hok.1 i hi).2, rfl, ?_, ?_⟩, ?_, ?_, ?_, hok.2.2⟩
      · rw [up2_ne (by omega), (k3 i hi).1, f8 30 (by decide)]; exact (hC.2.2 i hi).1
      · rw [up2_ne (by omega), (k3 i hi).2, f8 31 (by decide)]; exact (hC.2.2 i hi).2
      · rw [up2_ne (by omega)]; exact k2
      · rw [up2_ne (by omega)]; exact k4
      · rw [up2_ne (by omega)]; exact k5
    have fw : ∀ a, a ≠ 0 → a ≠ 1 → (a < 29 ∨ 35 < a) → (a < 37 + 7 * k ∨ 43 + 7 * k < a) → (up2 (TGd k (G_108_1 v)) 0 16 (nI (T ||| 2 ^ k))) a = w a := fun a x0 x1 x2 x3 => by rw [up2_ne x0, k1 a x3]; exact s77 v g a x1 x2
    refine CI.mono (c_151 (d := 55) hk hDC (by rw [fw 102 (by decide) (by decide) (by decide) (by omega)]; exact eR1) hR1) (fun x2 w2 hx => ?_)
    obtain ⟨hx, fr⟩ := hx
    have fw2 : ∀ a, a ≠ 0 → a ≠ 1 → (a < 29 ∨ 35 < a) → (a < 37 + 7 * k ∨ 43 + 7 * k < a) → a ≠ 85 → a ≠ 86 → w2 a = w a := fun a x0 x1 x2 x3 x4 x5 => by rw [fr a x4 x5]; exact fw a x0 x1 x2 x3
    have fb : ∀ a, 110 ≤ a → w2 a = w a := fun a ha => fw2 a (by omega) (by omega) (by omega) (by omega) (by omega) (by omega)
    refine c_238 (e := 52) hk n1 n2 (by rw [fb 110 (by decide), er10]; exact nI_le n3 (by omega)) (fun i hi => by rw [fb 117 (by decide)]; exact ⟨(c1 i hi).2.2, (c1 i hi).2.1⟩) c2 (fun r er2 => by rw [er] at er2; cases er2) (fun t2 er2 v2 g2 hC2 v3 m1 m2 m3 m4 m5 m6 => ?_)
    rw [er] at er2
    have et : t = t2 := Sum.inr.inj er2
    subst et
    have o3 : ∀ a, a ≠ 110 → a ≠ 118 → a ≠ 119 → a ≠ 144 → a ≠ 145 → v3 a = w2 a := fun a x1 x2 x3 x4 x5 => by rw [m1 a x1 x4 x5, g2.1 a x1 x2 x3, (s195 _).1 a x1]
    have o4 : ∀ a, a ≠ 110 → a ≠ 118 → a ≠ 119 → v2 a = w2 a := fun a x1 x2 x3 => by rw [g2.1 a x1 x2 x3, (s195 _).1 a x1]
    have oj : ∀ j, j ≠ 10 → j ≠ 57 → (j < 11 ∨ 18 < j) → v3 110 j = w 110 j := fun j x1 x2 x3 => by rw [m2 j x1 x2, g2.2 j (by omega), (s195 _).2 j x3, fb 110 (by decide)]
    have e57 : v3 110 57 = nI (T ||| 2 ^ k) := by rw [m4, g2.2 57 (by omega), (s195 _).2 57 (by omega), fb 110 (by decide), d1, eT, shl1_nI (by omega), or_nI]
    have hDR : DFR v3 k t.2.1 t.2.2.1 t.2.2.2 := by
      refine ⟨hL80, fun i hi => ⟨(hok.1 i hi).1, (hok.1 i hi).2, ?_⟩, by rw [m5 k, if_pos rfl], hok.2.2⟩
      rw [m6 (260 * k + i), if_pos (by omega), Nat.add_sub_cancel_left]
      exact hC2.2 i hi
    refine CI.mono (c_237 (d := 54) (R := R) hk hDR (by rw [oj 56 (by decide) (by decide) (by decide)]; exact eR2) hR1) (fun y w4 hy => ?_)
    obtain ⟨hy, fr2⟩ := hy
    have w140 : ∀ a, 140 ≤ a → a ≤ 143 → v3 a = w a := fun a x1 x2 => by rw [o3 a (by omega) (by omega) (by omega) (by omega) (by omega)]; exact fb a (by omega)
    rw [w140 140 (by decide) (by decide), w140 141 (by decide) (by decide), w140 142 (by decide) (by decide), w140 143 (by decide) (by decide), fu_eq hR] at hy
    rw [fw 103 (by decide) (by decide) (by decide) (by omega), fw 104 (by decide) (by decide) (by decide) (by omega), fw 105 (by decide) (by decide) (by decide) (by omega), fw 106 (by decide) (by decide) (by decide) (by omega)] at hx
    refine ⟨by rw [hy, hx, F162_pcn _ (mkS_lt _ 20), F259_pcn _ (mkS_lt _ 20)], ?_⟩
    have z4 : ∀ a, a ≠ 1 → (a < 29 ∨ 35 < a) → (a < 37 + 7 * k ∨ 43 + 7 * k < a) → a ≠ 0 → a ≠ 85 → a ≠ 86 → a ≠ 110 → a ≠ 118 → a ≠ 119 → a ≠ 144 → a ≠ 145 → a ≠ 129 → a ≠ 130 → a ≠ 146 → w4 a = w a := fun a x1 x2 x3 x0 x4 x5 y1 y2 y3 y4 y5 y6 y7 y8 => by rw [fr2 a y6 y7 y8, o3 a y1 y2 y3 y4 y5]; exact fw2 a x0 x1 x2 x3 x4 x5
    have z37 : ∀ a, 37 ≤ a → a ≤ 78 → w4 a = TGd k (G_108_1 v) a := fun a x1 x2 => by rw [fr2 a (by omega) (by omega) (by omega), o3 a (by omega) (by omega) (by omega) (by omega) (by omega), fr a (by omega) (by omega), up2_ne (by omega)]
    have e0 : ∀ j, w4 0 j = (up2 (TGd k (G_108_1 v)) 0 16 (nI (T ||| 2 ^ k))) 0 j := fun j => by rw [fr2 0 (by decide) (by decide) (by decide), o3 0 (by decide) (by decide) (by decide) (by decide) (by decide), fr 0 (by decide) (by decide)]
    have e016 : w4 0 16 = nI (T ||| 2 ^ k) := by rw [e0, up2_at, if_pos rfl]
    have x144 : w4 144 = v3 144 := fr2 144 (by decide) (by decide) (by decide)
    have x145 : w4 145 = v3 145 := fr2 145 (by decide) (by decide) (by decide)
    refine h0.df (fun a ha x1 x2 x3 => ?_) ⟨?_, ⟨T ||| 2 ^ k, by omega, e016⟩, fun dd hdd hb => ?_⟩ ?_ ?_ ?_ ?_ (fun j hj => ?_)
    · have zz := stz a ha
      exact z4 a zz.1 zz.2.1 (by omega) (fun e => by subst e; cases ha) (fun e => by subst e; cases ha) (fun e => by subst e; cases ha) zz.2.2.1 (by omega) (by omega) x2 x3 (fun e => by subst e; cases ha) (fun e => by subst e; cases ha) (fun e => by subst e; cases ha)
    · rw [e016, fr2 110 (by decide) (by decide) (by decide)]; exact e57
    · by_cases ed : dd = k
      · subst ed
        refine ⟨t.2.1, t.2.2.1, t.2.2.2, hL80, fun i hi => ⟨(hok.1 i hi).1, (hok.1 i hi).2, ?_, ?_, ?_⟩, ?_, ?_, ?_, ?_, hok.2.2⟩
        · rw [x144]; exact (hDR.2.1 i hi).2.2
        · rw [z37 _ (by omega) (by omega), (k3 i hi).1, f8 30 (by decide)]; exact (hC.2.2 i hi).1
        · rw [z37 _ (by omega) (by omega), (k3 i hi).2, f8 31 (by decide)]; exact (hC.2.2 i hi).2
        · rw [x145]; exact hDR.2.2.1
        · rw [z37 _ (by omega) (by omega)]; exact k2
        · rw [z37 _ (by omega) (by omega)]; exact k4
        · rw [z37 _ (by omega) (by omega)]; exact k5
      · rw [e016] at hb
        have hb2 : (T ||| 2 ^ k).testBit dd = true := by
          refine Decidable.byContradiction (fun hn => hb ((isin_z w4 (by omega) (by omega)).mpr hn))
        rw [Nat.testBit_or, Nat.testBit_two_pow, decide_eq_false (fun e => ed e.symm), Bool.or_false] at hb2
        have hold : ¬ F_154 (w 0 16) (nI dd) w = 0 := by
          rw [eT]
          exact fun e => (isin_z w (by omega) (by omega)).mp e hb2
        obtain ⟨op, ar, len, a1, a2, a3, a4, a5, a6, a7⟩ := d3 dd hdd hold
        have zc : ∀ a, 37 + 7 * dd ≤ a → a ≤ 43 + 7 * dd → w4 a = w a := fun a y1 y2 => z4 a (by omega) (by omega) (by omega) (by omega) (by omega) (by omega) (by omega) (by omega) (by omega) (by omega) (by omega) (by omega) (by omega) (by omega)
        refine ⟨op, ar, len, a1, fun i hi => ?_, ?_, ?_, ?_, ?_, a7⟩
        · rw [zc _ (by omega) (by omega), zc _ (by omega) (by omega), x144, m6, if_neg (by omega), o4 144 (by decide) (by decide) (by decide), fb 144 (by decide)]
          exact a2 i hi
        · rw [x145, m5, if_neg ed, o4 145 (by decide) (by decide) (by decide), fb 145 (by decide)]; exact a3
        · rw [zc _ (by omega) (by omega)]; exact a4
        · rw [zc _ (by omega) (by omega)]; exact a5
        · rw [zc _ (by omega) (by omega)]; exact a6
    · rw [fr2 1 (by decide) (by decide) (by decide), o3 1 (by decide) (by decide) (by decide) (by decide) (by decide), fr 1 (by decide) (by decide), up2_ne (by decide), k1 1 (by omega)]
      exact s11 v
    · rw [fr2 110 (by decide) (by decide) (by decide)]; exact m3
    · rw [e0, up2_at, if_neg (by decide), k1 0 (by omega), s77 v g 0 (by decide) (by decide)]
    · rw [z4 102 (by decide) (by decide) (by omega) (by decide) (by decide) (by decide) (by decide) (by decide) (by decide) (by decide) (by decide) (by decide) (by decide) (by decide)]
    · rw [fr2 110 (by decide) (by decide) (by decide)]; exact oj j (by omega) (by omega) (by omega)
end DEFK
