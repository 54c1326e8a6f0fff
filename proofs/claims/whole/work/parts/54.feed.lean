/-! feed -/
section FEED
theorem fb_b (x : Int32) : x.toInt8.toInt32 &&& 255 = x &&& 255 := by
  apply Int32.toBitVec_inj.mp
  rw [Int32.toBitVec_and, Int32.toBitVec_and, Int8.toBitVec_toInt32, Int32.toBitVec_toInt8]
  apply BitVec.eq_of_getLsbD_eq
  intro i hi
  rw [BitVec.getLsbD_and, BitVec.getLsbD_and]
  have hm : ∀ i < 32, 8 ≤ i → (255 : Int32).toBitVec.getLsbD i = false := by decide
  rcases Nat.lt_or_ge i 8 with z | z
  · rw [BitVec.getLsbD_signExtend, BitVec.getLsbD_signExtend, if_pos z, if_pos hi]
    simp only [z, hi, decide_true, Bool.true_and]
  · rw [hm i hi z]; simp
theorem fb_nar (x : Int32) : vp_nar .byte x.toInt8.toInt32 &&& kI 255 = x &&& kI 255 := by
  show x.toInt8.toInt32.toInt8.toInt32 &&& (255 : Int32) = x &&& (255 : Int32)
  rw [fb_b, fb_b]
def bY (v : Int32) (t : Nat) : Int32 := (v >>> (nI (8 * (3 - t)) &&& 31)) &&& kI 255
def exT (T : Nat → Int32) (k : Nat) (v : Int32) : Nat → Int32 := fun i => if i < k then T i else bY v (i - k)
def INa (w u : Wd) (T : Nat → Int32) (k : Nat) (v : Int32) (t : Nat) : Prop := u 1 1 = nI (k + t) ∧ (∀ i, i < k + t → u 2 i = exT T k v i) ∧ (∀ a, a ≠ 1 → a ≠ 2 → u a = w a)
theorem st_104 {X : Scr} {d k t : Nat} {w u : Wd} {T : Nat → Int32} {v v2 : Int32} {Q : Wd → Prop} (hk : k + 4 ≤ 260) (ht : t < 4) (hv : v2 = nI (8 * (3 - t))) (hI : INa w u T k v t) (kk : ∀ u2, INa w u2 T k v (t + 1) → EU X (d + 1) 104 (3, [some (.ref 1), some (.int v), some (.int (v2 + kI (-8)))], [], SH, u2) Q) : EU X (d + 1) 104 (3, [some (.ref 1), some (.int v), some (.int v2)], [], SH, u) Q := by
  obtain ⟨i1, i2, i3⟩ := hI
  refine t104_1_at3 u v v2 ?_
  subst hv
  rw [if_neg (nI_pos (by omega)), i1, if_neg (lt_260 (k + t) (by omega))]
  refine ⟨inB_nI (by omega) (by decide), kk _ ⟨?_, ?_, ?_⟩⟩
  · rw [up2_at, if_pos rfl, k1]; rfl
  · intro i hi
    rw [up2_ne (by decide), nI_clamp (by omega), up2_at]
    by_cases e : i = k + t
    · rw [if_pos e]
      unfold exT
      rw [if_neg (by omega), show i - k = t by omega]
      rfl
    · rw [if_neg e]; exact i2 i (by omega)
  · intro a h1 h2
    rw [up2_ne h1, up2_ne h2, i3 a h1 h2]
theorem c_104 {X : Scr} {d k : Nat} {w : Wd} {T : Nat → Int32} (v : Int32) (hk : k + 4 ≤ 260) (h1 : w 1 1 = nI k) (h2 : ∀ i, i < k → w 2 i = T i) : CU X (d + 2) 104 [.ref 1, .int v] w (fun u => INa w u T k v 4) := by
  refine CU.of rfl (t104_1_at0 w v ?_)
  refine st_104 (w := w) (T := T) (k := k) (t := 0) hk (by decide) rfl ⟨h1, fun i hi => ?_, fun _ _ _ => rfl⟩ ?_
  · unfold exT; rw [if_pos (by omega)]; exact h2 i (by omega)
  intro u1 g1
  refine st_104 (w := w) (T := T) (k := k) (t := 1) hk (by decide) (by decide) g1 ?_
  intro u2 g2
  refine st_104 (w := w) (T := T) (k := k) (t := 2) hk (by decide) (by decide) g2 ?_
  intro u3 g3
  refine st_104 (w := w) (T := T) (k := k) (t := 3) hk (by decide) (by decide) g3 ?_
  intro u4 g4
  refine t104_1_at3 u4 v _ ?_
  rw [if_pos (by decide)]
  exact g4
def INr (w u : Wd) (T : Nat → Int32) (k : Nat) (v : Int32) (t : Nat) : Prop := u 110 10 = nI (k + t) ∧ (∀ i, i < k + t → u 117 i &&& kI 255 = exT T k v i) ∧ (∀ a, a ≠ 110 → a ≠ 117 → u a = w a) ∧ (∀ j, j ≠ 10 → u 110 j = w 110 j)
theorem st_173 {X : Scr} {d k t : Nat} {w u : Wd} {T : Nat → Int32} {v v2 : Int32} {Q : Wd → Prop} (hk : k + 4 ≤ 260) (ht : t < 4) (hv : v2 = nI (3 - t)) (hv2 : ((kI 8) * v2) &&& 31 = nI (8 * (3 - t)) &&& 31) (hI : INr w u T k v t) (kk : ∀ u2, INr w u2 T k v (t + 1) → EU X (d + 1) 173 (2, [some (.ref 110), some (.int v), some (.int (v2 + kI (-1)))], [], SH, u2) Q) : EU X (d + 1) 173 (2, [some (.ref 110), some (.int v), some (.int v2)], [], SH, u) Q := by
  obtain ⟨i1, i2, i3, i4⟩ := hI
  refine t173_110_at2 u v v2 ?_
  rw [hv2]
  subst hv
  rw [if_neg (nI_pos (by omega)), i1]
  refine ⟨inB_nI (by omega) (by decide), kk _ ⟨?_, ?_, ?_, ?_⟩⟩
  · rw [up2_at, if_pos rfl, k1]; rfl
  · intro i hi
    rw [up2_ne (by decide), nI_clamp (by omega), up2_at]
    by_cases e : i = k + t
    · rw [if_pos e, fb_nar]
      unfold exT
      rw [if_neg (by omega), show i - k = t by omega]
      rfl
    · rw [if_neg e]; exact i2 i (by omega)
  · intro a h1 h2
    rw [up2_ne h1, up2_ne h2, i3 a h1 h2]
  · intro j hj
    rw [up2_at, if_neg hj, up2_ne (by decide)]
    exact i4 j hj
theorem c_173 {X : Scr} {d k : Nat} {w : Wd} {T : Nat → Int32} (v : Int32) (hk : k + 4 ≤ 260) (h1 : w 110 10 = nI k) (h2 : ∀ i, i < k → w 117 i &&& kI 255 = T i) : CU X (d + 2) 173 [.ref 110, .int v] w (fun u => INr w u T k v 4) := by
  refine CU.of rfl (t173_110_at0 w v ?_)
  refine st_173 (w := w) (T := T) (k := k) (t := 0) hk (by decide) rfl (by decide) ⟨h1, fun i hi => ?_, fun _ _ _ => rfl, fun _ _ => rfl⟩ ?_
  · unfold exT; rw [if_pos (by omega)]; exact h2 i (by omega)
  intro u1 g1
  refine st_173 (w := w) (T := T) (k := k) (t := 1) hk (by decide) (by decide) (by decide) g1 ?_
  intro u2 g2
  refine st_173 (w := w) (T := T) (k := k) (t := 2) hk (by decide) (by decide) (by decide) g2 ?_
  intro u3 g3
  refine st_173 (w := w) (T := T) (k := k) (t := 3) hk (by decide) (by decide) (by decide) g3 ?_
  intro u4 g4
  refine t173_110_at2 u4 v _ ?_
  rw [if_pos (by decide)]
  exact g4
theorem J_feed {X : Scr} {w : Wd} (h : II w) (p q r s t : Int32) : JJ X 121 174 [.int p, .int q, .int r, .int s, .int t] w := by
  have h0 := h
  obtain ⟨hO, hB, hK, hT, hL, hD, hR⟩ := h
  obtain ⟨t1, ⟨k, hk, t2⟩, t3⟩ := hT
  unfold JJ
  refine CI.of (d := 59) rfl (t121_0_at0 (d := 58) w p q r s t ?_)
  have tR : ∀ (u : Wd) (Q : Int32 → Wd → Prop), _ → CI X 60 174 [.ref 110, .int p, .int q, .int r, .int s, .int t] u Q := fun u Q H => CI.of (d := 59) rfl (t174_110_at0 (d := 58) u p q r s t H)
  by_cases hk2 : k ≤ 240
  · rw [if_pos (by rw [t2]; exact nI_le hk2 (by decide))]
    refine CU.mono (c_104 (d := 57) (k := k) (T := w 2) p (by omega) t2 (fun _ _ => rfl)) ?_
    intro w1 g1
    refine CU.mono (c_104 (d := 57) (k := k + 4) (T := exT (w 2) k p) q (by omega) g1.1 g1.2.1) ?_
    intro w2 g2
    refine CU.mono (c_104 (d := 57) (k := k + 4 + 4) r (by omega) g2.1 g2.2.1) ?_
    intro w3 g3
    refine CU.mono (c_104 (d := 57) (k := k + 4 + 4 + 4) s (by omega) g3.1 g3.2.1) ?_
    intro w4 g4
    refine CU.mono (c_104 (d := 57) (k := k + 4 + 4 + 4 + 4) t (by omega) g4.1 g4.2.1) ?_
    intro w5 g5
    have fr : ∀ a, a ≠ 1 → a ≠ 2 → w5 a = w a := fun a h1 h2 => by rw [g5.2.2 a h1 h2, g4.2.2 a h1 h2, g3.2.2 a h1 h2, g2.2.2 a h1 h2, g1.2.2 a h1 h2]
    refine tR _ _ ?_
    rw [fr 110 (by decide) (by decide), t1, t2]
    rw [if_pos (by rw [show nI k + kI 20 = nI (k + 20) from nI_add k 20]; exact nI_le (b := 260) (by omega) (by decide))]
    have a1 : w5 110 10 = nI k := by rw [fr 110 (by decide) (by decide), t1, t2]
    refine CU.mono (c_173 (d := 57) (k := k) (T := w 2) p (by omega) a1 (fun i hi => ?_)) ?_
    · rw [fr 117 (by decide) (by decide)]
      exact (t3 i (by omega) (by rw [t2]; exact nI_lt hi (by omega))).symm
    intro y1 e1
    refine CU.mono (c_173 (d := 57) (k := k + 4) (T := exT (w 2) k p) q (by omega) e1.1 e1.2.1) ?_
    intro y2 e2
    refine CU.mono (c_173 (d := 57) (k := k + 4 + 4) r (by omega) e2.1 e2.2.1) ?_
    intro y3 e3
    refine CU.mono (c_173 (d := 57) (k := k + 4 + 4 + 4) s (by omega) e3.1 e3.2.1) ?_
    intro y4 e4
    refine CU.mono (c_173 (d := 57) (k := k + 4 + 4 + 4 + 4) t (by omega) e4.1 e4.2.1) ?_
    intro y5 e5
    have gr : ∀ a, a ≠ 110 → a ≠ 117 → y5 a = w5 a := fun a h1 h2 => by rw [e5.2.2.1 a h1 h2, e4.2.2.1 a h1 h2, e3.2.2.1 a h1 h2, e2.2.2.1 a h1 h2, e1.2.2.1 a h1 h2]
    have gj : ∀ j, j ≠ 10 → y5 110 j = w 110 j := fun j hj => by rw [e5.2.2.2 j hj, e4.2.2.2 j hj, e3.2.2.2 j hj, e2.2.2.2 j hj, e1.2.2.2 j hj, fr 110 (by decide) (by decide)]
    have z : ∀ a, a ≠ 1 → a ≠ 2 → a ≠ 110 → a ≠ 117 → y5 a = w a := fun a h1 h2 h3 h4 => by rw [gr a h3 h4, fr a h1 h2]
    have z1 : y5 1 1 = nI (k + 4 + 4 + 4 + 4 + 4) := by rw [gr 1 (by decide) (by decide)]; exact g5.1
    refine ⟨by rw [e5.1, g5.1], hO.cg (z 3 (by decide) (by decide) (by decide) (by decide)) (z 4 (by decide) (by decide) (by decide) (by decide)) (z 5 (by decide) (by decide) (by decide) (by decide)) (z 6 (by decide) (by decide) (by decide) (by decide)) (z 114 (by decide) (by decide) (by decide) (by decide)) (z 115 (by decide) (by decide) (by decide) (by decide)) (z 116 (by decide) (by decide) (by decide) (by decide)) (gj 6 (by decide)) (gj 7 (by decide)) (gj 8 (by decide)),
      hB.cg (by rw [z 3 (by decide) (by decide) (by decide) (by decide)]) (z 111 (by decide) (by decide) (by decide) (by decide)) (z 7 (by decide) (by decide) (by decide) (by decide)) (z 8 (by decide) (by decide) (by decide) (by decide)) (z 9 (by decide) (by decide) (by decide) (by decide)) (z 10 (by decide) (by decide) (by decide) (by decide)) (z 11 (by decide) (by decide) (by decide) (by decide)),
      hK.cg (by rw [z 3 (by decide) (by decide) (by decide) (by decide)]) (z 113 (by decide) (by decide) (by decide) (by decide)) (by rw [z 0 (by decide) (by decide) (by decide) (by decide)]) (gj 64 (by decide)) (z 12 (by decide) (by decide) (by decide) (by decide)) (z 13 (by decide) (by decide) (by decide) (by decide)) (z 14 (by decide) (by decide) (by decide) (by decide)) (z 15 (by decide) (by decide) (by decide) (by decide)) (z 16 (by decide) (by decide) (by decide) (by decide)),
      ⟨?_, ?_, ?_⟩,
      hL.cg (z 22 (by decide) (by decide) (by decide) (by decide)) (z 23 (by decide) (by decide) (by decide) (by decide)) (z 24 (by decide) (by decide) (by decide) (by decide)) (z 25 (by decide) (by decide) (by decide) (by decide)) (z 26 (by decide) (by decide) (by decide) (by decide)) (z 27 (by decide) (by decide) (by decide) (by decide)) (z 28 (by decide) (by decide) (by decide) (by decide)) (z 124 (by decide) (by decide) (by decide) (by decide)) (z 125 (by decide) (by decide) (by decide) (by decide)) (z 126 (by decide) (by decide) (by decide) (by decide)) (z 127 (by decide) (by decide) (by decide) (by decide)) (z 128 (by decide) (by decide) (by decide) (by decide)) (gj 19 (by decide)),
      hD.cg (by rw [z 0 (by decide) (by decide) (by decide) (by decide)]) (gj 57 (by decide)) (fun a h1 h2 => z a (by omega) (by omega) (by omega) (by omega)) (z 144 (by decide) (by decide) (by decide) (by decide)) (z 145 (by decide) (by decide) (by decide) (by decide)),
      hR.cg (z 103 (by decide) (by decide) (by decide) (by decide)) (z 104 (by decide) (by decide) (by decide) (by decide)) (z 105 (by decide) (by decide) (by decide) (by decide)) (z 106 (by decide) (by decide) (by decide) (by decide)) (z 140 (by decide) (by decide) (by decide) (by decide)) (z 141 (by decide) (by decide) (by decide) (by decide)) (z 142 (by decide) (by decide) (by decide) (by decide)) (z 143 (by decide) (by decide) (by decide) (by decide)) (by rw [z 102 (by decide) (by decide) (by decide) (by decide)]) (gj 56 (by decide))⟩
    · rw [e5.1, z1]
    · rw [z1]; exact ⟨_, by omega, rfl⟩
    · intro i hi h9
      rw [z1, nI_ltI (by omega) (by omega)] at h9
      rw [gr 2 (by decide) (by decide), g5.2.1 i (by omega), e5.2.1 i (by omega)]
  · rw [if_neg (by rw [t2]; exact nI_ge (b := k) (a := 240) (by omega) (by omega))]
    refine tR _ _ ?_
    rw [t1, t2, if_neg (by
      rw [show nI k + kI 20 = nI (k + 20) from nI_add k 20]
      exact nI_ge (b := k + 20) (a := 260) (by omega) (by omega))]
    exact ⟨rfl, h0⟩
end FEED
