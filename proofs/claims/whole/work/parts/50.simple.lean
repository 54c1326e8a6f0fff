/-! calls that both sides do without a loop -/
section SIMPLE
theorem f154_w (s c : Int32) (w u : Wd) : F_154 s c w = F_154 s c u := rfl
/-- a bit that is not in the greater set is not in the smaller -/
theorem told_or {s : Int32} {c : Nat} (hs : nn s 63) (hc : c < 6) : nn (s ||| nI (2 ^ c)) 63 ∧ ∀ i (w : Wd), i < 6 → F_154 (s ||| nI (2 ^ c)) (nI i) w = 0 → F_154 s (nI i) w = 0 ∧ i ≠ c := by
  obtain ⟨S, hS, rfl⟩ := hs
  rw [or_nI]
  have hb : S ||| 2 ^ c < 64 := by
    have h1 : S < 2 ^ 6 := by omega
    have h2 : (2 : Nat) ^ c < 2 ^ 6 := Nat.pow_lt_pow_right (by decide) hc
    exact Nat.or_lt_two_pow h1 h2
  refine ⟨⟨_, by omega, rfl⟩, fun i w hi h => ?_⟩
  rw [isin_z w (by omega) (by omega)] at h ⊢
  rw [Nat.testBit_or] at h
  refine ⟨fun h1 => h (by rw [h1]; rfl), fun e => h ?_⟩
  subst e
  rw [Nat.testBit_two_pow_self]
  simp
theorem NV.told {s t : Int32} {n : Nat → Int32} (h : NV s n) (hst : ∀ i, i < 6 → F_154 t (nI i) (fun _ _ => 0) = 0 → F_154 s (nI i) (fun _ _ => 0) = 0) : NV t n := ⟨h.1, fun c f hc hf h0 => h.2.1 c f hc hf (hst c hc h0), h.2.2⟩
theorem J_county {X : Scr} {w : Wd} (h : II w) (p q : Int32) : JJ X 117 169 [.int p, .int q] w := by
  refine JJ.ofFG (m_117_0 w p q) (m_169_110 _ p q) rfl ?_
  by_cases h1 : F_153 p (kI 0) (kI 5) w = 0
  · have e1 : G_117_0 p q w = w := by unfold G_117_0; rw [if_pos h1]
    have e2 : ∀ u, G_169_110 p q u = u := fun u => by unfold G_169_110; rw [if_pos (show F_157 p (kI 0) (kI 5) u = 0 from h1)]
    rw [e1, e2]; exact h
  · by_cases h2 : F_153 q (kI 0) (kI 9999) w = 0
    · have e1 : G_117_0 p q w = w := by unfold G_117_0; rw [if_neg h1, if_pos h2]
      have e2 : ∀ u, G_169_110 p q u = u := fun u => by unfold G_169_110; rw [if_neg (show ¬ F_157 p (kI 0) (kI 5) u = 0 from h1), if_pos (show F_157 q (kI 0) (kI 9999) u = 0 from h2)]
      rw [e1, e2]; exact h
    · have e1 : G_117_0 p q w = up2 (up2 w 4 p.toNatClampNeg q) 3 3 ((w 3 3) ||| ((kI 1) <<< (p &&& 31))) := by unfold G_117_0; rw [if_neg h1, if_neg h2]
      have e2 : ∀ u, G_169_110 p q u = up2 (up2 u 110 6 ((u 110 6) ||| ((kI 1) <<< (p &&& 31)))) 114 p.toNatClampNeg q := fun u => by unfold G_169_110; rw [if_neg (show ¬ F_157 p (kI 0) (kI 5) u = 0 from h1), if_neg (show ¬ F_157 q (kI 0) (kI 9999) u = 0 from h2)]
      rw [e2, e1]
      obtain ⟨c, -, hc, rfl⟩ := within_z (a := 0) (b := 5) (by decide) (by decide) h1
      obtain ⟨n, -, hn, rfl⟩ := within_z (a := 0) (b := 9999) (by decide) (by decide) h2
      rw [nI_clamp (by omega), shl1_nI (by omega)]
      obtain ⟨hO, hB, hK, hT, hL, hD, hR⟩ := h
      obtain ⟨o1, o2, o3, o4, o5, o6, o7⟩ := hO
      obtain ⟨t1, t2⟩ := told_or o4 (show c < 6 by omega)
      refine ⟨⟨?_, o2, o3, t1, o5, o6, ?_⟩, ⟨hB.1.congr rfl rfl rfl rfl rfl, hB.2.told fun i hi => fun h0 => (t2 i _ hi h0).1⟩, ⟨hK.1, hK.2.1, fun e => ⟨(hK.2.2 e).1.congr rfl rfl rfl rfl rfl, (hK.2.2 e).2.told fun i hi => fun h0 => (t2 i _ hi h0).1⟩⟩, hT.cg rfl rfl rfl rfl, hL.cg rfl rfl rfl rfl rfl rfl rfl rfl rfl rfl rfl rfl rfl, hD.cg rfl rfl (fun a h1 h2 => by rw [up2_ne (by omega), up2_ne (by omega), up2_ne (by omega), up2_ne (by omega)]) rfl rfl, hR.cg rfl rfl rfl rfl rfl rfl rfl rfl rfl rfl⟩
      · show w 110 6 ||| nI (2 ^ c) = w 3 3 ||| nI (2 ^ c)
        rw [o1]
      · intro i hi
        obtain ⟨q1, q2, q3, q4, q5, q6, q7⟩ := o7 i hi
        show (if i = c then nI n else w 114 i) = (if i = c then nI n else w 4 i) ∧ w 116 i = w 5 i ∧ w 115 i = w 6 i ∧ nn (if i = c then nI n else w 4 i) 9999 ∧ nn (w 5 i) 9999 ∧ nn (w 6 i) 63 ∧ (F_154 (w 3 3 ||| nI (2 ^ c)) (nI i) w = 0 → (if i = c then nI n else w 4 i) = 0)
        refine ⟨by rw [q1], q2, q3, ?_, q5, q6, fun h0 => ?_⟩
        · by_cases e : i = c
          · rw [if_pos e]; exact ⟨n, hn, rfl⟩
          · rw [if_neg e]; exact q4
        · obtain ⟨a1, a2⟩ := t2 i w hi h0
          rw [if_neg a2]
          exact q7 a1
theorem J_figure {X : Scr} {w : Wd} (h : II w) (p q : Int32) : JJ X 119 171 [.int p, .int q] w := by
  refine JJ.ofFG (m_119_0 w p q) (m_171_110 _ p q) rfl ?_
  by_cases h1 : F_153 p (kI 0) (kI 5) w = 0
  · have e1 : G_119_0 p q w = w := by unfold G_119_0; rw [if_pos h1]
    have e2 : ∀ u, G_171_110 p q u = u := fun u => by unfold G_171_110; rw [if_pos (show F_157 p (kI 0) (kI 5) u = 0 from h1)]
    rw [e1, e2]; exact h
  · by_cases h2 : F_153 q (kI 0) (kI 9999) w = 0
    · have e1 : G_119_0 p q w = w := by unfold G_119_0; rw [if_neg h1, if_pos h2]
      have e2 : ∀ u, G_171_110 p q u = u := fun u => by unfold G_171_110; rw [if_neg (show ¬ F_157 p (kI 0) (kI 5) u = 0 from h1), if_pos (show F_157 q (kI 0) (kI 9999) u = 0 from h2)]
      rw [e1, e2]; exact h
    · have e1 : G_119_0 p q w = up2 (up2 w 5 p.toNatClampNeg q) 3 4 ((w 3 4) ||| ((kI 1) <<< (p &&& 31))) := by unfold G_119_0; rw [if_neg h1, if_neg h2]
      have e2 : ∀ u, G_171_110 p q u = up2 (up2 u 110 7 ((u 110 7) ||| ((kI 1) <<< (p &&& 31)))) 116 p.toNatClampNeg q := fun u => by unfold G_171_110; rw [if_neg (show ¬ F_157 p (kI 0) (kI 5) u = 0 from h1), if_neg (show ¬ F_157 q (kI 0) (kI 9999) u = 0 from h2)]
      rw [e2, e1]
      obtain ⟨c, -, hc, rfl⟩ := within_z (a := 0) (b := 5) (by decide) (by decide) h1
      obtain ⟨n, -, hn, rfl⟩ := within_z (a := 0) (b := 9999) (by decide) (by decide) h2
      rw [nI_clamp (by omega), shl1_nI (by omega)]
      obtain ⟨hO, hB, hK, hT, hL, hD, hR⟩ := h
      obtain ⟨o1, o2, o3, o4, o5, o6, o7⟩ := hO
      obtain ⟨t1, t2⟩ := told_or o5 (show c < 6 by omega)
      refine ⟨⟨o1, ?_, o3, o4, t1, o6, ?_⟩, hB.cg rfl rfl rfl rfl rfl rfl rfl, hK.cg rfl rfl rfl rfl rfl rfl rfl rfl rfl, hT.cg rfl rfl rfl rfl, hL.cg rfl rfl rfl rfl rfl rfl rfl rfl rfl rfl rfl rfl rfl, hD.cg rfl rfl (fun a h1 h2 => by rw [up2_ne (by omega), up2_ne (by omega), up2_ne (by omega), up2_ne (by omega)]) rfl rfl, hR.cg rfl rfl rfl rfl rfl rfl rfl rfl rfl rfl⟩
      · show w 110 7 ||| nI (2 ^ c) = w 3 4 ||| nI (2 ^ c)
        rw [o2]
      · intro i hi
        obtain ⟨q1, q2, q3, q4, q5, q6, q7⟩ := o7 i hi
        show w 114 i = w 4 i ∧ (if i = c then nI n else w 116 i) = (if i = c then nI n else w 5 i) ∧ w 115 i = w 6 i ∧ nn (w 4 i) 9999 ∧ nn (if i = c then nI n else w 5 i) 9999 ∧ nn (w 6 i) 63 ∧ (F_154 (w 3 3) (nI i) w = 0 → w 4 i = 0)
        refine ⟨q1, by rw [q2], q3, q4, ?_, q6, q7⟩
        by_cases e : i = c
        · rw [if_pos e]; exact ⟨n, hn, rfl⟩
        · rw [if_neg e]; exact q5
theorem J_staff {X : Scr} {w : Wd} (h : II w) (p : Int32) : JJ X 120 172 [.int p] w := by
  refine JJ.ofFG (m_120_0 w p) (m_172_110 _ p) rfl ?_
  by_cases h1 : F_153 p (kI 0) (kI 9999) w = 0
  · have e1 : G_120_0 p w = w := by unfold G_120_0; rw [if_pos h1]
    have e2 : ∀ u, G_172_110 p u = u := fun u => by unfold G_172_110; rw [if_pos (show F_157 p (kI 0) (kI 9999) u = 0 from h1)]
    rw [e1, e2]; exact h
  · have e1 : G_120_0 p w = up2 (up2 w 3 5 p) 7 6 p := by unfold G_120_0; rw [if_neg h1]
    have e2 : ∀ u, G_172_110 p u = up2 (up2 u 110 8 p) 111 159 p := fun u => by unfold G_172_110; rw [if_neg (show ¬ F_157 p (kI 0) (kI 9999) u = 0 from h1)]; rfl
    rw [e2, e1]
    obtain ⟨n, -, hn, rfl⟩ := within_z (a := 0) (b := 9999) (by decide) (by decide) h1
    obtain ⟨hO, hB, hK, hT, hL, hD, hR⟩ := h
    obtain ⟨o1, o2, o3, o4, o5, o6, o7⟩ := hO
    obtain ⟨⟨b1, b2, b3, b4, b5, b6, b7, b8, b9⟩, n1, n2, n3, n4, n5, n6, n7⟩ := hB
    refine ⟨⟨o1, o2, rfl, o4, o5, ⟨n, hn, rfl⟩, o7⟩, ⟨⟨?_, ?_, ?_, ?_, b5, b6, rfl, b8, b9⟩, ?_, ?_, ?_, n4, n5, ⟨n, hn, rfl⟩, n7⟩, hK.cg rfl rfl rfl rfl rfl rfl rfl rfl rfl, hT.cg rfl rfl rfl rfl, hL.cg rfl rfl rfl rfl rfl rfl rfl rfl rfl rfl rfl rfl rfl, hD.cg rfl rfl (fun a h1 h2 => by rw [up2_ne (by omega), up2_ne (by omega), up2_ne (by omega), up2_ne (by omega)]) rfl rfl, hR.cg rfl rfl rfl rfl rfl rfl rfl rfl rfl rfl⟩
    · intro i hi
      show w 8 i = if i = 159 then nI n else w 111 i
      rw [if_neg (by omega)]; exact b1 i hi
    · intro f hf
      have e : ∀ j, j < 36 → (up2 (up2 (up2 (up2 w 3 5 (nI n)) 7 6 (nI n)) 110 8 (nI n)) 111 159 (nI n)) 111 j = w 111 j := fun j hj => if_neg (by omega)
      unfold sum6
      rw [e _ (by omega), e _ (by omega), e _ (by omega), e _ (by omega), e _ (by omega), e _ (by omega)]
      exact b2 f hf
    · intro i hi
      show w 10 i = if 36 + i = 159 then nI n else w 111 (36 + i)
      rw [if_neg (by omega)]; exact b3 i hi
    · intro f k hf hk
      show w 11 (6 * k + f) = if 108 + 8 * f + k = 159 then nI n else w 111 (108 + 8 * f + k)
      rw [if_neg (by omega)]; exact b4 f k hf hk
    · intro i hi
      show nn (if i = 159 then nI n else w 111 i) 9999
      rw [if_neg (by omega)]; exact n1 i hi
    · intro c f hc hf h0
      show (if 6 * c + f = 159 then nI n else w 111 (6 * c + f)) = 0
      rw [if_neg (by omega)]; exact n2 c f hc hf h0
    · intro i hi
      show nn (if 36 + i = 159 then nI n else w 111 (36 + i)) 9999
      rw [if_neg (by omega)]; exact n3 i hi
theorem J_seed {X : Scr} {w : Wd} (h : II w) (p : Int32) : JJ X 146 253 [.int p] w := by
  refine JJ.ofFG (m_146_0 w p) (m_253_110 _ p) rfl ?_
  by_cases h1 : F_153 p (kI 0) (kI 65535) w = 0
  · have e1 : G_146_0 p w = w := by unfold G_146_0; rw [if_pos h1]
    have e2 : ∀ u, G_253_110 p u = u := fun u => by unfold G_253_110; rw [if_pos (show F_157 p (kI 0) (kI 65535) u = 0 from h1)]
    rw [e1, e2]; exact h
  · have e1 : G_146_0 p w = up2 w 7 8 p := by unfold G_146_0; rw [if_neg h1]
    have e2 : ∀ u, G_253_110 p u = up2 u 111 161 p := fun u => by unfold G_253_110; rw [if_neg (show ¬ F_157 p (kI 0) (kI 65535) u = 0 from h1)]; rfl
    rw [e2, e1]
    obtain ⟨n, -, hn, rfl⟩ := within_z (a := 0) (b := 65535) (by decide) (by decide) h1
    obtain ⟨hO, hB, hK, hT, hL, hD, hR⟩ := h
    obtain ⟨⟨b1, b2, b3, b4, b5, b6, b7, b8, b9⟩, n1, n2, n3, n4, n5, n6, n7⟩ := hB
    refine ⟨hO.cg rfl rfl rfl rfl rfl rfl rfl rfl rfl rfl, ⟨⟨?_, ?_, ?_, ?_, b5, b6, b7, b8, rfl⟩, ?_, ?_, ?_, n4, n5, n6, ⟨n, hn, rfl⟩⟩, hK.cg rfl rfl rfl rfl rfl rfl rfl rfl rfl, hT.cg rfl rfl rfl rfl, hL.cg rfl rfl rfl rfl rfl rfl rfl rfl rfl rfl rfl rfl rfl, hD.cg rfl rfl (fun a h1 h2 => by rw [up2_ne (by omega), up2_ne (by omega)]) rfl rfl, hR.cg rfl rfl rfl rfl rfl rfl rfl rfl rfl rfl⟩
    · intro i hi
      show w 8 i = if i = 161 then nI n else w 111 i
      rw [if_neg (by omega)]; exact b1 i hi
    · intro f hf
      have e : ∀ j, j < 36 → (up2 (up2 w 7 8 (nI n)) 111 161 (nI n)) 111 j = w 111 j := fun j hj => if_neg (by omega)
      unfold sum6
      rw [e _ (by omega), e _ (by omega), e _ (by omega), e _ (by omega), e _ (by omega), e _ (by omega)]
      exact b2 f hf
    · intro i hi
      show w 10 i = if 36 + i = 161 then nI n else w 111 (36 + i)
      rw [if_neg (by omega)]; exact b3 i hi
    · intro f k hf hk
      show w 11 (6 * k + f) = if 108 + 8 * f + k = 161 then nI n else w 111 (108 + 8 * f + k)
      rw [if_neg (by omega)]; exact b4 f k hf hk
    · intro i hi
      show nn (if i = 161 then nI n else w 111 i) 9999
      rw [if_neg (by omega)]; exact n1 i hi
    · intro c f hc hf h0
      show (if 6 * c + f = 161 then nI n else w 111 (6 * c + f)) = 0
      rw [if_neg (by omega)]; exact n2 c f hc hf h0
    · intro i hi
      show nn (if 36 + i = 161 then nI n else w 111 (36 + i)) 9999
      rw [if_neg (by omega)]; exact n3 i hi
end SIMPLE
