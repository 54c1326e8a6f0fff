/-! tried -/
section TRIED
variable {fc ft : Nat → Bool} {AN AD XL AK : (Nat → Int32) → Int32} {T Pp : Nat → Int32}
theorem to_17_7 {w : Wd} {n : Nat → Int32} (h : BK 7 w n) : BK 17 (G_10_17_7 w) n ∧ ∀ a, ¬ (17 ≤ a ∧ a ≤ 21) → G_10_17_7 w a = w a := by
  obtain ⟨b1, b2, b3, b4, b5, b6, b7, b8, b9⟩ := h
  refine ⟨⟨fun i hi => ?_, fun i hi => ?_, fun i hi => ?_, fun f k hf hk => ?_, b5, b6, b7, b8, b9⟩, fun a ha => ?_⟩
  · show (if 0 ≤ i ∧ i < 0 + 36 then w 8 (0 + (i - 0)) else w 18 i) = n i
    rw [if_pos (by omega), show 0 + (i - 0) = i by omega]; exact b1 i hi
  · show (if 0 ≤ i ∧ i < 0 + 6 then w 9 (0 + (i - 0)) else w 19 i) = _
    rw [if_pos (by omega), show 0 + (i - 0) = i by omega]; exact b2 i hi
  · show (if 0 ≤ i ∧ i < 0 + 72 then w 10 (0 + (i - 0)) else w 20 i) = _
    rw [if_pos (by omega), show 0 + (i - 0) = i by omega]; exact b3 i hi
  · show (if 0 ≤ 6 * k + f ∧ 6 * k + f < 0 + 48 then w 11 (0 + (6 * k + f - 0)) else w 21 (6 * k + f)) = _
    rw [if_pos (by omega), show 0 + (6 * k + f - 0) = 6 * k + f by omega]; exact b4 f k hf hk
  · have cp : ∀ (u : Wd) (a0 a1 sp dp n : Nat), a ≠ a1 → cp2 u a0 a1 sp dp n a = u a := fun u a0 a1 sp dp n h => if_neg h
    unfold G_10_17_7
    rw [up2_ne (by omega), up2_ne (by omega), up2_ne (by omega), up2_ne (by omega), up2_ne (by omega), cp _ _ _ _ _ _ (by omega), cp _ _ _ _ _ _ (by omega), cp _ _ _ _ _ _ (by omega), cp _ _ _ _ _ _ (by omega)]
theorem hap_160 {c f : Nat} {n : Nat → Int32} (hc : c < 6) (hf : f < 6) (hm : nn (n 157) 11) : hapN AN AD XL T Pp c f n 160 = n 160 := by
  obtain ⟨mo, hmo, e⟩ := hm
  unfold hapN
  rw [e, nI_clamp (by omega)]
  split
  · unfold upd; rw [if_neg (by omega), if_neg (by omega), if_neg (by omega)]
  · unfold upd; rw [if_neg (by omega)]
theorem letF_160 {c : Nat} (hc : c < 6) (hA : ∀ V, nn (AN V) 99) : ∀ (m f : Nat) (p : (Nat → Int32) × Int32), f + m = 6 → NVn p.1 → (letF (hapN AN AD XL T Pp c) (hapH AN AD T Pp c) ft m f p).1 160 = p.1 160 := by
  intro m
  induction m with
  | zero => intro f p _ _; simp only [letF]
  | succ m ih =>
    intro f p h hN
    simp only [letF]
    by_cases hf : ft f = true
    · rw [if_pos hf, ih (f + 1) _ (by omega) (hN.hap hc (by omega) hA)]
      exact hap_160 hc (by omega) hN.2.2.1
    · rw [if_neg hf]
      exact ih (f + 1) p (by omega) hN
theorem mcF_160 (hA : ∀ V, nn (AN V) 99) : ∀ (m c : Nat) (p : (Nat → Int32) × Int32), c + m = 6 → NVn p.1 → (mcF (letL AN AD XL T Pp ft) fc m c p).1 160 = p.1 160 := by
  intro m
  induction m with
  | zero => intro c p _ _; simp only [mcF]
  | succ m ih =>
    intro c p h hN
    simp only [mcF]
    by_cases hf : fc c = true
    · rw [if_pos hf]
      have q1 := (letF_158 (ft := ft) (AN := AN) (AD := AD) (XL := XL) (T := T) (Pp := Pp) (c := c) (by omega) hA 6 0 p rfl hN).1
      rw [ih (c + 1) (letL AN AD XL T Pp ft c p) (by omega) q1]
      exact letF_160 (by omega) hA 6 0 p rfl hN
    · rw [if_neg hf]
      exact ih (c + 1) p (by omega) hN
theorem stG_160 {f : Nat} (hf : f < 6) (hA : ∀ V, nn (AK V) 99) : ∀ (m : Nat) (p : ST3), NVn p.1 → NVn (stG fc AK T Pp f m p).1 ∧ (stG fc AK T Pp f m p).1 160 = p.1 160 := by
  intro m
  induction m with
  | zero => intro p h; exact ⟨h, rfl⟩
  | succ m ih =>
    intro p hN
    have hlt := chF_lt (fc := fc) (K := fun c => AK (Vof p.1 T Pp c f (kI 11))) 6 0 (none, 0) (fun b hb => by cases hb)
    have hval := chF_val (fc := fc) (K := fun c => AK (Vof p.1 T Pp c f (kI 11))) (m := 99) (fun c => hA _) 6 0 (none, 0) (fun hb => absurd rfl hb)
    unfold stG
    by_cases ht : T f ≤ sum6 p.1 f
    · rw [if_pos ht]; exact ⟨hN, rfl⟩
    · rw [if_neg ht]
      generalize chF fc (fun c => AK (Vof p.1 T Pp c f (kI 11))) 6 0 (none, 0) = R at hlt hval
      obtain ⟨o, k⟩ := R
      cases o with
      | none => exact ⟨hN, rfl⟩
      | some c =>
        dsimp only
        by_cases hd : p.1 159 < k
        · rw [if_pos hd]; exact ⟨hN, rfl⟩
        · rw [if_neg hd]
          have hc6 : c < 6 := by have := hlt c rfl; omega
          obtain ⟨r1, r2⟩ := ih (upd (upd p.1 159 (p.1 159 - k)) (6 * c + f) (mn9 (p.1 (6 * c + f) + kI 1)), p.2.1 + k, p.2.2 + kI 1) (hN.stf hc6 hf (hval (by intro e; cases e)) hd)
          refine ⟨r1, ?_⟩
          rw [r2]
          show upd (upd p.1 159 _) (6 * c + f) _ 160 = p.1 160
          unfold upd
          rw [if_neg (by omega), if_neg (by omega)]
theorem stA_160 (hA : ∀ V, nn (AK V) 99) : ∀ (m f : Nat) (p : ST3), f + m = 6 → NVn p.1 → NVn (stA fc ft AK T Pp m f p).1 ∧ (stA fc ft AK T Pp m f p).1 160 = p.1 160 := by
  intro m
  induction m with
  | zero => intro f p _ h; exact ⟨h, rfl⟩
  | succ m ih =>
    intro f p h hN
    simp only [stA]
    by_cases hf : ft f = true
    · rw [if_pos hf]
      obtain ⟨q1, q2⟩ := stG_160 (fc := fc) (T := T) (Pp := Pp) (f := f) (by omega) hA 200 p hN
      obtain ⟨r1, r2⟩ := ih (f + 1) _ (by omega) q1
      exact ⟨r1, by rw [r2, q2]⟩
    · rw [if_neg hf]
      exact ih (f + 1) p (by omega) hN
theorem caF_add {n : Nat → Int32} {b : Int32} : ∀ (m f : Nat) (a : Int32), caF ft T n m f (a + b) = caF ft T n m f a + b := by
  intro m
  induction m with
  | zero => intro f a; simp only [caF]
  | succ m ih =>
    intro f a
    simp only [caF]
    by_cases h : ft f = true ∧ sum6 n f = T f
    · rw [if_pos h, if_pos h, ← ih (f + 1) (a + kI 1)]
      congr 1
      rw [Int32.add_assoc, Int32.add_comm b, ← Int32.add_assoc]
    · rw [if_neg h, if_neg h]
      exact ih (f + 1) a
theorem mn_160 {sd k : Int32} {p : ST5} (hA : ∀ V, nn (AN V) 99) (hK : ∀ V, nn (AK V) 99) (hs : nn sd 9999) (hN : NVn p.1) (hy : ¬ kI 999 ≤ p.1 158) (hk : p.1 160 = p.2.2.1 + k) : NVn (mnF fc ft AN AD XL AK T Pp sd p).1 ∧ (mnF fc ft AN AD XL AK T Pp sd p).1 160 = (mnF fc ft AN AD XL AK T Pp sd p).2.2.1 + k := by
  obtain ⟨q1, q2⟩ := mcF_158 (fc := fc) (ft := ft) (AN := AN) (AD := AD) (XL := XL) (T := T) (Pp := Pp) hA 6 0 (p.1, p.2.1) rfl hN
  have q3 := mcF_160 (fc := fc) (ft := ft) (AN := AN) (AD := AD) (XL := XL) (T := T) (Pp := Pp) hA 6 0 (p.1, p.2.1) rfl hN
  unfold mnF mnE
  generalize mcF (letL AN AD XL T Pp ft) fc 6 0 (p.1, p.2.1) = q at q1 q2 q3
  obtain ⟨s1, s2⟩ := stA_160 (fc := fc) (ft := ft) (T := T) (Pp := Pp) hK 6 0 (q.1, p.2.2.2.1, p.2.2.2.2) rfl q1
  have s3 := stA_158 (fc := fc) (ft := ft) (AK := AK) (T := T) (Pp := Pp) 6 0 (q.1, p.2.2.2.1, p.2.2.2.2) rfl
  by_cases hm : q.1 157 = kI 11
  · rw [if_pos hm]
    refine ⟨s1.ye hs (by rw [s3]; show nn (q.1 158) 998; rw [q2]; exact y998 hN.2.2.2.1 hy), ?_⟩
    show caF ft T _ 6 0 _ = _
    rw [s2]
    show caF ft T _ 6 0 (q.1 160) = _
    rw [q3]
    show caF ft T _ 6 0 (p.1 160) = _
    rw [hk]
    exact caF_add 6 0 _
  · rw [if_neg hm]
    refine ⟨q1.mo hm, ?_⟩
    show upd q.1 157 (q.1 157 + kI 1) 160 = _
    unfold upd
    rw [if_neg (by omega), q3]
    exact hk
theorem ms_160 {sd k : Int32} (hA : ∀ V, nn (AN V) 99) (hK : ∀ V, nn (AK V) 99) (hs : nn sd 9999) : ∀ (m : Nat) (p : ST5), NVn p.1 → p.1 160 = p.2.2.1 + k → (msF fc ft AN AD XL AK T Pp sd m p).1 160 = (msF fc ft AN AD XL AK T Pp sd m p).2.2.1 + k := by
  intro m
  induction m with
  | zero => intro p _ h; exact h
  | succ m ih =>
    intro p hN hk
    unfold msF
    by_cases hy : kI 999 ≤ p.1 158
    · rw [if_pos hy]; exact hk
    · rw [if_neg hy]
      obtain ⟨r1, r2⟩ := mn_160 (fc := fc) (ft := ft) (AD := AD) (XL := XL) (T := T) (Pp := Pp) hA hK hs hN hy hk
      exact ih _ r1 r2
/-- the state is the same as far as it counts: the row w 111 up to 162 -/
theorem II.ss2 {w u : Wd} (h : II w) (s0 : ∀ a, stC a = true → a ≠ 111 → u a = w a) (r : ∀ i, i < 162 → u 111 i = w 111 i) (s1 : u 0 16 = w 0 16) (s2 : u 0 17 = w 0 17) (s3 : u 1 1 = w 1 1) (s4 : u 102 6 = w 102 6) (sj : ∀ j, (j = 6 ∨ j = 7 ∨ j = 8 ∨ j = 10 ∨ j = 19 ∨ j = 56 ∨ j = 57 ∨ j = 64) → u 110 j = w 110 j) : II u := by
  obtain ⟨h1, h2, h3, h4, h5, h6, h7⟩ := h
  have e3 := s0 3 rfl (by decide)
  have e33 : u 3 3 = w 3 3 := by rw [e3]
  exact ⟨h1.cg e3 (s0 4 rfl (by decide)) (s0 5 rfl (by decide)) (s0 6 rfl (by decide)) (s0 114 rfl (by decide)) (s0 115 rfl (by decide)) (s0 116 rfl (by decide)) (sj 6 (by omega)) (sj 7 (by omega)) (sj 8 (by omega)),
    ⟨(h2.1.congr (s0 7 rfl (by decide)) (s0 8 rfl (by decide)) (s0 9 rfl (by decide)) (s0 10 rfl (by decide)) (s0 11 rfl (by decide))).row r, by rw [e33]; exact h2.2.row r⟩,
    h3.cg e33 (s0 113 rfl (by decide)) s2 (sj 64 (by omega)) (s0 12 rfl (by decide)) (s0 13 rfl (by decide)) (s0 14 rfl (by decide)) (s0 15 rfl (by decide)) (s0 16 rfl (by decide)),
    h4.cg (s0 2 rfl (by decide)) (s0 117 rfl (by decide)) s3 (sj 10 (by omega)),
    h5.cg (s0 22 rfl (by decide)) (s0 23 rfl (by decide)) (s0 24 rfl (by decide)) (s0 25 rfl (by decide)) (s0 26 rfl (by decide)) (s0 27 rfl (by decide)) (s0 28 rfl (by decide)) (s0 124 rfl (by decide)) (s0 125 rfl (by decide)) (s0 126 rfl (by decide)) (s0 127 rfl (by decide)) (s0 128 rfl (by decide)) (sj 19 (by omega)),
    h6.cg s1 (sj 57 (by omega)) (fun a h1 h2 => s0 a (by simp [stC]; omega) (by omega)) (s0 144 rfl (by decide)) (s0 145 rfl (by decide)),
    h7.cg (s0 103 rfl (by decide)) (s0 104 rfl (by decide)) (s0 105 rfl (by decide)) (s0 106 rfl (by decide)) (s0 140 rfl (by decide)) (s0 141 rfl (by decide)) (s0 142 rfl (by decide)) (s0 143 rfl (by decide)) s4 (sj 56 (by omega))⟩
end TRIED
