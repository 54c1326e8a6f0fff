/-! months, part 7: the end of a year -/
section MONTHS7
def pvF (ft : Nat → Bool) (n : Nat → Int32) (g : Nat) : Int32 := if ft g then sum6 n g else kI (-2)
def caF (ft : Nat → Bool) (T n : Nat → Int32) : Nat → Nat → Int32 → Int32
  | 0, _, a => a
  | m + 1, f, a => caF ft T n m (f + 1) (if ft f = true ∧ sum6 n f = T f then a + kI 1 else a)
def yeN (ft : Nat → Bool) (T : Nat → Int32) (sd : Int32) (n : Nat → Int32) : Nat → Int32 := fun i =>
  if i < 108 then kI 0 else if i < 156 then (if (i - 108) % 8 = 0 then pvF ft n ((i - 108) / 8) else n (i - 1)) else if i = 157 then kI 0 else if i = 158 then n 158 + kI 1 else if i = 159 then sd else if i = 160 then caF ft T n 6 0 (n 160) else n i
theorem yeN_pub {ft : Nat → Bool} {T n : Nat → Int32} {sd : Int32} {f k : Nat} (hf : f < 6) (hk : k < 8) : yeN ft T sd n (108 + 8 * f + k) = if k = 0 then pvF ft n f else n (108 + 8 * f + k - 1) := by
  unfold yeN
  rw [if_neg (by omega), if_pos (by omega), show (108 + 8 * f + k - 108) % 8 = k by omega, show (108 + 8 * f + k - 108) / 8 = f by omega]
theorem yeN_low {ft : Nat → Bool} {T n : Nat → Int32} {sd : Int32} {i : Nat} (h : i < 108) : yeN ft T sd n i = kI 0 := if_pos h
theorem yeN_157 {ft : Nat → Bool} {T n : Nat → Int32} {sd : Int32} : yeN ft T sd n 157 = kI 0 := rfl
theorem yeN_158 {ft : Nat → Bool} {T n : Nat → Int32} {sd : Int32} : yeN ft T sd n 158 = n 158 + kI 1 := rfl
theorem yeN_159 {ft : Nat → Bool} {T n : Nat → Int32} {sd : Int32} : yeN ft T sd n 159 = sd := rfl
theorem yeN_160 {ft : Nat → Bool} {T n : Nat → Int32} {sd : Int32} : yeN ft T sd n 160 = caF ft T n 6 0 (n 160) := rfl
theorem yeN_161 {ft : Nat → Bool} {T n : Nat → Int32} {sd : Int32} : yeN ft T sd n 161 = n 161 := rfl
theorem yeN_sum {ft : Nat → Bool} {T n : Nat → Int32} {sd : Int32} {f : Nat} (hf : f < 6) : sum6 (yeN ft T sd n) f = kI 0 := by
  unfold sum6
  rw [yeN_low (by omega), yeN_low (by omega), yeN_low (by omega), yeN_low (by omega), yeN_low (by omega), yeN_low (by omega)]
  rfl
theorem NVn.ye {ft : Nat → Bool} {T n : Nat → Int32} {sd : Int32} (h : NVn n) (hs : nn sd 9999) (hy : nn (n 158) 998) : NVn (yeN ft T sd n) := by
  obtain ⟨h1, h2, h3, h4, h5, h6⟩ := h
  refine ⟨fun i hi => ?_, fun i hi => ?_, ?_, ?_, ?_, ?_⟩
  · rw [yeN_low (by omega)]; exact ⟨0, by decide, rfl⟩
  · rw [yeN_low (by omega)]; exact ⟨0, by decide, rfl⟩
  · exact ⟨0, by decide, rfl⟩
  · rw [yeN_158]
    obtain ⟨y, hy1, ey⟩ := hy
    rw [ey]
    exact ⟨y + 1, by omega, k1 y⟩
  · exact hs
  · exact h6
variable {ft : Nat → Bool}
def CY_7 (ft : Nat → Bool) (w u : Wd) (n T : Nat → Int32) (f : Nat) (ca : Int32) : Prop := (∀ g k, g < 6 → 1 ≤ k → k < 8 → u 11 (6 * k + g) = n (108 + 8 * g + k - 1)) ∧ (∀ g, g < f → u 11 g = pvF ft n g) ∧ u 7 7 = ca ∧ (∀ j, j ≠ 7 → u 7 j = w 7 j) ∧ ∀ a, a ≠ 7 → a ≠ 11 → u a = w a
theorem l_19_7 {X : Scr} {d : Nat} {w : Wd} {n : Nat → Int32} {Q : Wd → Prop} (hB : BK 7 w n) (hft : ∀ f, f < 6 → (F_52_3 (nI f) w = 0 ↔ ft f = false)) : ∀ (m f : Nat) (u : Wd) (ca : Int32), f + m = 6 → CY_7 ft w u n (w 5) f ca → (∀ u2, CY_7 ft w u2 n (w 5) 6 (caF ft (w 5) n m f ca) → EU X (d + 2) 19 (24, [some (.ref 7), some (.ref 3), some (.int (nI 6))], [], SH, u2) Q) → EU X (d + 2) 19 (24, [some (.ref 7), some (.ref 3), some (.int (nI f))], [], SH, u) Q := by
  intro m
  induction m with
  | zero =>
    intro f u ca h hI kk
    have hf : f = 6 := by omega
    subst hf
    exact kk u hI
  | succ m ih =>
    intro f u ca h hI kk
    have hf : f < 6 := by omega
    obtain ⟨i1, i2, i3, i4, i5⟩ := hI
    have e3 : u 3 = w 3 := i5 3 (by decide) (by decide)
    have e5 : u 5 = w 5 := i5 5 (by decide) (by decide)
    have hib : inB (nI f) 48 = true := inB_nI (by omega) (by decide)
    have up3 : ∀ v : Int32, F_52_3 (nI f) (up2 u 11 f v) = F_52_3 (nI f) w := fun v => f52_cg (by rw [up2_ne (by decide), e3]) _
    have nx : ∀ v : Int32, v = pvF ft n f → CY_7 ft w (up2 u 11 f v) n (w 5) (f + 1) ca := by
      intro v hv
      refine ⟨fun g k hg h1 hk => ?_, fun g hg => ?_, ?_, fun j hj => ?_, fun a h1 h2 => ?_⟩
      · rw [up2_at, if_neg (by omega)]; exact i1 g k hg h1 hk
      · rw [up2_at]
        by_cases e : g = f
        · rw [if_pos e, hv, e]
        · rw [if_neg e]; exact i2 g (by omega)
      · rw [up2_ne (by decide)]; exact i3
      · rw [up2_ne (by decide)]; exact i4 j hj
      · rw [up2_ne h2]; exact i5 a h1 h2
    unfold caF at kk
    refine t19_7_3_at24 u _ ?_
    rw [if_neg (lt_6 f hf), f52_cg e3, nI_clamp (by omega), k1]
    by_cases h0 : F_52_3 (nI f) w = 0
    · have hff := (hft f hf).mp h0
      rw [if_pos h0]
      refine ⟨hib, ?_⟩
      rw [up3, if_pos h0]
      rw [if_neg (fun e => by rw [hff] at e; cases e.1)] at kk
      exact ih (f + 1) _ ca (by omega) (nx _ (by unfold pvF; rw [hff]; rfl)) kk
    · have hft1 : ft f = true := by
        cases e : ft f with
        | true => rfl
        | false => exact absurd ((hft f hf).mpr e) h0
      have es : F_14_7 (nI f) u = sum6 n f := by
        rw [sumOf7 hf, i5 9 (by decide) (by decide)]
        exact hB.2.1 f hf
      have et : ∀ v : Int32, F_54_3 (nI f) (up2 u 11 f v) = w 5 f := fun v => by rw [targetOf_nI hf, up2_ne (by decide), e5]
      have N1 := nx (sum6 n f) (by unfold pvF; rw [hft1]; rfl)
      rw [if_neg h0]
      refine ⟨hib, ?_⟩
      rw [up3, if_neg h0, es]
      refine ⟨hib, ?_⟩
      rw [et, up2_at, if_pos rfl]
      by_cases he : sum6 n f = w 5 f
      · rw [if_pos he]
        rw [if_pos ⟨hft1, he⟩] at kk
        refine ih (f + 1) _ (ca + kI 1) (by omega) ?_ kk
        obtain ⟨j1, j2, j3, j4, j5⟩ := N1
        refine ⟨fun g k hg h1 hk => ?_, fun g hg => ?_, ?_, fun j hj => ?_, fun a h1 h2 => ?_⟩
        · rw [up2_ne (by decide)]; exact j1 g k hg h1 hk
        · rw [up2_ne (by decide)]; exact j2 g hg
        · rw [up2_at, if_pos rfl, i3]
        · rw [up2_at, if_neg hj]; exact j4 j hj
        · rw [up2_ne h1]; exact j5 a h1 h2
      · rw [if_neg he]
        rw [if_neg (fun e => he e.2)] at kk
        exact ih (f + 1) _ ca (by omega) N1 kk
/-- closeYear -/
theorem c_19_7 {X : Scr} {d : Nat} {w : Wd} {n : Nat → Int32} (hB : BK 7 w n) (hft : ∀ f, f < 6 → (F_52_3 (nI f) w = 0 ↔ ft f = false)) : CU X (d + 3) 19 [.ref 7, .ref 3] w (fun u2 => BK 7 u2 (yeN ft (w 5) (w 3 5) n) ∧ ∀ a, ¬ (7 ≤ a ∧ a ≤ 11) → u2 a = w a) := by
  refine CU.of rfl (t19_7_3_at0 w ?_)
  refine ⟨by decide, ?_⟩
  have cp : ∀ a, a ≠ 11 → (cp2 w 11 11 (kI 0).toNatClampNeg (kI 6).toNatClampNeg ((Int32.ofNat 48) - (kI 6)).toNatClampNeg) a = w a := fun a ha => if_neg ha
  refine l_19_7 hB hft 6 0 _ (w 7 7) rfl ⟨fun g k hg h1 hk => ?_, fun g hg => by omega, ?_, fun j hj => ?_, fun a h1 h2 => cp a h2⟩ ?_
  · show (if 6 ≤ 6 * k + g ∧ 6 * k + g < 6 + 42 then w 11 (0 + (6 * k + g - 6)) else w 11 (6 * k + g)) = _
    rw [if_pos (by omega), show 0 + (6 * k + g - 6) = 6 * (k - 1) + g by omega, show 108 + 8 * g + k - 1 = 108 + 8 * g + (k - 1) by omega]
    exact hB.2.2.2.1 g (k - 1) hg (by omega)
  · rw [cp 7 (by decide)]
  · rw [cp 7 (by decide)]
  · intro u2 hI
    obtain ⟨i1, i2, i3, i4, i5⟩ := hI
    obtain ⟨b1, b2, b3, b4, b5, b6, b7, b8, b9⟩ := hB
    refine t19_7_3_at24 u2 _ ?_
    rw [if_pos (by decide)]
    have fl : ∀ a, a ≠ 8 → a ≠ 9 → a ≠ 10 → (G_258_10 (kI 0) (G_258_9 (kI 0) (G_258_8 (kI 0) u2))) a = u2 a := fun a h1 h2 h3 => by
      show fillW (fillW (fillW u2 8 36 (kI 0)) 9 6 (kI 0)) 10 72 (kI 0) a = u2 a
      rw [fill_ne h3, fill_ne h2, fill_ne h1]
    have f1 : ∀ i, i < 36 → (G_258_10 (kI 0) (G_258_9 (kI 0) (G_258_8 (kI 0) u2))) 8 i = kI 0 := fun i hi => by
      show fillW (fillW (fillW u2 8 36 (kI 0)) 9 6 (kI 0)) 10 72 (kI 0) 8 i = kI 0
      rw [fill_ne (by decide), fill_ne (by decide), fill_at, if_pos hi]
    have f2 : ∀ i, i < 6 → (G_258_10 (kI 0) (G_258_9 (kI 0) (G_258_8 (kI 0) u2))) 9 i = kI 0 := fun i hi => by
      show fillW (fillW (fillW u2 8 36 (kI 0)) 9 6 (kI 0)) 10 72 (kI 0) 9 i = kI 0
      rw [fill_ne (by decide), fill_at, if_pos hi]
    have f3 : ∀ i, i < 72 → (G_258_10 (kI 0) (G_258_9 (kI 0) (G_258_8 (kI 0) u2))) 10 i = kI 0 := fun i hi => by
      show fillW (fillW (fillW u2 8 36 (kI 0)) 9 6 (kI 0)) 10 72 (kI 0) 10 i = kI 0
      rw [fill_at, if_pos hi]
    generalize G_258_10 (kI 0) (G_258_9 (kI 0) (G_258_8 (kI 0) u2)) = v at fl f1 f2 f3 ⊢
    have v4 : v 11 = u2 11 := fl 11 (by decide) (by decide) (by decide)
    have v0 : v 7 = u2 7 := fl 7 (by decide) (by decide) (by decide)
    have v3 : v 3 5 = w 3 5 := by rw [fl 3 (by decide) (by decide) (by decide), i5 3 (by decide) (by decide)]
    refine ⟨⟨fun i hi => ?_, fun g hg => ?_, fun i hi => ?_, fun g k hg hk => ?_, ?_, ?_, ?_, ?_, ?_⟩, fun a ha => ?_⟩
    · show up2 (up2 (up2 v 7 6 _) 7 4 _) 7 5 _ 8 i = _
      rw [up2_ne (by decide), up2_ne (by decide), up2_ne (by decide), f1 i hi, yeN_low (by omega)]
    · show up2 (up2 (up2 v 7 6 _) 7 4 _) 7 5 _ 9 g = _
      rw [up2_ne (by decide), up2_ne (by decide), up2_ne (by decide), f2 g hg, yeN_sum hg]
    · show up2 (up2 (up2 v 7 6 _) 7 4 _) 7 5 _ 10 i = _
      rw [up2_ne (by decide), up2_ne (by decide), up2_ne (by decide), f3 i hi, yeN_low (by omega)]
    · show up2 (up2 (up2 v 7 6 _) 7 4 _) 7 5 _ 11 (6 * k + g) = _
      rw [up2_ne (by decide), up2_ne (by decide), up2_ne (by decide), v4, yeN_pub hg hk]
      by_cases h0 : k = 0
      · subst h0
        rw [if_pos rfl, show 6 * 0 + g = g by omega]
        exact i2 g hg
      · rw [if_neg h0]; exact i1 g k hg (by omega) hk
    · rw [up2_at, if_neg (by decide), up2_at, if_pos rfl, yeN_157]
    · rw [up2_at, if_pos rfl, yeN_158, v0, i4 5 (by decide), b6]
    · rw [up2_at, if_neg (by decide), up2_at, if_neg (by decide), up2_at, if_pos rfl, yeN_159, v3]
    · rw [up2_at, if_neg (by decide), up2_at, if_neg (by decide), up2_at, if_neg (by decide), yeN_160, v0, i3, b8]
    · rw [up2_at, if_neg (by decide), up2_at, if_neg (by decide), up2_at, if_neg (by decide), yeN_161, v0, i4 8 (by decide), b9]
    · rw [up2_ne (by omega), up2_ne (by omega), up2_ne (by omega), fl a (by omega) (by omega) (by omega), i5 a (by omega) (by omega)]
def CY_17 (ft : Nat → Bool) (w u : Wd) (n T : Nat → Int32) (f : Nat) (ca : Int32) : Prop := (∀ g k, g < 6 → 1 ≤ k → k < 8 → u 21 (6 * k + g) = n (108 + 8 * g + k - 1)) ∧ (∀ g, g < f → u 21 g = pvF ft n g) ∧ u 17 7 = ca ∧ (∀ j, j ≠ 7 → u 17 j = w 17 j) ∧ ∀ a, a ≠ 17 → a ≠ 21 → u a = w a
theorem l_19_17 {X : Scr} {d : Nat} {w : Wd} {n : Nat → Int32} {Q : Wd → Prop} (hB : BK 17 w n) (hft : ∀ f, f < 6 → (F_52_3 (nI f) w = 0 ↔ ft f = false)) : ∀ (m f : Nat) (u : Wd) (ca : Int32), f + m = 6 → CY_17 ft w u n (w 5) f ca → (∀ u2, CY_17 ft w u2 n (w 5) 6 (caF ft (w 5) n m f ca) → EU X (d + 2) 19 (24, [some (.ref 17), some (.ref 3), some (.int (nI 6))], [], SH, u2) Q) → EU X (d + 2) 19 (24, [some (.ref 17), some (.ref 3), some (.int (nI f))], [], SH, u) Q := by
  intro m
  induction m with
  | zero =>
    intro f u ca h hI kk
    have hf : f = 6 := by omega
    subst hf
    exact kk u hI
  | succ m ih =>
    intro f u ca h hI kk
    have hf : f < 6 := by omega
    obtain ⟨i1, i2, i3, i4, i5⟩ := hI
    have e3 : u 3 = w 3 := i5 3 (by decide) (by decide)
    have e5 : u 5 = w 5 := i5 5 (by decide) (by decide)
    have hib : inB (nI f) 48 = true := inB_nI (by omega) (by decide)
    have up3 : ∀ v : Int32, F_52_3 (nI f) (up2 u 21 f v) = F_52_3 (nI f) w := fun v => f52_cg (by rw [up2_ne (by decide), e3]) _
    have nx : ∀ v : Int32, v = pvF ft n f → CY_17 ft w (up2 u 21 f v) n (w 5) (f + 1) ca := by
      intro v hv
      refine ⟨fun g k hg h1 hk => ?_, fun g hg => ?_, ?_, fun j hj => ?_, fun a h1 h2 => ?_⟩
      · rw [up2_at, if_neg (by omega)]; exact i1 g k hg h1 hk
      · rw [up2_at]
        by_cases e : g = f
        · rw [if_pos e, hv, e]
        · rw [if_neg e]; exact i2 g (by omega)
      · rw [up2_ne (by decide)]; exact i3
      · rw [up2_ne (by decide)]; exact i4 j hj
      · rw [up2_ne h2]; exact i5 a h1 h2
    unfold caF at kk
    refine t19_17_3_at24 u _ ?_
    rw [if_neg (lt_6 f hf), f52_cg e3, nI_clamp (by omega), k1]
    by_cases h0 : F_52_3 (nI f) w = 0
    · have hff := (hft f hf).mp h0
      rw [if_pos h0]
      refine ⟨hib, ?_⟩
      rw [up3, if_pos h0]
      rw [if_neg (fun e => by rw [hff] at e; cases e.1)] at kk
      exact ih (f + 1) _ ca (by omega) (nx _ (by unfold pvF; rw [hff]; rfl)) kk
    · have hft1 : ft f = true := by
        cases e : ft f with
        | true => rfl
        | false => exact absurd ((hft f hf).mpr e) h0
      have es : F_14_17 (nI f) u = sum6 n f := by
        rw [sumOf17 hf, i5 19 (by decide) (by decide)]
        exact hB.2.1 f hf
      have et : ∀ v : Int32, F_54_3 (nI f) (up2 u 21 f v) = w 5 f := fun v => by rw [targetOf_nI hf, up2_ne (by decide), e5]
      have N1 := nx (sum6 n f) (by unfold pvF; rw [hft1]; rfl)
      rw [if_neg h0]
      refine ⟨hib, ?_⟩
      rw [up3, if_neg h0, es]
      refine ⟨hib, ?_⟩
      rw [et, up2_at, if_pos rfl]
      by_cases he : sum6 n f = w 5 f
      · rw [if_pos he]
        rw [if_pos ⟨hft1, he⟩] at kk
        refine ih (f + 1) _ (ca + kI 1) (by omega) ?_ kk
        obtain ⟨j1, j2, j3, j4, j5⟩ := N1
        refine ⟨fun g k hg h1 hk => ?_, fun g hg => ?_, ?_, fun j hj => ?_, fun a h1 h2 => ?_⟩
        · rw [up2_ne (by decide)]; exact j1 g k hg h1 hk
        · rw [up2_ne (by decide)]; exact j2 g hg
        · rw [up2_at, if_pos rfl, i3]
        · rw [up2_at, if_neg hj]; exact j4 j hj
        · rw [up2_ne h1]; exact j5 a h1 h2
      · rw [if_neg he]
        rw [if_neg (fun e => he e.2)] at kk
        exact ih (f + 1) _ ca (by omega) N1 kk
/-- closeYear -/
theorem c_19_17 {X : Scr} {d : Nat} {w : Wd} {n : Nat → Int32} (hB : BK 17 w n) (hft : ∀ f, f < 6 → (F_52_3 (nI f) w = 0 ↔ ft f = false)) : CU X (d + 3) 19 [.ref 17, .ref 3] w (fun u2 => BK 17 u2 (yeN ft (w 5) (w 3 5) n) ∧ ∀ a, ¬ (17 ≤ a ∧ a ≤ 21) → u2 a = w a) := by
  refine CU.of rfl (t19_17_3_at0 w ?_)
  refine ⟨by decide, ?_⟩
  have cp : ∀ a, a ≠ 21 → (cp2 w 21 21 (kI 0).toNatClampNeg (kI 6).toNatClampNeg ((Int32.ofNat 48) - (kI 6)).toNatClampNeg) a = w a := fun a ha => if_neg ha
  refine l_19_17 hB hft 6 0 _ (w 17 7) rfl ⟨fun g k hg h1 hk => ?_, fun g hg => by omega, ?_, fun j hj => ?_, fun a h1 h2 => cp a h2⟩ ?_
  · show (if 6 ≤ 6 * k + g ∧ 6 * k + g < 6 + 42 then w 21 (0 + (6 * k + g - 6)) else w 21 (6 * k + g)) = _
    rw [if_pos (by omega), show 0 + (6 * k + g - 6) = 6 * (k - 1) + g by omega, show 108 + 8 * g + k - 1 = 108 + 8 * g + (k - 1) by omega]
    exact hB.2.2.2.1 g (k - 1) hg (by omega)
  · rw [cp 17 (by decide)]
  · rw [cp 17 (by decide)]
  · intro u2 hI
    obtain ⟨i1, i2, i3, i4, i5⟩ := hI
    obtain ⟨b1, b2, b3, b4, b5, b6, b7, b8, b9⟩ := hB
    refine t19_17_3_at24 u2 _ ?_
    rw [if_pos (by decide)]
    have fl : ∀ a, a ≠ 18 → a ≠ 19 → a ≠ 20 → (G_258_20 (kI 0) (G_258_19 (kI 0) (G_258_18 (kI 0) u2))) a = u2 a := fun a h1 h2 h3 => by
      show fillW (fillW (fillW u2 18 36 (kI 0)) 19 6 (kI 0)) 20 72 (kI 0) a = u2 a
      rw [fill_ne h3, fill_ne h2, fill_ne h1]
    have f1 : ∀ i, i < 36 → (G_258_20 (kI 0) (G_258_19 (kI 0) (G_258_18 (kI 0) u2))) 18 i = kI 0 := fun i hi => by
      show fillW (fillW (fillW u2 18 36 (kI 0)) 19 6 (kI 0)) 20 72 (kI 0) 18 i = kI 0
      rw [fill_ne (by decide), fill_ne (by decide), fill_at, if_pos hi]
    have f2 : ∀ i, i < 6 → (G_258_20 (kI 0) (G_258_19 (kI 0) (G_258_18 (kI 0) u2))) 19 i = kI 0 := fun i hi => by
      show fillW (fillW (fillW u2 18 36 (kI 0)) 19 6 (kI 0)) 20 72 (kI 0) 19 i = kI 0
      rw [fill_ne (by decide), fill_at, if_pos hi]
    have f3 : ∀ i, i < 72 → (G_258_20 (kI 0) (G_258_19 (kI 0) (G_258_18 (kI 0) u2))) 20 i = kI 0 := fun i hi => by
      show fillW (fillW (fillW u2 18 36 (kI 0)) 19 6 (kI 0)) 20 72 (kI 0) 20 i = kI 0
      rw [fill_at, if_pos hi]
    generalize G_258_20 (kI 0) (G_258_19 (kI 0) (G_258_18 (kI 0) u2)) = v at fl f1 f2 f3 ⊢
    have v4 : v 21 = u2 21 := fl 21 (by decide) (by decide) (by decide)
    have v0 : v 17 = u2 17 := fl 17 (by decide) (by decide) (by decide)
    have v3 : v 3 5 = w 3 5 := by rw [fl 3 (by decide) (by decide) (by decide), i5 3 (by decide) (by decide)]
    refine ⟨⟨fun i hi => ?_, fun g hg => ?_, fun i hi => ?_, fun g k hg hk => ?_, ?_, ?_, ?_, ?_, ?_⟩, fun a ha => ?_⟩
    · show up2 (up2 (up2 v 17 6 _) 17 4 _) 17 5 _ 18 i = _
      rw [up2_ne (by decide), up2_ne (by decide), up2_ne (by decide), f1 i hi, yeN_low (by omega)]
    · show up2 (up2 (up2 v 17 6 _) 17 4 _) 17 5 _ 19 g = _
      rw [up2_ne (by decide), up2_ne (by decide), up2_ne (by decide), f2 g hg, yeN_sum hg]
    · show up2 (up2 (up2 v 17 6 _) 17 4 _) 17 5 _ 20 i = _
      rw [up2_ne (by decide), up2_ne (by decide), up2_ne (by decide), f3 i hi, yeN_low (by omega)]
    · show up2 (up2 (up2 v 17 6 _) 17 4 _) 17 5 _ 21 (6 * k + g) = _
      rw [up2_ne (by decide), up2_ne (by decide), up2_ne (by decide), v4, yeN_pub hg hk]
      by_cases h0 : k = 0
      · subst h0
        rw [if_pos rfl, show 6 * 0 + g = g by omega]
        exact i2 g hg
      · rw [if_neg h0]; exact i1 g k hg (by omega) hk
    · rw [up2_at, if_neg (by decide), up2_at, if_pos rfl, yeN_157]
    · rw [up2_at, if_pos rfl, yeN_158, v0, i4 5 (by decide), b6]
    · rw [up2_at, if_neg (by decide), up2_at, if_neg (by decide), up2_at, if_pos rfl, yeN_159, v3]
    · rw [up2_at, if_neg (by decide), up2_at, if_neg (by decide), up2_at, if_neg (by decide), yeN_160, v0, i3, b8]
    · rw [up2_at, if_neg (by decide), up2_at, if_neg (by decide), up2_at, if_neg (by decide), yeN_161, v0, i4 8 (by decide), b9]
    · rw [up2_ne (by omega), up2_ne (by omega), up2_ne (by omega), fl a (by omega) (by omega) (by omega), i5 a (by omega) (by omega)]
end MONTHS7
