/-! months, part 8: publishes, yearEnds -/
section MONTHS8
variable {op ar : Nat → Nat} {lt : Nat → Int32} {la lm lb : Nat → Nat} {cnt len : Nat} {fc ft : Nat → Bool}
theorem ixP0 (f : Nat) : (kI 108) + ((kI 8) * nI f) = nI (108 + 8 * f) := by
  show nI 108 + nI 8 * nI f = _
  rw [pk_mul, nI_add]
/-- the row behind the shift of a figure's years from k on -/
def shP (n : Nat → Int32) (f k : Nat) : Nat → Int32 := fun i => if 108 + 8 * f + k < i ∧ i < 116 + 8 * f then n (i - 1) else n i
def pbR (n : Nat → Int32) (f : Nat) (v : Int32) : Nat → Int32 := upd (shP n f 0) (108 + 8 * f) v
theorem shP_low {n : Nat → Int32} {f k i : Nat} (h : i < 108) : shP n f k i = n i := if_neg (by omega)
theorem shP_sum {n : Nat → Int32} {f k g : Nat} (hg : g < 6) : sum6 (shP n f k) g = sum6 n g := by
  unfold sum6
  rw [shP_low (by omega), shP_low (by omega), shP_low (by omega), shP_low (by omega), shP_low (by omega), shP_low (by omega)]
theorem l_208 {X : Scr} {d f : Nat} {w : Wd} {n : Nat → Int32} (hf : f < 6) (hz : ∀ c, c < 6 → F_164_110 (nI c) w = 0 → n (6 * c + f) = 0) (hft : F_165_110 (nI f) w = 0 ↔ ft f = false) : ∀ (k : Nat) (u : Wd), k ≤ 7 → u 111 = shP n f k → (∀ a, a ≠ 111 → u a = w a) → EU X (d + 4) 208 (3, [some (.ref 110), some (.int (nI f)), some (.int (nI k))], [], SH, u) (fun u2 => u2 111 = pbR n f (pvF ft n f) ∧ ∀ a, a ≠ 111 → u2 a = w a) := by
  intro k
  induction k with
  | zero =>
    intro u hk h1 h2
    have hib : inB (nI (108 + 8 * f)) 162 = true := inB_nI (by omega) (by decide)
    refine t208_110_at3 (d := d + 2) u _ _ ?_
    rw [if_pos (by decide), c165 (w := w) (by rw [h2 110 (by decide)]), ixP0, nI_clamp (by omega)]
    by_cases h0 : F_165_110 (nI f) w = 0
    · rw [if_pos h0]
      refine ⟨hib, ?_, fun a ha => by rw [up2_ne ha]; exact h2 a ha⟩
      rw [up2_self, h1]
      unfold pbR pvF
      rw [hft.mp h0]
      rfl
    · have hft1 : ft f = true := by
        cases e : ft f with
        | true => rfl
        | false => exact absurd (hft.mpr e) h0
      rw [if_neg h0]
      refine CI.mono (c_167 (d := d + 1) hf (fun c hc hz2 => ?_)) ?_
      · rw [h1, shP_low (by omega)]
        exact hz c hc (by rw [← c164 (w := w) (u := u) (by rw [h2 110 (by decide)])]; exact hz2)
      · intro x ua hx
        obtain ⟨hx1, hu⟩ := hx
        have hu2 := hu.symm
        subst hu2
        refine ⟨hib, ?_, fun a ha => by rw [up2_ne ha]; exact h2 a ha⟩
        rw [up2_self, hx1, h1, shP_sum hf]
        unfold pbR pvF
        rw [hft1]
        rfl
  | succ k ih =>
    intro u hk h1 h2
    refine t208_110_at3 (d := d + 2) u _ _ ?_
    rw [if_neg (nI_nle (by omega) (by omega)), ixP, show nI (108 + 8 * f + (k + 1)) - kI 1 = nI (108 + 8 * f + (k + 1) - 1) from pk_sub (b := 1) (by omega), nI_clamp (by omega), nI_clamp (by omega), show nI (k + 1) + kI (-1) = nI k from pk_m1 k]
    refine ⟨inB_nI (by omega) (by decide), inB_nI (by omega) (by decide), ih _ (by omega) ?_ (fun a ha => by rw [up2_ne ha]; exact h2 a ha)⟩
    rw [up2_self, h1]
    funext i
    unfold upd shP
    by_cases e : i = 108 + 8 * f + (k + 1)
    · rw [if_pos e, if_neg (by omega), if_pos (by omega), e]
    · rw [if_neg e]
      by_cases e2 : 108 + 8 * f + (k + 1) < i ∧ i < 116 + 8 * f
      · rw [if_pos e2, if_pos (by omega)]
      · rw [if_neg e2, if_neg (by omega)]
theorem c_208 {X : Scr} {d f : Nat} {w : Wd} (hf : f < 6) (hz : ∀ c, c < 6 → F_164_110 (nI c) w = 0 → w 111 (6 * c + f) = 0) (hft : F_165_110 (nI f) w = 0 ↔ ft f = false) : CU X (d + 5) 208 [.ref 110, .int (nI f)] w (fun u2 => u2 111 = pbR (w 111) f (pvF ft (w 111) f) ∧ ∀ a, a ≠ 111 → u2 a = w a) := by
  refine CU.of rfl (t208_110_at0 (d := d + 2) w _ ?_)
  refine l_208 (n := w 111) hf hz hft 7 w (by decide) ?_ (fun _ _ => rfl)
  funext i
  unfold shP
  rw [if_neg (by omega)]
/-- the row when f figures are published, ca the count of those that came out -/
def yeP (ft : Nat → Bool) (n : Nat → Int32) (f : Nat) (ca : Int32) : Nat → Int32 := fun i => if i = 160 then ca else if 108 ≤ i ∧ i < 108 + 8 * f then (if (i - 108) % 8 = 0 then pvF ft n ((i - 108) / 8) else n (i - 1)) else n i
theorem yeP_low {n : Nat → Int32} {f i : Nat} {ca : Int32} (h : i < 108) : yeP ft n f ca i = n i := by unfold yeP; rw [if_neg (by omega), if_neg (by omega)]
theorem yeP_sum {n : Nat → Int32} {f g : Nat} {ca : Int32} (hg : g < 6) : sum6 (yeP ft n f ca) g = sum6 n g := by
  unfold sum6
  rw [yeP_low (by omega), yeP_low (by omega), yeP_low (by omega), yeP_low (by omega), yeP_low (by omega), yeP_low (by omega)]
theorem yeP_step {n : Nat → Int32} {f : Nat} {ca : Int32} (hf : f < 6) : pbR (yeP ft n f ca) f (pvF ft n f) = yeP ft n (f + 1) ca := by
  funext i
  unfold pbR upd shP
  by_cases e : i = 108 + 8 * f
  · rw [if_pos e]
    unfold yeP
    rw [if_neg (by omega), if_pos (by omega), if_pos (by omega), show (i - 108) / 8 = f by omega]
  · rw [if_neg e]
    by_cases e2 : 108 + 8 * f + 0 < i ∧ i < 116 + 8 * f
    · rw [if_pos e2]
      unfold yeP
      rw [if_neg (by omega), if_neg (by omega), if_neg (by omega), if_pos (by omega), if_neg (by omega)]
    · rw [if_neg e2]
      unfold yeP
      by_cases e3 : i = 160
      · rw [if_pos e3, if_pos e3]
      · rw [if_neg e3, if_neg e3]
        by_cases e4 : 108 ≤ i ∧ i < 108 + 8 * f
        · rw [if_pos e4, if_pos (show 108 ≤ i ∧ i < 108 + 8 * (f + 1) by omega)]
        · rw [if_neg e4, if_neg (by omega)]
theorem pvF_yeP {n : Nat → Int32} {f g : Nat} {ca : Int32} (hg : g < 6) : pvF ft (yeP ft n f ca) g = pvF ft n g := by
  unfold pvF
  rw [yeP_sum hg]
def YE (w u : Wd) (ft : Nat → Bool) (n : Nat → Int32) (f : Nat) (ca cn : Int32) : Prop := u 111 = yeP ft n f ca ∧ u 110 37 = cn ∧ (∀ j, j ≠ 37 → u 110 j = w 110 j) ∧ ∀ a, a ≠ 110 → a ≠ 111 → u a = w a
theorem l29_209 {X : Scr} {d : Nat} {w : Wd} {n : Nat → Int32} {Q : Wd → Prop} (hz : ∀ c g, c < 6 → g < 6 → F_164_110 (nI c) w = 0 → n (6 * c + g) = 0) (hft : ∀ f, f < 6 → (F_165_110 (nI f) w = 0 ↔ ft f = false)) : ∀ (m f : Nat) (u : Wd) (ca cn : Int32), f + m = 6 → YE w u ft n f ca cn → (∀ u2, YE w u2 ft n 6 (caF ft (w 116) n m f ca) (caF ft (w 116) n m f cn) → EU X (d + 6) 209 (98, [some (.ref 110), some (.int (kI 0))], [], SH, u2) Q) → EU X (d + 6) 209 (29, [some (.ref 110), some (.int (nI f))], [], SH, u) Q := by
  intro m
  induction m with
  | zero =>
    intro f u ca cn h hI kk
    have hf : f = 6 := by omega
    subst hf
    refine t209_110_at29 (d := d + 4) u _ ?_
    rw [if_pos (by decide)]
    exact kk u hI
  | succ m ih =>
    intro f u ca cn h hI kk
    have hf : f < 6 := by omega
    obtain ⟨i1, i2, i3, i4⟩ := hI
    have e7 : u 110 7 = w 110 7 := i3 7 (by decide)
    have e6 : u 110 6 = w 110 6 := i3 6 (by decide)
    have hzu : ∀ v : Wd, v 110 6 = w 110 6 → (∀ i, i < 36 → v 111 i = n i) → ∀ c, c < 6 → F_164_110 (nI c) v = 0 → v 111 (6 * c + f) = 0 := fun v h1 h2 c hc h3 => by
      rw [h2 _ (by omega)]
      exact hz c f hc hf (by rw [← c164 h1]; exact h3)
    have low : ∀ i, i < 36 → u 111 i = n i := fun i hi => by rw [i1, yeP_low (by omega)]
    unfold caF at kk
    refine t209_110_at29 (d := d + 4) u _ ?_
    rw [if_neg (lt_6 f hf), c165 e7, k1]
    by_cases h0 : F_165_110 (nI f) w = 0
    · have hff := (hft f hf).mp h0
      rw [if_pos h0]
      rw [if_neg (fun e => by rw [hff] at e; cases e.1), if_neg (fun e => by rw [hff] at e; cases e.1)] at kk
      refine CU.mono (c_208 (d := d + 1) (ft := ft) hf (hzu u e6 low) (by rw [c165 e7]; exact hft f hf)) ?_
      intro ua ha
      refine ih (f + 1) ua ca cn (by omega) ⟨?_, ?_, fun j hj => ?_, fun a h1 h2 => ?_⟩ kk
      · rw [ha.1, i1, pvF_yeP hf, yeP_step hf]
      · rw [ha.2 110 (by decide)]; exact i2
      · rw [ha.2 110 (by decide)]; exact i3 j hj
      · rw [ha.2 a h2]; exact i4 a h1 h2
    · have hft1 : ft f = true := by
        cases e : ft f with
        | true => rfl
        | false => exact absurd ((hft f hf).mpr e) h0
      rw [if_neg h0]
      refine CI.mono (c_167 (d := d + 3) hf (hzu u e6 low)) ?_
      intro x ua hx
      obtain ⟨hx1, hu⟩ := hx
      have hu2 := hu.symm
      subst hu2
      rw [i1, yeP_sum hf] at hx1
      refine ⟨inB_nI hf (by decide), ?_⟩
      rw [hx1, nI_clamp (by omega), i4 116 (by decide) (by decide)]
      by_cases he : sum6 n f = w 116 f
      · rw [if_pos he]
        rw [if_pos ⟨hft1, he⟩, if_pos ⟨hft1, he⟩] at kk
        have k160 : (kI 160).toNatClampNeg = 160 := rfl
        rw [k160]
        have v111 : (up2 (up2 u 111 160 (u 111 160 + kI 1)) 110 37 (u 110 37 + kI 1)) 111 = yeP ft n f (ca + kI 1) := by
          rw [up2_ne (by decide), up2_self, i1]
          funext i
          unfold upd
          by_cases e : i = 160
          · rw [if_pos e]; unfold yeP; rw [if_pos rfl, if_pos e]
          · rw [if_neg e]; unfold yeP; rw [if_neg e, if_neg e]
        have v6 : (up2 (up2 u 111 160 (u 111 160 + kI 1)) 110 37 (u 110 37 + kI 1)) 110 6 = w 110 6 := by rw [up2_at, if_neg (by decide), up2_ne (by decide)]; exact e6
        have v7 : (up2 (up2 u 111 160 (u 111 160 + kI 1)) 110 37 (u 110 37 + kI 1)) 110 7 = w 110 7 := by rw [up2_at, if_neg (by decide), up2_ne (by decide)]; exact e7
        have v37 : (up2 (up2 u 111 160 (u 111 160 + kI 1)) 110 37 (u 110 37 + kI 1)) 110 37 = cn + kI 1 := by rw [up2_at, if_pos rfl, i2]
        have vj : ∀ j, j ≠ 37 → (up2 (up2 u 111 160 (u 111 160 + kI 1)) 110 37 (u 110 37 + kI 1)) 110 j = w 110 j := fun j hj => by rw [up2_at, if_neg hj, up2_ne (by decide)]; exact i3 j hj
        have va : ∀ a, a ≠ 110 → a ≠ 111 → (up2 (up2 u 111 160 (u 111 160 + kI 1)) 110 37 (u 110 37 + kI 1)) a = w a := fun a h1 h2 => by rw [up2_ne h1, up2_ne h2]; exact i4 a h1 h2
        generalize up2 (up2 u 111 160 (u 111 160 + kI 1)) 110 37 (u 110 37 + kI 1) = v at v111 v6 v7 v37 vj va ⊢
        refine CU.mono (c_208 (d := d + 1) (ft := ft) hf (hzu v v6 (fun i hi => by rw [v111, yeP_low (by omega)])) (by rw [c165 v7]; exact hft f hf)) ?_
        intro ub hb
        refine ih (f + 1) ub (ca + kI 1) (cn + kI 1) (by omega) ⟨?_, ?_, fun j hj => ?_, fun a h1 h2 => ?_⟩ kk
        · rw [hb.1, v111, pvF_yeP hf, yeP_step hf]
        · rw [hb.2 110 (by decide)]; exact v37
        · rw [hb.2 110 (by decide)]; exact vj j hj
        · rw [hb.2 a h2]; exact va a h1 h2
      · rw [if_neg he]
        rw [if_neg (fun e => he e.2), if_neg (fun e => he e.2)] at kk
        refine CU.mono (c_208 (d := d + 1) (ft := ft) hf (hzu u e6 low) (by rw [c165 e7]; exact hft f hf)) ?_
        intro ub hb
        refine ih (f + 1) ub ca cn (by omega) ⟨?_, ?_, fun j hj => ?_, fun a h1 h2 => ?_⟩ kk
        · rw [hb.1, i1, pvF_yeP hf, yeP_step hf]
        · rw [hb.2 110 (by decide)]; exact i2
        · rw [hb.2 110 (by decide)]; exact i3 j hj
        · rw [hb.2 a h2]; exact i4 a h1 h2
def zrR (n : Nat → Int32) (k : Nat) : Nat → Int32 := fun i => if i < k then kI 0 else n i
theorem l98_209 {X : Scr} {d : Nat} {w : Wd} {n : Nat → Int32} {sd : Int32} {Q : Wd → Prop} (h8 : w 110 8 = sd) (kk : ∀ u2, u2 111 = upd (upd (upd (zrR n 108) 159 sd) 157 (kI 0)) 158 (n 158 + kI 1) → (∀ a, a ≠ 111 → u2 a = w a) → Q u2) : ∀ (m k : Nat) (u : Wd), k + m = 108 → u 111 = zrR n k → (∀ a, a ≠ 111 → u a = w a) → EU X (d + 2) 209 (98, [some (.ref 110), some (.int (nI k))], [], SH, u) Q := by
  intro m
  induction m with
  | zero =>
    intro k u h h1 h2
    have hk : k = 108 := by omega
    subst hk
    refine t209_110_at98 u _ ?_
    have k157 : (kI 157).toNatClampNeg = 157 := rfl
    have k158 : (kI 158).toNatClampNeg = 158 := rfl
    have k159 : (kI 159).toNatClampNeg = 159 := rfl
    rw [if_pos (by decide), k157, k158, k159, h2 110 (by decide), h8]
    refine kk _ ?_ (fun a ha => by rw [up2_ne ha, up2_ne ha, up2_ne ha]; exact h2 a ha)
    rw [up2_self, up2_self, up2_self, h1]
    rfl
  | succ m ih =>
    intro k u h h1 h2
    refine t209_110_at98 u _ ?_
    rw [if_neg (lt_108 k (by omega)), nI_clamp (by omega), k1]
    refine ⟨inB_nI (by omega) (by decide), ih (k + 1) _ (by omega) ?_ (fun a ha => by rw [up2_ne ha]; exact h2 a ha)⟩
    rw [up2_self, h1]
    funext i
    unfold upd zrR
    by_cases e : i = k
    · rw [if_pos e, if_pos (by omega)]
    · rw [if_neg e]
      by_cases e2 : i < k
      · rw [if_pos e2, if_pos (by omega)]
      · rw [if_neg e2, if_neg (by omega)]
end MONTHS8
