/-! months, part 9: yearEnds, monthGoes -/
section MONTHS9
variable {op ar : Nat → Nat} {lt : Nat → Int32} {la lm lb : Nat → Nat} {cnt len : Nat} {fc ft : Nat → Bool}
theorem l2_209 {X : Scr} {d : Nat} {w : Wd} {Q : Wd → Prop} (hL : LWR w op ar lt la lm lb cnt len) (hY : LWV op ar lt la lm lb cnt len) (hfc : ∀ c, c < 6 → (F_164_110 (nI c) w = 0 ↔ fc c = false)) (hft : ∀ f, f < 6 → (F_165_110 (nI f) w = 0 ↔ ft f = false)) : ∀ (m f : Nat) (u : Wd) (p : ST3), f + m = 6 → SRv fc w u p → (∀ u2, SRv fc w u2 (stA fc ft (lawA op ar lt la lm lb cnt (kI 107) 99) (w 116) (w 114) m f p) → EU X (d + 7) 209 (29, [some (.ref 110), some (.int (kI 0))], [], SH, u2) Q) → EU X (d + 7) 209 (2, [some (.ref 110), some (.int (nI f))], [], SH, u) Q := by
  intro m
  induction m with
  | zero =>
    intro f u p h hI kk
    have hf : f = 6 := by omega
    subst hf
    refine t209_110_at2 (d := d + 5) u _ ?_
    rw [if_pos (by decide)]
    exact kk u hI
  | succ m ih =>
    intro f u p h hI kk
    have hf : f < 6 := by omega
    have e7 : u 110 7 = w 110 7 := hI.2.2.2.2.2.1 7 (by decide) (by decide) (by decide)
    unfold stA at kk
    refine t209_110_at2 (d := d + 5) u _ ?_
    rw [if_neg (lt_6 f hf), c165 e7, k1]
    by_cases h0 : F_165_110 (nI f) w = 0
    · rw [if_pos h0]
      rw [(hft f hf).mp h0, if_neg (show ¬ (false = true) by decide)] at kk
      exact ih (f + 1) u p (by omega) hI kk
    · have hft1 : ft f = true := by
        cases e : ft f with
        | true => rfl
        | false => exact absurd ((hft f hf).mpr e) h0
      rw [if_neg h0]
      rw [hft1, if_pos (show (true = true) from rfl)] at kk
      exact CU.mono (c_207 (d := d) hf hL hY hfc hI) (fun u2 h2 => ih (f + 1) u2 _ (by omega) h2 kk)
/-- the row behind yearEnds -/
theorem yeN_of {n T : Nat → Int32} {sd : Int32} {ca : Int32} (hca : ca = caF ft T n 6 0 (n 160)) : upd (upd (upd (zrR (yeP ft n 6 ca) 108) 159 sd) 157 (kI 0)) 158 (yeP ft n 6 ca 158 + kI 1) = yeN ft T sd n := by
  funext i
  unfold upd
  by_cases e8 : i = 158
  · rw [if_pos e8]
    subst e8
    rw [yeN_158]
    rfl
  · rw [if_neg e8]
    by_cases e7 : i = 157
    · rw [if_pos e7, e7]; rfl
    · rw [if_neg e7]
      by_cases e9 : i = 159
      · rw [if_pos e9, e9]; rfl
      · rw [if_neg e9]
        unfold zrR
        by_cases e1 : i < 108
        · rw [if_pos e1, yeN_low e1]
        · rw [if_neg e1]
          unfold yeP yeN
          by_cases e0 : i = 160
          · rw [if_pos e0, if_neg e1, if_neg (by omega), if_neg e7, if_neg e8, if_neg e9, if_pos e0, hca]
          · rw [if_neg e0, if_neg e1]
            by_cases e2 : i < 156
            · rw [if_pos (by omega), if_pos e2]
            · rw [if_neg (by omega), if_neg e2, if_neg e7, if_neg e8, if_neg e9, if_neg e0]
def YD (fc ft : Nat → Bool) (AK : (Nat → Int32) → Int32) (w : Wd) (n : Nat → Int32) (u2 : Wd) : Prop := u2 111 = yeN ft (w 116) (w 110 8) (stA fc ft AK (w 116) (w 114) 6 0 (n, w 110 38, w 110 39)).1 ∧ NVn (stA fc ft AK (w 116) (w 114) 6 0 (n, w 110 38, w 110 39)).1 ∧ u2 110 38 = (stA fc ft AK (w 116) (w 114) 6 0 (n, w 110 38, w 110 39)).2.1 ∧ u2 110 39 = (stA fc ft AK (w 116) (w 114) 6 0 (n, w 110 38, w 110 39)).2.2 ∧ u2 110 37 = caF ft (w 116) (stA fc ft AK (w 116) (w 114) 6 0 (n, w 110 38, w 110 39)).1 6 0 (w 110 37) ∧ (∀ j, j ≠ 37 → j ≠ 38 → j ≠ 39 → j ≠ 40 → u2 110 j = w 110 j) ∧ ∀ a, a ≠ 110 → a ≠ 111 → a ≠ 129 → a ≠ 130 → u2 a = w a
theorem c_209 {X : Scr} {d : Nat} {w : Wd} (hL : LWR w op ar lt la lm lb cnt len) (hY : LWV op ar lt la lm lb cnt len) (hfc : ∀ c, c < 6 → (F_164_110 (nI c) w = 0 ↔ fc c = false)) (hft : ∀ f, f < 6 → (F_165_110 (nI f) w = 0 ↔ ft f = false)) (hN : NVn (w 111)) (hZ : ZR fc (w 111)) : CU X (d + 8) 209 [.ref 110] w (YD fc ft (lawA op ar lt la lm lb cnt (kI 107) 99) w (w 111)) := by
  refine CU.of rfl (t209_110_at0 (d := d + 5) w ?_)
  refine l2_209 hL hY hfc hft 6 0 w (w 111, w 110 38, w 110 39) rfl ⟨rfl, hN, hZ, rfl, rfl, fun _ _ _ _ => rfl, fun _ _ _ _ _ => rfl⟩ ?_
  intro ua hA
  obtain ⟨a1, a2, a3, a4, a5, a6, a7⟩ := hA
  generalize hP : stA fc ft (lawA op ar lt la lm lb cnt (kI 107) 99) (w 116) (w 114) 6 0 (w 111, w 110 38, w 110 39) = P at a1 a2 a3 a4 a5
  have e6 : ua 110 6 = w 110 6 := a6 6 (by decide) (by decide) (by decide)
  have e7 : ua 110 7 = w 110 7 := a6 7 (by decide) (by decide) (by decide)
  have e116 : ua 116 = w 116 := a7 116 (by decide) (by decide) (by decide) (by decide)
  have y0 : ua 111 = yeP ft P.1 0 (P.1 160) := by
    rw [a1]
    funext i
    unfold yeP
    by_cases e : i = 160
    · rw [if_pos e, e]
    · rw [if_neg e, if_neg (by omega)]
  refine l29_209 (d := d + 1) (w := ua) (n := P.1) (fun c g hc hg h0 => a3 c g hc hg ((hfc c hc).mp (by rw [← c164 e6]; exact h0))) (fun f hf => by rw [c165 e7]; exact hft f hf) 6 0 ua (P.1 160) (ua 110 37) rfl ⟨y0, rfl, fun _ _ => rfl, fun _ _ _ => rfl⟩ ?_
  intro ub hB
  obtain ⟨b1, b2, b3, b4⟩ := hB
  rw [e116] at b1 b2
  have z0 : ub 111 = zrR (yeP ft P.1 6 (caF ft (w 116) P.1 6 0 (P.1 160))) 0 := by rw [b1]; funext i; unfold zrR; rw [if_neg (by omega)]
  refine l98_209 (d := d + 5) (w := ub) (n := yeP ft P.1 6 (caF ft (w 116) P.1 6 0 (P.1 160))) (sd := w 110 8) (by rw [b3 8 (by decide)]; exact a6 8 (by decide) (by decide) (by decide)) ?_ 108 0 ub rfl z0 (fun _ _ => rfl)
  intro uc c1 c2
  unfold YD
  rw [hP]
  refine ⟨?_, a2, ?_, ?_, ?_, fun j h1 h2 h3 h4 => ?_, fun a h1 h2 h3 h4 => ?_⟩
  · rw [c1]; exact yeN_of rfl
  · rw [c2 110 (by decide), b3 38 (by decide)]; exact a4
  · rw [c2 110 (by decide), b3 39 (by decide)]; exact a5
  · rw [c2 110 (by decide), b2, a6 37 (by decide) (by decide) (by decide)]
  · rw [c2 110 (by decide), b3 j h1]; exact a6 j h2 h3 h4
  · rw [c2 a h2, b4 a h1 h2]; exact a7 a h1 h2 h3 h4
/-! monthGoes -/
def mcF (Lf : Nat → (Nat → Int32) × Int32 → (Nat → Int32) × Int32) (fc : Nat → Bool) : Nat → Nat → (Nat → Int32) × Int32 → (Nat → Int32) × Int32
  | 0, _, p => p
  | m + 1, c, p => mcF Lf fc m (c + 1) (if fc c then Lf c p else p)
def letL (AN AD XL : (Nat → Int32) → Int32) (T Pp : Nat → Int32) (ft : Nat → Bool) (c : Nat) (p : (Nat → Int32) × Int32) : (Nat → Int32) × Int32 := letF (hapN AN AD XL T Pp c) (hapH AN AD T Pp c) ft 6 0 p
theorem ZR.hap {AN AD XL : (Nat → Int32) → Int32} {T Pp : Nat → Int32} {c f : Nat} {n : Nat → Int32} (h : ZR fc n) (hc : c < 6) (hf : f < 6) (hfc : fc c = true) : ZR fc (hapN AN AD XL T Pp c f n) := by
  intro c2 g hc2 hg hz
  have hne : c2 ≠ c := fun e => by rw [e, hfc] at hz; cases hz
  unfold hapN
  split
  · unfold upd
    rw [if_neg (by omega), if_neg (by omega), if_neg (by omega)]
    exact h c2 g hc2 hg hz
  · unfold upd
    rw [if_neg (by omega)]
    exact h c2 g hc2 hg hz
def MRi (fc : Nat → Bool) (w u : Wd) (p : (Nat → Int32) × Int32) : Prop := u 111 = p.1 ∧ NVn p.1 ∧ ZR fc p.1 ∧ u 110 36 = p.2 ∧ (∀ j, j ≠ 36 → u 110 j = w 110 j) ∧ ∀ a, a ≠ 110 → a ≠ 111 → a ≠ 129 → a ≠ 130 → u a = w a
theorem l10_210 {X : Scr} {d c : Nat} {w : Wd} {Q : Wd → Prop} (hc : c < 6) (hL : LWR w op ar lt la lm lb cnt len) (hY : LWV op ar lt la lm lb cnt len) (hfc : ∀ c, c < 6 → (F_164_110 (nI c) w = 0 ↔ fc c = false)) (hft : ∀ f, f < 6 → (F_165_110 (nI f) w = 0 ↔ ft f = false)) : ∀ (m f : Nat) (u : Wd) (p : (Nat → Int32) × Int32), f + m = 6 → MRi fc w u p → (∀ u2, MRi fc w u2 (if fc c then letF (hapN (lawA op ar lt la lm lb cnt (kI 110) 99) (lawA op ar lt la lm lb cnt (kI 100) 10) (lawX op ar lt lm lb cnt) (w 116) (w 114) c) (hapH (lawA op ar lt la lm lb cnt (kI 110) 99) (lawA op ar lt la lm lb cnt (kI 100) 10) (w 116) (w 114) c) ft m f p else p) → EU X (d + 8) 210 (2, [some (.ref 110), some (.int (nI (c + 1))), none], [], SH, u2) Q) → EU X (d + 8) 210 (10, [some (.ref 110), some (.int (nI c)), some (.int (nI f))], [], SH, u) Q := by
  intro m
  induction m with
  | zero =>
    intro f u p h hI kk
    have hf : f = 6 := by omega
    subst hf
    refine t210_110_at10 (d := d + 6) u _ _ ?_
    rw [if_pos (by decide), k1]
    refine kk u ?_
    unfold letF
    rw [ite_self]
    exact hI
  | succ m ih =>
    intro f u p h hI kk
    have hf : f < 6 := by omega
    have hI0 := hI
    obtain ⟨i1, i2, i3, i4, i5, i6⟩ := hI
    have e6 : u 110 6 = w 110 6 := i5 6 (by decide)
    have e7 : u 110 7 = w 110 7 := i5 7 (by decide)
    refine t210_110_at10 (d := d + 6) u _ _ ?_
    rw [if_neg (lt_6 f hf), c164 e6, c165 e7, k1]
    by_cases h0 : F_164_110 (nI c) w = 0
    · rw [if_pos h0]
      have hz := (hfc c hc).mp h0
      rw [hz, if_neg (show ¬ (false = true) by decide)] at kk
      refine ih (f + 1) u p (by omega) hI0 (fun u2 h2 => kk u2 ?_)
      rw [hz, if_neg (show ¬ (false = true) by decide)] at h2
      exact h2
    · have hfc1 : fc c = true := by
        cases e : fc c with
        | true => rfl
        | false => exact absurd ((hfc c hc).mpr e) h0
      rw [if_neg h0]
      rw [hfc1, if_pos (show (true = true) from rfl)] at kk
      unfold letF at kk
      by_cases h1 : F_165_110 (nI f) w = 0
      · rw [if_pos h1]
        rw [(hft f hf).mp h1, if_neg (show ¬ (false = true) by decide)] at kk
        refine ih (f + 1) u p (by omega) hI0 (fun u2 h2 => kk u2 ?_)
        rw [hfc1, if_pos (show (true = true) from rfl)] at h2
        exact h2
      · have hft1 : ft f = true := by
          cases e : ft f with
          | true => rfl
          | false => exact absurd ((hft f hf).mpr e) h1
        rw [if_neg h1]
        rw [hft1, if_pos (show (true = true) from rfl)] at kk
        have Lu : LWR u op ar lt la lm lb cnt len := hL.cg2 (i5 19 (by decide)) (fun a h1 h2 => i6 a (by omega) (by omega) (by omega) (by omega))
        refine CU.mono (c_204 (d := d + 3) hc hf Lu hY (fun c2 hc2 hz => by rw [i1]; exact i3 c2 f hc2 hf ((hfc c2 hc2).mp (by rw [← c164 e6]; exact hz))) (by rw [i1]; exact i2)) ?_
        intro ua ha
        obtain ⟨a1, a2, a3, a4⟩ := ha
        have e116 : u 116 = w 116 := i6 116 (by decide) (by decide) (by decide) (by decide)
        have e114 : u 114 = w 114 := i6 114 (by decide) (by decide) (by decide) (by decide)
        rw [i1, e116, e114] at a1 a2
        refine ih (f + 1) ua (hapN (lawA op ar lt la lm lb cnt (kI 110) 99) (lawA op ar lt la lm lb cnt (kI 100) 10) (lawX op ar lt lm lb cnt) (w 116) (w 114) c f p.1, p.2 + hapH (lawA op ar lt la lm lb cnt (kI 110) 99) (lawA op ar lt la lm lb cnt (kI 100) 10) (w 116) (w 114) c f p.1) (by omega) ⟨a1, i2.hap hc hf (fun V => by unfold lawA; exact askF_nn (by decide) _ _), i3.hap hc hf hfc1, ?_, fun j hj => ?_, fun a h1 h2 h3 h4 => ?_⟩ (fun u2 h2 => kk u2 ?_)
        · rw [a2, i4]
        · rw [a3 j hj]; exact i5 j hj
        · rw [a4 a h1 h2 h3 h4]; exact i6 a h1 h2 h3 h4
        · rw [hfc1, if_pos (show (true = true) from rfl)] at h2
          exact h2
end MONTHS9
