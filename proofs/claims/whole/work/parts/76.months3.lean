/-! months, part 3: letHappen, happens -/
section MONTHS3
theorem LAWC.cg2 {w u : Wd} {op ar : Nat → Nat} {lt : Nat → Int32} {la lm lb : Nat → Nat} {cnt len : Nat} (h : LAWC w op ar lt la lm lb cnt len) (e : ∀ c, 22 ≤ c → c ≤ 28 → u c = w c) : LAWC u op ar lt la lm lb cnt len := by
  unfold LAWC at h ⊢
  rw [e 22 (by decide) (by decide), e 23 (by decide) (by decide), e 24 (by decide) (by decide), e 25 (by decide) (by decide), e 26 (by decide) (by decide), e 27 (by decide) (by decide), e 28 (by decide) (by decide)]
  exact h
theorem LWR.cg2 {w u : Wd} {op ar : Nat → Nat} {lt : Nat → Int32} {la lm lb : Nat → Nat} {cnt len : Nat} (h : LWR w op ar lt la lm lb cnt len) (e0 : u 110 19 = w 110 19) (e : ∀ c, 124 ≤ c → c ≤ 128 → u c = w c) : LWR u op ar lt la lm lb cnt len := by
  unfold LWR at h ⊢
  rw [e0, e 124 (by decide) (by decide), e 125 (by decide) (by decide), e 126 (by decide) (by decide), e 127 (by decide) (by decide), e 128 (by decide) (by decide)]
  exact h
/-- what the law says: of n, d, k, x -/
def lawA (op ar : Nat → Nat) (lt : Nat → Int32) (la lm lb : Nat → Nat) (cnt : Nat) (l : Int32) (v : Nat) (V : Nat → Int32) : Int32 := askF lt (cdC op ar lm lb V) (cdC op ar la lm V) l (nI v) cnt 0
def lawX (op ar : Nat → Nat) (lt : Nat → Int32) (lm lb : Nat → Nat) (cnt : Nat) (V : Nat → Int32) : Int32 := lxF lt (cdC op ar lm lb V) (kI 120) cnt 0
def letF (HN : Nat → (Nat → Int32) → Nat → Int32) (HH : Nat → (Nat → Int32) → Int32) (ft : Nat → Bool) : Nat → Nat → (Nat → Int32) × Int32 → (Nat → Int32) × Int32
  | 0, _, p => p
  | m + 1, f, p => letF HN HH ft m (f + 1) (if ft f then (HN f p.1, p.2 + HH f p.1) else p)
theorem f52_cg {w u : Wd} (e : u 3 = w 3) (p : Int32) : F_52_3 p u = F_52_3 p w := by unfold F_52_3; rw [e]; rfl
theorem f51_cg {w u : Wd} (e : u 3 = w 3) (p : Int32) : F_51_3 p u = F_51_3 p w := by unfold F_51_3; rw [e]; rfl
variable {op ar : Nat → Nat} {lt : Nat → Int32} {la lm lb : Nat → Nat} {cnt len : Nat} {ft : Nat → Bool}
def HI_7 (w u : Wd) (n : Nat → Int32) (h : Int32) : Prop := BK 7 u n ∧ NVn n ∧ u 87 4 = h ∧ (∀ j, j ≠ 4 → u 87 j = w 87 j) ∧ ∀ a, ¬ (7 ≤ a ∧ a ≤ 11) → a ≠ 85 → a ≠ 86 → a ≠ 87 → u a = w a
theorem l_22_7 {X : Scr} {d c : Nat} {w : Wd} (hc : c < 6) (hL : LAWC w op ar lt la lm lb cnt len) (hY : LWV op ar lt la lm lb cnt len) (hft : ∀ f, f < 6 → (F_52_3 (nI f) w = 0 ↔ ft f = false)) : ∀ (m f : Nat) (u : Wd) (p : (Nat → Int32) × Int32), f + m = 6 → HI_7 w u p.1 p.2 → EU X (d + 4) 22 (2, [some (.ref 87), some (.ref 7), some (.int (nI c)), some (.int (nI f)), none, none, none], [], SH, u) (fun u2 => HI_7 w u2 (letF (hapN (lawA op ar lt la lm lb cnt (kI 110) 99) (lawA op ar lt la lm lb cnt (kI 100) 10) (lawX op ar lt lm lb cnt) (w 5) (w 4) c) (hapH (lawA op ar lt la lm lb cnt (kI 110) 99) (lawA op ar lt la lm lb cnt (kI 100) 10) (w 5) (w 4) c) ft m f p).1 (letF (hapN (lawA op ar lt la lm lb cnt (kI 110) 99) (lawA op ar lt la lm lb cnt (kI 100) 10) (lawX op ar lt lm lb cnt) (w 5) (w 4) c) (hapH (lawA op ar lt la lm lb cnt (kI 110) 99) (lawA op ar lt la lm lb cnt (kI 100) 10) (w 5) (w 4) c) ft m f p).2) := by
  intro m
  induction m with
  | zero =>
    intro f u p h hI
    have hf : f = 6 := by omega
    subst hf
    refine t22_87_7_at2 (d := d + 1) u _ _ ?_
    rw [if_pos (by decide)]
    exact hI
  | succ m ih =>
    intro f u p h hI
    have hf : f < 6 := by omega
    obtain ⟨i1, i2, i3, i4, i5⟩ := hI
    have e3 : u 3 = w 3 := i5 3 (by omega) (by decide) (by decide) (by decide)
    refine t22_87_7_at2 (d := d + 1) u _ _ ?_
    rw [if_neg (lt_6 f hf), f52_cg e3, k1]
    unfold letF
    by_cases h0 : F_52_3 (nI f) w = 0
    · rw [if_pos h0, (hft f hf).mp h0, if_neg (show ¬ (false = true) by decide)]
      exact ih (f + 1) u p (by omega) ⟨i1, i2, i3, i4, i5⟩
    · have hft1 : ft f = true := by
        cases e : ft f with
        | true => rfl
        | false => exact absurd ((hft f hf).mpr e) h0
      rw [if_neg h0, hft1, if_pos (show (true = true) from rfl)]
      have emo : u 7 4 = p.1 157 := i1.2.2.2.2.1
      have e5 : u 5 = w 5 := i5 5 (by omega) (by decide) (by decide) (by decide)
      have e4 : u 4 = w 4 := i5 4 (by omega) (by decide) (by decide) (by decide)
      obtain ⟨v1, v2⟩ := tv_7 (mo := u 7 4) i1 hc hf
      rw [emo, e5, e4] at v1
      rw [emo] at v2 ⊢
      generalize G_28_87_7 (nI c) (nI f) (p.1 157) u = u0 at v1 v2 ⊢
      generalize hV : Vof p.1 (w 5) (w 4) c f (p.1 157) = V at v1
      have f0 : ∀ a, ¬ (7 ≤ a ∧ a ≤ 11) → a ≠ 85 → a ≠ 86 → a ≠ 87 → u0 a = w a := fun a h1 h2 h3 h4 => by rw [v2 a h2]; exact i5 a h1 h2 h3 h4
      have L0 : LAWC u0 op ar lt la lm lb cnt len := hL.cg2 (fun c h1 h2 => f0 c (by omega) (by omega) (by omega) (by omega))
      refine CI.mono (c_29 (d := d) (V := V) L0 hY v1 (l := kI 110) (v := 99) (by decide) (by decide)) ?_
      intro x1 u1 hx1
      obtain ⟨ex1, g1⟩ := hx1
      have L1 : LAWC u1 op ar lt la lm lb cnt len := L0.cg (fun c _ h2 _ => g1 c h2)
      refine CI.mono (c_29 (d := d) (V := V) L1 hY (fun j hj => by rw [g1 85 (by decide)]; exact v1 j hj) (l := kI 100) (v := 10) (by decide) (by decide)) ?_
      intro x2 u2 hx2
      obtain ⟨ex2, g2⟩ := hx2
      have L2 : LAWC u2 op ar lt la lm lb cnt len := L1.cg (fun c _ h2 _ => g2 c h2)
      refine CI.mono (c_30 (d := d) (V := V) L2 hY (fun j hj => by rw [g2 85 (by decide), g1 85 (by decide)]; exact v1 j hj)) ?_
      intro x3 u3 hx3
      obtain ⟨ex3, g3⟩ := hx3
      have f3 : ∀ a, a ≠ 85 → a ≠ 86 → u3 a = u a := fun a h1 h2 => by rw [g3 a h2, g2 a h2, g1 a h2, v2 a h1]
      have B3 : BK 7 u3 p.1 := i1.congr (f3 7 (by decide) (by decide)) (f3 8 (by decide) (by decide)) (f3 9 (by decide) (by decide)) (f3 10 (by decide) (by decide)) (f3 11 (by decide) (by decide))
      obtain ⟨D1, D2, D3⟩ := dr_7 B3
      obtain ⟨k1, k2, k3, k4, k5, k6⟩ := i2
      obtain ⟨mo, hmo, emo2⟩ := k3
      have hA : nn x1 99 := by rw [ex1]; exact askF_nn (by decide) _ _
      have eM : (if x2 ≤ F_18_7 u3 then x1 else x1 + kI 1) = hapH (lawA op ar lt la lm lb cnt (kI 110) 99) (lawA op ar lt la lm lb cnt (kI 100) 10) (w 5) (w 4) c f p.1 := by
        unfold hapH mnyN
        rw [hV, D3, ex1, ex2]
        rfl
      have hM : nn (hapH (lawA op ar lt la lm lb cnt (kI 110) 99) (lawA op ar lt la lm lb cnt (kI 100) 10) (w 5) (w 4) c f p.1) 100 := mny_nn (by unfold lawA; exact askF_nn (by decide) _ _)
      have NV2 := NVn.hap (AN := lawA op ar lt la lm lb cnt (kI 110) 99) (AD := lawA op ar lt la lm lb cnt (kI 100) 10) (XL := lawX op ar lt lm lb cnt) (T := w 5) (Pp := w 4) (c := c) (f := f) (n := p.1) ⟨k1, k2, ⟨mo, hmo, emo2⟩, k4, k5, k6⟩ hc hf (fun V => by unfold lawA; exact askF_nn (by decide) _ _)
      have eX : x3 = lawX op ar lt lm lb cnt V := ex3
      have z87 : (G_18_7 u3) 87 4 = p.2 := by rw [D2 87 (by decide), f3 87 (by decide) (by decide)]; exact i3
      obtain ⟨M, hM2, eM2⟩ := hM
      have go : ∀ mm : Int32, mm = nI M → (if x3 = 0 then ((¬ (F_153 (nI f) (kI 0) (kI 5) (G_16_7 (nI c) (nI f) mm (up2 (G_18_7 u3) 87 4 (((G_18_7 u3) 87 4) + mm)))) = 0 → ¬ (F_153 ((G_16_7 (nI c) (nI f) mm (up2 (G_18_7 u3) 87 4 (((G_18_7 u3) 87 4) + mm))) 7 4) (kI 0) (kI 11) (G_16_7 (nI c) (nI f) mm (up2 (G_18_7 u3) 87 4 (((G_18_7 u3) 87 4) + mm)))) = 0 → (inB (((nI f) * (kI 12)) + ((G_16_7 (nI c) (nI f) mm (up2 (G_18_7 u3) 87 4 (((G_18_7 u3) 87 4) + mm))) 7 4)) 72 = true)) ∧ EU X (d + 1 + 3) 22 (2, [some (.ref 87), some (.ref 7), some (.int (nI c)), some (.int (nI (f + 1))), none, none, none], [], SH, (G_17_7 (nI f) mm (G_16_7 (nI c) (nI f) mm (up2 (G_18_7 u3) 87 4 (((G_18_7 u3) 87 4) + mm))))) (fun u2 => HI_7 w u2 (letF (hapN (lawA op ar lt la lm lb cnt (kI 110) 99) (lawA op ar lt la lm lb cnt (kI 100) 10) (lawX op ar lt lm lb cnt) (w 5) (w 4) c) (hapH (lawA op ar lt la lm lb cnt (kI 110) 99) (lawA op ar lt la lm lb cnt (kI 100) 10) (w 5) (w 4) c) ft m (f + 1) (hapN (lawA op ar lt la lm lb cnt (kI 110) 99) (lawA op ar lt la lm lb cnt (kI 100) 10) (lawX op ar lt lm lb cnt) (w 5) (w 4) c f p.1, p.2 + hapH (lawA op ar lt la lm lb cnt (kI 110) 99) (lawA op ar lt la lm lb cnt (kI 100) 10) (w 5) (w 4) c f p.1)).1 (letF (hapN (lawA op ar lt la lm lb cnt (kI 110) 99) (lawA op ar lt la lm lb cnt (kI 100) 10) (lawX op ar lt lm lb cnt) (w 5) (w 4) c) (hapH (lawA op ar lt la lm lb cnt (kI 110) 99) (lawA op ar lt la lm lb cnt (kI 100) 10) (w 5) (w 4) c) ft m (f + 1) (hapN (lawA op ar lt la lm lb cnt (kI 110) 99) (lawA op ar lt la lm lb cnt (kI 100) 10) (lawX op ar lt lm lb cnt) (w 5) (w 4) c f p.1, p.2 + hapH (lawA op ar lt la lm lb cnt (kI 110) 99) (lawA op ar lt la lm lb cnt (kI 100) 10) (w 5) (w 4) c f p.1)).2)) else EU X (d + 1 + 3) 22 (2, [some (.ref 87), some (.ref 7), some (.int (nI c)), some (.int (nI (f + 1))), none, none, none], [], SH, (up2 (G_18_7 u3) 87 4 (((G_18_7 u3) 87 4) + mm))) (fun u2 => HI_7 w u2 (letF (hapN (lawA op ar lt la lm lb cnt (kI 110) 99) (lawA op ar lt la lm lb cnt (kI 100) 10) (lawX op ar lt lm lb cnt) (w 5) (w 4) c) (hapH (lawA op ar lt la lm lb cnt (kI 110) 99) (lawA op ar lt la lm lb cnt (kI 100) 10) (w 5) (w 4) c) ft m (f + 1) (hapN (lawA op ar lt la lm lb cnt (kI 110) 99) (lawA op ar lt la lm lb cnt (kI 100) 10) (lawX op ar lt lm lb cnt) (w 5) (w 4) c f p.1, p.2 + hapH (lawA op ar lt la lm lb cnt (kI 110) 99) (lawA op ar lt la lm lb cnt (kI 100) 10) (w 5) (w 4) c f p.1)).1 (letF (hapN (lawA op ar lt la lm lb cnt (kI 110) 99) (lawA op ar lt la lm lb cnt (kI 100) 10) (lawX op ar lt lm lb cnt) (w 5) (w 4) c) (hapH (lawA op ar lt la lm lb cnt (kI 110) 99) (lawA op ar lt la lm lb cnt (kI 100) 10) (w 5) (w 4) c) ft m (f + 1) (hapN (lawA op ar lt la lm lb cnt (kI 110) 99) (lawA op ar lt la lm lb cnt (kI 100) 10) (lawX op ar lt lm lb cnt) (w 5) (w 4) c f p.1, p.2 + hapH (lawA op ar lt la lm lb cnt (kI 110) 99) (lawA op ar lt la lm lb cnt (kI 100) 10) (w 5) (w 4) c f p.1)).2)) := by
        intro mm emm
        subst emm
        have W4 : BK 7 (up2 (G_18_7 u3) 87 4 (((G_18_7 u3) 87 4) + nI M)) (upd p.1 161 (drw (p.1 161))) := D1.congr (up2_ne (by decide)) (up2_ne (by decide)) (up2_ne (by decide)) (up2_ne (by decide)) (up2_ne (by decide))
        have q4 : (up2 (G_18_7 u3) 87 4 (((G_18_7 u3) 87 4) + nI M)) 87 4 = p.2 + hapH (lawA op ar lt la lm lb cnt (kI 110) 99) (lawA op ar lt la lm lb cnt (kI 100) 10) (w 5) (w 4) c f p.1 := by
          rw [up2_at, if_pos rfl, z87, eM2]
        have qj : ∀ j, j ≠ 4 → (up2 (G_18_7 u3) 87 4 (((G_18_7 u3) 87 4) + nI M)) 87 j = w 87 j := fun j hj => by
          rw [up2_at, if_neg hj, D2 87 (by decide), f3 87 (by decide) (by decide)]; exact i4 j hj
        have qa : ∀ a, ¬ (7 ≤ a ∧ a ≤ 11) → a ≠ 85 → a ≠ 86 → a ≠ 87 → (up2 (G_18_7 u3) 87 4 (((G_18_7 u3) 87 4) + nI M)) a = w a := fun a h1 h2 h3 h4 => by
          rw [up2_ne h4, D2 a (by omega), f3 a h2 h3]; exact i5 a h1 h2 h3 h4
        generalize up2 (G_18_7 u3) 87 4 (((G_18_7 u3) 87 4) + nI M) = u4 at W4 q4 qj qa
        have eMM : mnyN (lawA op ar lt la lm lb cnt (kI 110) 99) (lawA op ar lt la lm lb cnt (kI 100) 10) V (drw (p.1 161)) = nI M := by rw [← eM2, ← hV]; rfl
        by_cases hx : x3 = 0
        · rw [if_pos hx]
          obtain ⟨C1a, C2a⟩ := ch_7 (c := c) (f := f) (m := M) W4 (fun i hi => by unfold upd; rw [if_neg (by omega)]; exact k1 i hi) hc hf (by omega)
          have e161 : (upd p.1 161 (drw (p.1 161))) (6 * c + f) = p.1 (6 * c + f) := if_neg (by omega)
          rw [e161] at C1a
          obtain ⟨H1a, H2a⟩ := hi_7 (f := f) (m := M) (mo := mo) C1a (by unfold upd; rw [if_neg (by omega), if_neg (by omega)]; exact emo2) (by omega) hf
          have eh : upd (upd p.1 161 (drw (p.1 161))) (6 * c + f) (mn9 (p.1 (6 * c + f) + nI M)) (36 + 12 * f + mo) = p.1 (36 + 12 * f + mo) := by unfold upd; rw [if_neg (by omega), if_neg (by omega)]
          rw [eh] at H1a
          have eN : hapN (lawA op ar lt la lm lb cnt (kI 110) 99) (lawA op ar lt la lm lb cnt (kI 100) 10) (lawX op ar lt lm lb cnt) (w 5) (w 4) c f p.1 = upd (upd (upd p.1 161 (drw (p.1 161))) (6 * c + f) (mn9 (p.1 (6 * c + f) + nI M))) (36 + 12 * f + mo) (mn9 (p.1 (36 + 12 * f + mo) + nI M)) := by
            unfold hapN
            rw [hV, ← eX, if_pos hx, eMM, emo2, nI_clamp (by omega)]
          refine ⟨fun _ _ => ?_, ih (f + 1) _ _ (by omega) ⟨?_, NV2, ?_, ?_, ?_⟩⟩
          · rw [C2a 7 (by decide) (by decide)]
            have : u4 7 4 = nI mo := by rw [W4.2.2.2.2.1]; unfold upd; rw [if_neg (by omega)]; exact emo2
            rw [this, ixH]
            exact inB_nI (by omega) (by decide)
          · rw [eN]; exact H1a
          · rw [H2a 87 (by decide), C2a 87 (by decide) (by decide)]; exact q4
          · intro j hj
            rw [H2a 87 (by decide), C2a 87 (by decide) (by decide)]; exact qj j hj
          · intro a h1 h2 h3 h4
            rw [H2a a (by omega), C2a a (by omega) (by omega)]; exact qa a h1 h2 h3 h4
        · rw [if_neg hx]
          have eN : hapN (lawA op ar lt la lm lb cnt (kI 110) 99) (lawA op ar lt la lm lb cnt (kI 100) 10) (lawX op ar lt lm lb cnt) (w 5) (w 4) c f p.1 = upd p.1 161 (drw (p.1 161)) := by
            unfold hapN
            rw [hV, ← eX, if_neg hx]
          refine ih (f + 1) _ _ (by omega) ⟨?_, NV2, q4, qj, qa⟩
          rw [eN]; exact W4
      by_cases hd : x2 ≤ F_18_7 u3
      · rw [if_pos hd, if_pos hd]
        rw [if_pos hd, eM2] at eM
        exact go x1 eM
      · rw [if_neg hd, if_neg hd]
        rw [if_neg hd, eM2] at eM
        exact go (x1 + kI 1) eM
/-- letHappen -/
theorem c_22_7 {X : Scr} {d c : Nat} {w u : Wd} {n : Nat → Int32} {h : Int32} (hc : c < 6) (hL : LAWC w op ar lt la lm lb cnt len) (hY : LWV op ar lt la lm lb cnt len) (hft : ∀ f, f < 6 → (F_52_3 (nI f) w = 0 ↔ ft f = false)) (hI : HI_7 w u n h) : CU X (d + 5) 22 [.ref 87, .ref 7, .int (nI c)] u (fun u2 => HI_7 w u2 (letF (hapN (lawA op ar lt la lm lb cnt (kI 110) 99) (lawA op ar lt la lm lb cnt (kI 100) 10) (lawX op ar lt lm lb cnt) (w 5) (w 4) c) (hapH (lawA op ar lt la lm lb cnt (kI 110) 99) (lawA op ar lt la lm lb cnt (kI 100) 10) (w 5) (w 4) c) ft 6 0 (n, h)).1 (letF (hapN (lawA op ar lt la lm lb cnt (kI 110) 99) (lawA op ar lt la lm lb cnt (kI 100) 10) (lawX op ar lt lm lb cnt) (w 5) (w 4) c) (hapH (lawA op ar lt la lm lb cnt (kI 110) 99) (lawA op ar lt la lm lb cnt (kI 100) 10) (w 5) (w 4) c) ft 6 0 (n, h)).2) :=
  CU.of rfl (t22_87_7_at0 (d := d + 1) u _ (l_22_7 hc hL hY hft 6 0 u (n, h) rfl hI))
def HI_17 (w u : Wd) (n : Nat → Int32) (h : Int32) : Prop := BK 17 u n ∧ NVn n ∧ u 87 4 = h ∧ (∀ j, j ≠ 4 → u 87 j = w 87 j) ∧ ∀ a, ¬ (17 ≤ a ∧ a ≤ 21) → a ≠ 85 → a ≠ 86 → a ≠ 87 → u a = w a
theorem l_22_17 {X : Scr} {d c : Nat} {w : Wd} (hc : c < 6) (hL : LAWC w op ar lt la lm lb cnt len) (hY : LWV op ar lt la lm lb cnt len) (hft : ∀ f, f < 6 → (F_52_3 (nI f) w = 0 ↔ ft f = false)) : ∀ (m f : Nat) (u : Wd) (p : (Nat → Int32) × Int32), f + m = 6 → HI_17 w u p.1 p.2 → EU X (d + 4) 22 (2, [some (.ref 87), some (.ref 17), some (.int (nI c)), some (.int (nI f)), none, none, none], [], SH, u) (fun u2 => HI_17 w u2 (letF (hapN (lawA op ar lt la lm lb cnt (kI 110) 99) (lawA op ar lt la lm lb cnt (kI 100) 10) (lawX op ar lt lm lb cnt) (w 5) (w 4) c) (hapH (lawA op ar lt la lm lb cnt (kI 110) 99) (lawA op ar lt la lm lb cnt (kI 100) 10) (w 5) (w 4) c) ft m f p).1 (letF (hapN (lawA op ar lt la lm lb cnt (kI 110) 99) (lawA op ar lt la lm lb cnt (kI 100) 10) (lawX op ar lt lm lb cnt) (w 5) (w 4) c) (hapH (lawA op ar lt la lm lb cnt (kI 110) 99) (lawA op ar lt la lm lb cnt (kI 100) 10) (w 5) (w 4) c) ft m f p).2) := by
  intro m
  induction m with
  | zero =>
    intro f u p h hI
    have hf : f = 6 := by omega
    subst hf
    refine t22_87_17_at2 (d := d + 1) u _ _ ?_
    rw [if_pos (by decide)]
    exact hI
  | succ m ih =>
    intro f u p h hI
    have hf : f < 6 := by omega
    obtain ⟨i1, i2, i3, i4, i5⟩ := hI
    have e3 : u 3 = w 3 := i5 3 (by omega) (by decide) (by decide) (by decide)
    refine t22_87_17_at2 (d := d + 1) u _ _ ?_
    rw [if_neg (lt_6 f hf), f52_cg e3, k1]
    unfold letF
    by_cases h0 : F_52_3 (nI f) w = 0
    · rw [if_pos h0, (hft f hf).mp h0, if_neg (show ¬ (false = true) by decide)]
      exact ih (f + 1) u p (by omega) ⟨i1, i2, i3, i4, i5⟩
    · have hft1 : ft f = true := by
        cases e : ft f with
        | true => rfl
        | false => exact absurd ((hft f hf).mpr e) h0
      rw [if_neg h0, hft1, if_pos (show (true = true) from rfl)]
      have emo : u 17 4 = p.1 157 := i1.2.2.2.2.1
      have e5 : u 5 = w 5 := i5 5 (by omega) (by decide) (by decide) (by decide)
      have e4 : u 4 = w 4 := i5 4 (by omega) (by decide) (by decide) (by decide)
      obtain ⟨v1, v2⟩ := tv_17 (mo := u 17 4) i1 hc hf
      rw [emo, e5, e4] at v1
      rw [emo] at v2 ⊢
      generalize G_28_87_17 (nI c) (nI f) (p.1 157) u = u0 at v1 v2 ⊢
      generalize hV : Vof p.1 (w 5) (w 4) c f (p.1 157) = V at v1
      have f0 : ∀ a, ¬ (17 ≤ a ∧ a ≤ 21) → a ≠ 85 → a ≠ 86 → a ≠ 87 → u0 a = w a := fun a h1 h2 h3 h4 => by rw [v2 a h2]; exact i5 a h1 h2 h3 h4
      have L0 : LAWC u0 op ar lt la lm lb cnt len := hL.cg2 (fun c h1 h2 => f0 c (by omega) (by omega) (by omega) (by omega))
      refine CI.mono (c_29 (d := d) (V := V) L0 hY v1 (l := kI 110) (v := 99) (by decide) (by decide)) ?_
      intro x1 u1 hx1
      obtain ⟨ex1, g1⟩ := hx1
      have L1 : LAWC u1 op ar lt la lm lb cnt len := L0.cg (fun c _ h2 _ => g1 c h2)
      refine CI.mono (c_29 (d := d) (V := V) L1 hY (fun j hj => by rw [g1 85 (by decide)]; exact v1 j hj) (l := kI 100) (v := 10) (by decide) (by decide)) ?_
      intro x2 u2 hx2
      obtain ⟨ex2, g2⟩ := hx2
      have L2 : LAWC u2 op ar lt la lm lb cnt len := L1.cg (fun c _ h2 _ => g2 c h2)
      refine CI.mono (c_30 (d := d) (V := V) L2 hY (fun j hj => by rw [g2 85 (by decide), g1 85 (by decide)]; exact v1 j hj)) ?_
      intro x3 u3 hx3
      obtain ⟨ex3, g3⟩ := hx3
      have f3 : ∀ a, a ≠ 85 → a ≠ 86 → u3 a = u a := fun a h1 h2 => by rw [g3 a h2, g2 a h2, g1 a h2, v2 a h1]
      have B3 : BK 17 u3 p.1 := i1.congr (f3 17 (by decide) (by decide)) (f3 18 (by decide) (by decide)) (f3 19 (by decide) (by decide)) (f3 20 (by decide) (by decide)) (f3 21 (by decide) (by decide))
      obtain ⟨D1, D2, D3⟩ := dr_17 B3
      obtain ⟨k1, k2, k3, k4, k5, k6⟩ := i2
      obtain ⟨mo, hmo, emo2⟩ := k3
      have hA : nn x1 99 := by rw [ex1]; exact askF_nn (by decide) _ _
      have eM : (if x2 ≤ F_18_17 u3 then x1 else x1 + kI 1) = hapH (lawA op ar lt la lm lb cnt (kI 110) 99) (lawA op ar lt la lm lb cnt (kI 100) 10) (w 5) (w 4) c f p.1 := by
        unfold hapH mnyN
        rw [hV, D3, ex1, ex2]
        rfl
      have hM : nn (hapH (lawA op ar lt la lm lb cnt (kI 110) 99) (lawA op ar lt la lm lb cnt (kI 100) 10) (w 5) (w 4) c f p.1) 100 := mny_nn (by unfold lawA; exact askF_nn (by decide) _ _)
      have NV2 := NVn.hap (AN := lawA op ar lt la lm lb cnt (kI 110) 99) (AD := lawA op ar lt la lm lb cnt (kI 100) 10) (XL := lawX op ar lt lm lb cnt) (T := w 5) (Pp := w 4) (c := c) (f := f) (n := p.1) ⟨k1, k2, ⟨mo, hmo, emo2⟩, k4, k5, k6⟩ hc hf (fun V => by unfold lawA; exact askF_nn (by decide) _ _)
      have eX : x3 = lawX op ar lt lm lb cnt V := ex3
      have z87 : (G_18_17 u3) 87 4 = p.2 := by rw [D2 87 (by decide), f3 87 (by decide) (by decide)]; exact i3
      obtain ⟨M, hM2, eM2⟩ := hM
      have go : ∀ mm : Int32, mm = nI M → (if x3 = 0 then ((¬ (F_153 (nI f) (kI 0) (kI 5) (G_16_17 (nI c) (nI f) mm (up2 (G_18_17 u3) 87 4 (((G_18_17 u3) 87 4) + mm)))) = 0 → ¬ (F_153 ((G_16_17 (nI c) (nI f) mm (up2 (G_18_17 u3) 87 4 (((G_18_17 u3) 87 4) + mm))) 17 4) (kI 0) (kI 11) (G_16_17 (nI c) (nI f) mm (up2 (G_18_17 u3) 87 4 (((G_18_17 u3) 87 4) + mm)))) = 0 → (inB (((nI f) * (kI 12)) + ((G_16_17 (nI c) (nI f) mm (up2 (G_18_17 u3) 87 4 (((G_18_17 u3) 87 4) + mm))) 17 4)) 72 = true)) ∧ EU X (d + 1 + 3) 22 (2, [some (.ref 87), some (.ref 17), some (.int (nI c)), some (.int (nI (f + 1))), none, none, none], [], SH, (G_17_17 (nI f) mm (G_16_17 (nI c) (nI f) mm (up2 (G_18_17 u3) 87 4 (((G_18_17 u3) 87 4) + mm))))) (fun u2 => HI_17 w u2 (letF (hapN (lawA op ar lt la lm lb cnt (kI 110) 99) (lawA op ar lt la lm lb cnt (kI 100) 10) (lawX op ar lt lm lb cnt) (w 5) (w 4) c) (hapH (lawA op ar lt la lm lb cnt (kI 110) 99) (lawA op ar lt la lm lb cnt (kI 100) 10) (w 5) (w 4) c) ft m (f + 1) (hapN (lawA op ar lt la lm lb cnt (kI 110) 99) (lawA op ar lt la lm lb cnt (kI 100) 10) (lawX op ar lt lm lb cnt) (w 5) (w 4) c f p.1, p.2 + hapH (lawA op ar lt la lm lb cnt (kI 110) 99) (lawA op ar lt la lm lb cnt (kI 100) 10) (w 5) (w 4) c f p.1)).1 (letF (hapN (lawA op ar lt la lm lb cnt (kI 110) 99) (lawA op ar lt la lm lb cnt (kI 100) 10) (lawX op ar lt lm lb cnt) (w 5) (w 4) c) (hapH (lawA op ar lt la lm lb cnt (kI 110) 99) (lawA op ar lt la lm lb cnt (kI 100) 10) (w 5) (w 4) c) ft m (f + 1) (hapN (lawA op ar lt la lm lb cnt (kI 110) 99) (lawA op ar lt la lm lb cnt (kI 100) 10) (lawX op ar lt lm lb cnt) (w 5) (w 4) c f p.1, p.2 + hapH (lawA op ar lt la lm lb cnt (kI 110) 99) (lawA op ar lt la lm lb cnt (kI 100) 10) (w 5) (w 4) c f p.1)).2)) else EU X (d + 1 + 3) 22 (2, [some (.ref 87), some (.ref 17), some (.int (nI c)), some (.int (nI (f + 1))), none, none, none], [], SH, (up2 (G_18_17 u3) 87 4 (((G_18_17 u3) 87 4) + mm))) (fun u2 => HI_17 w u2 (letF (hapN (lawA op ar lt la lm lb cnt (kI 110) 99) (lawA op ar lt la lm lb cnt (kI 100) 10) (lawX op ar lt lm lb cnt) (w 5) (w 4) c) (hapH (lawA op ar lt la lm lb cnt (kI 110) 99) (lawA op ar lt la lm lb cnt (kI 100) 10) (w 5) (w 4) c) ft m (f + 1) (hapN (lawA op ar lt la lm lb cnt (kI 110) 99) (lawA op ar lt la lm lb cnt (kI 100) 10) (lawX op ar lt lm lb cnt) (w 5) (w 4) c f p.1, p.2 + hapH (lawA op ar lt la lm lb cnt (kI 110) 99) (lawA op ar lt la lm lb cnt (kI 100) 10) (w 5) (w 4) c f p.1)).1 (letF (hapN (lawA op ar lt la lm lb cnt (kI 110) 99) (lawA op ar lt la lm lb cnt (kI 100) 10) (lawX op ar lt lm lb cnt) (w 5) (w 4) c) (hapH (lawA op ar lt la lm lb cnt (kI 110) 99) (lawA op ar lt la lm lb cnt (kI 100) 10) (w 5) (w 4) c) ft m (f + 1) (hapN (lawA op ar lt la lm lb cnt (kI 110) 99) (lawA op ar lt la lm lb cnt (kI 100) 10) (lawX op ar lt lm lb cnt) (w 5) (w 4) c f p.1, p.2 + hapH (lawA op ar lt la lm lb cnt (kI 110) 99) (lawA op ar lt la lm lb cnt (kI 100) 10) (w 5) (w 4) c f p.1)).2)) := by
        intro mm emm
        subst emm
        have W4 : BK 17 (up2 (G_18_17 u3) 87 4 (((G_18_17 u3) 87 4) + nI M)) (upd p.1 161 (drw (p.1 161))) := D1.congr (up2_ne (by decide)) (up2_ne (by decide)) (up2_ne (by decide)) (up2_ne (by decide)) (up2_ne (by decide))
        have q4 : (up2 (G_18_17 u3) 87 4 (((G_18_17 u3) 87 4) + nI M)) 87 4 = p.2 + hapH (lawA op ar lt la lm lb cnt (kI 110) 99) (lawA op ar lt la lm lb cnt (kI 100) 10) (w 5) (w 4) c f p.1 := by
          rw [up2_at, if_pos rfl, z87, eM2]
        have qj : ∀ j, j ≠ 4 → (up2 (G_18_17 u3) 87 4 (((G_18_17 u3) 87 4) + nI M)) 87 j = w 87 j := fun j hj => by
          rw [up2_at, if_neg hj, D2 87 (by decide), f3 87 (by decide) (by decide)]; exact i4 j hj
        have qa : ∀ a, ¬ (17 ≤ a ∧ a ≤ 21) → a ≠ 85 → a ≠ 86 → a ≠ 87 → (up2 (G_18_17 u3) 87 4 (((G_18_17 u3) 87 4) + nI M)) a = w a := fun a h1 h2 h3 h4 => by
          rw [up2_ne h4, D2 a (by omega), f3 a h2 h3]; exact i5 a h1 h2 h3 h4
        generalize up2 (G_18_17 u3) 87 4 (((G_18_17 u3) 87 4) + nI M) = u4 at W4 q4 qj qa
        have eMM : mnyN (lawA op ar lt la lm lb cnt (kI 110) 99) (lawA op ar lt la lm lb cnt (kI 100) 10) V (drw (p.1 161)) = nI M := by rw [← eM2, ← hV]; rfl
        by_cases hx : x3 = 0
        · rw [if_pos hx]
          obtain ⟨C1a, C2a⟩ := ch_17 (c := c) (f := f) (m := M) W4 (fun i hi => by unfold upd; rw [if_neg (by omega)]; exact k1 i hi) hc hf (by omega)
          have e161 : (upd p.1 161 (drw (p.1 161))) (6 * c + f) = p.1 (6 * c + f) := if_neg (by omega)
          rw [e161] at C1a
          obtain ⟨H1a, H2a⟩ := hi_17 (f := f) (m := M) (mo := mo) C1a (by unfold upd; rw [if_neg (by omega), if_neg (by omega)]; exact emo2) (by omega) hf
          have eh : upd (upd p.1 161 (drw (p.1 161))) (6 * c + f) (mn9 (p.1 (6 * c + f) + nI M)) (36 + 12 * f + mo) = p.1 (36 + 12 * f + mo) := by unfold upd; rw [if_neg (by omega), if_neg (by omega)]
          rw [eh] at H1a
          have eN : hapN (lawA op ar lt la lm lb cnt (kI 110) 99) (lawA op ar lt la lm lb cnt (kI 100) 10) (lawX op ar lt lm lb cnt) (w 5) (w 4) c f p.1 = upd (upd (upd p.1 161 (drw (p.1 161))) (6 * c + f) (mn9 (p.1 (6 * c + f) + nI M))) (36 + 12 * f + mo) (mn9 (p.1 (36 + 12 * f + mo) + nI M)) := by
            unfold hapN
            rw [hV, ← eX, if_pos hx, eMM, emo2, nI_clamp (by omega)]
          refine ⟨fun _ _ => ?_, ih (f + 1) _ _ (by omega) ⟨?_, NV2, ?_, ?_, ?_⟩⟩
          · rw [C2a 17 (by decide) (by decide)]
            have : u4 17 4 = nI mo := by rw [W4.2.2.2.2.1]; unfold upd; rw [if_neg (by omega)]; exact emo2
            rw [this, ixH]
            exact inB_nI (by omega) (by decide)
          · rw [eN]; exact H1a
          · rw [H2a 87 (by decide), C2a 87 (by decide) (by decide)]; exact q4
          · intro j hj
            rw [H2a 87 (by decide), C2a 87 (by decide) (by decide)]; exact qj j hj
          · intro a h1 h2 h3 h4
            rw [H2a a (by omega), C2a a (by omega) (by omega)]; exact qa a h1 h2 h3 h4
        · rw [if_neg hx]
          have eN : hapN (lawA op ar lt la lm lb cnt (kI 110) 99) (lawA op ar lt la lm lb cnt (kI 100) 10) (lawX op ar lt lm lb cnt) (w 5) (w 4) c f p.1 = upd p.1 161 (drw (p.1 161)) := by
            unfold hapN
            rw [hV, ← eX, if_neg hx]
          refine ih (f + 1) _ _ (by omega) ⟨?_, NV2, q4, qj, qa⟩
          rw [eN]; exact W4
      by_cases hd : x2 ≤ F_18_17 u3
      · rw [if_pos hd, if_pos hd]
        rw [if_pos hd, eM2] at eM
        exact go x1 eM
      · rw [if_neg hd, if_neg hd]
        rw [if_neg hd, eM2] at eM
        exact go (x1 + kI 1) eM
/-- letHappen -/
theorem c_22_17 {X : Scr} {d c : Nat} {w u : Wd} {n : Nat → Int32} {h : Int32} (hc : c < 6) (hL : LAWC w op ar lt la lm lb cnt len) (hY : LWV op ar lt la lm lb cnt len) (hft : ∀ f, f < 6 → (F_52_3 (nI f) w = 0 ↔ ft f = false)) (hI : HI_17 w u n h) : CU X (d + 5) 22 [.ref 87, .ref 17, .int (nI c)] u (fun u2 => HI_17 w u2 (letF (hapN (lawA op ar lt la lm lb cnt (kI 110) 99) (lawA op ar lt la lm lb cnt (kI 100) 10) (lawX op ar lt lm lb cnt) (w 5) (w 4) c) (hapH (lawA op ar lt la lm lb cnt (kI 110) 99) (lawA op ar lt la lm lb cnt (kI 100) 10) (w 5) (w 4) c) ft 6 0 (n, h)).1 (letF (hapN (lawA op ar lt la lm lb cnt (kI 110) 99) (lawA op ar lt la lm lb cnt (kI 100) 10) (lawX op ar lt lm lb cnt) (w 5) (w 4) c) (hapH (lawA op ar lt la lm lb cnt (kI 110) 99) (lawA op ar lt la lm lb cnt (kI 100) 10) (w 5) (w 4) c) ft 6 0 (n, h)).2) :=
  CU.of rfl (t22_87_17_at0 (d := d + 1) u _ (l_22_17 hc hL hY hft 6 0 u (n, h) rfl hI))
/-! the reference's happens -/
def HPR (AN AD XL : (Nat → Int32) → Int32) (w : Wd) (c f : Nat) (u2 : Wd) : Prop := u2 111 = hapN AN AD XL (w 116) (w 114) c f (w 111) ∧ u2 110 36 = w 110 36 + hapH AN AD (w 116) (w 114) c f (w 111) ∧ (∀ j, j ≠ 36 → u2 110 j = w 110 j) ∧ ∀ a, a ≠ 110 → a ≠ 111 → a ≠ 129 → a ≠ 130 → u2 a = w a
theorem c_204 {X : Scr} {d c f : Nat} {w : Wd} (hc : c < 6) (hf : f < 6) (hL : LWR w op ar lt la lm lb cnt len) (hY : LWV op ar lt la lm lb cnt len) (hz : ∀ c, c < 6 → F_164_110 (nI c) w = 0 → w 111 (6 * c + f) = 0) (hN : NVn (w 111)) : CU X (d + 5) 204 [.ref 110, .int (nI c), .int (nI f)] w (HPR (lawA op ar lt la lm lb cnt (kI 110) 99) (lawA op ar lt la lm lb cnt (kI 100) 10) (lawX op ar lt lm lb cnt) w c f) := by
  obtain ⟨n1, n2, ⟨mo, hmo, emo⟩, n4, n5, n6⟩ := hN
  refine CU.of rfl (t204_110_at0 (d := d + 3) w _ _ ?_)
  have e157 : w 111 (kI 157).toNatClampNeg = nI mo := emo
  rw [e157]
  refine CU.mono (c_201 (d := d) (mo := nI mo) hc hf hz) ?_
  intro u1 g1
  obtain ⟨v1, f1⟩ := g1
  rw [← emo] at v1
  generalize hV : Vof (w 111) (w 116) (w 114) c f (w 111 157) = V at v1
  have L1 : LWR u1 op ar lt la lm lb cnt len := hL.cg2 (by rw [f1 110 (by decide)]) (fun a h1 h2 => f1 a (by omega))
  refine CI.mono (c_199 (d := d + 1) (V := V) L1 hY v1 (l := kI 110) (v := nI 99) (by decide)) ?_
  intro x2 u2 hx2
  obtain ⟨ex2, f2⟩ := hx2
  have L2 : LWR u2 op ar lt la lm lb cnt len := L1.cg f2
  refine CI.mono (c_199 (d := d + 1) (V := V) L2 hY (fun j hj => by rw [f2 130 (by decide)]; exact v1 j hj) (l := kI 100) (v := nI 10) (by decide)) ?_
  intro x3 u3 hx3
  obtain ⟨ex3, f3⟩ := hx3
  have L3 : LWR u3 op ar lt la lm lb cnt len := L2.cg f3
  refine CI.mono (c_200 (d := d + 1) (V := V) L3 hY (fun j hj => by rw [f3 130 (by decide), f2 130 (by decide)]; exact v1 j hj) (l := kI 120)) ?_
  intro x4 u4 hx4
  obtain ⟨ex4, f4⟩ := hx4
  have fa : ∀ a, a ≠ 129 → a ≠ 130 → u4 a = w a := fun a h1 h2 => by rw [f4 a h1, f3 a h1, f2 a h1, f1 a h2]
  have e111 : u4 111 = w 111 := fa 111 (by decide) (by decide)
  have e110 : u4 110 = w 110 := fa 110 (by decide) (by decide)
  intro z1 hz1 z2 hz2
  have k161 : (kI 161).toNatClampNeg = 161 := rfl
  have k157 : (kI 157).toNatClampNeg = 157 := rfl
  rw [k161, e111, drw_rem n6] at hz1
  rw [k161, up2_at, if_pos rfl] at hz2
  have ez2 : z2 = rm10 (drw (w 111 161)) := by rw [hz2, hz1]; rfl
  have c6 : (up2 u4 111 161 z1) 111 157 = nI mo := by rw [up2_at, if_neg (by decide), e111]; exact emo
  have i1 : inB (nI (6 * c + f)) 162 = true := inB_nI (by omega) (by decide)
  have i2 : inB (nI (36 + 12 * f + mo)) 162 = true := inB_nI (by omega) (by decide)
  have hM : nn (hapH (lawA op ar lt la lm lb cnt (kI 110) 99) (lawA op ar lt la lm lb cnt (kI 100) 10) (w 116) (w 114) c f (w 111)) 100 := mny_nn (by unfold lawA; exact askF_nn (by decide) _ _)
  obtain ⟨M, hM2, eM2⟩ := hM
  have eMM : mnyN (lawA op ar lt la lm lb cnt (kI 110) 99) (lawA op ar lt la lm lb cnt (kI 100) 10) V (drw (w 111 161)) = nI M := by rw [← eM2, ← hV]; rfl
  have eX : x4 = lawX op ar lt lm lb cnt V := ex4
  obtain ⟨a6, ha6, ea6⟩ := n1 (6 * c + f) (by omega)
  have n2' := n2 (12 * f + mo) (by omega)
  rw [show 36 + (12 * f + mo) = 36 + 12 * f + mo by omega] at n2'
  obtain ⟨ah, hah, eah⟩ := n2'
  rw [ixC, k161, k157, c6, ixG, nI_clamp (show 6 * c + f < 2 ^ 31 by omega), nI_clamp (show 36 + 12 * f + mo < 2 ^ 31 by omega), e110]
  have go : ∀ mm : Int32, mm = nI M → (if x4 = 0 then (inB (nI (6 * c + f)) 162 = true ∧ inB (nI (6 * c + f)) 162 = true ∧ inB (nI (36 + 12 * f + mo)) 162 = true ∧ inB (nI (36 + 12 * f + mo)) 162 = true ∧ HPR (lawA op ar lt la lm lb cnt (kI 110) 99) (lawA op ar lt la lm lb cnt (kI 100) 10) (lawX op ar lt lm lb cnt) w c f (up2 (up2 (up2 (up2 u4 111 161 z1) 110 36 ((w 110 36) + mm)) 111 (6 * c + f) (F_158 (kI 9999) (((up2 u4 111 161 z1) 111 (6 * c + f)) + mm) (up2 (up2 u4 111 161 z1) 110 36 ((w 110 36) + mm)))) 111 (36 + 12 * f + mo) (F_158 (kI 9999) (((up2 (up2 (up2 u4 111 161 z1) 110 36 ((w 110 36) + mm)) 111 (6 * c + f) (F_158 (kI 9999) (((up2 u4 111 161 z1) 111 (6 * c + f)) + mm) (up2 (up2 u4 111 161 z1) 110 36 ((w 110 36) + mm)))) 111 (36 + 12 * f + mo)) + mm) (up2 (up2 (up2 u4 111 161 z1) 110 36 ((w 110 36) + mm)) 111 (6 * c + f) (F_158 (kI 9999) (((up2 u4 111 161 z1) 111 (6 * c + f)) + mm) (up2 (up2 u4 111 161 z1) 110 36 ((w 110 36) + mm))))))) else HPR (lawA op ar lt la lm lb cnt (kI 110) 99) (lawA op ar lt la lm lb cnt (kI 100) 10) (lawX op ar lt lm lb cnt) w c f (up2 (up2 u4 111 161 z1) 110 36 ((w 110 36) + mm))) := by
    intro mm emm
    subst emm
    have fj : ∀ (s : Wd), s 110 = (up2 (up2 u4 111 161 z1) 110 36 ((w 110 36) + nI M)) 110 → s 110 36 = w 110 36 + hapH (lawA op ar lt la lm lb cnt (kI 110) 99) (lawA op ar lt la lm lb cnt (kI 100) 10) (w 116) (w 114) c f (w 111) ∧ ∀ j, j ≠ 36 → s 110 j = w 110 j := by
      intro s hs
      rw [hs]
      refine ⟨by rw [up2_at, if_pos rfl, eM2], fun j hj => ?_⟩
      rw [up2_at, if_neg hj, up2_ne (by decide), e110]
    have r1 : (up2 u4 111 161 z1) 111 (6 * c + f) = nI a6 := by rw [up2_at, if_neg (by omega), e111, ea6]
    by_cases hx : x4 = 0
    · rw [if_pos hx]
      refine ⟨i1, i1, i2, i2, ?_⟩
      rw [r1, nI_add, min158 _ _ (by omega)]
      have r2 : (up2 (up2 (up2 u4 111 161 z1) 110 36 ((w 110 36) + nI M)) 111 (6 * c + f) (mn9 (nI (a6 + M)))) 111 (36 + 12 * f + mo) = nI ah := by rw [up2_at, if_neg (by omega), up2_ne (by decide), up2_at, if_neg (by omega), e111, eah]
      rw [r2, nI_add, min158 _ _ (by omega)]
      obtain ⟨q1, q2⟩ := fj (up2 (up2 (up2 (up2 u4 111 161 z1) 110 36 ((w 110 36) + nI M)) 111 (6 * c + f) (mn9 (nI (a6 + M)))) 111 (36 + 12 * f + mo) (mn9 (nI (ah + M)))) (by rw [up2_ne (by decide), up2_ne (by decide)])
      refine ⟨?_, q1, q2, fun a h1 h2 h3 h4 => ?_⟩
      · unfold hapN
        rw [hV, ← eX, if_pos hx, eMM, emo, nI_clamp (by omega), ea6, eah, nI_add, nI_add, up2_self, up2_self, up2_ne (by decide), up2_self, e111, hz1]
      · rw [up2_ne h2, up2_ne h2, up2_ne h1, up2_ne h2]; exact fa a h3 h4
    · rw [if_neg hx]
      obtain ⟨q1, q2⟩ := fj _ rfl
      refine ⟨?_, q1, q2, fun a h1 h2 h3 h4 => ?_⟩
      · unfold hapN
        rw [hV, ← eX, if_neg hx, up2_ne (by decide), up2_self, e111, hz1]
      · rw [up2_ne h1, up2_ne h2]; exact fa a h3 h4
  have eM : (if x3 ≤ z2 then x2 else x2 + kI 1) = nI M := by
    rw [← eMM]
    unfold mnyN
    rw [ez2, ex2, ex3]
    rfl
  by_cases hd : x3 ≤ z2
  · rw [if_pos hd]
    rw [if_pos hd] at eM
    exact go x2 eM
  · rw [if_neg hd]
    rw [if_neg hd] at eM
    exact go (x2 + kI 1) eM
end MONTHS3
