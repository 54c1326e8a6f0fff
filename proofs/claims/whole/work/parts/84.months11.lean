/-! months, part 11: goBy of the class -/
section MONTHS11
variable {op ar : Nat → Nat} {lt : Nat → Int32} {la lm lb : Nat → Nat} {cnt len : Nat} {fc ft : Nat → Bool}
def CS_7 (w u : Wd) (p : ST5) : Prop := BK 7 u p.1 ∧ NVn p.1 ∧ u 87 4 = p.2.1 ∧ u 87 5 = p.2.2.2.1 ∧ u 87 6 = p.2.2.2.2 ∧ (∀ j, j ≠ 4 → j ≠ 5 → j ≠ 6 → j ≠ 9 → u 87 j = w 87 j) ∧ ∀ a, ¬ (7 ≤ a ∧ a ≤ 11) → a ≠ 85 → a ≠ 86 → a ≠ 87 → u a = w a
theorem l35_7 {X : Scr} {d : Nat} {w : Wd} {v2 v3 : Int32} {Q : Wd → Prop} (hL : LAWC w op ar lt la lm lb cnt len) (hY : LWV op ar lt la lm lb cnt len) (hfc : ∀ c, c < 6 → (F_51_3 (nI c) w = 0 ↔ fc c = false)) (hft : ∀ f, f < 6 → (F_52_3 (nI f) w = 0 ↔ ft f = false)) : ∀ (m c : Nat) (u : Wd) (q : (Nat → Int32) × Int32), c + m = 6 → HI_7 w u q.1 q.2 → (∀ u2, HI_7 w u2 (mcF (letL (lawA op ar lt la lm lb cnt (kI 110) 99) (lawA op ar lt la lm lb cnt (kI 100) 10) (lawX op ar lt lm lb cnt) (w 5) (w 4) ft) fc m c q).1 (mcF (letL (lawA op ar lt la lm lb cnt (kI 110) 99) (lawA op ar lt la lm lb cnt (kI 100) 10) (lawX op ar lt lm lb cnt) (w 5) (w 4) ft) fc m c q).2 → EU X (d + 8) 21 (35, [some (.ref 87), some (.ref 7), some (.int v2), some (.int v3), some (.int (nI 6))], [], SH, u2) Q) → EU X (d + 8) 21 (35, [some (.ref 87), some (.ref 7), some (.int v2), some (.int v3), some (.int (nI c))], [], SH, u) Q := by
  intro m
  induction m with
  | zero =>
    intro c u q h hI kk
    have hc : c = 6 := by omega
    subst hc
    exact kk u hI
  | succ m ih =>
    intro c u q h hI kk
    have hc : c < 6 := by omega
    have e3 : u 3 = w 3 := hI.2.2.2.2 3 (by omega) (by decide) (by decide) (by decide)
    unfold mcF at kk
    refine t21_87_7_at35 (d := d + 6) u _ _ _ ?_
    rw [if_neg (lt_6 c hc), f51_cg e3, k1]
    by_cases h0 : F_51_3 (nI c) w = 0
    · rw [if_pos h0]
      rw [(hfc c hc).mp h0, if_neg (show ¬ (false = true) by decide)] at kk
      exact ih (c + 1) u q (by omega) hI kk
    · have hc1 : fc c = true := by
        cases e : fc c with
        | true => rfl
        | false => exact absurd ((hfc c hc).mpr e) h0
      rw [if_neg h0]
      rw [hc1, if_pos (show (true = true) from rfl)] at kk
      exact CU.mono (c_22_7 (d := d + 3) hc hL hY hft hI) (fun u2 h2 => ih (c + 1) u2 _ (by omega) h2 kk)
theorem l17_7 {X : Scr} {d n : Nat} {w : Wd} (hn : n ≤ 60) (hL : LAWC w op ar lt la lm lb cnt len) (hY : LWV op ar lt la lm lb cnt len) (hfc : ∀ c, c < 6 → (F_51_3 (nI c) w = 0 ↔ fc c = false)) (hft : ∀ f, f < 6 → (F_52_3 (nI f) w = 0 ↔ ft f = false)) (hsd : nn (w 3 5) 9999) : ∀ (m k : Nat) (u : Wd) (p : ST5), k + m = n → CS_7 w u p → EU X (d + 8) 21 (17, [some (.ref 87), some (.ref 7), some (.int (nI n)), some (.int (nI k)), none], [], SH, u) (fun u2 => CS_7 w u2 (msF fc ft (lawA op ar lt la lm lb cnt (kI 110) 99) (lawA op ar lt la lm lb cnt (kI 100) 10) (lawX op ar lt lm lb cnt) (lawA op ar lt la lm lb cnt (kI 107) 99) (w 5) (w 4) (w 3 5) m p)) := by
  intro m
  induction m with
  | zero =>
    intro k u p h hI
    have hk : k = n := by omega
    subst hk
    refine t21_87_7_at17 (d := d + 6) u _ _ ?_
    rw [if_pos (Int32.le_refl _)]
    exact hI
  | succ m ih =>
    intro k u p h hI
    have hI0 := hI
    obtain ⟨i1, i2, i3, i4, i5, i6, i7⟩ := hI
    have e158 : u 7 5 = p.1 158 := i1.2.2.2.2.2.1
    refine t21_87_7_at17 (d := d + 6) u _ _ ?_
    rw [if_neg (nI_ge (by omega) (by omega)), e158]
    unfold msF
    by_cases hy : kI 999 ≤ p.1 158
    · rw [if_pos hy, if_pos hy]; exact hI0
    · rw [if_neg hy, if_neg hy]
      have e3 : u 3 = w 3 := i7 3 (by omega) (by decide) (by decide) (by decide)
      have e5 : u 5 = w 5 := i7 5 (by omega) (by decide) (by decide) (by decide)
      have e4 : u 4 = w 4 := i7 4 (by omega) (by decide) (by decide) (by decide)
      have Lu : LAWC u op ar lt la lm lb cnt len := hL.cg2 (fun c h1 h2 => i7 c (by omega) (by omega) (by omega) (by omega))
      have hfu : ∀ c, c < 6 → (F_51_3 (nI c) u = 0 ↔ fc c = false) := fun c hc => by rw [f51_cg e3]; exact hfc c hc
      have hgu : ∀ f, f < 6 → (F_52_3 (nI f) u = 0 ↔ ft f = false) := fun f hf => by rw [f52_cg e3]; exact hft f hf
      have h158 := (mcF_158 (fc := fc) (ft := ft) (AN := (lawA op ar lt la lm lb cnt (kI 110) 99)) (AD := (lawA op ar lt la lm lb cnt (kI 100) 10)) (XL := (lawX op ar lt lm lb cnt)) (T := w 5) (Pp := w 4) (fun V => by unfold lawA; exact askF_nn (by decide) _ _) 6 0 (p.1, p.2.1) rfl i2).2
      refine l35_7 (d := d) Lu hY hfu hgu 6 0 u (p.1, p.2.1) rfl ⟨i1, i2, i3, fun _ _ => rfl, fun _ _ _ _ _ => rfl⟩ ?_
      intro ua hA
      rw [e5, e4] at hA
      have nxt : ∀ u2, CS_7 w u2 (mnF fc ft (lawA op ar lt la lm lb cnt (kI 110) 99) (lawA op ar lt la lm lb cnt (kI 100) 10) (lawX op ar lt lm lb cnt) (lawA op ar lt la lm lb cnt (kI 107) 99) (w 5) (w 4) (w 3 5) p) → EU X (d + 6 + 2) 21 (17, [some (.ref 87), some (.ref 7), some (.int (nI n)), some (.int (nI (k + 1))), none], [], SH, u2) (fun u2 => CS_7 w u2 (msF fc ft (lawA op ar lt la lm lb cnt (kI 110) 99) (lawA op ar lt la lm lb cnt (kI 100) 10) (lawX op ar lt lm lb cnt) (lawA op ar lt la lm lb cnt (kI 107) 99) (w 5) (w 4) (w 3 5) m (mnF fc ft (lawA op ar lt la lm lb cnt (kI 110) 99) (lawA op ar lt la lm lb cnt (kI 100) 10) (lawX op ar lt lm lb cnt) (lawA op ar lt la lm lb cnt (kI 107) 99) (w 5) (w 4) (w 3 5) p))) := fun u2 h2 => ih (k + 1) u2 _ (by omega) h2
      generalize msF fc ft (lawA op ar lt la lm lb cnt (kI 110) 99) (lawA op ar lt la lm lb cnt (kI 100) 10) (lawX op ar lt lm lb cnt) (lawA op ar lt la lm lb cnt (kI 107) 99) (w 5) (w 4) (w 3 5) m (mnF fc ft (lawA op ar lt la lm lb cnt (kI 110) 99) (lawA op ar lt la lm lb cnt (kI 100) 10) (lawX op ar lt lm lb cnt) (lawA op ar lt la lm lb cnt (kI 107) 99) (w 5) (w 4) (w 3 5) p) = RR at nxt ⊢
      unfold mnF at nxt
      generalize mcF (letL (lawA op ar lt la lm lb cnt (kI 110) 99) (lawA op ar lt la lm lb cnt (kI 100) 10) (lawX op ar lt lm lb cnt) (w 5) (w 4) ft) fc 6 0 (p.1, p.2.1) = q at hA h158 nxt
      obtain ⟨a1, a2, a3, a4, a5⟩ := hA
      obtain ⟨mo, hmo, emo⟩ := a2.2.2.1
      have em : ua 7 4 = nI mo := by rw [a1.2.2.2.2.1]; exact emo
      refine t21_87_7_at35 (d := d + 6) ua _ _ _ ?_
      rw [if_pos (by decide), em, k1, k1]
      unfold mnE at nxt
      by_cases hm : mo = 11
      · rw [if_pos (show kI 11 ≤ nI mo by rw [hm]; decide)]
        rw [if_pos (show q.1 157 = kI 11 by rw [emo, hm]; rfl)] at nxt
        have f3 : ua 3 = u 3 := a5 3 (by omega) (by decide) (by decide) (by decide)
        have La : LAWC ua op ar lt la lm lb cnt len := Lu.cg2 (fun c h1 h2 => a5 c (by omega) (by omega) (by omega) (by omega))
        have hfa : ∀ c, c < 6 → (F_51_3 (nI c) ua = 0 ↔ fc c = false) := fun c hc => by rw [f51_cg f3]; exact hfu c hc
        have hga : ∀ f, f < 6 → (F_52_3 (nI f) ua = 0 ↔ ft f = false) := fun f hf => by rw [f52_cg f3]; exact hgu f hf
        refine CU.mono (c_23_7 (d := d + 1) (fc := fc) (ft := ft) (p := (q.1, p.2.2.2.1, p.2.2.2.2)) La hY hfa hga ⟨a1, a2, by rw [a4 5 (by decide)]; exact i4, by rw [a4 6 (by decide)]; exact i5, fun _ _ _ _ => rfl, fun _ _ _ _ _ => rfl⟩) ?_
        intro ub hB
        rw [a5 5 (by omega) (by decide) (by decide) (by decide), a5 4 (by omega) (by decide) (by decide) (by decide), e5, e4] at hB
        have s158 : (stA fc ft (lawA op ar lt la lm lb cnt (kI 107) 99) (w 5) (w 4) 6 0 (q.1, p.2.2.2.1, p.2.2.2.2)).1 158 = p.1 158 := by rw [stA_158 6 0 _ rfl]; exact h158
        generalize stA fc ft (lawA op ar lt la lm lb cnt (kI 107) 99) (w 5) (w 4) 6 0 (q.1, p.2.2.2.1, p.2.2.2.2) = S at hB s158 nxt
        obtain ⟨b1, b2, b3, b4, b5, b6⟩ := hB
        have g3 : ub 3 = w 3 := by rw [b6 3 (by omega) (by decide) (by decide) (by decide), f3, e3]
        have g5 : ub 5 = w 5 := by rw [b6 5 (by omega) (by decide) (by decide) (by decide), a5 5 (by omega) (by decide) (by decide) (by decide), e5]
        refine CU.mono (c_19_7 (d := d + 5) (ft := ft) b1 (fun f hf => by rw [f52_cg g3]; exact hft f hf)) ?_
        intro uc hC
        rw [g5, g3] at hC
        obtain ⟨c1, c2⟩ := hC
        have c87 : uc 87 = ub 87 := c2 87 (by omega)
        refine nxt uc ⟨c1, b2.ye hsd (by rw [s158]; exact y998 i2.2.2.2.1 hy), ?_, ?_, ?_, fun j h4 h5 h6 h9 => ?_, fun a h1 h2 h3 h4 => ?_⟩
        · rw [c87, b5 4 (by decide) (by decide) (by decide)]; exact a3
        · rw [c87]; exact b3
        · rw [c87]; exact b4
        · rw [c87, b5 j h5 h6 h9, a4 j h4]; exact i6 j h4 h5 h6 h9
        · rw [c2 a h1, b6 a h1 h2 h3 h4, a5 a h1 h2 h3 h4]; exact i7 a h1 h2 h3 h4
      · rw [if_neg (show ¬ kI 11 ≤ nI mo from nI_ge (b := 11) (by omega) (by decide))]
        have hm2 : ¬ q.1 157 = kI 11 := fun e => hm (nI_inj (by omega) (by decide) (by rw [← emo]; exact e))
        rw [if_neg hm2] at nxt
        refine nxt _ ⟨?_, a2.mo hm2, ?_, ?_, ?_, fun j h4 h5 h6 h9 => ?_, fun a h1 h2 h3 h4 => ?_⟩
        · obtain ⟨b1, b2, b3, b4, b5, b6, b7, b8, b9⟩ := a1
          have up : ∀ j, j ≠ 157 → ∀ v, upd q.1 157 v j = q.1 j := fun j hj v => if_neg hj
          refine ⟨fun i hi => ?_, fun g hg => ?_, fun i hi => ?_, fun g kk hg hk => ?_, ?_, ?_, ?_, ?_, ?_⟩
          · show _ = upd q.1 157 (q.1 157 + kI 1) i
            rw [up _ (by omega), up2_ne (by decide)]; exact b1 i hi
          · show _ = sum6 (upd q.1 157 (q.1 157 + kI 1)) g
            rw [sum6_ne (fun c2 hc2 => by omega), up2_ne (by decide)]; exact b2 g hg
          · show _ = upd q.1 157 (q.1 157 + kI 1) (36 + i)
            rw [up _ (by omega), up2_ne (by decide)]; exact b3 i hi
          · show _ = upd q.1 157 (q.1 157 + kI 1) (108 + 8 * g + kk)
            rw [up _ (by omega), up2_ne (by decide)]; exact b4 g kk hg hk
          · show _ = upd q.1 157 (q.1 157 + kI 1) 157
            rw [up2_at, if_pos rfl, emo, k1]
            rfl
          · show _ = upd q.1 157 (q.1 157 + kI 1) 158
            rw [up _ (by omega), up2_at, if_neg (by decide)]; exact b6
          · show _ = upd q.1 157 (q.1 157 + kI 1) 159
            rw [up _ (by omega), up2_at, if_neg (by decide)]; exact b7
          · show _ = upd q.1 157 (q.1 157 + kI 1) 160
            rw [up _ (by omega), up2_at, if_neg (by decide)]; exact b8
          · show _ = upd q.1 157 (q.1 157 + kI 1) 161
            rw [up _ (by omega), up2_at, if_neg (by decide)]; exact b9
        · rw [up2_ne (by decide)]; exact a3
        · rw [up2_ne (by decide), a4 5 (by decide)]; exact i4
        · rw [up2_ne (by decide), a4 6 (by decide)]; exact i5
        · rw [up2_ne (by decide), a4 j h4]; exact i6 j h4 h5 h6 h9
        · rw [up2_ne (by omega), a5 a h1 h2 h3 h4]; exact i7 a h1 h2 h3 h4
/-- goBy -/
theorem c_21_7 {X : Scr} {d n : Nat} {w : Wd} {nn0 : Nat → Int32} (hn : n ≤ 60) (hL : LAWC w op ar lt la lm lb cnt len) (hY : LWV op ar lt la lm lb cnt len) (hfc : ∀ c, c < 6 → (F_51_3 (nI c) w = 0 ↔ fc c = false)) (hft : ∀ f, f < 6 → (F_52_3 (nI f) w = 0 ↔ ft f = false)) (hsd : nn (w 3 5) 9999) (hB : BK 7 w nn0) (hN : NVn nn0) : CU X (d + 9) 21 [.ref 87, .ref 7, .int (nI n)] w (fun u2 => CS_7 w u2 (msF fc ft (lawA op ar lt la lm lb cnt (kI 110) 99) (lawA op ar lt la lm lb cnt (kI 100) 10) (lawX op ar lt lm lb cnt) (lawA op ar lt la lm lb cnt (kI 107) 99) (w 5) (w 4) (w 3 5) n (nn0, kI 0, kI 0, kI 0, kI 0))) := by
  refine CU.of rfl (t21_87_7_at0 (d := d + 6) w _ ?_)
  refine l17_7 hn hL hY hfc hft hsd n 0 _ (nn0, kI 0, kI 0, kI 0, kI 0) (Nat.zero_add _) ⟨?_, hN, rfl, rfl, rfl, fun j h4 h5 h6 h9 => ?_, fun a h1 h2 h3 h4 => ?_⟩
  · exact hB.congr (by rw [up2_ne (by decide), up2_ne (by decide), up2_ne (by decide)]) (by rw [up2_ne (by decide), up2_ne (by decide), up2_ne (by decide)]) (by rw [up2_ne (by decide), up2_ne (by decide), up2_ne (by decide)]) (by rw [up2_ne (by decide), up2_ne (by decide), up2_ne (by decide)]) (by rw [up2_ne (by decide), up2_ne (by decide), up2_ne (by decide)])
  · rw [up2_at, if_neg h6, up2_at, if_neg h5, up2_at, if_neg h4]
  · rw [up2_ne h4, up2_ne h4, up2_ne h4]
def CS_17 (w u : Wd) (p : ST5) : Prop := BK 17 u p.1 ∧ NVn p.1 ∧ u 87 4 = p.2.1 ∧ u 87 5 = p.2.2.2.1 ∧ u 87 6 = p.2.2.2.2 ∧ (∀ j, j ≠ 4 → j ≠ 5 → j ≠ 6 → j ≠ 9 → u 87 j = w 87 j) ∧ ∀ a, ¬ (17 ≤ a ∧ a ≤ 21) → a ≠ 85 → a ≠ 86 → a ≠ 87 → u a = w a
theorem l35_17 {X : Scr} {d : Nat} {w : Wd} {v2 v3 : Int32} {Q : Wd → Prop} (hL : LAWC w op ar lt la lm lb cnt len) (hY : LWV op ar lt la lm lb cnt len) (hfc : ∀ c, c < 6 → (F_51_3 (nI c) w = 0 ↔ fc c = false)) (hft : ∀ f, f < 6 → (F_52_3 (nI f) w = 0 ↔ ft f = false)) : ∀ (m c : Nat) (u : Wd) (q : (Nat → Int32) × Int32), c + m = 6 → HI_17 w u q.1 q.2 → (∀ u2, HI_17 w u2 (mcF (letL (lawA op ar lt la lm lb cnt (kI 110) 99) (lawA op ar lt la lm lb cnt (kI 100) 10) (lawX op ar lt lm lb cnt) (w 5) (w 4) ft) fc m c q).1 (mcF (letL (lawA op ar lt la lm lb cnt (kI 110) 99) (lawA op ar lt la lm lb cnt (kI 100) 10) (lawX op ar lt lm lb cnt) (w 5) (w 4) ft) fc m c q).2 → EU X (d + 8) 21 (35, [some (.ref 87), some (.ref 17), some (.int v2), some (.int v3), some (.int (nI 6))], [], SH, u2) Q) → EU X (d + 8) 21 (35, [some (.ref 87), some (.ref 17), some (.int v2), some (.int v3), some (.int (nI c))], [], SH, u) Q := by
  intro m
  induction m with
  | zero =>
    intro c u q h hI kk
    have hc : c = 6 := by omega
    subst hc
    exact kk u hI
  | succ m ih =>
    intro c u q h hI kk
    have hc : c < 6 := by omega
    have e3 : u 3 = w 3 := hI.2.2.2.2 3 (by omega) (by decide) (by decide) (by decide)
    unfold mcF at kk
    refine t21_87_17_at35 (d := d + 6) u _ _ _ ?_
    rw [if_neg (lt_6 c hc), f51_cg e3, k1]
    by_cases h0 : F_51_3 (nI c) w = 0
    · rw [if_pos h0]
      rw [(hfc c hc).mp h0, if_neg (show ¬ (false = true) by decide)] at kk
      exact ih (c + 1) u q (by omega) hI kk
    · have hc1 : fc c = true := by
        cases e : fc c with
        | true => rfl
        | false => exact absurd ((hfc c hc).mpr e) h0
      rw [if_neg h0]
      rw [hc1, if_pos (show (true = true) from rfl)] at kk
      exact CU.mono (c_22_17 (d := d + 3) hc hL hY hft hI) (fun u2 h2 => ih (c + 1) u2 _ (by omega) h2 kk)
theorem l17_17 {X : Scr} {d n : Nat} {w : Wd} (hn : n ≤ 60) (hL : LAWC w op ar lt la lm lb cnt len) (hY : LWV op ar lt la lm lb cnt len) (hfc : ∀ c, c < 6 → (F_51_3 (nI c) w = 0 ↔ fc c = false)) (hft : ∀ f, f < 6 → (F_52_3 (nI f) w = 0 ↔ ft f = false)) (hsd : nn (w 3 5) 9999) : ∀ (m k : Nat) (u : Wd) (p : ST5), k + m = n → CS_17 w u p → EU X (d + 8) 21 (17, [some (.ref 87), some (.ref 17), some (.int (nI n)), some (.int (nI k)), none], [], SH, u) (fun u2 => CS_17 w u2 (msF fc ft (lawA op ar lt la lm lb cnt (kI 110) 99) (lawA op ar lt la lm lb cnt (kI 100) 10) (lawX op ar lt lm lb cnt) (lawA op ar lt la lm lb cnt (kI 107) 99) (w 5) (w 4) (w 3 5) m p)) := by
  intro m
  induction m with
  | zero =>
    intro k u p h hI
    have hk : k = n := by omega
    subst hk
    refine t21_87_17_at17 (d := d + 6) u _ _ ?_
    rw [if_pos (Int32.le_refl _)]
    exact hI
  | succ m ih =>
    intro k u p h hI
    have hI0 := hI
    obtain ⟨i1, i2, i3, i4, i5, i6, i7⟩ := hI
    have e158 : u 17 5 = p.1 158 := i1.2.2.2.2.2.1
    refine t21_87_17_at17 (d := d + 6) u _ _ ?_
    rw [if_neg (nI_ge (by omega) (by omega)), e158]
    unfold msF
    by_cases hy : kI 999 ≤ p.1 158
    · rw [if_pos hy, if_pos hy]; exact hI0
    · rw [if_neg hy, if_neg hy]
      have e3 : u 3 = w 3 := i7 3 (by omega) (by decide) (by decide) (by decide)
      have e5 : u 5 = w 5 := i7 5 (by omega) (by decide) (by decide) (by decide)
      have e4 : u 4 = w 4 := i7 4 (by omega) (by decide) (by decide) (by decide)
      have Lu : LAWC u op ar lt la lm lb cnt len := hL.cg2 (fun c h1 h2 => i7 c (by omega) (by omega) (by omega) (by omega))
      have hfu : ∀ c, c < 6 → (F_51_3 (nI c) u = 0 ↔ fc c = false) := fun c hc => by rw [f51_cg e3]; exact hfc c hc
      have hgu : ∀ f, f < 6 → (F_52_3 (nI f) u = 0 ↔ ft f = false) := fun f hf => by rw [f52_cg e3]; exact hft f hf
      have h158 := (mcF_158 (fc := fc) (ft := ft) (AN := (lawA op ar lt la lm lb cnt (kI 110) 99)) (AD := (lawA op ar lt la lm lb cnt (kI 100) 10)) (XL := (lawX op ar lt lm lb cnt)) (T := w 5) (Pp := w 4) (fun V => by unfold lawA; exact askF_nn (by decide) _ _) 6 0 (p.1, p.2.1) rfl i2).2
      refine l35_17 (d := d) Lu hY hfu hgu 6 0 u (p.1, p.2.1) rfl ⟨i1, i2, i3, fun _ _ => rfl, fun _ _ _ _ _ => rfl⟩ ?_
      intro ua hA
      rw [e5, e4] at hA
      have nxt : ∀ u2, CS_17 w u2 (mnF fc ft (lawA op ar lt la lm lb cnt (kI 110) 99) (lawA op ar lt la lm lb cnt (kI 100) 10) (lawX op ar lt lm lb cnt) (lawA op ar lt la lm lb cnt (kI 107) 99) (w 5) (w 4) (w 3 5) p) → EU X (d + 6 + 2) 21 (17, [some (.ref 87), some (.ref 17), some (.int (nI n)), some (.int (nI (k + 1))), none], [], SH, u2) (fun u2 => CS_17 w u2 (msF fc ft (lawA op ar lt la lm lb cnt (kI 110) 99) (lawA op ar lt la lm lb cnt (kI 100) 10) (lawX op ar lt lm lb cnt) (lawA op ar lt la lm lb cnt (kI 107) 99) (w 5) (w 4) (w 3 5) m (mnF fc ft (lawA op ar lt la lm lb cnt (kI 110) 99) (lawA op ar lt la lm lb cnt (kI 100) 10) (lawX op ar lt lm lb cnt) (lawA op ar lt la lm lb cnt (kI 107) 99) (w 5) (w 4) (w 3 5) p))) := fun u2 h2 => ih (k + 1) u2 _ (by omega) h2
      generalize msF fc ft (lawA op ar lt la lm lb cnt (kI 110) 99) (lawA op ar lt la lm lb cnt (kI 100) 10) (lawX op ar lt lm lb cnt) (lawA op ar lt la lm lb cnt (kI 107) 99) (w 5) (w 4) (w 3 5) m (mnF fc ft (lawA op ar lt la lm lb cnt (kI 110) 99) (lawA op ar lt la lm lb cnt (kI 100) 10) (lawX op ar lt lm lb cnt) (lawA op ar lt la lm lb cnt (kI 107) 99) (w 5) (w 4) (w 3 5) p) = RR at nxt ⊢
      unfold mnF at nxt
      generalize mcF (letL (lawA op ar lt la lm lb cnt (kI 110) 99) (lawA op ar lt la lm lb cnt (kI 100) 10) (lawX op ar lt lm lb cnt) (w 5) (w 4) ft) fc 6 0 (p.1, p.2.1) = q at hA h158 nxt
      obtain ⟨a1, a2, a3, a4, a5⟩ := hA
      obtain ⟨mo, hmo, emo⟩ := a2.2.2.1
      have em : ua 17 4 = nI mo := by rw [a1.2.2.2.2.1]; exact emo
      refine t21_87_17_at35 (d := d + 6) ua _ _ _ ?_
      rw [if_pos (by decide), em, k1, k1]
      unfold mnE at nxt
      by_cases hm : mo = 11
      · rw [if_pos (show kI 11 ≤ nI mo by rw [hm]; decide)]
        rw [if_pos (show q.1 157 = kI 11 by rw [emo, hm]; rfl)] at nxt
        have f3 : ua 3 = u 3 := a5 3 (by omega) (by decide) (by decide) (by decide)
        have La : LAWC ua op ar lt la lm lb cnt len := Lu.cg2 (fun c h1 h2 => a5 c (by omega) (by omega) (by omega) (by omega))
        have hfa : ∀ c, c < 6 → (F_51_3 (nI c) ua = 0 ↔ fc c = false) := fun c hc => by rw [f51_cg f3]; exact hfu c hc
        have hga : ∀ f, f < 6 → (F_52_3 (nI f) ua = 0 ↔ ft f = false) := fun f hf => by rw [f52_cg f3]; exact hgu f hf
        refine CU.mono (c_23_17 (d := d + 1) (fc := fc) (ft := ft) (p := (q.1, p.2.2.2.1, p.2.2.2.2)) La hY hfa hga ⟨a1, a2, by rw [a4 5 (by decide)]; exact i4, by rw [a4 6 (by decide)]; exact i5, fun _ _ _ _ => rfl, fun _ _ _ _ _ => rfl⟩) ?_
        intro ub hB
        rw [a5 5 (by omega) (by decide) (by decide) (by decide), a5 4 (by omega) (by decide) (by decide) (by decide), e5, e4] at hB
        have s158 : (stA fc ft (lawA op ar lt la lm lb cnt (kI 107) 99) (w 5) (w 4) 6 0 (q.1, p.2.2.2.1, p.2.2.2.2)).1 158 = p.1 158 := by rw [stA_158 6 0 _ rfl]; exact h158
        generalize stA fc ft (lawA op ar lt la lm lb cnt (kI 107) 99) (w 5) (w 4) 6 0 (q.1, p.2.2.2.1, p.2.2.2.2) = S at hB s158 nxt
        obtain ⟨b1, b2, b3, b4, b5, b6⟩ := hB
        have g3 : ub 3 = w 3 := by rw [b6 3 (by omega) (by decide) (by decide) (by decide), f3, e3]
        have g5 : ub 5 = w 5 := by rw [b6 5 (by omega) (by decide) (by decide) (by decide), a5 5 (by omega) (by decide) (by decide) (by decide), e5]
        refine CU.mono (c_19_17 (d := d + 5) (ft := ft) b1 (fun f hf => by rw [f52_cg g3]; exact hft f hf)) ?_
        intro uc hC
        rw [g5, g3] at hC
        obtain ⟨c1, c2⟩ := hC
        have c87 : uc 87 = ub 87 := c2 87 (by omega)
        refine nxt uc ⟨c1, b2.ye hsd (by rw [s158]; exact y998 i2.2.2.2.1 hy), ?_, ?_, ?_, fun j h4 h5 h6 h9 => ?_, fun a h1 h2 h3 h4 => ?_⟩
        · rw [c87, b5 4 (by decide) (by decide) (by decide)]; exact a3
        · rw [c87]; exact b3
        · rw [c87]; exact b4
        · rw [c87, b5 j h5 h6 h9, a4 j h4]; exact i6 j h4 h5 h6 h9
        · rw [c2 a h1, b6 a h1 h2 h3 h4, a5 a h1 h2 h3 h4]; exact i7 a h1 h2 h3 h4
      · rw [if_neg (show ¬ kI 11 ≤ nI mo from nI_ge (b := 11) (by omega) (by decide))]
        have hm2 : ¬ q.1 157 = kI 11 := fun e => hm (nI_inj (by omega) (by decide) (by rw [← emo]; exact e))
        rw [if_neg hm2] at nxt
        refine nxt _ ⟨?_, a2.mo hm2, ?_, ?_, ?_, fun j h4 h5 h6 h9 => ?_, fun a h1 h2 h3 h4 => ?_⟩
        · obtain ⟨b1, b2, b3, b4, b5, b6, b7, b8, b9⟩ := a1
          have up : ∀ j, j ≠ 157 → ∀ v, upd q.1 157 v j = q.1 j := fun j hj v => if_neg hj
          refine ⟨fun i hi => ?_, fun g hg => ?_, fun i hi => ?_, fun g kk hg hk => ?_, ?_, ?_, ?_, ?_, ?_⟩
          · show _ = upd q.1 157 (q.1 157 + kI 1) i
            rw [up _ (by omega), up2_ne (by decide)]; exact b1 i hi
          · show _ = sum6 (upd q.1 157 (q.1 157 + kI 1)) g
            rw [sum6_ne (fun c2 hc2 => by omega), up2_ne (by decide)]; exact b2 g hg
          · show _ = upd q.1 157 (q.1 157 + kI 1) (36 + i)
            rw [up _ (by omega), up2_ne (by decide)]; exact b3 i hi
          · show _ = upd q.1 157 (q.1 157 + kI 1) (108 + 8 * g + kk)
            rw [up _ (by omega), up2_ne (by decide)]; exact b4 g kk hg hk
          · show _ = upd q.1 157 (q.1 157 + kI 1) 157
            rw [up2_at, if_pos rfl, emo, k1]
            rfl
          · show _ = upd q.1 157 (q.1 157 + kI 1) 158
            rw [up _ (by omega), up2_at, if_neg (by decide)]; exact b6
          · show _ = upd q.1 157 (q.1 157 + kI 1) 159
            rw [up _ (by omega), up2_at, if_neg (by decide)]; exact b7
          · show _ = upd q.1 157 (q.1 157 + kI 1) 160
            rw [up _ (by omega), up2_at, if_neg (by decide)]; exact b8
          · show _ = upd q.1 157 (q.1 157 + kI 1) 161
            rw [up _ (by omega), up2_at, if_neg (by decide)]; exact b9
        · rw [up2_ne (by decide)]; exact a3
        · rw [up2_ne (by decide), a4 5 (by decide)]; exact i4
        · rw [up2_ne (by decide), a4 6 (by decide)]; exact i5
        · rw [up2_ne (by decide), a4 j h4]; exact i6 j h4 h5 h6 h9
        · rw [up2_ne (by omega), a5 a h1 h2 h3 h4]; exact i7 a h1 h2 h3 h4
/-- goBy -/
theorem c_21_17 {X : Scr} {d n : Nat} {w : Wd} {nn0 : Nat → Int32} (hn : n ≤ 60) (hL : LAWC w op ar lt la lm lb cnt len) (hY : LWV op ar lt la lm lb cnt len) (hfc : ∀ c, c < 6 → (F_51_3 (nI c) w = 0 ↔ fc c = false)) (hft : ∀ f, f < 6 → (F_52_3 (nI f) w = 0 ↔ ft f = false)) (hsd : nn (w 3 5) 9999) (hB : BK 17 w nn0) (hN : NVn nn0) : CU X (d + 9) 21 [.ref 87, .ref 17, .int (nI n)] w (fun u2 => CS_17 w u2 (msF fc ft (lawA op ar lt la lm lb cnt (kI 110) 99) (lawA op ar lt la lm lb cnt (kI 100) 10) (lawX op ar lt lm lb cnt) (lawA op ar lt la lm lb cnt (kI 107) 99) (w 5) (w 4) (w 3 5) n (nn0, kI 0, kI 0, kI 0, kI 0))) := by
  refine CU.of rfl (t21_87_17_at0 (d := d + 6) w _ ?_)
  refine l17_17 hn hL hY hfc hft hsd n 0 _ (nn0, kI 0, kI 0, kI 0, kI 0) (Nat.zero_add _) ⟨?_, hN, rfl, rfl, rfl, fun j h4 h5 h6 h9 => ?_, fun a h1 h2 h3 h4 => ?_⟩
  · exact hB.congr (by rw [up2_ne (by decide), up2_ne (by decide), up2_ne (by decide)]) (by rw [up2_ne (by decide), up2_ne (by decide), up2_ne (by decide)]) (by rw [up2_ne (by decide), up2_ne (by decide), up2_ne (by decide)]) (by rw [up2_ne (by decide), up2_ne (by decide), up2_ne (by decide)]) (by rw [up2_ne (by decide), up2_ne (by decide), up2_ne (by decide)])
  · rw [up2_at, if_neg h6, up2_at, if_neg h5, up2_at, if_neg h4]
  · rw [up2_ne h4, up2_ne h4, up2_ne h4]
end MONTHS11
