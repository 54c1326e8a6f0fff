/-! tried: the two calls -/
section TRIEDJ
theorem in_10 {q : Int32} {w : Wd} : F_153 q (kI 10) (kI 15) w = 0 ↔ F_153 (q - kI 10) (kI 0) (kI 5) w = 0 := by
  constructor
  · intro e
    refine Classical.byContradiction fun hn => ?_
    obtain ⟨m, -, hm, e2⟩ := within_z (a := 0) (b := 5) (by decide) (by decide) hn
    have e3 : q = nI (m + 10) := by
      have := congrArg (· + kI 10) e2
      simp only [Int32.sub_add_cancel] at this
      rw [this]
      exact nI_add m 10
    have := within_nI (n := m + 10) (a := 10) (b := 15) (w := w) (by omega) (by decide) (by decide)
    rw [if_pos (by omega)] at this
    rw [e3, show F_153 (nI (m + 10)) (kI 10) (kI 15) w = 1 from this] at e
    exact absurd e (by decide)
  · intro e
    refine Classical.byContradiction fun hn => ?_
    obtain ⟨m, hm1, hm2, rfl⟩ := within_z (a := 10) (b := 15) (by decide) (by decide) hn
    rw [show nI m - kI 10 = nI (m - 10) from pk_sub (b := 10) hm1] at e
    exact in5 (by omega) e
theorem J_tried {X : Scr} {w : Wd} (h : II w) (p q : Int32) : JJ X 125 213 [.int p, .int q] w := by
  have h0 := h
  obtain ⟨hO, hB, hK, hT, hL, hD, hR⟩ := h
  obtain ⟨o1, o2, o3, o4, o5, o6, o7⟩ := hO
  obtain ⟨fc, f1, f2⟩ := told_fc o1
  obtain ⟨ft, g1, g2⟩ := told_ft o2
  obtain ⟨op, ar, lt, la, lm, lb, cnt, len, LC, LR, LV⟩ := law_of hL
  obtain ⟨v1, v2⟩ := hB.2.split f1
  obtain ⟨t1, t2⟩ := to_17_7 hB.1
  unfold JJ
  refine CI.of (d := 59) rfl (t125_0_at0 (d := 57) w p q ?_)
  have t : ∀ (u : Wd) (Q : Int32 → Wd → Prop), _ → CI X 60 213 [.ref 110, .int p, .int q] u Q := fun u Q H => CI.of (d := 59) rfl (t213_110_at0 (d := 57) u p q H)
  by_cases h1 : F_153 p (kI 1) (kI 60) w = 0
  · rw [if_pos h1]
    refine t w _ ?_
    rw [if_pos (show F_157 p (kI 1) (kI 60) w = 0 from h1)]
    exact ⟨rfl, h0⟩
  rw [if_neg h1]
  obtain ⟨n, -, hn, rfl⟩ := within_z (a := 1) (b := 60) (by decide) (by decide) h1
  have run : ∀ (QQ : Wd → Prop), (∀ (ua : Wd) (R : ST5), BK 17 ua R.1 → ua 87 4 = R.2.1 → ua 87 5 = R.2.2.2.1 → ua 87 6 = R.2.2.2.2 → ua 7 7 = w 111 160 → R.1 160 = R.2.2.1 + w 111 160 → (∀ a, 110 ≤ a → ua a = w a) → ua 3 = w 3 → CU X 59 211 [.ref 110, .int (nI n)] (cpA ua 111 112 162) (fun uc => uc 111 = R.1 ∧ ZR fc R.1 ∧ uc 110 36 = R.2.1 ∧ uc 110 37 = R.2.2.1 ∧ uc 110 38 = R.2.2.2.1 ∧ uc 110 39 = R.2.2.2.2 ∧ (∀ j, j ≠ 36 → j ≠ 37 → j ≠ 38 → j ≠ 39 → j ≠ 40 → uc 110 j = w 110 j) ∧ (∀ z : Wd, (∀ a, a ≠ 111 → z a = uc a) → (∀ i, i < 162 → z 111 i = uc 112 i) → II z)) → QQ ua) → CU X 59 21 [.ref 87, .ref 17, .int (nI n)] (G_10_17_7 w) QQ := by
    intro QQ kk
    have LC1 : LAWC (G_10_17_7 w) op ar lt la lm lb cnt len := LC.cg2 (fun c h1 h2 => t2 c (by omega))
    have e3 : G_10_17_7 w 3 = w 3 := t2 3 (by omega)
    refine CU.mono (c_21_17 (d := 50) (fc := fc) (ft := ft) hn LC1 LV (fun c hc => by rw [f51_cg e3]; exact f1 c hc) (fun c hc => by rw [f52_cg e3]; exact g1 c hc) (by rw [e3]; exact o6) t1 v1) ?_
    intro ua hA
    rw [e3, t2 5 (by omega), t2 4 (by omega)] at hA
    have c160 := ms_160 (fc := fc) (ft := ft) (AN := lawA op ar lt la lm lb cnt (kI 110) 99) (AD := lawA op ar lt la lm lb cnt (kI 100) 10) (XL := lawX op ar lt lm lb cnt) (AK := lawA op ar lt la lm lb cnt (kI 107) 99) (T := w 5) (Pp := w 4) (sd := w 3 5) (k := w 111 160) (fun V => by unfold lawA; exact askF_nn (by decide) _ _) (fun V => by unfold lawA; exact askF_nn (by decide) _ _) o6 n (w 111, kI 0, kI 0, kI 0, kI 0) v1 (zadd _).symm
    have frw : ∀ a, ¬ (17 ≤ a ∧ a ≤ 21) → a ≠ 85 → a ≠ 86 → a ≠ 87 → ua a = w a := fun a h1 h2 h3 h4 => by rw [hA.2.2.2.2.2.2 a h1 h2 h3 h4, t2 a h1]
    have fr : ∀ a, 110 ≤ a → ua a = w a := fun a ha => frw a (by omega) (by omega) (by omega) (by omega)
    have hC : ∀ a, a ≠ 112 → cpA ua 111 112 162 a = ua a := fun a ha => cpA_ne ha
    have LR1 : LWR (cpA ua 111 112 162) op ar lt la lm lb cnt len := LR.cg2 (by rw [hC 110 (by decide), fr 110 (by decide)]) (fun a h1 h2 => by rw [hC a (by omega), fr a (by omega)])
    have r := c_211 (X := X) (d := 49) (n := n) (fc := fc) (ft := ft) hn LR1 LV (fun c hc => by rw [c164 (w := w) (by rw [hC 110 (by decide), fr 110 (by decide)])]; exact f2 c hc) (fun f hf => by rw [c165 (w := w) (by rw [hC 110 (by decide), fr 110 (by decide)])]; exact g2 f hf) (by rw [hC 110 (by decide), fr 110 (by decide), o3]; exact o6) (by rw [hC 111 (by decide), fr 111 (by decide)]; exact v1) (by rw [hC 111 (by decide), fr 111 (by decide)]; exact v2)
    rw [hC 111 (by decide), fr 111 (by decide), hC 116 (by decide), fr 116 (by decide), hC 114 (by decide), fr 114 (by decide), hC 110 (by decide), fr 110 (by decide), o3, msF_cg (T := w 5) (Pp := w 4) (fun f hf => (o7 f hf).2.1) (fun c hc => (o7 c hc).1)] at r
    generalize msF fc ft (lawA op ar lt la lm lb cnt (kI 110) 99) (lawA op ar lt la lm lb cnt (kI 100) 10) (lawX op ar lt lm lb cnt) (lawA op ar lt la lm lb cnt (kI 107) 99) (w 5) (w 4) (w 3 5) n (w 111, kI 0, kI 0, kI 0, kI 0) = R at hA r c160
    obtain ⟨a1, a2, a3, a4, a5, a6, a7⟩ := hA
    refine kk ua R a1 a3 a4 a5 (by rw [frw 7 (by omega) (by decide) (by decide) (by decide)]; exact hB.1.2.2.2.2.2.2.2.1) c160 fr (frw 3 (by omega) (by decide) (by decide) (by decide)) (CU.mono r ?_)
    intro uc hU
    obtain ⟨b1, b2, b3, b4, b5, b6, b7, b8, b9⟩ := hU
    have ej : ∀ j, j ≠ 36 → j ≠ 37 → j ≠ 38 → j ≠ 39 → j ≠ 40 → uc 110 j = w 110 j := fun j h1 h2 h3 h4 h5 => by rw [b8 j h1 h2 h3 h4 h5, hC 110 (by decide), fr 110 (by decide)]
    refine ⟨b1, b3, b4, b5, b6, b7, ej, fun z z1 z2 => ?_⟩
    have za : ∀ a, ¬ (17 ≤ a ∧ a ≤ 21) → a ≠ 85 → a ≠ 86 → a ≠ 87 → a ≠ 110 → a ≠ 111 → a ≠ 112 → a ≠ 129 → a ≠ 130 → z a = w a := fun a h1 h2 h3 h4 h5 h6 h7 h8 h9 => by rw [z1 a h6, b9 a h5 h6 h8 h9, hC a h7, frw a h1 h2 h3 h4]
    refine h0.ss2 (fun a ha hne => ?_) (fun i hi => ?_) ?_ ?_ ?_ ?_ (fun j hj => ?_)
    · refine za a ?_ ?_ ?_ ?_ ?_ hne ?_ ?_ ?_
      · rintro ⟨x1, x2⟩
        have : a = 17 ∨ a = 18 ∨ a = 19 ∨ a = 20 ∨ a = 21 := by omega
        rcases this with rfl | rfl | rfl | rfl | rfl <;> cases ha
      all_goals (intro e; subst e; cases ha)
    · rw [z2 i hi, b9 112 (by decide) (by decide) (by decide) (by decide), cpA_at, if_pos hi, fr 111 (by decide)]
    · rw [za 0 (by omega) (by decide) (by decide) (by decide) (by decide) (by decide) (by decide) (by decide) (by decide)]
    · rw [za 0 (by omega) (by decide) (by decide) (by decide) (by decide) (by decide) (by decide) (by decide) (by decide)]
    · rw [za 1 (by omega) (by decide) (by decide) (by decide) (by decide) (by decide) (by decide) (by decide) (by decide)]
    · rw [za 102 (by omega) (by decide) (by decide) (by decide) (by decide) (by decide) (by decide) (by decide) (by decide)]
    · rw [z1 110 (by decide)]
      exact ej j (by omega) (by omega) (by omega) (by omega) (by omega)
  have back : ∀ (uc : Wd) (y : Int32) (z : Int32), y = z → (∀ v : Wd, (∀ a, a ≠ 111 → v a = uc a) → (∀ i, i < 162 → v 111 i = uc 112 i) → II v) → CU X (57 + 2) 163 [.ref 112, .ref 111] uc (fun u2 => y = z ∧ II u2) := by
    intro uc y z hyz hz
    refine CU.mono (c_163_112_111 (d := 57) uc) ?_
    intro u2 hu
    subst hu
    exact ⟨hyz, hz _ (fun a ha => cpA_ne ha) (fun i hi => by rw [cpA_at, if_pos hi])⟩
  have e10 : ∀ u : Wd, (F_157 q (kI 10) (kI 15) u = 0 ↔ F_153 (q - kI 10) (kI 0) (kI 5) u = 0) := fun u => in_10
  by_cases h3 : F_153 q (kI 0) (kI 3) w = 0
  · rw [if_pos h3]
    by_cases h4 : F_52_3 (q - kI 10) w = 0
    · rw [if_pos h4]
      refine t w _ ?_
      rw [if_neg (show ¬ F_157 (nI n) (kI 1) (kI 60) w = 0 from h1), if_pos (show F_157 q (kI 0) (kI 3) w = 0 from h3)]
      by_cases h5 : F_157 q (kI 10) (kI 15) w = 0
      · rw [if_pos h5]; exact ⟨rfl, h0⟩
      · rw [if_neg h5, isF_eq o2, if_pos h4]; exact ⟨rfl, h0⟩
    · rw [if_neg h4]
      obtain ⟨f, hf, ef, -⟩ := hasF h4
      have nq : ∀ k : Nat, k ≤ 3 → ¬ q = kI k := fun k hk e => by
        rw [e] at h3
        have := within_nI (n := k) (a := 0) (b := 3) (w := w) (by omega) (by decide) (by decide)
        rw [if_pos (by omega)] at this
        rw [show F_153 (kI k) (kI 0) (kI 3) w = 1 from this] at h3
        exact absurd h3 (by decide)
      have n0 : ¬ q = kI 0 := nq 0 (by decide)
      have n1 : ¬ q = kI 1 := nq 1 (by decide)
      have n2 : ¬ q = kI 2 := nq 2 (by decide)
      have n3 : ¬ q = kI 3 := nq 3 (by decide)
      refine run _ ?_
      intro ua R r1 r2 r3 r4 r5 r6 r7 r8 r9
      rw [if_neg n0, if_neg n1, if_neg n2, if_neg n3, ef, sumOf17 hf, r1.2.1 f hf]
      refine t ua _ ?_
      rw [if_neg (show ¬ F_157 (nI n) (kI 1) (kI 60) ua = 0 from h1), if_pos (show F_157 q (kI 0) (kI 3) ua = 0 from h3), if_neg (by rw [e10, ef]; exact in5 hf), c165 (w := w) (by rw [r7 110 (by decide)]), isF_eq o2, if_neg h4]
      refine CU.mono (c_163_111_112 (d := 57) ua) ?_
      intro ub hub
      subst hub
      refine CU.mono r9 ?_
      intro uc hU
      obtain ⟨b1, b2, b3, b4, b5, b6, b7, b8⟩ := hU
      rw [if_neg (show ¬ q = 0 from n0), if_neg n1, if_neg n2, if_neg n3, ef]
      refine CI.mono (c_167 (d := 56) hf (fun c hc hz => ?_)) ?_
      · rw [b1]
        exact b2 c f hc hf ((f2 c hc).mp (by rw [← c164 (w := w) (u := uc) (b7 6 (by decide) (by decide) (by decide) (by decide) (by decide))]; exact hz))
      · intro x ud hx
        obtain ⟨hx1, hu⟩ := hx
        have hu2 := hu.symm
        subst hu2
        rw [b1] at hx1
        exact back uc x _ hx1 b8
  · rw [if_neg h3]
    refine run _ ?_
    intro ua R r1 r2 r3 r4 r5 r6 r7 r8 r9
    obtain ⟨k, -, hk, rfl⟩ := within_z (a := 0) (b := 3) (by decide) (by decide) h3
    have fin : ∀ z : Int32, z = (if nI k = 0 then R.2.1 else if nI k = kI 1 then R.2.2.1 else if nI k = kI 2 then R.2.2.2.1 else R.2.2.2.2) → CI X 60 213 [.ref 110, .int (nI n), .int (nI k)] ua (fun y u2 => y = z ∧ II u2) := by
      intro z hz
      refine t ua _ ?_
      rw [if_neg (show ¬ F_157 (nI n) (kI 1) (kI 60) ua = 0 from h1), if_neg (show ¬ F_157 (nI k) (kI 0) (kI 3) ua = 0 from h3)]
      refine CU.mono (c_163_111_112 (d := 57) ua) ?_
      intro ub hub
      subst hub
      refine CU.mono r9 ?_
      intro uc hU
      obtain ⟨b1, b2, b3, b4, b5, b6, b7, b8⟩ := hU
      by_cases k0 : nI k = 0
      · rw [if_pos k0]
        rw [if_pos k0] at hz
        exact back uc _ z (by rw [b3, hz]) b8
      · rw [if_neg k0]
        rw [if_neg k0] at hz
        by_cases k1 : nI k = kI 1
        · rw [if_pos k1]
          rw [if_pos k1] at hz
          exact back uc _ z (by rw [b4, hz]) b8
        · rw [if_neg k1]
          rw [if_neg k1] at hz
          by_cases k2 : nI k = kI 2
          · rw [if_pos k2]
            rw [if_pos k2] at hz
            exact back uc _ z (by rw [b5, hz]) b8
          · rw [if_neg k2]
            rw [if_neg k2] at hz
            have k3 : nI k = kI 3 := by
              have : k = 3 := by
                have a0 : k ≠ 0 := fun e => k0 (by rw [e]; rfl)
                have a1 : k ≠ 1 := fun e => k1 (by rw [e]; rfl)
                have a2 : k ≠ 2 := fun e => k2 (by rw [e]; rfl)
                omega
              rw [this]; rfl
            rw [if_pos k3]
            exact back uc _ z (by rw [b6, hz]) b8
    have e77 : ua 17 7 - ua 7 7 = R.2.2.1 := by
      rw [r1.2.2.2.2.2.2.2.1, r5, r6]
      exact Int32.add_sub_cancel _ _
    by_cases k0 : nI k = kI 0
    · rw [if_pos k0]
      exact fin _ (by rw [if_pos (show nI k = 0 from k0), r2])
    · rw [if_neg k0]
      by_cases k1 : nI k = kI 1
      · rw [if_pos k1]
        exact fin _ (by rw [if_neg (show ¬ nI k = 0 from k0), if_pos k1, e77])
      · rw [if_neg k1]
        by_cases k2 : nI k = kI 2
        · rw [if_pos k2]
          exact fin _ (by rw [if_neg (show ¬ nI k = 0 from k0), if_neg k1, if_pos k2, r3])
        · rw [if_neg k2]
          have k3 : nI k = kI 3 := by
            have : k = 3 := by
              have a0 : k ≠ 0 := fun e => k0 (by rw [e]; rfl)
              have a1 : k ≠ 1 := fun e => k1 (by rw [e]; rfl)
              have a2 : k ≠ 2 := fun e => k2 (by rw [e]; rfl)
              omega
            rw [this]; rfl
          rw [if_pos k3]
          exact fin _ (by rw [if_neg (show ¬ nI k = 0 from k0), if_neg k1, if_neg k2, r4])
end TRIEDJ
