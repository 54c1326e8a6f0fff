/-! rules, part 4: the reference's law: its loop over rules, its copies -/
section RULES4
theorem bk_gr {ch : Nat → Nat} {n : Nat} (hc : CHn256 ch n) {t q : PSs} (e : bkF ch 6 t = .inr q) : t.1 < q.1 ∧ q.1 ≤ n ∧ t.2.2.2 < q.2.2.2 := by
  unfold bkF at e
  by_cases h : ch t.1 = 40
  · rw [if_pos h] at e
    have e2 : inF ch (cdF ch (tF ch 5)) 41 t = .inr q := e
    have := in_grw hc (by decide) (cd_grw hc (tF_grw hc 5)) t q (hc.lt (by omega)) e2
    exact ⟨this.1, this.2.1, this.2.2.1⟩
  · rw [if_neg h] at e; cases e
theorem hd_gr {ch : Nat → Nat} {n : Nat} (hc : CHn256 ch n) {s t : PSs} (hz : ch s.1 < 256) (e : hdF ch s = .inr t) : s.1 < t.1 ∧ t.1 ≤ n ∧ s.2.2.2 ≤ t.2.2.2 := by
  unfold hdF at e
  have hlt := hc.lt hz
  by_cases h : ch s.1 = 120
  · rw [if_pos h] at e
    cases e
    dsimp only
    omega
  · rw [if_neg h] at e
    have := eF_grw hc 6 (s.1 + 1, s.2) t hlt e
    dsimp only at this
    omega
theorem ru_gr {ch : Nat → Nat} {n : Nat} (hc : CHn256 ch n) {x y : RuS} (e : ruF ch x = .inr y) : x.1.1 < y.1.1 ∧ y.1.1 ≤ n := by
  unfold ruF at e
  by_cases hok : okLe (ch x.1.1)
  · rw [if_pos hok] at e
    have hok2 : ch x.1.1 = 110 ∨ ch x.1.1 = 100 ∨ ch x.1.1 = 107 ∨ ch x.1.1 = 120 := hok
    by_cases hm : x.2.2 = 16
    · rw [if_pos hm] at e; cases e
    · rw [if_neg hm] at e
      cases e1 : hdF ch x.1 with
      | inl r => rw [e1] at e; cases e
      | inr t =>
        rw [e1] at e
        dsimp only at e
        have g1 := hd_gr hc (by omega) e1
        cases e2 : bkF ch 6 t with
        | inl r => rw [e2] at e; cases e
        | inr q =>
          rw [e2] at e
          have g2 := bk_gr hc e2
          cases e
          dsimp only
          omega
  · rw [if_neg hok] at e; cases e
theorem f_196 {X : Scr} {e : Nat} {w : Wd} {v1 : Int32} {Q : Int32 → Wd → Prop} (h : Q (w 110 13) (up2 w 110 10 (kI 0))) : EI X (e + 8) 196 (31, [some (.ref 110), some (.int v1), some (.int (kI 0)), none], [], SH, w) Q := by
  refine t196_110_at31 (d := e + 6) w _ _ ?_
  rw [if_pos (by decide)]
  exact h
theorem l_196 {X : Scr} {e n : Nat} {w : Wd} {ch : Nat → Nat} {v1 : Int32} {Q : Int32 → Wd → Prop} : ∀ (m : Nat) (x : RuS) (u : Wd), n ≤ x.1.1 + 2 * m → RSr w u ch n x → (∀ r, ruL ch m x = .inl r → ∀ v, GRr w v → v 110 13 = r → Q r (up2 v 110 10 (kI 0))) → (∀ y, ruL ch m x = .inr y → ∀ v, RSr w v ch n y → EI X (e + 8) 196 (95, [some (.ref 110), some (.int v1), some (.int (kI 1)), some (.int (kI 0))], [], SH, (up2 (up2 v 110 10 (kI 0)) 110 19 (v 110 18))) Q) → EI X (e + 8) 196 (31, [some (.ref 110), some (.int v1), some (.int (kI 1)), none], [], SH, u) Q := by
  intro m
  induction m with
  | zero =>
    intro x u hn h q0 q1
    have hp := h.2.1
    refine t196_110_at31 (d := e + 6) u _ _ ?_
    rw [if_neg (by decide), if_pos (by rw [hp.1, hp.2.1]; exact nI_le (by omega) (by have := hp.2.2.1; have := hp.2.2.2.1; omega))]
    exact q1 x rfl u h
  | succ m ih =>
    intro x u hn h q0 q1
    have hp := h.2.1
    have a1 := hp.2.2.1
    have a2 := hp.2.2.2.1
    refine t196_110_at31 (d := e + 6) u _ _ ?_
    rw [if_neg (by decide)]
    unfold ruL at q0 q1
    by_cases h256 : ch x.1.1 = 256
    · rw [if_pos h256] at q1
      rw [if_pos (by rw [hp.1, hp.2.1]; exact nI_le (hp.end.mpr h256) (by omega))]
      exact q1 x rfl u h
    · rw [if_neg h256] at q0 q1
      have hlt : x.1.1 < n := Nat.lt_of_not_le (fun ee => h256 (hp.end.mp ee))
      rw [if_neg (by rw [hp.1, hp.2.1]; exact nI_ge hlt (by omega))]
      refine ⟨hp.ix, ?_⟩
      have his : F_175_110 u = kI 59 ↔ ch x.1.1 = 59 := by rw [hp.sg]; exact enC_eq (k := 59) (by decide)
      by_cases h59 : ch x.1.1 = 59
      · rw [if_pos h59] at q0 q1
        have e1 : F_178_110 (kI 59) u = kI 1 := by unfold F_178_110; rw [if_pos (his.mpr h59)]
        have e2 : G_178_110 (kI 59) u = up2 u 110 11 ((u 110 11) + (kI 1)) := by unfold G_178_110; rw [if_pos (his.mpr h59)]
        rw [e1, if_neg (by decide), e2]
        have hs : RSr w (up2 u 110 11 ((u 110 11) + (kI 1))) ch n ((x.1.1 + 1, x.1.2), x.2) := by
          obtain ⟨h1, h2, h3, h5, h6, h7, h8, h9⟩ := h
          refine ⟨h1.q (by omega), h2.step (by omega), h3.cg (by rw [up2_at, if_neg (by decide)]) (up2_ne (by decide)), by show x.1.2.2.2 ≤ x.1.1 + 1; omega, h6, by rw [up2_at, if_neg (by decide)]; exact h7, h8, fun i hi => ?_⟩
          unfold RU2
          rw [up2_ne (by decide), up2_ne (by decide), up2_ne (by decide), up2_ne (by decide)]
          exact h9 i hi
        refine c_194 (e := e) hs (fun r er v g1 g2 => ?_) (fun y er v g1 => ?_)
        · rw [if_pos (by decide)]
          rw [er] at q0
          refine f_196 (e := e) ?_
          rw [g2]
          exact q0 r rfl v g1 g2
        · rw [if_neg (by decide)]
          rw [er] at q0 q1
          have hg := ru_gr hp.c256 er
          dsimp only at hg
          exact ih y v (by omega) g1 q0 q1
      · rw [if_neg h59] at q0
        have e1 : F_178_110 (kI 59) u = kI 0 := by unfold F_178_110; rw [if_neg (fun ee => h59 (his.mp ee))]; rfl
        have e2 : G_178_110 (kI 59) u = G_177_110 (kI 1) (u 110 11) u := by unfold G_178_110; rw [if_neg (fun ee => h59 (his.mp ee))]
        rw [e1, if_pos (by decide), e2]
        have hb := hp.bad h.1 (kI 1)
        refine f_196 (e := e) ?_
        have := q0 _ rfl _ hb.1 hb.2
        rw [← hb.2] at this
        exact this
/-! the copies -/
theorem l_196_95 {X : Scr} {e L : Nat} {v1 v2 : Int32} {Q : Int32 → Wd → Prop} (hL : L ≤ 240) : ∀ (m k : Nat) (u : Wd), k + m = L → u 110 16 = nI L → (∀ v : Wd, (∀ a, a ≠ 124 → v a = u a) → (∀ i, v 124 i = if k ≤ i ∧ i < L then u 118 i else u 124 i) → EI X (e + 8) 196 (123, [some (.ref 110), some (.int v1), some (.int v2), some (.int (kI 0))], [], SH, v) Q) → EI X (e + 8) 196 (95, [some (.ref 110), some (.int v1), some (.int v2), some (.int (nI k))], [], SH, u) Q := by
  intro m
  induction m with
  | zero =>
    intro k u hk h16 q
    refine t196_110_at95 (d := e + 6) u _ _ _ ?_
    rw [h16, if_pos (nI_le (by omega) (by omega))]
    exact q u (fun _ _ => rfl) (fun i => by rw [if_neg (by omega)])
  | succ m ih =>
    intro k u hk h16 q
    refine t196_110_at95 (d := e + 6) u _ _ _ ?_
    have hi : inB (nI k) 260 = true := inB_nI (by omega) (by decide)
    rw [h16, if_neg (nI_ge (by omega) (by omega)), nI_clamp (by omega), k1]
    refine ⟨hi, hi, ih (k + 1) _ (by omega) (by rw [up2_ne (by decide)]; exact h16) (fun v g1 g2 => q v (fun a ha => by rw [g1 a ha, up2_ne ha]) (fun i => ?_))⟩
    rw [g2 i, up2_ne (show (118 : Nat) ≠ 124 by decide), up2_at]
    by_cases c1 : k + 1 ≤ i ∧ i < L
    · rw [if_pos c1, if_pos ⟨by omega, c1.2⟩]
    · rw [if_neg c1]
      by_cases c2 : i = k
      · rw [if_pos c2, if_pos ⟨by omega, by omega⟩, c2]
      · rw [if_neg c2, if_neg (by omega)]
theorem l_196_123 {X : Scr} {e M : Nat} {v1 v2 : Int32} {Q : Int32 → Wd → Prop} (hM : M ≤ 16) : ∀ (m k : Nat) (u : Wd), k + m = M → u 110 18 = nI M → (∀ v : Wd, (∀ a, (a < 125 ∨ 128 < a) → v a = u a) → (∀ i, k ≤ i → i < M → v 125 i = u 120 i ∧ v 126 i = u 121 i ∧ v 127 i = u 122 i ∧ v 128 i = u 123 i) → (∀ i, i < k → v 125 i = u 125 i ∧ v 126 i = u 126 i ∧ v 127 i = u 127 i ∧ v 128 i = u 128 i) → Q (nI M) v) → EI X (e + 8) 196 (123, [some (.ref 110), some (.int v1), some (.int v2), some (.int (nI k))], [], SH, u) Q := by
  intro m
  induction m with
  | zero =>
    intro k u hk h18 q
    refine t196_110_at123 (d := e + 6) u _ _ _ ?_
    rw [h18, if_pos (nI_le (by omega) (by omega))]
    exact q u (fun _ _ => rfl) (fun i h1 h2 => by omega) (fun i _ => ⟨rfl, rfl, rfl, rfl⟩)
  | succ m ih =>
    intro k u hk h18 q
    refine t196_110_at123 (d := e + 6) u _ _ _ ?_
    have hi : inB (nI k) 16 = true := inB_nI (by omega) (by decide)
    rw [h18, if_neg (nI_ge (by omega) (by omega)), nI_clamp (by omega), k1]
    refine ⟨hi, hi, hi, hi, hi, hi, hi, hi, ih (k + 1) _ (by omega) (by rw [up2_ne (by decide), up2_ne (by decide), up2_ne (by decide), up2_ne (by decide)]; exact h18) (fun v g1 g2 g3 => q v (fun a ha => ?_) (fun i h1 h2 => ?_) (fun i h1 => ?_))⟩
    · rw [g1 a ha, up2_ne (by omega), up2_ne (by omega), up2_ne (by omega), up2_ne (by omega)]
    · by_cases c : i = k
      · have hh := g3 i (by omega)
        rw [up2_ne (show (125 : Nat) ≠ 128 by decide), up2_ne (show (125 : Nat) ≠ 127 by decide), up2_ne (show (125 : Nat) ≠ 126 by decide), up2_at, if_pos c, up2_ne (show (126 : Nat) ≠ 128 by decide), up2_ne (show (126 : Nat) ≠ 127 by decide), up2_at, if_pos c, up2_ne (show (127 : Nat) ≠ 128 by decide), up2_at, if_pos c, up2_at, if_pos c] at hh
        rw [c] at hh ⊢
        exact hh
      · have hh := g2 i (by omega) h2
        rw [up2_ne (show (120 : Nat) ≠ 128 by decide), up2_ne (show (120 : Nat) ≠ 127 by decide), up2_ne (show (120 : Nat) ≠ 126 by decide), up2_ne (show (120 : Nat) ≠ 125 by decide), up2_ne (show (121 : Nat) ≠ 128 by decide), up2_ne (show (121 : Nat) ≠ 127 by decide), up2_ne (show (121 : Nat) ≠ 126 by decide), up2_ne (show (121 : Nat) ≠ 125 by decide), up2_ne (show (122 : Nat) ≠ 128 by decide), up2_ne (show (122 : Nat) ≠ 127 by decide), up2_ne (show (122 : Nat) ≠ 126 by decide), up2_ne (show (122 : Nat) ≠ 125 by decide), up2_ne (show (123 : Nat) ≠ 128 by decide), up2_ne (show (123 : Nat) ≠ 127 by decide), up2_ne (show (123 : Nat) ≠ 126 by decide), up2_ne (show (123 : Nat) ≠ 125 by decide)] at hh
        exact hh
    · have hh := g3 i (by omega)
      rw [up2_ne (show (125 : Nat) ≠ 128 by decide), up2_ne (show (125 : Nat) ≠ 127 by decide), up2_ne (show (125 : Nat) ≠ 126 by decide), up2_at, if_neg (by omega), up2_ne (show (126 : Nat) ≠ 128 by decide), up2_ne (show (126 : Nat) ≠ 127 by decide), up2_at, if_neg (by omega), up2_ne (show (126 : Nat) ≠ 125 by decide), up2_ne (show (127 : Nat) ≠ 128 by decide), up2_at, if_neg (by omega), up2_ne (show (127 : Nat) ≠ 126 by decide), up2_ne (show (127 : Nat) ≠ 125 by decide), up2_at, if_neg (by omega), up2_ne (show (128 : Nat) ≠ 127 by decide), up2_ne (show (128 : Nat) ≠ 126 by decide), up2_ne (show (128 : Nat) ≠ 125 by decide)] at hh
      exact hh
end RULES4
