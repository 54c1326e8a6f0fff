/-! halves, part 2: the class -/
section MATCHC
def adF (w : Wd) (r e : Nat) : Bool := !decide (F_8_102 (nI r) (nI e) w = 0)
theorem f8_cg {w u : Wd} (e2 : u 102 6 = w 102 6) (e3 : u 103 = w 103) (e4 : u 104 = w 104) (e5 : u 105 = w 105) (e6 : u 106 = w 106) (p q : Int32) : F_8_102 p q u = F_8_102 p q w := by
  unfold F_8_102
  rw [e2, e3, e4, e5, e6]
  rfl
def PCm (w u : Wd) (P : Nat → Option Nat) (S : Nat) : Prop := (∀ a, a ≠ 102 → a ≠ 108 → u a = w a) ∧ (∀ j, j ≠ 10 → u 102 j = w 102 j) ∧ u 102 10 = nI S ∧ ∀ e, e < 20 → u 108 e = enO (P e)
theorem PCm.ad {w u : Wd} {P : Nat → Option Nat} {S r e : Nat} (h : PCm w u P S) : F_8_102 (nI r) (nI e) u = 0 ↔ adF w r e = false := by
  rw [f8_cg (h.2.1 6 (by decide)) (h.1 103 (by decide) (by decide)) (h.1 104 (by decide) (by decide)) (h.1 105 (by decide) (by decide)) (h.1 106 (by decide) (by decide))]
  unfold adF
  simp
theorem cnS_or {S e : Nat} (h : S.testBit e = false) : ∀ n, e < n → cnS (S ||| 2 ^ e) n = cnS S n + 1
  | 0, he => by omega
  | n + 1, he => by
    show cnS (S ||| 2 ^ e) n + ((S ||| 2 ^ e).testBit n).toNat = cnS S n + (S.testBit n).toNat + 1
    rw [Nat.testBit_or, Nat.testBit_two_pow]
    by_cases hn : e = n
    · subst hn
      have hz : ∀ m, m ≤ e → cnS (S ||| 2 ^ e) m = cnS S m := by
        intro m
        induction m with
        | zero => intro _; rfl
        | succ m ih =>
          intro hm
          show cnS (S ||| 2 ^ e) m + ((S ||| 2 ^ e).testBit m).toNat = cnS S m + (S.testBit m).toNat
          rw [ih (by omega), Nat.testBit_or, Nat.testBit_two_pow, decide_eq_false (by omega), Bool.or_false]
      rw [hz e (Nat.le_refl _), h, decide_eq_true rfl]
      rfl
    · rw [cnS_or h n (by omega), decide_eq_false hn, Bool.or_false]
      omega
theorem cnS_le (S : Nat) : ∀ n, cnS S n ≤ n
  | 0 => Nat.le_refl _
  | n + 1 => by
    have := cnS_le S n
    have h2 : (S.testBit n).toNat ≤ 1 := Bool.toNat_le _
    show cnS S n + (S.testBit n).toNat ≤ n + 1
    omega
theorem cnS_lt20 {S e n : Nat} (h : S.testBit e = false) (he : e < n) : cnS S n < n := by
  have h1 := cnS_or h n he
  have h2 := cnS_le (S ||| 2 ^ e) n
  omega
theorem or_bit {S e i : Nat} : (S ||| 2 ^ e).testBit i = true ↔ S.testBit i = true ∨ e = i := by
  rw [Nat.testBit_or, Nat.testBit_two_pow, Bool.or_eq_true, decide_eq_true_iff]
def FPost (w : Wd) (r : Nat) (P : Nat → Option Nat) (S : Nat) (x : Int32) (u2 : Wd) : Prop := ∃ S2, S2 < 2 ^ 20 ∧ (∀ e, S.testBit e = true → S2.testBit e = true) ∧ ((x = kI 1 ∧ ∃ P2, PCm w u2 P2 S2 ∧ VMt (adF w) P2 ∧ (∀ e, e < 20 → S.testBit e = true → P2 e = P e) ∧ ∀ l, cnP P2 l 20 = cnP P l 20 + (if l = r then 1 else 0)) ∨ (x = kI 0 ∧ PCm w u2 P S2 ∧ (∀ e, e < 20 → adF w r e = true → S2.testBit e = true) ∧ ∀ e, e < 20 → S2.testBit e = true → S.testBit e = false → ∃ l, P e = some l ∧ ∀ f, f < 20 → adF w l f = true → S2.testBit f = true))
theorem l_7 {X : Scr} {k r dep S0 : Nat} {w : Wd} {P : Nat → Option Nat} (hr : r < 20) (hd : dep ≤ cnS S0 20) (hV : VMt (adF w) P)
    (hrec : ∀ k2, k = k2 + 1 → ∀ (r dep S : Nat) (P : Nat → Option Nat) (u : Wd), r < 20 → dep ≤ cnS S 20 → 20 ≤ k2 + cnS S 20 → S < 2 ^ 20 → VMt (adF w) P → PCm w u P S → CI X (k2 + 4) 7 [.ref 102, .int (nI r), .int (nI dep)] u (FPost w r P S)) :
    ∀ (m o S : Nat) (u : Wd), o + m = 20 → S < 2 ^ 20 → 20 ≤ k + cnS S 20 → cnS S0 20 ≤ cnS S 20 → (∀ e, S0.testBit e = true → S.testBit e = true) → PCm w u P S → (∀ e, e < o → adF w r e = true → S.testBit e = true) → (∀ e, e < 20 → S.testBit e = true → S0.testBit e = false → ∃ l, P e = some l ∧ ∀ f, f < 20 → adF w l f = true → S.testBit f = true) → EI X (k + 3) 7 (10, [some (.ref 102), some (.int (nI r)), some (.int (nI dep)), some (.int (nI o))], [], SH, u) (FPost w r P S0) := by
  intro m
  induction m with
  | zero =>
    intro o S u ho hS hk hc hsub hP c1 c2
    have e : o = 20 := by omega
    subst e
    refine t7_102_at10 (d := k + 1) u _ _ _ ?_
    rw [if_pos (by decide)]
    exact ⟨S, hS, hsub, Or.inr ⟨rfl, hP, c1, c2⟩⟩
  | succ m ih =>
    intro o S u ho hS hk hc hsub hP c1 c2
    have ho2 : o < 20 := by omega
    refine t7_102_at10 (d := k + 1) u _ _ _ ?_
    rw [if_neg (lt_20 o ho2), hP.2.2.1, k1]
    by_cases hb : S.testBit o = true
    · rw [if_neg (by rw [isin_z u (by omega) (by omega)]; exact fun z => z hb)]
      refine ih (o + 1) S u (by omega) hS hk hc hsub hP (fun e he ha => ?_) c2
      by_cases e2 : e = o
      · rw [e2]; exact hb
      · exact c1 e (by omega) ha
    · have hb2 : S.testBit o = false := by simpa using hb
      rw [if_pos (by rw [isin_z u (by omega) (by omega)]; exact hb)]
      cases had : adF w r o with
      | false =>
        rw [if_pos (hP.ad.mpr had)]
        refine ih (o + 1) S u (by omega) hS hk hc hsub hP (fun e he ha => ?_) c2
        by_cases e2 : e = o
        · rw [e2, had] at ha; cases ha
        · exact c1 e (by omega) ha
      | true =>
        rw [if_neg (fun e => by rw [hP.ad, had] at e; cases e), nI_clamp (by omega), shl1_nI (by omega), or_nI, hP.2.2.2 o ho2]
        refine ⟨inB_nI ho2 (by decide), ?_⟩
        have hS1 : S ||| 2 ^ o < 2 ^ 20 := Nat.or_lt_two_pow hS (Nat.pow_lt_pow_right (by decide) ho2)
        have hcn := cnS_or hb2 20 ho2
        have hP1 : PCm w (up2 u 102 10 (nI (S ||| 2 ^ o))) P (S ||| 2 ^ o) := ⟨fun a h1 h2 => by rw [up2_ne h1]; exact hP.1 a h1 h2, fun j hj => by rw [up2_at, if_neg hj]; exact hP.2.1 j hj, by rw [up2_at, if_pos rfl], fun e he => by rw [up2_ne (by decide)]; exact hP.2.2.2 e he⟩
        have hsub1 : ∀ e, S0.testBit e = true → (S ||| 2 ^ o).testBit e = true := fun e he => or_bit.mpr (Or.inl (hsub e he))
        have hno : S0.testBit o = false := by
          cases h : S0.testBit o with
          | false => rfl
          | true => exact absurd (hsub o h) hb
        cases eP : P o with
        | none =>
          rw [if_pos (show enO none = kI (-1) from rfl)]
          refine ⟨inB_nI ho2 (by decide), S ||| 2 ^ o, hS1, hsub1, Or.inl ⟨rfl, upO P o (some r), ⟨fun a h1 h2 => by rw [up2_ne h2, up2_ne h1]; exact hP.1 a h1 h2, fun j hj => by rw [up2_ne (by decide), up2_at, if_neg hj]; exact hP.2.1 j hj, by rw [up2_ne (by decide), up2_at, if_pos rfl], fun e he => ?_⟩, fun e l he hl => ?_, fun e he hs => ?_, fun l => ?_⟩⟩
          · rw [up2_at]
            unfold upO
            by_cases e2 : e = o
            · rw [if_pos e2, if_pos e2]; rfl
            · rw [if_neg e2, if_neg e2, up2_ne (by decide)]; exact hP.2.2.2 e he
          · unfold upO at hl
            by_cases e2 : e = o
            · rw [if_pos e2] at hl
              have := Option.some.inj hl
              rw [← this, e2]
              exact ⟨hr, had⟩
            · rw [if_neg e2] at hl; exact hV e l he hl
          · unfold upO
            rw [if_neg (fun e2 => by rw [e2, hno] at hs; cases hs)]
          · have := cnP_up (P := P) (e := o) (l := l) (v := some r) 20 ho2
            rw [eP, if_neg (show ¬ (none : Option Nat) = some l by intro e; cases e)] at this
            by_cases e2 : l = r
            · rw [if_pos (by rw [e2])] at this
              rw [if_pos e2]
              omega
            · rw [if_neg (fun e3 => e2 (Option.some.inj e3).symm)] at this
              rw [if_neg e2]
              omega
        | some l =>
          obtain ⟨hl20, hadl⟩ := hV o l ho2 eP
          rw [if_neg (show ¬ enO (some l) = kI (-1) from nI_m1 (by omega)), show enO (some l) = nI l from rfl]
          refine ⟨inB_nI ho2 (by decide), ?_⟩
          have hlt := cnS_lt20 hb2 ho2
          obtain ⟨k2, hk2⟩ : ∃ k2, k = k2 + 1 := ⟨k - 1, by omega⟩
          have rc := hrec k2 hk2 l (dep + 1) (S ||| 2 ^ o) P (up2 u 102 10 (nI (S ||| 2 ^ o))) hl20 (by omega) (by omega) hS1 hV hP1
          rw [show k + 1 + 2 = k2 + 4 by omega, k1]
          refine CI.mono rc ?_
          intro x u2 hx
          obtain ⟨S2, s1, s2, hx⟩ := hx
          have hsub2 : ∀ e, S0.testBit e = true → S2.testBit e = true := fun e he => s2 e (hsub1 e he)
          have ho2b : S2.testBit o = true := s2 o (or_bit.mpr (Or.inr rfl))
          rcases hx with ⟨x1, P2, p1, p2, p3, p4⟩ | ⟨x1, p1, p2, p3⟩
          · rw [x1, if_neg (by decide)]
            have ep : P2 o = some l := by rw [p3 o ho2 (or_bit.mpr (Or.inr rfl))]; exact eP
            refine ⟨inB_nI ho2 (by decide), S2, s1, hsub2, Or.inl ⟨rfl, upO P2 o (some r), ⟨fun a h1 h2 => by rw [up2_ne h2]; exact p1.1 a h1 h2, fun j hj => by rw [up2_ne (by decide)]; exact p1.2.1 j hj, by rw [up2_ne (by decide)]; exact p1.2.2.1, fun e he => ?_⟩, fun e l2 he hl => ?_, fun e he hs => ?_, fun l2 => ?_⟩⟩
            · rw [up2_at]
              unfold upO
              by_cases e2 : e = o
              · rw [if_pos e2, if_pos e2]; rfl
              · rw [if_neg e2, if_neg e2]; exact p1.2.2.2 e he
            · unfold upO at hl
              by_cases e2 : e = o
              · rw [if_pos e2] at hl
                have := Option.some.inj hl
                rw [← this, e2]
                exact ⟨hr, had⟩
              · rw [if_neg e2] at hl; exact p2 e l2 he hl
            · unfold upO
              rw [if_neg (fun e2 => by rw [e2, hno] at hs; cases hs)]
              exact p3 e he (hsub1 e hs)
            · have h1 := cnP_up (P := P2) (e := o) (l := l2) (v := some r) 20 ho2
              have h2 := p4 l2
              rw [ep] at h1
              have g1 : (if (some l : Option Nat) = some l2 then 1 else 0) = (if l2 = l then 1 else 0) := by
                by_cases e3 : l2 = l
                · rw [if_pos (by rw [e3]), if_pos e3]
                · rw [if_neg (fun e4 => e3 (Option.some.inj e4).symm), if_neg e3]
              have g2 : (if (some r : Option Nat) = some l2 then 1 else 0) = (if l2 = r then 1 else 0) := by
                by_cases e3 : l2 = r
                · rw [if_pos (by rw [e3]), if_pos e3]
                · rw [if_neg (fun e4 => e3 (Option.some.inj e4).symm), if_neg e3]
              rw [g1, g2] at h1
              omega
          · rw [x1, if_pos (show kI 0 = 0 from rfl)]
            have hm : cnS (S ||| 2 ^ o) 20 ≤ cnS S2 20 := by
              have mono : ∀ n, cnS (S ||| 2 ^ o) n ≤ cnS S2 n := by
                intro n
                induction n with
                | zero => exact Nat.le_refl _
                | succ n ihn =>
                  show cnS (S ||| 2 ^ o) n + ((S ||| 2 ^ o).testBit n).toNat ≤ cnS S2 n + (S2.testBit n).toNat
                  cases h : (S ||| 2 ^ o).testBit n with
                  | false => have : Bool.toNat false = 0 := rfl; omega
                  | true => rw [s2 n h]; omega
              exact mono 20
            rw [show k2 + 4 = k + 3 by omega]
            refine ih (o + 1) S2 u2 (by omega) s1 (by omega) (by omega) hsub2 p1 (fun e he ha => ?_) (fun e he h2 h0 => ?_)
            · by_cases e2 : e = o
              · rw [e2]; exact ho2b
              · exact s2 e (or_bit.mpr (Or.inl (c1 e (by omega) ha)))
            · cases h1 : (S ||| 2 ^ o).testBit e with
              | false => exact p3 e he h2 h1
              | true =>
                rcases or_bit.mp h1 with h3 | h3
                · obtain ⟨l2, q1, q2⟩ := c2 e he h3 h0
                  exact ⟨l2, q1, fun f hf ha => s2 f (or_bit.mpr (Or.inl (q2 f hf ha)))⟩
                · rw [← h3]
                  exact ⟨l, eP, p2⟩
theorem c_7 {X : Scr} {w : Wd} : ∀ (k r dep S : Nat) (P : Nat → Option Nat) (u : Wd), r < 20 → dep ≤ cnS S 20 → 20 ≤ k + cnS S 20 → S < 2 ^ 20 → VMt (adF w) P → PCm w u P S → CI X (k + 4) 7 [.ref 102, .int (nI r), .int (nI dep)] u (FPost w r P S) := by
  intro k
  induction k with
  | zero =>
    intro r dep S P u hr hd hk hS hV hP
    have hle := cnS_le S 20
    refine CI.of rfl (t7_102_at0 (d := 1) u _ _ ?_)
    rw [if_pos (show nI dep ≤ kI 20 from nI_le (b := 20) (by omega) (by decide))]
    exact l_7 (k := 0) hr hd hV (fun k2 e => by omega) 20 0 S u rfl hS hk (Nat.le_refl _) (fun _ h => h) hP (fun e he => by omega) (fun e _ h1 h2 => by rw [h1] at h2; cases h2)
  | succ k ih =>
    intro r dep S P u hr hd hk hS hV hP
    have hle := cnS_le S 20
    refine CI.of rfl (t7_102_at0 (d := k + 2) u _ _ ?_)
    rw [if_pos (show nI dep ≤ kI 20 from nI_le (b := 20) (by omega) (by decide))]
    exact l_7 (k := k + 1) hr hd hV (fun k2 e => by have e2 : k2 = k := by omega
                                                    subst e2
                                                    exact ih) 20 0 S u rfl hS hk (Nat.le_refl _) (fun _ h => h) hP (fun e he => by omega) (fun e _ h1 h2 => by rw [h1] at h2; cases h2)
/-- an even hour -/
def evF2 (w : Wd) (r : Nat) : Bool := decide ((w 105 r - w 105 r / (kI 2) * (kI 2)) = 0)
theorem CN.cg {P : Nat → Option Nat} {L M : Nat → Bool} (h : CN P L) (e : ∀ l, M l = L l) : CN P M := fun l => by rw [e l]; exact h l
theorem l_6 {X : Scr} {w : Wd} : ∀ (m r : Nat) (P : Nat → Option Nat) (S : Nat) (u : Wd), r + m = 20 → VMt (adF w) P → CN P (gdL (adF w) (evF2 w) r) → PCm w u P S → EI X 57 6 (12, [some (.ref 102), some (.int (nI (ctL (adF w) (evF2 w) r))), some (.int (nI r))], [], SH, u) (fun x u2 => x = nI (ctL (adF w) (evF2 w) 20) ∧ (∀ a, a ≠ 102 → a ≠ 108 → u2 a = w a) ∧ ∀ j, j ≠ 10 → u2 102 j = w 102 j) := by
  intro m
  induction m with
  | zero =>
    intro r P S u h hV hC hP
    have e : r = 20 := by omega
    subst e
    refine t6_102_at12 (d := 55) u _ _ ?_
    rw [if_pos (by decide)]
    exact ⟨rfl, hP.1, hP.2.1⟩
  | succ m ih =>
    intro r P S u h hV hC hP
    have hr : r < 20 := by omega
    have hP0 : PCm w (up2 u 102 10 (kI 0)) P 0 := ⟨fun a h1 h2 => by rw [up2_ne h1]; exact hP.1 a h1 h2, fun j hj => by rw [up2_at, if_neg hj]; exact hP.2.1 j hj, by rw [up2_at, if_pos rfl]; rfl, fun e he => by rw [up2_ne (by decide)]; exact hP.2.2.2 e he⟩
    refine t6_102_at12 (d := 55) u _ _ ?_
    rw [if_neg (lt_20 r hr), nI_clamp (by omega), hP.1 105 (by decide) (by decide), k1, k1]
    refine ⟨inB_nI hr (by decide), ?_⟩
    by_cases hev : (w 105 r - w 105 r / (kI 2) * (kI 2)) = 0
    · rw [if_pos hev]
      have ev1 : evF2 w r = true := decide_eq_true hev
      have z20 : cnS 0 20 = 0 := by decide
      refine CI.mono (c_7 (w := w) 53 r 0 0 P _ hr (Nat.zero_le _) (by omega) (by decide) hV hP0) ?_
      intro x u2 hx
      obtain ⟨S2, s1, s2, hx⟩ := hx
      rcases hx with ⟨x1, P2, p1, p2, p3, p4⟩ | ⟨x1, p1, p2, p3⟩
      · rw [x1, if_neg (by decide)]
        have hC2 : CN P2 (addL (gdL (adF w) (evF2 w) r) r) := by
          intro l
          rw [p4 l, hC l]
          unfold addL
          by_cases e : l = r
          · rw [if_pos e, e, gd_r, decide_eq_true rfl]; rfl
          · rw [if_neg e, decide_eq_false e, Bool.or_false]; rfl
        obtain ⟨y1, y2⟩ := gd_yes ev1 (mt_of hC2 p2)
        rw [← y2]
        exact ih (r + 1) P2 S2 u2 (by omega) p2 (hC2.cg y1) p1
      · rw [x1, if_pos (show kI 0 = 0 from rfl)]
        have nm := no_mt (S := fun e => S2.testBit e) hr (gd_r r) hC hV p2 (fun e he hs => p3 e he hs (Nat.zero_testBit e))
        obtain ⟨y1, y2⟩ := gd_no (Or.inr nm)
        rw [← y2]
        exact ih (r + 1) P S2 u2 (by omega) hV (hC.cg y1) p1
    · rw [if_neg hev]
      have ev0 : evF2 w r = false := decide_eq_false hev
      obtain ⟨y1, y2⟩ := gd_no (adj := adF w) (r := r) (Or.inl ev0)
      rw [← y2]
      exact ih (r + 1) P 0 _ (by omega) hV (hC.cg y1) hP0
theorem c_6 {X : Scr} {w : Wd} : CI X 58 6 [.ref 102] w (fun x u2 => x = nI (ctL (adF w) (evF2 w) 20) ∧ (∀ a, a ≠ 102 → a ≠ 108 → u2 a = w a) ∧ ∀ j, j ≠ 10 → u2 102 j = w 102 j) := by
  refine CI.of (d := 57) rfl (t6_102_at0 (d := 55) w ?_)
  obtain ⟨S, hS⟩ : ∃ S, w 102 10 = nI S := ⟨_, nI_any _⟩
  refine l_6 20 0 (fun _ => none) S _ rfl (fun e l _ h => by cases h) (fun l => ?_) ⟨fun a h1 h2 => fill_ne h2, fun j hj => by rw [show G_258_108 (kI (-1)) w = fillW w 108 20 (kI (-1)) from rfl, fill_ne (by decide)], by rw [show G_258_108 (kI (-1)) w = fillW w 108 20 (kI (-1)) from rfl, fill_ne (by decide)]; exact hS, fun e he => ?_⟩
  · have z : ∀ n, cnP (fun _ => none) l n = 0 := by
      intro n
      induction n with
      | zero => rfl
      | succ n ih => show cnP (fun _ => none) l n + (if (none : Option Nat) = some l then 1 else 0) = 0; rw [ih, if_neg (by intro e; cases e)]
    rw [z]
    rfl
  · rw [show G_258_108 (kI (-1)) w = fillW w 108 20 (kI (-1)) from rfl, fill_at, if_pos he]; rfl
/-! how many twos -/
def twF (adj : Nat → Nat → Bool) (r : Nat) : Nat → Nat → Nat
  | 0, a => a
  | n + 1, a => (twF adj r n a) + (adj r n).toNat
def twA (adj : Nat → Nat → Bool) : Nat → Nat
  | 0 => 0
  | r + 1 => twF adj r r (twA adj r)
theorem l_5i {X : Scr} {d r a : Nat} {w : Wd} {Q : Int32 → Wd → Prop} (hr : r < 20) (kk : EI X (d + 2) 5 (4, [some (.ref 102), some (.int (nI (twF (adF w) r r a))), some (.int (nI (r + 1))), none], [], SH, w) Q) : ∀ (m n : Nat), n + m = r → EI X (d + 2) 5 (12, [some (.ref 102), some (.int (nI (twF (adF w) r n a))), some (.int (nI r)), some (.int (nI n))], [], SH, w) Q := by
  intro m
  induction m with
  | zero =>
    intro n h
    have e : n = r := by omega
    subst e
    refine t5_102_at12 w _ _ _ ?_
    rw [if_pos (nI_le (Nat.le_refl _) (by omega)), k1]
    exact kk
  | succ m ih =>
    intro n h
    have g := ih (n + 1) (by omega)
    have e : twF (adF w) r (n + 1) a = twF (adF w) r n a + (adF w r n).toNat := rfl
    refine t5_102_at12 w _ _ _ ?_
    rw [if_neg (nI_ge (by omega) (by omega)), k1, k1]
    have had : F_8_102 (nI r) (nI n) w = 0 ↔ adF w r n = false := by unfold adF; simp
    cases h1 : adF w r n with
    | false =>
      rw [if_pos (had.mpr h1)]
      rw [h1] at e
      rw [e] at g
      exact g
    | true =>
      rw [if_neg (fun e2 => by rw [had, h1] at e2; cases e2)]
      rw [h1] at e
      rw [e] at g
      exact g
theorem l_5 {X : Scr} {d : Nat} {w : Wd} : ∀ (m r : Nat), r + m = 20 → EI X (d + 2) 5 (4, [some (.ref 102), some (.int (nI (twA (adF w) r))), some (.int (nI r)), none], [], SH, w) (fun x u => x = nI (twA (adF w) 20) ∧ u = w) := by
  intro m
  induction m with
  | zero =>
    intro r h
    have e : r = 20 := by omega
    subst e
    refine t5_102_at4 w _ _ ?_
    rw [if_pos (by decide)]
    exact ⟨rfl, rfl⟩
  | succ m ih =>
    intro r h
    refine t5_102_at4 w _ _ ?_
    rw [if_neg (lt_20 r (by omega))]
    exact l_5i (by omega) (ih (r + 1) (by omega)) r 0 (Nat.zero_add _)
end MATCHC
