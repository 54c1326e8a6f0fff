/-! rules, part 7: the rules that are read are well formed -/
section RULES7
theorem SEGW.op {op ar op2 ar2 : Nat → Nat} {a b : Nat} {g : Bool} (h : SEGW op ar a b g) (e : ∀ k, a ≤ k → k < b → op2 k = op k ∧ ar2 k = ar k) : SEGW op2 ar2 a b g := by
  obtain ⟨ht, tb, p1, p2, p3, p4, p5⟩ := h
  exact ⟨ht, tb, p1, p2, p3, p4, fun k k1 k2 => stOK_op (p5 k k1 k2) (e k k1 k2).1 (e k k1 k2).2⟩
def RW1 (c : Cd) (r : Ru) : Prop := r.2.1 ≤ r.2.2.1 ∧ r.2.2.1 ≤ r.2.2.2 ∧ r.2.2.2 ≤ c.2.2 ∧ (r.1 ≠ 120 → SEGW c.1 c.2.1 r.2.1 r.2.2.1 false) ∧ SEGW c.1 c.2.1 r.2.2.1 r.2.2.2 true ∧ r.1 < 256
def RWv (n : Nat) (x : RuS) : Prop := CDB x.1.2 ∧ x.1.2.2.2 ≤ x.1.1 ∧ x.1.1 ≤ n ∧ x.2.2 ≤ 16 ∧ ∀ i, i < x.2.2 → RW1 x.1.2 (x.2.1 i)
theorem hd_ok {ch : Nat → Nat} {n : Nat} (hc : CHn256 ch n) {s t : PSs} (hz : ch s.1 < 256) (hl : s.2.2.2 ≤ s.1) (hb : CDB s.2) (e : hdF ch s = .inr t) : (∀ i, i < s.2.2.2 → t.2.1 i = s.2.1 i ∧ t.2.2.1 i = s.2.2.1 i) ∧ s.2.2.2 ≤ t.2.2.2 ∧ (ch s.1 ≠ 120 → SEGW t.2.1 t.2.2.1 s.2.2.2 t.2.2.2 false) ∧ CDB t.2 ∧ t.2.2.2 ≤ t.1 ∧ t.1 ≤ n := by
  unfold hdF at e
  have hlt := hc.lt hz
  by_cases h : ch s.1 = 120
  · rw [if_pos h] at e
    cases e
    exact ⟨fun _ _ => ⟨rfl, rfl⟩, Nat.le_refl _, fun h2 => absurd h h2, hb, by dsimp only; omega, hlt⟩
  · rw [if_neg h] at e
    have g := eF_grw hc 6 (s.1 + 1, s.2) t hlt e
    have sg := eF_sg 6 (s.1 + 1, s.2) t e
    have b := eF_b hc 6 (s.1 + 1, s.2) t hlt (by show s.2.2.2 ≤ s.1 + 1; omega) hb e
    dsimp only at g
    exact ⟨sg.1, by have := sg.2.1; dsimp only at this; omega, fun _ => (sg.2.2 0 (by decide)).w, b, by omega, g.2.1⟩
theorem ru_ok {ch : Nat → Nat} {n : Nat} (hc : CHn256 ch n) (hn : n ≤ 240) {x y : RuS} (h : RWv n x) (e : ruF ch x = .inr y) : RWv n y := by
  obtain ⟨h1, h2, h3, h4, h5⟩ := h
  unfold ruF at e
  by_cases hok : okLe (ch x.1.1)
  · rw [if_pos hok] at e
    have hok2 : ch x.1.1 = 110 ∨ ch x.1.1 = 100 ∨ ch x.1.1 = 107 ∨ ch x.1.1 = 120 := hok
    by_cases hm : x.2.2 = 16
    · rw [if_pos hm] at e; cases e
    · rw [if_neg hm] at e
      cases e1 : hdF ch x.1 with
      | inl r => rw [e1] at e; cases e
      | inr t =>
        rw [e1] at e
        dsimp only at e
        obtain ⟨a1, a2, a3, a4, a5, a6⟩ := hd_ok hc (by omega) h2 h1 e1
        cases e2 : bkF ch 6 t with
        | inl r => rw [e2] at e; cases e
        | inr q =>
          rw [e2] at e
          have g2 := bk_gr hc e2
          have sg := bk_sg t q e2
          have b := bk_b hc hn t q a6 a5 a4 e2
          have hgr : q.2.2.2 ≤ q.1 := by
            have hz : ch t.1 = 40 := by
              unfold bkF at e2
              by_cases hh : ch t.1 = 40
              · exact hh
              · rw [if_neg hh] at e2; cases e2
            have e3 : inF ch (cdF ch (tF ch 5)) 41 t = .inr q := by
              unfold bkF at e2
              rw [if_pos hz] at e2
              exact e2
            have := in_grw hc (by decide) (cd_grw hc (tF_grw hc 5)) t q (hc.lt (by omega)) e3
            omega
          cases e
          refine ⟨b, hgr, g2.2.1, by show x.2.2 + 1 ≤ 16; omega, fun i hi => ?_⟩
          have hi2 : i < x.2.2 + 1 := hi
          show RW1 q.2 (updR x.2.1 x.2.2 (ch x.1.1, x.1.2.2.2, t.2.2.2, q.2.2.2) i)
          unfold updR
          by_cases ei : i = x.2.2
          · rw [if_pos ei]
            refine ⟨a2, by show t.2.2.2 ≤ q.2.2.2; omega, Nat.le_refl _, fun hne => (a3 hne).op (fun k _ k2 => sg.1 k k2), (sg.2.2 0 (by decide)).w, by show ch x.1.1 < 256; omega⟩
          · rw [if_neg ei]
            obtain ⟨c1, c2, c3, c4, c5, c6⟩ := h5 i (by omega)
            have pre : ∀ k, k < x.1.2.2.2 → q.2.1 k = x.1.2.1 k ∧ q.2.2.1 k = x.1.2.2.1 k := fun k hk => ⟨(sg.1 k (by omega)).1.trans (a1 k hk).1, (sg.1 k (by omega)).2.trans (a1 k hk).2⟩
            exact ⟨c1, c2, by omega, fun hne => (c4 hne).op (fun k _ k2 => pre k (by omega)), c5.op (fun k _ k2 => pre k (by omega)), c6⟩
  · rw [if_neg hok] at e; cases e
theorem ru_ng {ch : Nat → Nat} {n : Nat} (hc : CHn256 ch n) (hn : n ≤ 240) {x : RuS} {r : Int32} (h : RWv n x) (e : ruF ch x = .inl r) : r < 0 := by
  obtain ⟨h1, h2, h3, h4, h5⟩ := h
  unfold ruF at e
  by_cases hok : okLe (ch x.1.1)
  · rw [if_pos hok] at e
    have hok2 : ch x.1.1 = 110 ∨ ch x.1.1 = 100 ∨ ch x.1.1 = 107 ∨ ch x.1.1 = 120 := hok
    by_cases hm : x.2.2 = 16
    · rw [if_pos hm] at e; rw [← Sum.inl.inj e]; exact flt_neg (c := 4) (by omega) (by omega) (by omega)
    · rw [if_neg hm] at e
      cases e1 : hdF ch x.1 with
      | inl r2 =>
        rw [e1] at e
        rw [← Sum.inl.inj e]
        unfold hdF at e1
        by_cases h120 : ch x.1.1 = 120
        · rw [if_pos h120] at e1; cases e1
        · rw [if_neg h120] at e1
          exact eF_n hc hn 6 (x.1.1 + 1, x.1.2) r2 (hc.lt (by omega)) e1
      | inr t =>
        rw [e1] at e
        dsimp only at e
        obtain ⟨a1, a2, a3, a4, a5, a6⟩ := hd_ok hc (by omega) h2 h1 e1
        cases e2 : bkF ch 6 t with
        | inl r2 => rw [e2] at e; rw [← Sum.inl.inj e]; exact bk_n hc hn t r2 a6 e2
        | inr q => rw [e2] at e; cases e
  · rw [if_neg hok] at e; rw [← Sum.inl.inj e]; exact flt_neg (c := 1) (by omega) (by omega) (by omega)
theorem ruL_ok {ch : Nat → Nat} {n : Nat} (hc : CHn256 ch n) (hn : n ≤ 240) : ∀ (m : Nat) (x : RuS), RWv n x → (∀ y, ruL ch m x = .inr y → RWv n y) ∧ ∀ r, ruL ch m x = .inl r → r < 0
  | 0, x, h => ⟨fun y e => by cases e; exact h, fun r e => by cases e⟩
  | m + 1, x, h => by
    unfold ruL
    by_cases h256 : ch x.1.1 = 256
    · rw [if_pos h256]; exact ⟨fun y e => by cases e; exact h, fun r e => by cases e⟩
    · rw [if_neg h256]
      by_cases h59 : ch x.1.1 = 59
      · rw [if_pos h59]
        have hlt := hc.lt (show ch x.1.1 < 256 by omega)
        have h2 : RWv n ((x.1.1 + 1, x.1.2), x.2) := ⟨h.1, by have := h.2.1; show x.1.2.2.2 ≤ x.1.1 + 1; omega, hlt, h.2.2.2.1, h.2.2.2.2⟩
        cases er : ruF ch ((x.1.1 + 1, x.1.2), x.2) with
        | inl r2 => exact ⟨fun y e => (by cases e), fun r e => by rw [← Sum.inl.inj e]; exact ru_ng hc hn h2 er⟩
        | inr y => exact ruL_ok hc hn m y (ru_ok hc hn h2 er)
      · rw [if_neg h59]
        exact ⟨fun y e => (by cases e), fun r e => by rw [← Sum.inl.inj e]; have := h.2.2.1; exact flt_neg (c := 1) (by omega) (by omega) (by omega)⟩
end RULES7
