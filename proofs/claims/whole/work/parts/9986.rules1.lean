/-! rules, part 1: the rules of a law as functions; the class's readRule -/
section RULES1
abbrev Ru : Type := Nat × Nat × Nat × Nat
abbrev RuS : Type := PSs × (Nat → Ru) × Nat
def updR (f : Nat → Ru) (k : Nat) (v : Ru) : Nat → Ru := fun i => if i = k then v else f i
abbrev okLe (z : Nat) : Prop := z = 110 ∨ z = 100 ∨ z = 107 ∨ z = 120
def hdF (ch : Nat → Nat) (s : PSs) : PRs := if ch s.1 = 120 then .inr (s.1 + 1, s.2) else eF ch 6 (s.1 + 1, s.2)
def ruF (ch : Nat → Nat) (x : RuS) : Int32 ⊕ RuS :=
  if okLe (ch x.1.1) then (if x.2.2 = 16 then .inl (flt (kI 4) x.1.1) else (match hdF ch x.1 with
    | .inl e => .inl e
    | .inr t => (match bkF ch 6 t with
      | .inl e => .inl e
      | .inr q => .inr (q, updR x.2.1 x.2.2 (ch x.1.1, x.1.2.2.2, t.2.2.2, q.2.2.2), x.2.2 + 1)))) else .inl (flt (kI 1) x.1.1)
def ruL (ch : Nat → Nat) : Nat → RuS → Int32 ⊕ RuS
  | 0, x => .inr x
  | m + 1, x => if ch x.1.1 = 256 then .inr x else if ch x.1.1 = 59 then (match ruF ch ((x.1.1 + 1, x.1.2), x.2) with
    | .inl e => .inl e
    | .inr y => ruL ch m y) else .inl (flt (kI 1) x.1.1)
def RU1 (u : Wd) (rl : Nat → Ru) (i : Nat) : Prop := u 32 i = nI (rl i).1 ∧ u 33 i = nI (rl i).2.1 ∧ u 34 i = nI (rl i).2.2.1 ∧ u 35 i = nI (rl i).2.2.2
def GRc (w u : Wd) : Prop := (∀ a, a ≠ 1 → (a < 29 ∨ 35 < a) → u a = w a) ∧ (∀ j, j ≠ 3 → j ≠ 4 → u 1 j = w 1 j) ∧ ∀ j, j ≠ 6 → j ≠ 7 → u 29 j = w 29 j
theorem GRc.refl (w : Wd) : GRc w w := ⟨fun _ _ _ => rfl, fun _ _ _ => rfl, fun _ _ _ => rfl⟩
theorem GRc.trans {w u v : Wd} (h : GRc w u) (g : GRc u v) : GRc w v := ⟨fun a h1 h2 => (g.1 a h1 h2).trans (h.1 a h1 h2), fun j h3 h4 => (g.2.1 j h3 h4).trans (h.2.1 j h3 h4), fun j h3 h4 => (g.2.2 j h3 h4).trans (h.2.2 j h3 h4)⟩
theorem GRc.gp {w u : Wd} (h : GPc w u) : GRc w u := ⟨fun a h1 h2 => h.1 a h1 (by omega) (by omega) (by omega), h.2.1, fun j h3 _ => h.2.2 j h3⟩
theorem GRc.p {u : Wd} {a k : Nat} {v : Int32} (h : 29 < a ∧ a ≤ 35) : GRc u (up2 u a k v) := ⟨fun b _ h2 => up2_ne (by omega), fun j _ _ => by rw [up2_ne (by omega)], fun j _ _ => by rw [up2_ne (by omega)]⟩
theorem GRc.p29 {u : Wd} {k : Nat} {v : Int32} (h : k = 6 ∨ k = 7) : GRc u (up2 u 29 k v) := ⟨fun b _ h2 => up2_ne (by omega), fun j _ _ => by rw [up2_ne (by omega)], fun j _ _ => by rw [up2_at, if_neg (by omega)]⟩
theorem GRc.p1 {u : Wd} {k : Nat} {v : Int32} (h : k = 3 ∨ k = 4) : GRc u (up2 u 1 k v) := ⟨fun b h1 _ => up2_ne h1, fun j _ _ => by rw [up2_at, if_neg (by omega)], fun j _ _ => by rw [up2_ne (by omega)]⟩
def RSc (w u : Wd) (ch : Nat → Nat) (n : Nat) (x : RuS) : Prop := GRc w u ∧ TXC u ch n x.1.1 ∧ CCd u x.1.2 ∧ u 1 4 = kI 0 ∧ x.1.2.2.2 ≤ x.1.1 ∧ n ≤ 240 ∧ u 29 7 = nI x.2.2 ∧ x.2.2 ≤ 16 ∧ ∀ i, i < x.2.2 → RU1 u x.2.1 i
def RSp (w u : Wd) (ch : Nat → Nat) (n : Nat) (t : PSs) (rl : Nat → Ru) (m z a : Nat) : Prop := GRc w u ∧ TXC u ch n t.1 ∧ CCd u t.2 ∧ u 1 4 = kI 0 ∧ t.2.2.2 ≤ t.1 ∧ n ≤ 240 ∧ u 29 7 = nI m ∧ m < 16 ∧ (∀ i, i < m → RU1 u rl i) ∧ u 32 m = nI z ∧ u 33 m = nI a
theorem cE6 {X : Scr} {d n : Nat} {w : Wd} {ch : Nat → Nat} (hc : CHn256 ch n) : CK X (d + 35) 70 w ch n (kI 0) (eF ch 6) := (c_E (d := d) hc 6 (by omega)).up 8
theorem cB6 {X : Scr} {d n : Nat} {w : Wd} {ch : Nat → Nat} (hc : CHn256 ch n) : CK X (d + 35) 65 w ch n (kI 0) (bkF ch 6) := c_65 (d := d + 30) (k := 6) (by omega) (fun k2 e => by
  rw [show k2 = 5 by omega]
  exact c_T (d := d) hc 5 (by omega))
theorem ix16 {u : Wd} {m : Nat} (h : u 29 7 = nI m) (hm : m ≤ 16) : ¬ (Int32.ofNat 16) ≤ (u 29 7) → inB (u 29 7) 16 = true := by
  intro e
  rw [h] at e ⊢
  have : m < 16 := Nat.lt_of_not_le (fun h2 => e (nI_le (a := 16) (b := m) h2 (by omega)))
  exact inB_nI this (by decide)
/-- the condition of a rule -/
theorem rb_c {X : Scr} {d n m z a : Nat} {w u : Wd} {ch : Nat → Nat} {t : PSs} {rl : Nat → Ru} {Q : Int32 → Wd → Prop} (h : RSp w u ch n t rl m z a) (q0 : ∀ e, bkF ch 6 t = .inl e → ∀ v, GRc w v → v 1 4 = e → Q (kI 0) v) (q1 : ∀ q, bkF ch 6 t = .inr q → ∀ v, RSc w v ch n (q, updR rl m (z, a, t.2.2.2, q.2.2.2), m + 1) → Q (kI 1) v) : (¬ (Int32.ofNat 16) ≤ (u 29 7) → (inB (u 29 7) 16 = true)) ∧ CI X (d + 35) 65 [.ref 79, .int (kI 0)] (G_81_29 u) (fun x3 w3 => (if x3 = 0 then Q (kI 0) w3 else ((¬ (Int32.ofNat 16) ≤ (w3 29 7) → (inB (w3 29 7) 16 = true)) ∧ Q (kI 1) (G_82_29 w3)))) := by
  obtain ⟨h1, h2, h3, h4, h5, h6, h7, h8, h9, h10, h11⟩ := h
  have hc := h2.c256
  have e81 : G_81_29 u = up2 u 34 m (nI t.2.2.2) := by
    unfold G_81_29
    rw [if_neg (by rw [h7]; exact nI_ge (a := m) (b := 16) h8 (by decide)), h7, nI_clamp (by omega), h3.1]
  refine ⟨ix16 h7 (by omega), ?_⟩
  rw [e81]
  have hs : STc (up2 u 34 m (nI t.2.2.2)) (up2 u 34 m (nI t.2.2.2)) ch n t := ⟨GPc.refl _, h2.gp (up2_ne (by decide)) (up2_ne (by decide)), h3.cg (by rw [up2_ne (by decide)]) (up2_ne (by decide)) (up2_ne (by decide)), by rw [up2_ne (by decide)]; exact h4, h5, h6⟩
  refine CI.mono (cB6 (d := d) hc _ t hs) (fun x v hv => ?_)
  obtain ⟨g1, g2, g3⟩ := hv
  have hG : GRc w v := (h1.trans (GRc.p (by decide))).trans (GRc.gp g1)
  cases er : bkF ch 6 t with
  | inl e =>
    rw [er] at g3
    rw [g3.1, if_pos (by decide)]
    exact q0 e er v hG g3.2
  | inr q =>
    rw [er] at g3
    obtain ⟨gx, s1, s2, s3, s4, s5, s6⟩ := g3
    rw [gx, if_neg (by decide)]
    have f7 : v 29 7 = nI m := by rw [g1.2.2 7 (by decide), up2_ne (by decide)]; exact h7
    have e82 : G_82_29 v = up2 (up2 v 35 m (nI q.2.2.2)) 29 7 (nI (m + 1)) := by
      unfold G_82_29
      rw [if_neg (by rw [f7]; exact nI_ge (a := m) (b := 16) h8 (by decide)), f7, nI_clamp (by omega), s3.1, k1]
    refine ⟨ix16 f7 (by omega), ?_⟩
    rw [e82]
    have f32 : v 32 = u 32 := by rw [g1.1 32 (by decide) (by decide) (by decide) (by decide), up2_ne (by decide)]
    have f33 : v 33 = u 33 := by rw [g1.1 33 (by decide) (by decide) (by decide) (by decide), up2_ne (by decide)]
    have f34 : ∀ i, v 34 i = if i = m then nI t.2.2.2 else u 34 i := by intro i; rw [g1.1 34 (by decide) (by decide) (by decide) (by decide), up2_at]
    have f35 : v 35 = u 35 := by rw [g1.1 35 (by decide) (by decide) (by decide) (by decide), up2_ne (by decide)]
    refine q1 q er _ ⟨(hG.trans (GRc.p (by decide))).trans (GRc.p29 (Or.inr rfl)), s2.gp (by rw [up2_ne (by decide), up2_ne (by decide)]) (by rw [up2_ne (by decide), up2_ne (by decide)]), s3.cg (by rw [up2_at, if_neg (by decide), up2_ne (by decide)]) (by rw [up2_ne (by decide), up2_ne (by decide)]) (by rw [up2_ne (by decide), up2_ne (by decide)]), by rw [up2_ne (by decide), up2_ne (by decide)]; exact s4, s5, s6, by rw [up2_at, if_pos rfl], by show m + 1 ≤ 16; omega, fun i hi => ?_⟩
    have hi2 : i < m + 1 := hi
    unfold RU1 updR
    dsimp only
    rw [up2_ne (by decide), up2_ne (by decide), up2_ne (by decide), up2_ne (by decide), up2_ne (by decide), up2_ne (by decide), up2_ne (by decide), up2_at, f32, f33, f34 i, f35]
    by_cases e : i = m
    · rw [if_pos e, if_pos e, if_pos e, e]
      exact ⟨h10, h11, rfl, rfl⟩
    · rw [if_neg e, if_neg e, if_neg e]
      exact h9 i (by omega)
end RULES1
