/-! months, part 4: the cheapest county -/
section MONTHS4
def chS (K : Nat → Int32) (c : Nat) (p : Option Nat × Int32) : Option Nat × Int32 := match p.1 with
  | none => (some c, K c)
  | some _ => if K c < p.2 then (some c, K c) else p
def chF (fc : Nat → Bool) (K : Nat → Int32) : Nat → Nat → Option Nat × Int32 → Option Nat × Int32
  | 0, _, p => p
  | m + 1, c, p => chF fc K m (c + 1) (if fc c then chS K c p else p)
theorem chS_lt {K : Nat → Int32} {c : Nat} {p : Option Nat × Int32} (hp : ∀ b, p.1 = some b → b < c) : ∀ b, (chS K c p).1 = some b → b < c + 1 := by
  intro b hb
  unfold chS at hb
  split at hb
  · cases hb; omega
  · split at hb
    · cases hb; omega
    · have := hp b hb; omega
theorem chF_lt {fc : Nat → Bool} {K : Nat → Int32} : ∀ (m c : Nat) (p : Option Nat × Int32), (∀ b, p.1 = some b → b < c) → ∀ b, (chF fc K m c p).1 = some b → b < c + m
  | 0, _, _, h => h
  | m + 1, c, p, h => by
    intro b hb
    have := chF_lt m (c + 1) (if fc c then chS K c p else p) (by
      split
      · exact chS_lt h
      · intro b hb; have := h b hb; omega) b hb
    omega
variable {op ar : Nat → Nat} {lt : Nat → Int32} {la lm lb : Nat → Nat} {cnt len : Nat} {fc : Nat → Bool}
def CHI_7 (w u : Wd) (n : Nat → Int32) (p : Option Nat × Int32) : Prop := (p.1 ≠ none → u 87 9 = p.2) ∧ (∀ j, j ≠ 9 → u 87 j = w 87 j) ∧ ∀ a, a ≠ 85 → a ≠ 86 → a ≠ 87 → u a = w a
theorem l_27_7 {X : Scr} {d f : Nat} {w : Wd} {n : Nat → Int32} (hf : f < 6) (hB : BK 7 w n) (hL : LAWC w op ar lt la lm lb cnt len) (hY : LWV op ar lt la lm lb cnt len) (hfc : ∀ c, c < 6 → (F_51_3 (nI c) w = 0 ↔ fc c = false)) : ∀ (m c : Nat) (u : Wd) (p : Option Nat × Int32), c + m = 6 → (∀ b, p.1 = some b → b < c) → CHI_7 w u n p → EI X (d + 4) 27 (5, [some (.ref 87), some (.ref 7), some (.int (nI f)), some (.int (enO p.1)), some (.int (nI c)), none], [], SH, u) (fun x u2 => x = enO (chF fc (fun c => lawA op ar lt la lm lb cnt (kI 107) 99 (Vof n (w 5) (w 4) c f (kI 11))) m c p).1 ∧ CHI_7 w u2 n (chF fc (fun c => lawA op ar lt la lm lb cnt (kI 107) 99 (Vof n (w 5) (w 4) c f (kI 11))) m c p)) := by
  intro m
  induction m with
  | zero =>
    intro c u p h hp hI
    have hc : c = 6 := by omega
    subst hc
    refine t27_87_7_at5 (d := d + 1) u _ _ _ ?_
    rw [if_pos (by decide)]
    exact ⟨rfl, hI⟩
  | succ m ih =>
    intro c u p h hp hI
    have hc : c < 6 := by omega
    obtain ⟨i1, i2, i3⟩ := hI
    have e3 : u 3 = w 3 := i3 3 (by decide) (by decide) (by decide)
    refine t27_87_7_at5 (d := d + 1) u _ _ _ ?_
    rw [if_neg (lt_6 c hc), f51_cg e3, k1]
    unfold chF
    by_cases h0 : F_51_3 (nI c) w = 0
    · rw [if_pos h0, (hfc c hc).mp h0, if_neg (show ¬ (false = true) by decide)]
      exact ih (c + 1) u p (by omega) (fun b hb => by have := hp b hb; omega) ⟨i1, i2, i3⟩
    · have hc1 : fc c = true := by
        cases e : fc c with
        | true => rfl
        | false => exact absurd ((hfc c hc).mpr e) h0
      rw [if_neg h0, hc1, if_pos (show (true = true) from rfl)]
      have hBu : BK 7 u n := hB.congr (i3 7 (by decide) (by decide) (by decide)) (i3 8 (by decide) (by decide) (by decide)) (i3 9 (by decide) (by decide) (by decide)) (i3 10 (by decide) (by decide) (by decide)) (i3 11 (by decide) (by decide) (by decide))
      obtain ⟨v1, v2⟩ := tv_7 (mo := kI 11) hBu hc hf
      rw [i3 5 (by decide) (by decide) (by decide), i3 4 (by decide) (by decide) (by decide)] at v1
      generalize G_28_87_7 (nI c) (nI f) (kI 11) u = u0 at v1 v2 ⊢
      have f0 : ∀ a, a ≠ 85 → a ≠ 86 → a ≠ 87 → u0 a = w a := fun a h2 h3 h4 => by rw [v2 a h2]; exact i3 a h2 h3 h4
      have L0 : LAWC u0 op ar lt la lm lb cnt len := hL.cg2 (fun c h1 h2 => f0 c (by omega) (by omega) (by omega))
      refine CI.mono (c_29 (d := d) L0 hY v1 (l := kI 107) (v := 99) (by decide) (by decide)) ?_
      intro x1 u1 hx1
      have ex1 : x1 = lawA op ar lt la lm lb cnt (kI 107) 99 (Vof n (w 5) (w 4) c f (kI 11)) := hx1.1
      have g1 := hx1.2
      have f1 : ∀ a, a ≠ 85 → a ≠ 86 → a ≠ 87 → u1 a = w a := fun a h2 h3 h4 => by rw [g1 a h3]; exact f0 a h2 h3 h4
      have j1 : ∀ j, u1 87 j = u 87 j := fun j => by rw [g1 87 (by decide), v2 87 (by decide)]
      have set : CHI_7 w (up2 u1 87 9 x1) n (some c, lawA op ar lt la lm lb cnt (kI 107) 99 (Vof n (w 5) (w 4) c f (kI 11))) := ⟨fun _ => by rw [up2_at, if_pos rfl, ex1], fun j hj => by rw [up2_at, if_neg hj, j1 j]; exact i2 j hj, fun a h1 h2 h3 => by rw [up2_ne h3]; exact f1 a h1 h2 h3⟩
      have hlt := chS_lt (K := fun c => lawA op ar lt la lm lb cnt (kI 107) 99 (Vof n (w 5) (w 4) c f (kI 11))) hp
      obtain ⟨o, dy⟩ := p
      cases o with
      | none =>
        rw [if_pos (show enO (none, dy).1 = kI (-1) from rfl)]
        exact ih (c + 1) _ (some c, _) (by omega) hlt set
      | some b =>
        have hb := hp b rfl
        rw [if_neg (show ¬ enO (some b, dy).1 = kI (-1) from nI_m1 (by omega)), j1 9, i1 (by intro e; cases e), ex1]
        by_cases hle : dy ≤ lawA op ar lt la lm lb cnt (kI 107) 99 (Vof n (w 5) (w 4) c f (kI 11))
        · rw [if_pos hle]
          have e : chS (fun c => lawA op ar lt la lm lb cnt (kI 107) 99 (Vof n (w 5) (w 4) c f (kI 11))) c (some b, dy) = (some b, dy) := if_neg (Int32.not_lt.mpr hle)
          rw [e] at hlt ⊢
          exact ih (c + 1) u1 (some b, dy) (by omega) hlt ⟨fun _ => by rw [j1 9]; exact i1 (by intro e; cases e), fun j hj => by rw [j1 j]; exact i2 j hj, f1⟩
        · rw [if_neg hle]
          have e : chS (fun c => lawA op ar lt la lm lb cnt (kI 107) 99 (Vof n (w 5) (w 4) c f (kI 11))) c (some b, dy) = (some c, lawA op ar lt la lm lb cnt (kI 107) 99 (Vof n (w 5) (w 4) c f (kI 11))) := if_pos (Int32.not_le.mp hle)
          rw [e] at hlt ⊢
          rw [ex1] at set
          exact ih (c + 1) _ (some c, _) (by omega) hlt set
theorem c_27_7 {X : Scr} {d f : Nat} {w : Wd} {n : Nat → Int32} (hf : f < 6) (hB : BK 7 w n) (hL : LAWC w op ar lt la lm lb cnt len) (hY : LWV op ar lt la lm lb cnt len) (hfc : ∀ c, c < 6 → (F_51_3 (nI c) w = 0 ↔ fc c = false)) : CI X (d + 5) 27 [.ref 87, .ref 7, .int (nI f)] w (fun x u2 => x = enO (chF fc (fun c => lawA op ar lt la lm lb cnt (kI 107) 99 (Vof n (w 5) (w 4) c f (kI 11))) 6 0 (none, 0)).1 ∧ CHI_7 w u2 n (chF fc (fun c => lawA op ar lt la lm lb cnt (kI 107) 99 (Vof n (w 5) (w 4) c f (kI 11))) 6 0 (none, 0))) :=
  CI.of rfl (t27_87_7_at0 (d := d + 1) w _ (l_27_7 hf hB hL hY hfc 6 0 w (none, 0) rfl (fun b h => by cases h) ⟨fun h => absurd rfl h, fun _ _ => rfl, fun _ _ _ _ => rfl⟩))
def CHI_17 (w u : Wd) (n : Nat → Int32) (p : Option Nat × Int32) : Prop := (p.1 ≠ none → u 87 9 = p.2) ∧ (∀ j, j ≠ 9 → u 87 j = w 87 j) ∧ ∀ a, a ≠ 85 → a ≠ 86 → a ≠ 87 → u a = w a
theorem l_27_17 {X : Scr} {d f : Nat} {w : Wd} {n : Nat → Int32} (hf : f < 6) (hB : BK 17 w n) (hL : LAWC w op ar lt la lm lb cnt len) (hY : LWV op ar lt la lm lb cnt len) (hfc : ∀ c, c < 6 → (F_51_3 (nI c) w = 0 ↔ fc c = false)) : ∀ (m c : Nat) (u : Wd) (p : Option Nat × Int32), c + m = 6 → (∀ b, p.1 = some b → b < c) → CHI_17 w u n p → EI X (d + 4) 27 (5, [some (.ref 87), some (.ref 17), some (.int (nI f)), some (.int (enO p.1)), some (.int (nI c)), none], [], SH, u) (fun x u2 => x = enO (chF fc (fun c => lawA op ar lt la lm lb cnt (kI 107) 99 (Vof n (w 5) (w 4) c f (kI 11))) m c p).1 ∧ CHI_17 w u2 n (chF fc (fun c => lawA op ar lt la lm lb cnt (kI 107) 99 (Vof n (w 5) (w 4) c f (kI 11))) m c p)) := by
  intro m
  induction m with
  | zero =>
    intro c u p h hp hI
    have hc : c = 6 := by omega
    subst hc
    refine t27_87_17_at5 (d := d + 1) u _ _ _ ?_
    rw [if_pos (by decide)]
    exact ⟨rfl, hI⟩
  | succ m ih =>
    intro c u p h hp hI
    have hc : c < 6 := by omega
    obtain ⟨i1, i2, i3⟩ := hI
    have e3 : u 3 = w 3 := i3 3 (by decide) (by decide) (by decide)
    refine t27_87_17_at5 (d := d + 1) u _ _ _ ?_
    rw [if_neg (lt_6 c hc), f51_cg e3, k1]
    unfold chF
    by_cases h0 : F_51_3 (nI c) w = 0
    · rw [if_pos h0, (hfc c hc).mp h0, if_neg (show ¬ (false = true) by decide)]
      exact ih (c + 1) u p (by omega) (fun b hb => by have := hp b hb; omega) ⟨i1, i2, i3⟩
    · have hc1 : fc c = true := by
        cases e : fc c with
        | true => rfl
        | false => exact absurd ((hfc c hc).mpr e) h0
      rw [if_neg h0, hc1, if_pos (show (true = true) from rfl)]
      have hBu : BK 17 u n := hB.congr (i3 17 (by decide) (by decide) (by decide)) (i3 18 (by decide) (by decide) (by decide)) (i3 19 (by decide) (by decide) (by decide)) (i3 20 (by decide) (by decide) (by decide)) (i3 21 (by decide) (by decide) (by decide))
      obtain ⟨v1, v2⟩ := tv_17 (mo := kI 11) hBu hc hf
      rw [i3 5 (by decide) (by decide) (by decide), i3 4 (by decide) (by decide) (by decide)] at v1
      generalize G_28_87_17 (nI c) (nI f) (kI 11) u = u0 at v1 v2 ⊢
      have f0 : ∀ a, a ≠ 85 → a ≠ 86 → a ≠ 87 → u0 a = w a := fun a h2 h3 h4 => by rw [v2 a h2]; exact i3 a h2 h3 h4
      have L0 : LAWC u0 op ar lt la lm lb cnt len := hL.cg2 (fun c h1 h2 => f0 c (by omega) (by omega) (by omega))
      refine CI.mono (c_29 (d := d) L0 hY v1 (l := kI 107) (v := 99) (by decide) (by decide)) ?_
      intro x1 u1 hx1
      have ex1 : x1 = lawA op ar lt la lm lb cnt (kI 107) 99 (Vof n (w 5) (w 4) c f (kI 11)) := hx1.1
      have g1 := hx1.2
      have f1 : ∀ a, a ≠ 85 → a ≠ 86 → a ≠ 87 → u1 a = w a := fun a h2 h3 h4 => by rw [g1 a h3]; exact f0 a h2 h3 h4
      have j1 : ∀ j, u1 87 j = u 87 j := fun j => by rw [g1 87 (by decide), v2 87 (by decide)]
      have set : CHI_17 w (up2 u1 87 9 x1) n (some c, lawA op ar lt la lm lb cnt (kI 107) 99 (Vof n (w 5) (w 4) c f (kI 11))) := ⟨fun _ => by rw [up2_at, if_pos rfl, ex1], fun j hj => by rw [up2_at, if_neg hj, j1 j]; exact i2 j hj, fun a h1 h2 h3 => by rw [up2_ne h3]; exact f1 a h1 h2 h3⟩
      have hlt := chS_lt (K := fun c => lawA op ar lt la lm lb cnt (kI 107) 99 (Vof n (w 5) (w 4) c f (kI 11))) hp
      obtain ⟨o, dy⟩ := p
      cases o with
      | none =>
        rw [if_pos (show enO (none, dy).1 = kI (-1) from rfl)]
        exact ih (c + 1) _ (some c, _) (by omega) hlt set
      | some b =>
        have hb := hp b rfl
        rw [if_neg (show ¬ enO (some b, dy).1 = kI (-1) from nI_m1 (by omega)), j1 9, i1 (by intro e; cases e), ex1]
        by_cases hle : dy ≤ lawA op ar lt la lm lb cnt (kI 107) 99 (Vof n (w 5) (w 4) c f (kI 11))
        · rw [if_pos hle]
          have e : chS (fun c => lawA op ar lt la lm lb cnt (kI 107) 99 (Vof n (w 5) (w 4) c f (kI 11))) c (some b, dy) = (some b, dy) := if_neg (Int32.not_lt.mpr hle)
          rw [e] at hlt ⊢
          exact ih (c + 1) u1 (some b, dy) (by omega) hlt ⟨fun _ => by rw [j1 9]; exact i1 (by intro e; cases e), fun j hj => by rw [j1 j]; exact i2 j hj, f1⟩
        · rw [if_neg hle]
          have e : chS (fun c => lawA op ar lt la lm lb cnt (kI 107) 99 (Vof n (w 5) (w 4) c f (kI 11))) c (some b, dy) = (some c, lawA op ar lt la lm lb cnt (kI 107) 99 (Vof n (w 5) (w 4) c f (kI 11))) := if_pos (Int32.not_le.mp hle)
          rw [e] at hlt ⊢
          rw [ex1] at set
          exact ih (c + 1) _ (some c, _) (by omega) hlt set
theorem c_27_17 {X : Scr} {d f : Nat} {w : Wd} {n : Nat → Int32} (hf : f < 6) (hB : BK 17 w n) (hL : LAWC w op ar lt la lm lb cnt len) (hY : LWV op ar lt la lm lb cnt len) (hfc : ∀ c, c < 6 → (F_51_3 (nI c) w = 0 ↔ fc c = false)) : CI X (d + 5) 27 [.ref 87, .ref 17, .int (nI f)] w (fun x u2 => x = enO (chF fc (fun c => lawA op ar lt la lm lb cnt (kI 107) 99 (Vof n (w 5) (w 4) c f (kI 11))) 6 0 (none, 0)).1 ∧ CHI_17 w u2 n (chF fc (fun c => lawA op ar lt la lm lb cnt (kI 107) 99 (Vof n (w 5) (w 4) c f (kI 11))) 6 0 (none, 0))) :=
  CI.of rfl (t27_87_17_at0 (d := d + 1) w _ (l_27_17 hf hB hL hY hfc 6 0 w (none, 0) rfl (fun b h => by cases h) ⟨fun h => absurd rfl h, fun _ _ => rfl, fun _ _ _ _ => rfl⟩))
def CHR (w u : Wd) (p : Option Nat × Int32) : Prop := (p.1 ≠ none → u 110 40 = p.2) ∧ (∀ j, j ≠ 40 → u 110 j = w 110 j) ∧ ∀ a, a ≠ 110 → a ≠ 129 → a ≠ 130 → u a = w a
theorem l_205 {X : Scr} {d f : Nat} {w : Wd} (hf : f < 6) (hz : ∀ c, c < 6 → F_164_110 (nI c) w = 0 → w 111 (6 * c + f) = 0) (hL : LWR w op ar lt la lm lb cnt len) (hY : LWV op ar lt la lm lb cnt len) (hfc : ∀ c, c < 6 → (F_164_110 (nI c) w = 0 ↔ fc c = false)) : ∀ (m c : Nat) (u : Wd) (p : Option Nat × Int32), c + m = 6 → (∀ b, p.1 = some b → b < c) → CHR w u p → EI X (d + 4) 205 (4, [some (.ref 110), some (.int (nI f)), some (.int (enO p.1)), some (.int (nI c)), none], [], SH, u) (fun x u2 => x = enO (chF fc (fun c => lawA op ar lt la lm lb cnt (kI 107) 99 (Vof (w 111) (w 116) (w 114) c f (kI 11))) m c p).1 ∧ CHR w u2 (chF fc (fun c => lawA op ar lt la lm lb cnt (kI 107) 99 (Vof (w 111) (w 116) (w 114) c f (kI 11))) m c p)) := by
  intro m
  induction m with
  | zero =>
    intro c u p h hp hI
    have hc : c = 6 := by omega
    subst hc
    refine t205_110_at4 (d := d + 2) u _ _ _ ?_
    rw [if_pos (by decide)]
    exact ⟨rfl, hI⟩
  | succ m ih =>
    intro c u p h hp hI
    have hc : c < 6 := by omega
    obtain ⟨i1, i2, i3⟩ := hI
    have e6 : u 110 6 = w 110 6 := i2 6 (by decide)
    refine t205_110_at4 (d := d + 2) u _ _ _ ?_
    rw [if_neg (lt_6 c hc), c164 e6, k1]
    unfold chF
    by_cases h0 : F_164_110 (nI c) w = 0
    · rw [if_pos h0, (hfc c hc).mp h0, if_neg (show ¬ (false = true) by decide)]
      exact ih (c + 1) u p (by omega) (fun b hb => by have := hp b hb; omega) ⟨i1, i2, i3⟩
    · have hc1 : fc c = true := by
        cases e : fc c with
        | true => rfl
        | false => exact absurd ((hfc c hc).mpr e) h0
      rw [if_neg h0, hc1, if_pos (show (true = true) from rfl)]
      have e111 : u 111 = w 111 := i3 111 (by decide) (by decide) (by decide)
      refine CU.mono (c_201 (d := d) (mo := kI 11) hc hf (fun c2 hc2 h2 => by rw [e111]; exact hz c2 hc2 (by rw [← c164 e6]; exact h2))) ?_
      intro u0 g0
      obtain ⟨v1, v2⟩ := g0
      rw [e111, i3 116 (by decide) (by decide) (by decide), i3 114 (by decide) (by decide) (by decide)] at v1
      have L0 : LWR u0 op ar lt la lm lb cnt len := hL.cg2 (by rw [v2 110 (by decide)]; exact i2 19 (by decide)) (fun a h1 h2 => by rw [v2 a (by omega)]; exact i3 a (by omega) (by omega) (by omega))
      refine CI.mono (c_199 (d := d + 1) L0 hY v1 (l := kI 107) (v := nI 99) (by decide)) ?_
      intro x1 u1 hx1
      have ex1 : x1 = lawA op ar lt la lm lb cnt (kI 107) 99 (Vof (w 111) (w 116) (w 114) c f (kI 11)) := hx1.1
      have g1 := hx1.2
      have f1 : ∀ a, a ≠ 110 → a ≠ 129 → a ≠ 130 → u1 a = w a := fun a h2 h3 h4 => by rw [g1 a h3, v2 a h4]; exact i3 a h2 h3 h4
      have j1 : ∀ j, u1 110 j = u 110 j := fun j => by rw [g1 110 (by decide), v2 110 (by decide)]
      have set : CHR w (up2 u1 110 40 x1) (some c, lawA op ar lt la lm lb cnt (kI 107) 99 (Vof (w 111) (w 116) (w 114) c f (kI 11))) := ⟨fun _ => by rw [up2_at, if_pos rfl, ex1], fun j hj => by rw [up2_at, if_neg hj, j1 j]; exact i2 j hj, fun a h1 h2 h3 => by rw [up2_ne h1]; exact f1 a h1 h2 h3⟩
      have hlt := chS_lt (K := fun c => lawA op ar lt la lm lb cnt (kI 107) 99 (Vof (w 111) (w 116) (w 114) c f (kI 11))) hp
      obtain ⟨o, dy⟩ := p
      cases o with
      | none =>
        rw [if_pos (show enO (none, dy).1 = kI (-1) from rfl)]
        exact ih (c + 1) _ (some c, _) (by omega) hlt set
      | some b =>
        have hb := hp b rfl
        rw [if_neg (show ¬ enO (some b, dy).1 = kI (-1) from nI_m1 (by omega)), j1 40, i1 (by intro e; cases e), ex1]
        by_cases hlt2 : lawA op ar lt la lm lb cnt (kI 107) 99 (Vof (w 111) (w 116) (w 114) c f (kI 11)) < dy
        · rw [if_pos hlt2]
          have e : chS (fun c => lawA op ar lt la lm lb cnt (kI 107) 99 (Vof (w 111) (w 116) (w 114) c f (kI 11))) c (some b, dy) = (some c, lawA op ar lt la lm lb cnt (kI 107) 99 (Vof (w 111) (w 116) (w 114) c f (kI 11))) := if_pos hlt2
          rw [e] at hlt ⊢
          rw [ex1] at set
          exact ih (c + 1) _ (some c, _) (by omega) hlt set
        · rw [if_neg hlt2]
          have e : chS (fun c => lawA op ar lt la lm lb cnt (kI 107) 99 (Vof (w 111) (w 116) (w 114) c f (kI 11))) c (some b, dy) = (some b, dy) := if_neg hlt2
          rw [e] at hlt ⊢
          exact ih (c + 1) u1 (some b, dy) (by omega) hlt ⟨fun _ => by rw [j1 40]; exact i1 (by intro e; cases e), fun j hj => by rw [j1 j]; exact i2 j hj, f1⟩
theorem c_205 {X : Scr} {d f : Nat} {w : Wd} (hf : f < 6) (hz : ∀ c, c < 6 → F_164_110 (nI c) w = 0 → w 111 (6 * c + f) = 0) (hL : LWR w op ar lt la lm lb cnt len) (hY : LWV op ar lt la lm lb cnt len) (hfc : ∀ c, c < 6 → (F_164_110 (nI c) w = 0 ↔ fc c = false)) : CI X (d + 5) 205 [.ref 110, .int (nI f)] w (fun x u2 => x = enO (chF fc (fun c => lawA op ar lt la lm lb cnt (kI 107) 99 (Vof (w 111) (w 116) (w 114) c f (kI 11))) 6 0 (none, 0)).1 ∧ CHR w u2 (chF fc (fun c => lawA op ar lt la lm lb cnt (kI 107) 99 (Vof (w 111) (w 116) (w 114) c f (kI 11))) 6 0 (none, 0))) :=
  CI.of rfl (t205_110_at0 (d := d + 2) w _ (l_205 hf hz hL hY hfc 6 0 w (none, 0) rfl (fun b h => by cases h) ⟨fun h => absurd rfl h, fun _ _ => rfl, fun _ _ _ _ => rfl⟩))
end MONTHS4
