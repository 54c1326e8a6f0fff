/-! months, part 5: the staff -/
section MONTHS5
theorem chF_told {fc : Nat → Bool} {K : Nat → Int32} : ∀ (m c : Nat) (p : Option Nat × Int32), (∀ b, p.1 = some b → fc b = true) → ∀ b, (chF fc K m c p).1 = some b → fc b = true
  | 0, _, _, h => h
  | m + 1, c, p, h => by
    intro b hb
    refine chF_told m (c + 1) (if fc c then chS K c p else p) ?_ b hb
    intro b2 hb2
    by_cases hc : fc c = true
    · rw [if_pos hc] at hb2
      unfold chS at hb2
      split at hb2
      · cases hb2; exact hc
      · split at hb2
        · cases hb2; exact hc
        · exact h b2 hb2
    · rw [if_neg hc] at hb2
      exact h b2 hb2
theorem chF_val {fc : Nat → Bool} {K : Nat → Int32} {m : Nat} (hK : ∀ c, nn (K c) m) : ∀ (k c : Nat) (p : Option Nat × Int32), (p.1 ≠ none → nn p.2 m) → (chF fc K k c p).1 ≠ none → nn (chF fc K k c p).2 m
  | 0, _, _, h => h
  | k + 1, c, p, h => by
    refine chF_val hK k (c + 1) (if fc c then chS K c p else p) ?_
    intro hne
    by_cases hc : fc c = true
    · rw [if_pos hc] at hne ⊢
      unfold chS at hne ⊢
      split at hne
      · exact hK c
      · rename_i b hb
        split
        · exact hK c
        · exact h (by rw [hb]; intro e; cases e)
    · rw [if_neg hc] at hne ⊢
      exact h hne
abbrev ST3 : Type := (Nat → Int32) × Int32 × Int32
def stG (fc : Nat → Bool) (AK : (Nat → Int32) → Int32) (T Pp : Nat → Int32) (f : Nat) : Nat → ST3 → ST3
  | 0, p => p
  | m + 1, p => if T f ≤ sum6 p.1 f then p else match (chF fc (fun c => AK (Vof p.1 T Pp c f (kI 11))) 6 0 (none, 0)).1 with
    | none => p
    | some c => if p.1 159 < (chF fc (fun c => AK (Vof p.1 T Pp c f (kI 11))) 6 0 (none, 0)).2 then p else stG fc AK T Pp f m (upd (upd p.1 159 (p.1 159 - (chF fc (fun c => AK (Vof p.1 T Pp c f (kI 11))) 6 0 (none, 0)).2)) (6 * c + f) (mn9 (p.1 (6 * c + f) + kI 1)), p.2.1 + (chF fc (fun c => AK (Vof p.1 T Pp c f (kI 11))) 6 0 (none, 0)).2, p.2.2 + kI 1)
theorem sub_nn {x y : Int32} {a b : Nat} (hx : nn x a) (hy : nn y b) (h : ¬ x < y) (ha : a < 2 ^ 31) (hb : b < 2 ^ 31) : nn (x - y) a := by
  obtain ⟨i, hi, rfl⟩ := hx
  obtain ⟨j, hj, rfl⟩ := hy
  rw [nI_ltI (by omega) (by omega)] at h
  rw [pk_sub (by omega)]
  exact ⟨i - j, by omega, rfl⟩
theorem NVn.stf {n : Nat → Int32} {c f : Nat} {k : Int32} (h : NVn n) (hc : c < 6) (hf : f < 6) (hk : nn k 99) (hle : ¬ n 159 < k) : NVn (upd (upd n 159 (n 159 - k)) (6 * c + f) (mn9 (n (6 * c + f) + kI 1))) := by
  obtain ⟨h1, h2, h3, h4, h5, h6⟩ := h
  refine ⟨fun i hi => ?_, fun i hi => ?_, ?_, ?_, ?_, ?_⟩
  · unfold upd
    by_cases e : i = 6 * c + f
    · rw [if_pos e]; exact mn9_nn (m := 1) (h1 _ (by omega)) (by decide)
    · rw [if_neg e, if_neg (by omega)]; exact h1 i hi
  · unfold upd; rw [if_neg (by omega), if_neg (by omega)]; exact h2 i hi
  · unfold upd; rw [if_neg (by omega), if_neg (by omega)]; exact h3
  · unfold upd; rw [if_neg (by omega), if_neg (by omega)]; exact h4
  · unfold upd; rw [if_neg (by omega), if_pos rfl]; exact sub_nn h5 hk hle (by decide) (by decide)
  · unfold upd; rw [if_neg (by omega), if_neg (by omega)]; exact h6
variable {op ar : Nat → Nat} {lt : Nat → Int32} {la lm lb : Nat → Nat} {cnt len : Nat} {fc ft : Nat → Bool}
def SI_7 (w u : Wd) (p : ST3) : Prop := BK 7 u p.1 ∧ NVn p.1 ∧ u 87 5 = p.2.1 ∧ u 87 6 = p.2.2 ∧ (∀ j, j ≠ 5 → j ≠ 6 → j ≠ 9 → u 87 j = w 87 j) ∧ ∀ a, ¬ (7 ≤ a ∧ a ≤ 11) → a ≠ 85 → a ≠ 86 → a ≠ 87 → u a = w a
theorem l_23_7 {X : Scr} {d f : Nat} {w : Wd} {Q : Wd → Prop} (hf : f < 6) (hL : LAWC w op ar lt la lm lb cnt len) (hY : LWV op ar lt la lm lb cnt len) (hfc : ∀ c, c < 6 → (F_51_3 (nI c) w = 0 ↔ fc c = false)) : ∀ (m i : Nat) (u : Wd) (p : ST3), i + m = 200 → SI_7 w u p → (∀ u2, SI_7 w u2 (stG fc (lawA op ar lt la lm lb cnt (kI 107) 99) (w 5) (w 4) f m p) → EU X (d + 6) 23 (2, [some (.ref 87), some (.ref 7), some (.int (nI (f + 1))), none, none, none], [], SH, u2) Q) → EU X (d + 6) 23 (20, [some (.ref 87), some (.ref 7), some (.int (nI f)), some (.int (kI 1)), some (.int (nI i)), none], [], SH, u) Q := by
  intro m
  induction m with
  | zero =>
    intro i u p h hI kk
    have hi : i = 200 := by omega
    subst hi
    refine t23_87_7_at20 (d := d + 4) u _ _ _ ?_
    rw [if_pos (by decide), k1]
    exact kk u hI
  | succ m ih =>
    intro i u p h hI kk
    obtain ⟨i1, i2, i3, i4, i5, i6⟩ := hI
    have e5 : u 5 = w 5 := i6 5 (by omega) (by decide) (by decide) (by decide)
    have e4 : u 4 = w 4 := i6 4 (by omega) (by decide) (by decide) (by decide)
    have e3 : u 3 = w 3 := i6 3 (by omega) (by decide) (by decide) (by decide)
    have es : u 9 f = sum6 p.1 f := i1.2.1 f hf
    have stop : ∀ u2 : Wd, SI_7 w u2 p → (∀ u3, SI_7 w u3 p → EU X (d + 6) 23 (2, [some (.ref 87), some (.ref 7), some (.int (nI (f + 1))), none, none, none], [], SH, u3) Q) → EU X (d + 4 + 2) 23 (20, [some (.ref 87), some (.ref 7), some (.int (nI f)), some (.int (kI 0)), some (.int (nI (i + 1))), none], [], SH, u2) Q := by
      intro u2 h2 kz
      refine t23_87_7_at20 (d := d + 4) u2 _ _ _ ?_
      rw [k1]
      by_cases hh : kI 200 ≤ nI (i + 1)
      · rw [if_pos hh]; exact kz u2 h2
      · rw [if_neg hh, if_pos (show kI 0 = 0 from rfl)]; exact kz u2 h2
    unfold stG at kk
    refine t23_87_7_at20 (d := d + 4) u _ _ _ ?_
    rw [if_neg (lt_200 i (by omega)), if_neg (show ¬ kI 1 = 0 by decide), targetOf_nI hf, sumOf7 hf, es, e5, k1, k1]
    by_cases ht : w 5 f ≤ sum6 p.1 f
    · rw [if_pos ht]
      rw [if_pos ht] at kk
      exact kk u ⟨i1, i2, i3, i4, i5, i6⟩
    · rw [if_neg ht]
      rw [if_neg ht] at kk
      have Lu : LAWC u op ar lt la lm lb cnt len := hL.cg2 (fun c h1 h2 => i6 c (by omega) (by omega) (by omega) (by omega))
      refine CI.mono (c_27_7 (d := d + 1) (fc := fc) hf i1 Lu hY (fun c hc => by rw [f51_cg e3]; exact hfc c hc)) ?_
      intro x1 u1 hx1
      rw [e5, e4] at hx1
      obtain ⟨ex1, q1, q2, q3⟩ := hx1
      have hlt := chF_lt (fc := fc) (K := fun c => lawA op ar lt la lm lb cnt (kI 107) 99 (Vof p.1 (w 5) (w 4) c f (kI 11))) 6 0 (none, 0) (fun b hb => by cases hb)
      have hval := chF_val (fc := fc) (K := fun c => lawA op ar lt la lm lb cnt (kI 107) 99 (Vof p.1 (w 5) (w 4) c f (kI 11))) (m := 99) (fun c => by unfold lawA; exact askF_nn (by decide) _ _) 6 0 (none, 0) (fun hb => absurd rfl hb)
      generalize chF fc (fun c => lawA op ar lt la lm lb cnt (kI 107) 99 (Vof p.1 (w 5) (w 4) c f (kI 11))) 6 0 (none, 0) = R at ex1 q1 hlt hval kk
      have B1 : BK 7 u1 p.1 := i1.congr (q3 7 (by decide) (by decide) (by decide)) (q3 8 (by decide) (by decide) (by decide)) (q3 9 (by decide) (by decide) (by decide)) (q3 10 (by decide) (by decide) (by decide)) (q3 11 (by decide) (by decide) (by decide))
      have Sxa : SI_7 w u1 p := ⟨B1, i2, by rw [q2 5 (by decide)]; exact i3, by rw [q2 6 (by decide)]; exact i4, fun j h5 h6 h9 => by rw [q2 j h9]; exact i5 j h5 h6 h9, fun a h1 h2 h3 h4 => by rw [q3 a h2 h3 h4]; exact i6 a h1 h2 h3 h4⟩
      obtain ⟨o, k⟩ := R
      cases o with
      | none =>
        rw [if_pos (show x1 = kI (-1) from ex1)]
        exact stop u1 Sxa (fun u3 h3 => kk u3 h3)
      | some c =>
        have hc6 : c < 6 := by have := hlt c rfl; omega
        have e9 : u1 87 9 = k := q1 (by intro e; cases e)
        have hk99 : nn k 99 := hval (by intro e; cases e)
        have e6 : u1 7 6 = p.1 159 := B1.2.2.2.2.2.2.1
        rw [if_neg (show ¬ x1 = kI (-1) by rw [ex1]; exact nI_m1 (by omega)), e9, e6]
        have ex2 : x1 = nI c := ex1
        subst ex2
        dsimp only at kk
        by_cases hd : p.1 159 < k
        · rw [if_pos hd]
          rw [if_pos hd] at kk
          exact stop u1 Sxa (fun u3 h3 => kk u3 h3)
        · rw [if_neg hd]
          rw [if_neg hd] at kk
          obtain ⟨C1a, C2a⟩ := ch_7 (c := c) (f := f) (m := 1) B1 i2.1 hc6 hf (by decide)
          rw [show nI 1 = kI 1 from rfl] at C1a C2a
          have g6 : (G_16_7 (nI c) (nI f) (kI 1) u1) 7 6 = p.1 159 := by rw [C2a 7 (by decide) (by decide)]; exact e6
          have g9 : (G_16_7 (nI c) (nI f) (kI 1) u1) 87 9 = k := by rw [C2a 87 (by decide) (by decide)]; exact e9
          have g5 : (G_16_7 (nI c) (nI f) (kI 1) u1) 87 5 = p.2.1 := by rw [C2a 87 (by decide) (by decide)]; exact Sxa.2.2.1
          have g6b : (G_16_7 (nI c) (nI f) (kI 1) u1) 87 6 = p.2.2 := by rw [C2a 87 (by decide) (by decide)]; exact Sxa.2.2.2.1
          rw [g6, g9, g5, g6b]
          refine ih (i + 1) _ _ (by omega) ⟨?_, i2.stf hc6 hf hk99 hd, ?_, ?_, ?_, ?_⟩ kk
          · obtain ⟨b1, b2, b3, b4, b5, b6, b7, b8, b9⟩ := C1a
            have nz : ∀ j, j ≠ 159 → ∀ v v2, upd (upd p.1 159 v) (6 * c + f) v2 j = upd p.1 (6 * c + f) v2 j := by
              intro j hj v v2
              unfold upd
              by_cases e : j = 6 * c + f
              · rw [if_pos e, if_pos e]
              · rw [if_neg e, if_neg e, if_neg hj]
            refine ⟨fun j hj => ?_, fun g hg => ?_, fun j hj => ?_, fun g kk2 hg hk => ?_, ?_, ?_, ?_, ?_, ?_⟩
            · show _ = upd (upd p.1 159 _) (6 * c + f) _ j
              rw [nz j (by omega), up2_ne (by decide), up2_ne (by decide), up2_ne (by decide)]
              exact b1 j hj
            · show _ = sum6 (upd (upd p.1 159 _) (6 * c + f) _) g
              unfold sum6
              rw [nz _ (by omega), nz _ (by omega), nz _ (by omega), nz _ (by omega), nz _ (by omega), nz _ (by omega), up2_ne (by decide), up2_ne (by decide), up2_ne (by decide)]
              exact b2 g hg
            · show _ = upd (upd p.1 159 _) (6 * c + f) _ (36 + j)
              rw [nz _ (by omega), up2_ne (by decide), up2_ne (by decide), up2_ne (by decide)]
              exact b3 j hj
            · show _ = upd (upd p.1 159 _) (6 * c + f) _ (108 + 8 * g + kk2)
              rw [nz _ (by omega), up2_ne (by decide), up2_ne (by decide), up2_ne (by decide)]
              exact b4 g kk2 hg hk
            · show _ = upd (upd p.1 159 _) (6 * c + f) _ 157
              rw [nz _ (by omega), up2_ne (by decide), up2_ne (by decide), up2_at, if_neg (by decide)]
              exact b5
            · show _ = upd (upd p.1 159 _) (6 * c + f) _ 158
              rw [nz _ (by omega), up2_ne (by decide), up2_ne (by decide), up2_at, if_neg (by decide)]
              exact b6
            · show _ = upd (upd p.1 159 _) (6 * c + f) _ 159
              rw [up2_ne (by decide), up2_ne (by decide), up2_at, if_pos rfl]
              unfold upd
              rw [if_neg (by omega), if_pos rfl]
            · show _ = upd (upd p.1 159 _) (6 * c + f) _ 160
              rw [nz _ (by omega), up2_ne (by decide), up2_ne (by decide), up2_at, if_neg (by decide)]
              exact b8
            · show _ = upd (upd p.1 159 _) (6 * c + f) _ 161
              rw [nz _ (by omega), up2_ne (by decide), up2_ne (by decide), up2_at, if_neg (by decide)]
              exact b9
          · rw [up2_at, if_neg (by decide), up2_at, if_pos rfl]
          · rw [up2_at, if_pos rfl]
          · intro j h5 h6 h9
            rw [up2_at, if_neg h6, up2_at, if_neg h5, up2_ne (by decide), C2a 87 (by decide) (by decide), q2 j h9]
            exact i5 j h5 h6 h9
          · intro a h1 h2 h3 h4
            rw [up2_ne h4, up2_ne h4, up2_ne (by omega), C2a a (by omega) (by omega), q3 a h2 h3 h4]
            exact i6 a h1 h2 h3 h4
def SI_17 (w u : Wd) (p : ST3) : Prop := BK 17 u p.1 ∧ NVn p.1 ∧ u 87 5 = p.2.1 ∧ u 87 6 = p.2.2 ∧ (∀ j, j ≠ 5 → j ≠ 6 → j ≠ 9 → u 87 j = w 87 j) ∧ ∀ a, ¬ (17 ≤ a ∧ a ≤ 21) → a ≠ 85 → a ≠ 86 → a ≠ 87 → u a = w a
theorem l_23_17 {X : Scr} {d f : Nat} {w : Wd} {Q : Wd → Prop} (hf : f < 6) (hL : LAWC w op ar lt la lm lb cnt len) (hY : LWV op ar lt la lm lb cnt len) (hfc : ∀ c, c < 6 → (F_51_3 (nI c) w = 0 ↔ fc c = false)) : ∀ (m i : Nat) (u : Wd) (p : ST3), i + m = 200 → SI_17 w u p → (∀ u2, SI_17 w u2 (stG fc (lawA op ar lt la lm lb cnt (kI 107) 99) (w 5) (w 4) f m p) → EU X (d + 6) 23 (2, [some (.ref 87), some (.ref 17), some (.int (nI (f + 1))), none, none, none], [], SH, u2) Q) → EU X (d + 6) 23 (20, [some (.ref 87), some (.ref 17), some (.int (nI f)), some (.int (kI 1)), some (.int (nI i)), none], [], SH, u) Q := by
  intro m
  induction m with
  | zero =>
    intro i u p h hI kk
    have hi : i = 200 := by omega
    subst hi
    refine t23_87_17_at20 (d := d + 4) u _ _ _ ?_
    rw [if_pos (by decide), k1]
    exact kk u hI
  | succ m ih =>
    intro i u p h hI kk
    obtain ⟨i1, i2, i3, i4, i5, i6⟩ := hI
    have e5 : u 5 = w 5 := i6 5 (by omega) (by decide) (by decide) (by decide)
    have e4 : u 4 = w 4 := i6 4 (by omega) (by decide) (by decide) (by decide)
    have e3 : u 3 = w 3 := i6 3 (by omega) (by decide) (by decide) (by decide)
    have es : u 19 f = sum6 p.1 f := i1.2.1 f hf
    have stop : ∀ u2 : Wd, SI_17 w u2 p → (∀ u3, SI_17 w u3 p → EU X (d + 6) 23 (2, [some (.ref 87), some (.ref 17), some (.int (nI (f + 1))), none, none, none], [], SH, u3) Q) → EU X (d + 4 + 2) 23 (20, [some (.ref 87), some (.ref 17), some (.int (nI f)), some (.int (kI 0)), some (.int (nI (i + 1))), none], [], SH, u2) Q := by
      intro u2 h2 kz
      refine t23_87_17_at20 (d := d + 4) u2 _ _ _ ?_
      rw [k1]
      by_cases hh : kI 200 ≤ nI (i + 1)
      · rw [if_pos hh]; exact kz u2 h2
      · rw [if_neg hh, if_pos (show kI 0 = 0 from rfl)]; exact kz u2 h2
    unfold stG at kk
    refine t23_87_17_at20 (d := d + 4) u _ _ _ ?_
    rw [if_neg (lt_200 i (by omega)), if_neg (show ¬ kI 1 = 0 by decide), targetOf_nI hf, sumOf17 hf, es, e5, k1, k1]
    by_cases ht : w 5 f ≤ sum6 p.1 f
    · rw [if_pos ht]
      rw [if_pos ht] at kk
      exact kk u ⟨i1, i2, i3, i4, i5, i6⟩
    · rw [if_neg ht]
      rw [if_neg ht] at kk
      have Lu : LAWC u op ar lt la lm lb cnt len := hL.cg2 (fun c h1 h2 => i6 c (by omega) (by omega) (by omega) (by omega))
      refine CI.mono (c_27_17 (d := d + 1) (fc := fc) hf i1 Lu hY (fun c hc => by rw [f51_cg e3]; exact hfc c hc)) ?_
      intro x1 u1 hx1
      rw [e5, e4] at hx1
      obtain ⟨ex1, q1, q2, q3⟩ := hx1
      have hlt := chF_lt (fc := fc) (K := fun c => lawA op ar lt la lm lb cnt (kI 107) 99 (Vof p.1 (w 5) (w 4) c f (kI 11))) 6 0 (none, 0) (fun b hb => by cases hb)
      have hval := chF_val (fc := fc) (K := fun c => lawA op ar lt la lm lb cnt (kI 107) 99 (Vof p.1 (w 5) (w 4) c f (kI 11))) (m := 99) (fun c => by unfold lawA; exact askF_nn (by decide) _ _) 6 0 (none, 0) (fun hb => absurd rfl hb)
      generalize chF fc (fun c => lawA op ar lt la lm lb cnt (kI 107) 99 (Vof p.1 (w 5) (w 4) c f (kI 11))) 6 0 (none, 0) = R at ex1 q1 hlt hval kk
      have B1 : BK 17 u1 p.1 := i1.congr (q3 17 (by decide) (by decide) (by decide)) (q3 18 (by decide) (by decide) (by decide)) (q3 19 (by decide) (by decide) (by decide)) (q3 20 (by decide) (by decide) (by decide)) (q3 21 (by decide) (by decide) (by decide))
      have Sxa : SI_17 w u1 p := ⟨B1, i2, by rw [q2 5 (by decide)]; exact i3, by rw [q2 6 (by decide)]; exact i4, fun j h5 h6 h9 => by rw [q2 j h9]; exact i5 j h5 h6 h9, fun a h1 h2 h3 h4 => by rw [q3 a h2 h3 h4]; exact i6 a h1 h2 h3 h4⟩
      obtain ⟨o, k⟩ := R
      cases o with
      | none =>
        rw [if_pos (show x1 = kI (-1) from ex1)]
        exact stop u1 Sxa (fun u3 h3 => kk u3 h3)
      | some c =>
        have hc6 : c < 6 := by have := hlt c rfl; omega
        have e9 : u1 87 9 = k := q1 (by intro e; cases e)
        have hk99 : nn k 99 := hval (by intro e; cases e)
        have e6 : u1 17 6 = p.1 159 := B1.2.2.2.2.2.2.1
        rw [if_neg (show ¬ x1 = kI (-1) by rw [ex1]; exact nI_m1 (by omega)), e9, e6]
        have ex2 : x1 = nI c := ex1
        subst ex2
        dsimp only at kk
        by_cases hd : p.1 159 < k
        · rw [if_pos hd]
          rw [if_pos hd] at kk
          exact stop u1 Sxa (fun u3 h3 => kk u3 h3)
        · rw [if_neg hd]
          rw [if_neg hd] at kk
          obtain ⟨C1a, C2a⟩ := ch_17 (c := c) (f := f) (m := 1) B1 i2.1 hc6 hf (by decide)
          rw [show nI 1 = kI 1 from rfl] at C1a C2a
          have g6 : (G_16_17 (nI c) (nI f) (kI 1) u1) 17 6 = p.1 159 := by rw [C2a 17 (by decide) (by decide)]; exact e6
          have g9 : (G_16_17 (nI c) (nI f) (kI 1) u1) 87 9 = k := by rw [C2a 87 (by decide) (by decide)]; exact e9
          have g5 : (G_16_17 (nI c) (nI f) (kI 1) u1) 87 5 = p.2.1 := by rw [C2a 87 (by decide) (by decide)]; exact Sxa.2.2.1
          have g6b : (G_16_17 (nI c) (nI f) (kI 1) u1) 87 6 = p.2.2 := by rw [C2a 87 (by decide) (by decide)]; exact Sxa.2.2.2.1
          rw [g6, g9, g5, g6b]
          refine ih (i + 1) _ _ (by omega) ⟨?_, i2.stf hc6 hf hk99 hd, ?_, ?_, ?_, ?_⟩ kk
          · obtain ⟨b1, b2, b3, b4, b5, b6, b7, b8, b9⟩ := C1a
            have nz : ∀ j, j ≠ 159 → ∀ v v2, upd (upd p.1 159 v) (6 * c + f) v2 j = upd p.1 (6 * c + f) v2 j := by
              intro j hj v v2
              unfold upd
              by_cases e : j = 6 * c + f
              · rw [if_pos e, if_pos e]
              · rw [if_neg e, if_neg e, if_neg hj]
            refine ⟨fun j hj => ?_, fun g hg => ?_, fun j hj => ?_, fun g kk2 hg hk => ?_, ?_, ?_, ?_, ?_, ?_⟩
            · show _ = upd (upd p.1 159 _) (6 * c + f) _ j
              rw [nz j (by omega), up2_ne (by decide), up2_ne (by decide), up2_ne (by decide)]
              exact b1 j hj
            · show _ = sum6 (upd (upd p.1 159 _) (6 * c + f) _) g
              unfold sum6
              rw [nz _ (by omega), nz _ (by omega), nz _ (by omega), nz _ (by omega), nz _ (by omega), nz _ (by omega), up2_ne (by decide), up2_ne (by decide), up2_ne (by decide)]
              exact b2 g hg
            · show _ = upd (upd p.1 159 _) (6 * c + f) _ (36 + j)
              rw [nz _ (by omega), up2_ne (by decide), up2_ne (by decide), up2_ne (by decide)]
              exact b3 j hj
            · show _ = upd (upd p.1 159 _) (6 * c + f) _ (108 + 8 * g + kk2)
              rw [nz _ (by omega), up2_ne (by decide), up2_ne (by decide), up2_ne (by decide)]
              exact b4 g kk2 hg hk
            · show _ = upd (upd p.1 159 _) (6 * c + f) _ 157
              rw [nz _ (by omega), up2_ne (by decide), up2_ne (by decide), up2_at, if_neg (by decide)]
              exact b5
            · show _ = upd (upd p.1 159 _) (6 * c + f) _ 158
              rw [nz _ (by omega), up2_ne (by decide), up2_ne (by decide), up2_at, if_neg (by decide)]
              exact b6
            · show _ = upd (upd p.1 159 _) (6 * c + f) _ 159
              rw [up2_ne (by decide), up2_ne (by decide), up2_at, if_pos rfl]
              unfold upd
              rw [if_neg (by omega), if_pos rfl]
            · show _ = upd (upd p.1 159 _) (6 * c + f) _ 160
              rw [nz _ (by omega), up2_ne (by decide), up2_ne (by decide), up2_at, if_neg (by decide)]
              exact b8
            · show _ = upd (upd p.1 159 _) (6 * c + f) _ 161
              rw [nz _ (by omega), up2_ne (by decide), up2_ne (by decide), up2_at, if_neg (by decide)]
              exact b9
          · rw [up2_at, if_neg (by decide), up2_at, if_pos rfl]
          · rw [up2_at, if_pos rfl]
          · intro j h5 h6 h9
            rw [up2_at, if_neg h6, up2_at, if_neg h5, up2_ne (by decide), C2a 87 (by decide) (by decide), q2 j h9]
            exact i5 j h5 h6 h9
          · intro a h1 h2 h3 h4
            rw [up2_ne h4, up2_ne h4, up2_ne (by omega), C2a a (by omega) (by omega), q3 a h2 h3 h4]
            exact i6 a h1 h2 h3 h4
end MONTHS5
