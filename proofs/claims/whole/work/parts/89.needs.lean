/-! the days that are needed: daysNeeded, needs -/
section NEEDS
def ndF (fc : Nat → Bool) (AK : (Nat → Int32) → Int32) (T Pp : Nat → Int32) (f : Nat) : Nat → (Nat → Int32) → Int32 → Int32
  | 0, _, s => s
  | m + 1, n, s => match (chF fc (fun c => AK (Vof n T Pp c f (kI 11))) 6 0 (none, 0)).1 with
    | none => kI (-2)
    | some c => ndF fc AK T Pp f m (upd n (6 * c + f) (mn9 (n (6 * c + f) + kI 1))) (s + (chF fc (fun c => AK (Vof n T Pp c f (kI 11))) 6 0 (none, 0)).2)
def CT (n : Nat → Int32) : Prop := ∀ i, i < 36 → nn (n i) 9999
theorem CT.up {n : Nat → Int32} {c f : Nat} (h : CT n) (hc : c < 6) (hf : f < 6) : CT (upd n (6 * c + f) (mn9 (n (6 * c + f) + kI 1))) := by
  intro i hi
  unfold upd
  by_cases e : i = 6 * c + f
  · rw [if_pos e]; exact mn9_nn (m := 1) (h _ (by omega)) (by decide)
  · rw [if_neg e]; exact h i hi
theorem CT.nums {n : Nat → Int32} (h : CT n) : ∃ x : Nat → Nat, ∀ i, i < 36 → n i = nI (x i) ∧ x i ≤ 9999 := by
  refine ⟨fun i => (n i).toNatClampNeg, fun i hi => ?_⟩
  obtain ⟨k, hk, e⟩ := h i hi
  show n i = nI (n i).toNatClampNeg ∧ (n i).toNatClampNeg ≤ 9999
  rw [e, nI_clamp (by omega)]
  exact ⟨rfl, hk⟩
theorem CT.sum {n : Nat → Int32} {f : Nat} (h : CT n) (hf : f < 6) : ∃ S, S ≤ 59994 ∧ sum6 n f = nI S := by
  obtain ⟨x, hx⟩ := h.nums
  rw [sum6_nI hf (fun i hi => (hx i hi).1)]
  have b0 := (hx f (by omega)).2
  have b1 := (hx (6 + f) (by omega)).2
  have b2 := (hx (12 + f) (by omega)).2
  have b3 := (hx (18 + f) (by omega)).2
  have b4 := (hx (24 + f) (by omega)).2
  have b5 := (hx (30 + f) (by omega)).2
  exact ⟨_, by omega, rfl⟩
theorem sum_up {n : Nat → Int32} {c f S : Nat} (h : CT n) (hc : c < 6) (hf : f < 6) (hS : sum6 n f = nI S) (hb : S < 9999) : sum6 (upd n (6 * c + f) (mn9 (n (6 * c + f) + kI 1))) f = nI (S + 1) := by
  obtain ⟨x, hx⟩ := h.nums
  have e0 := sum6_nI hf (fun i hi => (hx i hi).1)
  have b0 := (hx f (by omega)).2
  have b1 := (hx (6 + f) (by omega)).2
  have b2 := (hx (12 + f) (by omega)).2
  have b3 := (hx (18 + f) (by omega)).2
  have b4 := (hx (24 + f) (by omega)).2
  have b5 := (hx (30 + f) (by omega)).2
  rw [hS] at e0
  have e1 := nI_inj (by omega) (by omega) e0
  have hle : x (6 * c + f) ≤ S := by
    have : c = 0 ∨ c = 1 ∨ c = 2 ∨ c = 3 ∨ c = 4 ∨ c = 5 := by omega
    rcases this with rfl | rfl | rfl | rfl | rfl | rfl
    · rw [show 6 * 0 + f = f by omega]; omega
    · rw [show 6 * 1 + f = 6 + f by omega]; omega
    · rw [show 6 * 2 + f = 12 + f by omega]; omega
    · rw [show 6 * 3 + f = 18 + f by omega]; omega
    · rw [show 6 * 4 + f = 24 + f by omega]; omega
    · rw [show 6 * 5 + f = 30 + f by omega]; omega
  have ea := (hx (6 * c + f) (by omega)).1
  have em : mn9 (n (6 * c + f) + kI 1) = nI (x (6 * c + f) + 1) := by
    rw [ea, k1, mn9_nI _ (by omega), Nat.min_eq_left (by omega)]
  rw [em, sum6_upd hc hf h (by omega), hS, ea, pk_sub hle, nI_add]
  congr 1
  omega
variable {op ar : Nat → Nat} {lt : Nat → Int32} {la lm lb : Nat → Nat} {cnt len : Nat} {fc : Nat → Bool}
theorem l_24 {X : Scr} {d f M : Nat} {w : Wd} (hf : f < 6) (hM : M ≤ 200) (hL : LAWC w op ar lt la lm lb cnt len) (hY : LWV op ar lt la lm lb cnt len) (hfc : ∀ c, c < 6 → (F_51_3 (nI c) w = 0 ↔ fc c = false)) : ∀ (m i : Nat) (u : Wd) (n : Nat → Int32) (s : Int32), i + m = M → BK 17 u n → CT n → (∀ a, ¬ (17 ≤ a ∧ a ≤ 21) → a ≠ 85 → a ≠ 86 → a ≠ 87 → u a = w a) → (∀ j, j ≠ 9 → u 87 j = w 87 j) → EI X (d + 6) 24 (35, [some (.ref 87), some (.ref 17), some (.int (nI f)), some (.int (nI M)), some (.int s), some (.int (nI i)), none], [], SH, u) (fun x u2 => x = ndF fc (lawA op ar lt la lm lb cnt (kI 107) 99) (w 5) (w 4) f m n s ∧ (∀ a, ¬ (17 ≤ a ∧ a ≤ 21) → a ≠ 85 → a ≠ 86 → a ≠ 87 → u2 a = w a) ∧ ∀ j, j ≠ 9 → u2 87 j = w 87 j) := by
  intro m
  induction m with
  | zero =>
    intro i u n s h hB hC hfr h87
    have hi : i = M := by omega
    subst hi
    refine t24_87_17_at35 (d := d + 4) u _ _ _ _ ?_
    rw [if_pos (nI_le (Nat.le_refl _) (by omega))]
    exact ⟨rfl, hfr, h87⟩
  | succ m ih =>
    intro i u n s h hB hC hfr h87
    have e5 : u 5 = w 5 := hfr 5 (by omega) (by decide) (by decide) (by decide)
    have e4 : u 4 = w 4 := hfr 4 (by omega) (by decide) (by decide) (by decide)
    have e3 : u 3 = w 3 := hfr 3 (by omega) (by decide) (by decide) (by decide)
    unfold ndF
    refine t24_87_17_at35 (d := d + 4) u _ _ _ _ ?_
    rw [if_neg (nI_ge (by omega) (by omega)), k1]
    have Lu : LAWC u op ar lt la lm lb cnt len := hL.cg2 (fun c h1 h2 => hfr c (by omega) (by omega) (by omega) (by omega))
    refine CI.mono (c_27_17 (d := d + 1) (fc := fc) hf hB Lu hY (fun c hc => by rw [f51_cg e3]; exact hfc c hc)) ?_
    intro x1 u1 hx1
    rw [e5, e4] at hx1
    obtain ⟨ex1, q1, q2, q3⟩ := hx1
    have hlt := chF_lt (fc := fc) (K := fun c => lawA op ar lt la lm lb cnt (kI 107) 99 (Vof n (w 5) (w 4) c f (kI 11))) 6 0 (none, 0) (fun b hb => by cases hb)
    generalize chF fc (fun c => lawA op ar lt la lm lb cnt (kI 107) 99 (Vof n (w 5) (w 4) c f (kI 11))) 6 0 (none, 0) = R at ex1 q1 hlt ⊢
    have B1 : BK 17 u1 n := hB.congr (q3 17 (by decide) (by decide) (by decide)) (q3 18 (by decide) (by decide) (by decide)) (q3 19 (by decide) (by decide) (by decide)) (q3 20 (by decide) (by decide) (by decide)) (q3 21 (by decide) (by decide) (by decide))
    have fr1 : ∀ a, ¬ (17 ≤ a ∧ a ≤ 21) → a ≠ 85 → a ≠ 86 → a ≠ 87 → u1 a = w a := fun a h1 h2 h3 h4 => by rw [q3 a h2 h3 h4]; exact hfr a h1 h2 h3 h4
    have j1 : ∀ j, j ≠ 9 → u1 87 j = w 87 j := fun j hj => by rw [q2 j hj]; exact h87 j hj
    obtain ⟨o, k⟩ := R
    cases o with
    | none =>
      rw [if_pos (show x1 = kI (-1) from ex1)]
      exact ⟨rfl, fr1, j1⟩
    | some c =>
      have hc6 : c < 6 := by have := hlt c rfl; omega
      have e9 : u1 87 9 = k := q1 (by intro e; cases e)
      rw [if_neg (show ¬ x1 = kI (-1) by rw [ex1]; exact nI_m1 (by omega))]
      have ex2 : x1 = nI c := ex1
      subst ex2
      obtain ⟨C1a, C2a⟩ := ch_17 (c := c) (f := f) (m := 1) B1 hC hc6 hf (by decide)
      rw [show nI 1 = kI 1 from rfl] at C1a C2a
      rw [C2a 87 (by decide) (by decide), e9]
      exact ih (i + 1) _ _ _ (by omega) C1a (hC.up hc6 hf) (fun a h1 h2 h3 h4 => by rw [C2a a (by omega) (by omega)]; exact fr1 a h1 h2 h3 h4) (fun j hj => by rw [C2a 87 (by decide) (by decide)]; exact j1 j hj)
/-- what is needed, in numbers -/
def nedF (fc : Nat → Bool) (AK : (Nat → Int32) → Int32) (T Pp : Nat → Int32) (f : Nat) (n : Nat → Int32) (t S : Nat) : Int32 := if S ≤ t ∧ t - S ≤ 200 then ndF fc AK T Pp f (t - S) n (kI 0) else kI (-2)
theorem c_24 {X : Scr} {d f t S : Nat} {w : Wd} {n : Nat → Int32} (hf : f < 6) (hL : LAWC w op ar lt la lm lb cnt len) (hY : LWV op ar lt la lm lb cnt len) (hfc : ∀ c, c < 6 → (F_51_3 (nI c) w = 0 ↔ fc c = false)) (hB : BK 17 w n) (hC : CT n) (ht : w 5 f = nI t) (ht2 : t ≤ 9999) (hS : sum6 n f = nI S) (hS2 : S ≤ 59994) : CI X (d + 7) 24 [.ref 87, .ref 17, .int (nI f)] w (fun x u2 => x = nedF fc (lawA op ar lt la lm lb cnt (kI 107) 99) (w 5) (w 4) f n t S ∧ (∀ a, ¬ (17 ≤ a ∧ a ≤ 21) → a ≠ 85 → a ≠ 86 → a ≠ 87 → u2 a = w a) ∧ ∀ j, j ≠ 9 → u2 87 j = w 87 j) := by
  refine CI.of rfl (t24_87_17_at0 (d := d + 4) w _ ?_)
  rw [targetOf_nI hf, sumOf17 hf, hB.2.1 f hf, ht, hS]
  unfold nedF
  by_cases h1 : S ≤ t
  · rw [pk_sub h1]
    have hw := within_nI (n := t - S) (a := 0) (b := 200) (w := w) (by omega) (by decide) (by decide)
    by_cases h2 : t - S ≤ 200
    · rw [if_pos (by omega)] at hw
      rw [if_neg (show ¬ F_153 (nI (t - S)) (kI 0) (kI 200) w = 0 by rw [show F_153 (nI (t - S)) (kI 0) (kI 200) w = 1 from hw]; decide), if_pos ⟨h1, h2⟩]
      exact l_24 hf h2 hL hY hfc (t - S) 0 w n (kI 0) (Nat.zero_add _) hB hC (fun _ _ _ _ _ => rfl) (fun _ _ => rfl)
    · rw [if_neg (by omega)] at hw
      rw [if_pos (show F_153 (nI (t - S)) (kI 0) (kI 200) w = 0 from hw), if_neg (fun e => h2 e.2)]
      exact ⟨rfl, fun _ _ _ _ _ => rfl, fun _ _ => rfl⟩
  · have hneg : nI t - nI S < kI 0 := pk_sneg (by omega) (by omega)
    have hw : F_153 (nI t - nI S) (kI 0) (kI 200) w = 0 := by
      unfold F_153
      rw [if_pos hneg]
      rfl
    rw [if_pos hw, if_neg (fun e => h1 e.1)]
    exact ⟨rfl, fun _ _ _ _ _ => rfl, fun _ _ => rfl⟩
/-- the reference -/
def NR (w u : Wd) : Prop := (∀ i, i < 162 → u 111 i = w 112 i) ∧ (∀ a, a ≠ 110 → a ≠ 111 → a ≠ 129 → a ≠ 130 → u a = w a) ∧ ∀ j, j ≠ 40 → u 110 j = w 110 j
theorem nr_back {X : Scr} {d : Nat} {w u : Wd} {x y : Int32} (e : x = y) (hfr : ∀ a, a ≠ 110 → a ≠ 111 → a ≠ 129 → a ≠ 130 → u a = w a) (hj : ∀ j, j ≠ 40 → u 110 j = w 110 j) : CU X (d + 2) 163 [.ref 112, .ref 111] u (fun u2 => x = y ∧ NR w u2) := by
  refine CU.mono (c_163_112_111 (d := d) u) ?_
  intro u2 hu
  subst hu
  refine ⟨e, fun i hi => ?_, fun a h1 h2 h3 h4 => ?_, fun j h4 => ?_⟩
  · rw [cpA_at, if_pos hi, hfr 112 (by decide) (by decide) (by decide) (by decide)]
  · rw [cpA_ne h2]; exact hfr a h1 h2 h3 h4
  · rw [cpA_ne (by decide)]; exact hj j h4
theorem l_216 {X : Scr} {d f t : Nat} {w : Wd} (hf : f < 6) (hL : LWR w op ar lt la lm lb cnt len) (hY : LWV op ar lt la lm lb cnt len) (hfc : ∀ c, c < 6 → (F_164_110 (nI c) w = 0 ↔ fc c = false)) (ht : w 116 f = nI t) (ht2 : t ≤ 9999) : ∀ (m k S : Nat) (u : Wd) (n : Nat → Int32) (s : Int32), k + m ≤ 200 → S + m = t → sum6 n f = nI S → u 111 = n → CT n → ZR fc n → (∀ a, a ≠ 110 → a ≠ 111 → a ≠ 129 → a ≠ 130 → u a = w a) → (∀ j, j ≠ 40 → u 110 j = w 110 j) → EI X (d + 6) 216 (57, [some (.ref 110), some (.int (nI f)), some (.int s), some (.int (kI 1)), some (.int (nI k)), none], [], SH, u) (fun x u2 => x = ndF fc (lawA op ar lt la lm lb cnt (kI 107) 99) (w 116) (w 114) f m n s ∧ NR w u2) := by
  intro m
  induction m with
  | zero =>
    intro k S u n s hk hSm hS hn hC hZ hfr hj
    have e6 : u 110 6 = w 110 6 := hj 6 (by decide)
    have hfu : ∀ c, c < 6 → (F_164_110 (nI c) u = 0 ↔ fc c = false) := fun c hc => by rw [c164 e6]; exact hfc c hc
    have hzu : ∀ c, c < 6 → F_164_110 (nI c) u = 0 → u 111 (6 * c + f) = 0 := fun c hc hz => by rw [hn]; exact hZ c f hc hf ((hfu c hc).mp hz)
    have e116 : u 116 f = nI t := by rw [hfr 116 (by decide) (by decide) (by decide) (by decide)]; exact ht
    have eSt : S = t := by omega
    refine t216_110_at57 (d := d + 4) u _ _ _ _ ?_
    simp only [if_neg (show ¬ kI 1 = 0 by decide)]
    have fin : CI X (d + 4 + 2) 167 [.ref 110, .int (nI f)] u (fun x2 w2 => (inB (nI f) 6 = true ∧ (if x2 = (w2 116 (nI f).toNatClampNeg) then CU X (d + 4 + 2) 163 [.ref 112, .ref 111] w2 (fun w4 => s = ndF fc (lawA op ar lt la lm lb cnt (kI 107) 99) (w 116) (w 114) f 0 n s ∧ NR w w4) else CU X (d + 4 + 2) 163 [.ref 112, .ref 111] w2 (fun w3 => kI (-2) = ndF fc (lawA op ar lt la lm lb cnt (kI 107) 99) (w 116) (w 114) f 0 n s ∧ NR w w3)))) := by
      refine CI.mono (c_167 (d := d + 3) hf hzu) ?_
      intro x1 ua hx1
      obtain ⟨hx, hu⟩ := hx1
      have hu2 := hu.symm
      subst hu2
      rw [hn, hS] at hx
      refine ⟨inB_nI hf (by decide), ?_⟩
      rw [nI_clamp (by omega), hx, e116, if_pos (by rw [eSt])]
      exact nr_back (d := d + 4) rfl hfr hj
    by_cases h2 : kI 200 ≤ nI k
    · rw [if_pos h2]
      exact fin
    · rw [if_neg h2]
      refine CI.mono (c_167 (d := d + 3) hf hzu) ?_
      intro x1 ua hx1
      obtain ⟨hx, hu⟩ := hx1
      have hu2 := hu.symm
      subst hu2
      rw [hn, hS] at hx
      refine ⟨inB_nI hf (by decide), ?_⟩
      rw [nI_clamp (by omega), hx, e116, if_pos (nI_le (by omega) (by omega))]
      rw [nI_clamp (by omega)] at fin
      exact fin
  | succ m ih =>
    intro k S u n s hk hSm hS hn hC hZ hfr hj
    have e6 : u 110 6 = w 110 6 := hj 6 (by decide)
    have hfu : ∀ c, c < 6 → (F_164_110 (nI c) u = 0 ↔ fc c = false) := fun c hc => by rw [c164 e6]; exact hfc c hc
    have hzu : ∀ c, c < 6 → F_164_110 (nI c) u = 0 → u 111 (6 * c + f) = 0 := fun c hc hz => by rw [hn]; exact hZ c f hc hf ((hfu c hc).mp hz)
    have e116 : u 116 = w 116 := hfr 116 (by decide) (by decide) (by decide) (by decide)
    have e114 : u 114 = w 114 := hfr 114 (by decide) (by decide) (by decide) (by decide)
    unfold ndF
    refine t216_110_at57 (d := d + 4) u _ _ _ _ ?_
    rw [if_neg (lt_200 k (by omega)), if_neg (show ¬ kI 1 = 0 by decide), k1]
    refine CI.mono (c_167 (d := d + 3) hf hzu) ?_
    intro x1 ua hx1
    obtain ⟨hx, hu⟩ := hx1
    have hu2 := hu.symm
    subst hu2
    rw [hn, hS] at hx
    refine ⟨inB_nI hf (by decide), ?_⟩
    rw [nI_clamp (by omega), hx, e116, ht, if_neg (nI_ge (by omega) (by omega))]
    have Lu : LWR u op ar lt la lm lb cnt len := hL.cg2 (hj 19 (by decide)) (fun a h1 h2 => hfr a (by omega) (by omega) (by omega) (by omega))
    refine CI.mono (c_205 (d := d + 1) (fc := fc) hf hzu Lu hY hfu) ?_
    intro x2 ub hx2
    rw [hn, e116, e114] at hx2
    obtain ⟨ex2, q1, q2, q3⟩ := hx2
    have hlt := chF_lt (fc := fc) (K := fun c => lawA op ar lt la lm lb cnt (kI 107) 99 (Vof n (w 116) (w 114) c f (kI 11))) 6 0 (none, 0) (fun b hb => by cases hb)
    have htl := chF_told (fc := fc) (K := fun c => lawA op ar lt la lm lb cnt (kI 107) 99 (Vof n (w 116) (w 114) c f (kI 11))) 6 0 (none, 0) (fun b hb => by cases hb)
    generalize chF fc (fun c => lawA op ar lt la lm lb cnt (kI 107) 99 (Vof n (w 116) (w 114) c f (kI 11))) 6 0 (none, 0) = R at ex2 q1 hlt htl ⊢
    have eb : ub 111 = n := by rw [q3 111 (by decide) (by decide) (by decide)]; exact hn
    have frb : ∀ a, a ≠ 110 → a ≠ 111 → a ≠ 129 → a ≠ 130 → ub a = w a := fun a h1 h2 h3 h4 => by rw [q3 a h1 h3 h4]; exact hfr a h1 h2 h3 h4
    have jb : ∀ j, j ≠ 40 → ub 110 j = w 110 j := fun j h => by rw [q2 j h]; exact hj j h
    obtain ⟨o, v⟩ := R
    cases o with
    | none =>
      rw [if_pos (show x2 = kI (-1) from ex2)]
      refine t216_110_at57 (d := d + 4) ub _ _ _ _ ?_
      simp only [if_pos (show kI 0 = 0 from rfl)]
      by_cases h2 : kI 200 ≤ nI (k + 1)
      · rw [if_pos h2]; exact CU.mono (nr_back (d := d + 4) (x := kI 0) rfl frb jb) (fun _ h => ⟨trivial, h.2⟩)
      · rw [if_neg h2]; exact CU.mono (nr_back (d := d + 4) (x := kI 0) rfl frb jb) (fun _ h => ⟨trivial, h.2⟩)
    | some c =>
      have hc6 : c < 6 := by have := hlt c rfl; omega
      have hfc1 : fc c = true := htl c rfl
      have e40 : ub 110 40 = v := q1 (by intro e; cases e)
      rw [if_neg (show ¬ x2 = kI (-1) by rw [ex2]; exact nI_m1 (by omega)), e40]
      have ex3 : x2 = nI c := ex2
      rw [ex3, ixC]
      refine ⟨inB_nI (by omega) (by decide), ?_⟩
      obtain ⟨a, ha, ea⟩ := hC (6 * c + f) (by omega)
      have eG : G_206_110 (nI c) (nI f) ub = up2 ub 111 (6 * c + f) (mn9 (n (6 * c + f) + kI 1)) := by
        unfold G_206_110
        rw [ixC, nI_clamp (by omega), eb, ea, k1, min158 _ _ (by omega)]
      rw [eG]
      refine ih (k + 1) (S + 1) _ (upd n (6 * c + f) (mn9 (n (6 * c + f) + kI 1))) _ (by omega) (by omega) (sum_up hC hc6 hf hS (by omega)) (by rw [up2_self, eb]) (hC.up hc6 hf) ?_ (fun a h1 h2 h3 h4 => by rw [up2_ne h2]; exact frb a h1 h2 h3 h4) (fun j h => by rw [up2_ne (by decide)]; exact jb j h)
      intro c2 g hc2 hg hz
      have hne : c2 ≠ c := fun e => by rw [e, hfc1] at hz; cases hz
      unfold upd
      rw [if_neg (by omega)]
      exact hZ c2 g hc2 hg hz
theorem c_216 {X : Scr} {d f t S : Nat} {w : Wd} (hf : f < 6) (hL : LWR w op ar lt la lm lb cnt len) (hY : LWV op ar lt la lm lb cnt len) (hfc : ∀ c, c < 6 → (F_164_110 (nI c) w = 0 ↔ fc c = false)) (hC : CT (w 111)) (hZ : ZR fc (w 111)) (ht : w 116 f = nI t) (ht2 : t ≤ 9999) (hS : sum6 (w 111) f = nI S) (hS2 : S ≤ 59994) : CI X (d + 7) 216 [.ref 110, .int (nI f)] w (fun x u2 => x = nedF fc (lawA op ar lt la lm lb cnt (kI 107) 99) (w 116) (w 114) f (w 111) t S ∧ (∀ i, i < 162 → u2 111 i = w 111 i) ∧ (∀ a, a ≠ 110 → a ≠ 111 → a ≠ 112 → a ≠ 129 → a ≠ 130 → u2 a = w a) ∧ ∀ j, j ≠ 40 → u2 110 j = w 110 j) := by
  have hzu : ∀ u : Wd, u 110 = w 110 → u 111 = w 111 → ∀ c, c < 6 → F_164_110 (nI c) u = 0 → u 111 (6 * c + f) = 0 := fun u e1 e2 c hc hz => by
    rw [e2]
    rw [c164 (w := w) (by rw [e1])] at hz
    exact hZ c f hc hf ((hfc c hc).mp hz)
  refine CI.of rfl (t216_110_at0 (d := d + 4) w _ ?_)
  refine CI.mono (c_167 (d := d + 3) hf (hzu w rfl rfl)) ?_
  intro x1 ua hx1
  obtain ⟨hx, hu⟩ := hx1
  have hu2 := hu.symm
  subst hu2
  rw [hS] at hx
  refine ⟨inB_nI hf (by decide), ?_⟩
  rw [nI_clamp (by omega), hx, ht]
  unfold nedF
  by_cases h1 : S ≤ t
  · rw [if_pos (nI_le h1 (by omega))]
    refine CU.mono (c_163_111_112 (d := d + 4) w) ?_
    intro ub hb
    subst hb
    refine ⟨inB_nI hf (by decide), ?_⟩
    have b0 : cpA w 111 112 162 110 = w 110 := cpA_ne (by decide)
    have b1 : cpA w 111 112 162 111 = w 111 := cpA_ne (by decide)
    have b6 : cpA w 111 112 162 116 = w 116 := cpA_ne (by decide)
    have b4 : cpA w 111 112 162 114 = w 114 := cpA_ne (by decide)
    refine CI.mono (c_167 (d := d + 3) hf (hzu _ b0 b1)) ?_
    intro x3 uc hx3
    obtain ⟨hx3, hu3⟩ := hx3
    have hu4 := hu3.symm
    subst hu4
    rw [b1, hS] at hx3
    rw [b6, ht, hx3, pk_sub h1]
    have conv : ∀ (x : Int32) (u2 : Wd) (y : Int32), x = y ∧ NR (cpA w 111 112 162) u2 → x = y ∧ (∀ i, i < 162 → u2 111 i = w 111 i) ∧ (∀ a, a ≠ 110 → a ≠ 111 → a ≠ 112 → a ≠ 129 → a ≠ 130 → u2 a = w a) ∧ ∀ j, j ≠ 40 → u2 110 j = w 110 j := by
      intro x u2 y hh
      obtain ⟨g1, g2, g3, g4⟩ := hh
      refine ⟨g1, fun i hi => ?_, fun a a1 a2 a3 a4 a5 => ?_, fun j hj => ?_⟩
      · rw [g2 i hi, cpA_at, if_pos hi]
      · rw [g3 a a1 a2 a4 a5, cpA_ne a3]
      · rw [g4 j hj, b0]
    by_cases h2 : t - S ≤ 200
    · rw [if_neg (show ¬ kI 200 < nI (t - S) from nI_nlt (a := 200) h2 (by decide)), if_pos ⟨h1, h2⟩]
      refine EI.mono (l_216 (d := d) (t := t) (w := cpA w 111 112 162) (fc := fc) hf (hL.cg2 (by rw [b0]) (fun a a1 a2 => cpA_ne (by omega))) hY (fun c hc => by rw [c164 (w := w) (by rw [b0])]; exact hfc c hc) (by rw [b6]; exact ht) ht2 (t - S) 0 S (cpA w 111 112 162) (w 111) (kI 0) (by omega) (by omega) hS b1 hC hZ (fun _ _ _ _ _ => rfl) (fun _ _ => rfl)) ?_
      intro x u2 hh
      rw [b6, b4] at hh
      exact conv x u2 _ hh
    · rw [if_pos (show kI 200 < nI (t - S) from nI_lt (a := 200) (by omega) (by omega)), if_neg (fun e => h2 e.2)]
      refine t216_110_at57 (d := d + 4) _ _ _ _ _ ?_
      simp only [if_pos (show kI 0 = 0 from rfl)]
      rw [if_neg (show ¬ kI 200 ≤ kI 0 by decide)]
      refine CU.mono (nr_back (d := d + 4) (w := cpA w 111 112 162) (x := kI (-2)) rfl (fun _ _ _ _ _ => rfl) (fun _ _ => rfl)) ?_
      intro u2 hh
      exact ⟨trivial, (conv _ u2 _ hh).2⟩
  · rw [if_neg (nI_ge (by omega) (by omega)), if_neg (fun e => h1 e.1)]
    exact ⟨rfl, fun _ _ => rfl, fun _ _ _ _ _ _ => rfl, fun _ _ => rfl⟩
end NEEDS
