/-! months, part 6: sendStaff, staffGoes -/
section MONTHS6
def stA (fc ft : Nat → Bool) (AK : (Nat → Int32) → Int32) (T Pp : Nat → Int32) : Nat → Nat → ST3 → ST3
  | 0, _, p => p
  | m + 1, f, p => stA fc ft AK T Pp m (f + 1) (if ft f then stG fc AK T Pp f 200 p else p)
variable {op ar : Nat → Nat} {lt : Nat → Int32} {la lm lb : Nat → Nat} {cnt len : Nat} {fc ft : Nat → Bool}
theorem la_23_7 {X : Scr} {d : Nat} {w : Wd} (hL : LAWC w op ar lt la lm lb cnt len) (hY : LWV op ar lt la lm lb cnt len) (hfc : ∀ c, c < 6 → (F_51_3 (nI c) w = 0 ↔ fc c = false)) (hft : ∀ f, f < 6 → (F_52_3 (nI f) w = 0 ↔ ft f = false)) : ∀ (m f : Nat) (u : Wd) (p : ST3), f + m = 6 → SI_7 w u p → EU X (d + 6) 23 (2, [some (.ref 87), some (.ref 7), some (.int (nI f)), none, none, none], [], SH, u) (fun u2 => SI_7 w u2 (stA fc ft (lawA op ar lt la lm lb cnt (kI 107) 99) (w 5) (w 4) m f p)) := by
  intro m
  induction m with
  | zero =>
    intro f u p h hI
    have hf : f = 6 := by omega
    subst hf
    refine t23_87_7_at2 (d := d + 4) u _ ?_
    rw [if_pos (by decide)]
    exact hI
  | succ m ih =>
    intro f u p h hI
    have hf : f < 6 := by omega
    have e3 : u 3 = w 3 := hI.2.2.2.2.2 3 (by omega) (by decide) (by decide) (by decide)
    refine t23_87_7_at2 (d := d + 4) u _ ?_
    rw [if_neg (lt_6 f hf), f52_cg e3]
    unfold stA
    by_cases h0 : F_52_3 (nI f) w = 0
    · rw [h0, (hft f hf).mp h0, if_neg (show ¬ (false = true) by decide)]
      refine t23_87_7_at20 (d := d + 4) u _ _ _ ?_
      rw [if_neg (by decide), if_pos (show (0 : Int32) = 0 from rfl), k1]
      exact ih (f + 1) u p (by omega) hI
    · have hft1 : ft f = true := by
        cases e : ft f with
        | true => rfl
        | false => exact absurd ((hft f hf).mpr e) h0
      have h1 : F_52_3 (nI f) w = kI 1 := by
        rcases z1_52_3 (nI f) w with e | e
        · exact absurd e h0
        · exact e
      rw [h1, hft1, if_pos (show (true = true) from rfl)]
      exact l_23_7 hf hL hY hfc 200 0 u p rfl hI (fun u2 h2 => ih (f + 1) u2 _ (by omega) h2)
/-- sendStaff -/
theorem c_23_7 {X : Scr} {d : Nat} {w u : Wd} {p : ST3} (hL : LAWC w op ar lt la lm lb cnt len) (hY : LWV op ar lt la lm lb cnt len) (hfc : ∀ c, c < 6 → (F_51_3 (nI c) w = 0 ↔ fc c = false)) (hft : ∀ f, f < 6 → (F_52_3 (nI f) w = 0 ↔ ft f = false)) (hI : SI_7 w u p) : CU X (d + 7) 23 [.ref 87, .ref 7] u (fun u2 => SI_7 w u2 (stA fc ft (lawA op ar lt la lm lb cnt (kI 107) 99) (w 5) (w 4) 6 0 p)) :=
  CU.of rfl (t23_87_7_at0 (d := d + 4) u (la_23_7 hL hY hfc hft 6 0 u p rfl hI))
theorem la_23_17 {X : Scr} {d : Nat} {w : Wd} (hL : LAWC w op ar lt la lm lb cnt len) (hY : LWV op ar lt la lm lb cnt len) (hfc : ∀ c, c < 6 → (F_51_3 (nI c) w = 0 ↔ fc c = false)) (hft : ∀ f, f < 6 → (F_52_3 (nI f) w = 0 ↔ ft f = false)) : ∀ (m f : Nat) (u : Wd) (p : ST3), f + m = 6 → SI_17 w u p → EU X (d + 6) 23 (2, [some (.ref 87), some (.ref 17), some (.int (nI f)), none, none, none], [], SH, u) (fun u2 => SI_17 w u2 (stA fc ft (lawA op ar lt la lm lb cnt (kI 107) 99) (w 5) (w 4) m f p)) := by
  intro m
  induction m with
  | zero =>
    intro f u p h hI
    have hf : f = 6 := by omega
    subst hf
    refine t23_87_17_at2 (d := d + 4) u _ ?_
    rw [if_pos (by decide)]
    exact hI
  | succ m ih =>
    intro f u p h hI
    have hf : f < 6 := by omega
    have e3 : u 3 = w 3 := hI.2.2.2.2.2 3 (by omega) (by decide) (by decide) (by decide)
    refine t23_87_17_at2 (d := d + 4) u _ ?_
    rw [if_neg (lt_6 f hf), f52_cg e3]
    unfold stA
    by_cases h0 : F_52_3 (nI f) w = 0
    · rw [h0, (hft f hf).mp h0, if_neg (show ¬ (false = true) by decide)]
      refine t23_87_17_at20 (d := d + 4) u _ _ _ ?_
      rw [if_neg (by decide), if_pos (show (0 : Int32) = 0 from rfl), k1]
      exact ih (f + 1) u p (by omega) hI
    · have hft1 : ft f = true := by
        cases e : ft f with
        | true => rfl
        | false => exact absurd ((hft f hf).mpr e) h0
      have h1 : F_52_3 (nI f) w = kI 1 := by
        rcases z1_52_3 (nI f) w with e | e
        · exact absurd e h0
        · exact e
      rw [h1, hft1, if_pos (show (true = true) from rfl)]
      exact l_23_17 hf hL hY hfc 200 0 u p rfl hI (fun u2 h2 => ih (f + 1) u2 _ (by omega) h2)
/-- sendStaff -/
theorem c_23_17 {X : Scr} {d : Nat} {w u : Wd} {p : ST3} (hL : LAWC w op ar lt la lm lb cnt len) (hY : LWV op ar lt la lm lb cnt len) (hfc : ∀ c, c < 6 → (F_51_3 (nI c) w = 0 ↔ fc c = false)) (hft : ∀ f, f < 6 → (F_52_3 (nI f) w = 0 ↔ ft f = false)) (hI : SI_17 w u p) : CU X (d + 7) 23 [.ref 87, .ref 17] u (fun u2 => SI_17 w u2 (stA fc ft (lawA op ar lt la lm lb cnt (kI 107) 99) (w 5) (w 4) 6 0 p)) :=
  CU.of rfl (t23_87_17_at0 (d := d + 4) u (la_23_17 hL hY hfc hft 6 0 u p rfl hI))
def ZR (fc : Nat → Bool) (n : Nat → Int32) : Prop := ∀ c g, c < 6 → g < 6 → fc c = false → n (6 * c + g) = 0
def SRv (fc : Nat → Bool) (w u : Wd) (p : ST3) : Prop := u 111 = p.1 ∧ NVn p.1 ∧ ZR fc p.1 ∧ u 110 38 = p.2.1 ∧ u 110 39 = p.2.2 ∧ (∀ j, j ≠ 38 → j ≠ 39 → j ≠ 40 → u 110 j = w 110 j) ∧ ∀ a, a ≠ 110 → a ≠ 111 → a ≠ 129 → a ≠ 130 → u a = w a
theorem l_207 {X : Scr} {d f : Nat} {w : Wd} (hf : f < 6) (hL : LWR w op ar lt la lm lb cnt len) (hY : LWV op ar lt la lm lb cnt len) (hfc : ∀ c, c < 6 → (F_164_110 (nI c) w = 0 ↔ fc c = false)) : ∀ (m i : Nat) (u : Wd) (p : ST3), i + m = 200 → SRv fc w u p → EU X (d + 6) 207 (2, [some (.ref 110), some (.int (nI f)), some (.int (nI i)), none], [], SH, u) (fun u2 => SRv fc w u2 (stG fc (lawA op ar lt la lm lb cnt (kI 107) 99) (w 116) (w 114) f m p)) := by
  intro m
  induction m with
  | zero =>
    intro i u p h hI
    have hi : i = 200 := by omega
    subst hi
    refine t207_110_at2 (d := d + 4) u _ _ ?_
    rw [if_pos (by decide)]
    exact hI
  | succ m ih =>
    intro i u p h hI
    have hI0 := hI
    obtain ⟨i1, i2, i3, i4, i5, i6, i7⟩ := hI
    have e6 : u 110 6 = w 110 6 := i6 6 (by decide) (by decide) (by decide)
    have hfu : ∀ c, c < 6 → (F_164_110 (nI c) u = 0 ↔ fc c = false) := fun c hc => by rw [c164 e6]; exact hfc c hc
    have hzu : ∀ c, c < 6 → F_164_110 (nI c) u = 0 → u 111 (6 * c + f) = 0 := fun c hc hz => by rw [i1]; exact i3 c f hc hf ((hfu c hc).mp hz)
    have e116 : u 116 = w 116 := i7 116 (by decide) (by decide) (by decide) (by decide)
    have e114 : u 114 = w 114 := i7 114 (by decide) (by decide) (by decide) (by decide)
    refine t207_110_at2 (d := d + 4) u _ _ ?_
    rw [if_neg (lt_200 i (by omega)), k1]
    refine CI.mono (c_167 (d := d + 3) hf hzu) ?_
    intro x1 ua hx1
    obtain ⟨hx, hu⟩ := hx1
    have hu2 := hu.symm
    subst hu2
    rw [i1] at hx
    refine ⟨inB_nI hf (by decide), ?_⟩
    rw [nI_clamp (by omega), hx, e116]
    unfold stG
    by_cases ht : w 116 f ≤ sum6 p.1 f
    · rw [if_pos ht, if_pos ht]; exact hI0
    · rw [if_neg ht, if_neg ht]
      have Lu : LWR u op ar lt la lm lb cnt len := hL.cg2 (i6 19 (by decide) (by decide) (by decide)) (fun a h1 h2 => i7 a (by omega) (by omega) (by omega) (by omega))
      refine CI.mono (c_205 (d := d + 1) (fc := fc) hf hzu Lu hY hfu) ?_
      intro x2 ub hx2
      rw [i1, e116, e114] at hx2
      obtain ⟨ex2, q1, q2, q3⟩ := hx2
      have hlt := chF_lt (fc := fc) (K := fun c => lawA op ar lt la lm lb cnt (kI 107) 99 (Vof p.1 (w 116) (w 114) c f (kI 11))) 6 0 (none, 0) (fun b hb => by cases hb)
      have htl := chF_told (fc := fc) (K := fun c => lawA op ar lt la lm lb cnt (kI 107) 99 (Vof p.1 (w 116) (w 114) c f (kI 11))) 6 0 (none, 0) (fun b hb => by cases hb)
      have hval := chF_val (fc := fc) (K := fun c => lawA op ar lt la lm lb cnt (kI 107) 99 (Vof p.1 (w 116) (w 114) c f (kI 11))) (m := 99) (fun c => by unfold lawA; exact askF_nn (by decide) _ _) 6 0 (none, 0) (fun hb => absurd rfl hb)
      generalize chF fc (fun c => lawA op ar lt la lm lb cnt (kI 107) 99 (Vof p.1 (w 116) (w 114) c f (kI 11))) 6 0 (none, 0) = R at ex2 q1 hlt hval htl
      have eb : ub 111 = p.1 := by rw [q3 111 (by decide) (by decide) (by decide)]; exact i1
      have Sb : SRv fc w ub p := ⟨eb, i2, i3, by rw [q2 38 (by decide)]; exact i4, by rw [q2 39 (by decide)]; exact i5, fun j h1 h2 h3 => by rw [q2 j h3]; exact i6 j h1 h2 h3, fun a h1 h2 h3 h4 => by rw [q3 a h1 h3 h4]; exact i7 a h1 h2 h3 h4⟩
      obtain ⟨o, k⟩ := R
      cases o with
      | none =>
        rw [if_pos (show x2 = kI (-1) from ex2)]
        exact Sb
      | some c =>
        have hc6 : c < 6 := by have := hlt c rfl; omega
        have hfc1 : fc c = true := htl c rfl
        have e40 : ub 110 40 = k := q1 (by intro e; cases e)
        have hk99 : nn k 99 := hval (by intro e; cases e)
        have k159 : (kI 159).toNatClampNeg = 159 := rfl
        rw [if_neg (show ¬ x2 = kI (-1) by rw [ex2]; exact nI_m1 (by omega)), e40, k159, eb]
        have ex3 : x2 = nI c := ex2
        rw [ex3]
        dsimp only
        by_cases hd : p.1 159 < k
        · rw [if_neg (Int32.not_le.mpr hd), if_pos hd]
          exact Sb
        · rw [if_pos (Int32.not_lt.mp hd), if_neg hd, ixC]
          refine ⟨inB_nI (by omega) (by decide), ?_⟩
          obtain ⟨a, ha, ea⟩ := i2.1 (6 * c + f) (by omega)
          have eG : ∀ v : Wd, v 111 (6 * c + f) = p.1 (6 * c + f) → G_206_110 (nI c) (nI f) v = up2 v 111 (6 * c + f) (mn9 (p.1 (6 * c + f) + kI 1)) := by
            intro v hv
            unfold G_206_110
            rw [ixC, nI_clamp (by omega), hv, ea, k1, min158 _ _ (by omega)]
          rw [eG _ (by rw [up2_ne (by decide), up2_ne (by decide), up2_at, if_neg (by omega), eb])]
          refine ih (i + 1) _ _ (by omega) ⟨?_, i2.stf hc6 hf hk99 hd, ?_, ?_, ?_, ?_, ?_⟩
          · rw [up2_self, up2_ne (by decide), up2_ne (by decide), up2_self, eb]
          · intro c2 g hc2 hg hz
            show upd (upd p.1 159 _) (6 * c + f) _ (6 * c2 + g) = 0
            have hne : c2 ≠ c := fun e => by rw [e, hfc1] at hz; cases hz
            unfold upd
            rw [if_neg (by omega), if_neg (by omega)]
            exact i3 c2 g hc2 hg hz
          · rw [up2_ne (by decide), up2_at, if_neg (by decide), up2_at, if_pos rfl, Sb.2.2.2.1]
          · rw [up2_ne (by decide), up2_at, if_pos rfl, Sb.2.2.2.2.1]
          · intro j h1 h2 h3
            rw [up2_ne (by decide), up2_at, if_neg h2, up2_at, if_neg h1, up2_ne (by decide)]
            exact Sb.2.2.2.2.2.1 j h1 h2 h3
          · intro a h1 h2 h3 h4
            rw [up2_ne h2, up2_ne h1, up2_ne h1, up2_ne h2]
            exact Sb.2.2.2.2.2.2 a h1 h2 h3 h4
/-- staffGoes -/
theorem c_207 {X : Scr} {d f : Nat} {w u : Wd} {p : ST3} (hf : f < 6) (hL : LWR w op ar lt la lm lb cnt len) (hY : LWV op ar lt la lm lb cnt len) (hfc : ∀ c, c < 6 → (F_164_110 (nI c) w = 0 ↔ fc c = false)) (hI : SRv fc w u p) : CU X (d + 7) 207 [.ref 110, .int (nI f)] u (fun u2 => SRv fc w u2 (stG fc (lawA op ar lt la lm lb cnt (kI 107) 99) (w 116) (w 114) f 200 p)) :=
  CU.of rfl (t207_110_at0 (d := d + 4) u _ (l_207 hf hL hY hfc 200 0 u p rfl hI))
end MONTHS6
