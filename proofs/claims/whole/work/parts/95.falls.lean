/-! fallsUnder -/
section FALLS
def VRr (c a h k : Nat → Int32) (r : Nat) : Nat → Int32 := fun j => if j = 0 then c r else if j = 8 then nI r else if j = 9 then a r else if j = 10 then h r else if j = 11 then k r else kI 0
theorem tv_r {w : Wd} {r : Nat} (hr : r < 20) : (∀ j, j < 12 → (G_1_102_85 (nI r) w) 85 j = VRr (w 103) (w 104) (w 105) (w 106) r j) ∧ ∀ a, a ≠ 85 → (G_1_102_85 (nI r) w) a = w a := by
  unfold G_1_102_85
  rw [if_neg (in19 hr), nI_clamp (by omega)]
  refine ⟨fun j hj => ?_, fun a ha => ?_⟩
  · match j, hj with
    | 0, _ => rfl
    | 1, _ => rfl
    | 2, _ => rfl
    | 3, _ => rfl
    | 4, _ => rfl
    | 5, _ => rfl
    | 6, _ => rfl
    | 7, _ => rfl
    | 8, _ => rfl
    | 9, _ => rfl
    | 10, _ => rfl
    | 11, _ => rfl
    | k + 12, h => omega
  · rw [up2_ne ha, up2_ne ha, up2_ne ha, up2_ne ha, up2_ne ha]
    exact fill_ne ha
def DFC (w : Wd) (d : Nat) (op ar : Nat → Nat) (len : Nat) : Prop := len ≤ 80 ∧ (∀ k, k < len → ∃ cd, CRel (w (38 + 7 * d) k) (w (39 + 7 * d) k) cd (op k) (ar k)) ∧ w (37 + 7 * d) 7 = 1 ∧ w (42 + 7 * d) 0 = 0 ∧ w (43 + 7 * d) 0 = nI len ∧ SEGW op ar 0 len true
def DFR (w : Wd) (d : Nat) (op ar : Nat → Nat) (len : Nat) : Prop := len ≤ 80 ∧ (∀ k, k < len → op k ≤ 12 ∧ ar k < 100000 ∧ w 144 (260 * d + k) = nI (1048576 * op k + ar k)) ∧ w 145 d = nI len ∧ SEGW op ar 0 len true
theorem def_of {w : Wd} {d : Nat} (h : DEFI w d) : ∃ op ar len, DFC w d op ar len ∧ DFR w d op ar len := by
  obtain ⟨op, ar, len, h1, h2, h3, h4, h5, h6, h7⟩ := h
  exact ⟨op, ar, len, ⟨h1, fun k hk => ⟨_, h2 k hk⟩, h4, h5, h6, h7⟩, ⟨h1, fun k hk => ⟨(h2 k hk).1, (h2 k hk).2.1, (h2 k hk).2.2.1⟩, h3, h7⟩⟩
theorem DFC.cg {w u : Wd} {d : Nat} {op ar : Nat → Nat} {len : Nat} (h : DFC w d op ar len) (hd : d < 6) (e : ∀ a, 37 ≤ a → a ≤ 78 → u a = w a) : DFC u d op ar len := by
  unfold DFC at h ⊢
  rw [e (37 + 7 * d) (by omega) (by omega), e (38 + 7 * d) (by omega) (by omega), e (39 + 7 * d) (by omega) (by omega), e (42 + 7 * d) (by omega) (by omega), e (43 + 7 * d) (by omega) (by omega)]
  exact h
theorem DFR.cg {w u : Wd} {d : Nat} {op ar : Nat → Nat} {len : Nat} (h : DFR w d op ar len) (e1 : u 144 = w 144) (e2 : u 145 = w 145) : DFR u d op ar len := by
  unfold DFR at h ⊢
  rw [e1, e2]
  exact h
def fbF (op ar : Nat → Nat) (len : Nat) (V : Nat → Int32) : Bool := decide (evF op ar V len 300 0 0 (fun _ => 0) = kI 1)
/-- the records that fall under it -/
def fuB (R : Nat) (op ar : Nat → Nat) (len : Nat) (c a h k : Nat → Int32) : Nat → Bool := fun r => R.testBit r && fbF op ar len (VRr c a h k r)
theorem mkS_t {f : Nat → Bool} {n : Nat} (h : f n = true) : mkS f (n + 1) = mkS f n ||| 2 ^ n := by show (if f n then _ else _) = _; rw [h]; rfl
theorem mkS_f {f : Nat → Bool} {n : Nat} (h : f n = false) : mkS f (n + 1) = mkS f n := by show (if f n then _ else _) = _; rw [h]; rfl
theorem z00 (w : Wd) : ¬ F_153 (kI 0) (kI 0) ((1 : Int32) - kI 1) w = 0 := (by decide : ¬ F_153 (kI 0) (kI 0) ((1 : Int32) - kI 1) (fun _ _ => 0) = 0)
theorem c_44_37 {X : Scr} {d : Nat} {w : Wd} {op ar : Nat → Nat} {len : Nat} {V : Nat → Int32} (hD : DFC w 0 op ar len) (hV : ∀ j, j < 12 → w 85 j = V j) : CI X (d + 3) 44 [.ref 84, .ref 37, .int (kI 0)] w (fun x u2 => x = (if fbF op ar len V then kI 1 else kI 0) ∧ ∀ c, c ≠ 86 → u2 c = w c) := by
  obtain ⟨l1, l2, l3, l4, l5, l6⟩ := hD
  have l3' : w 37 7 = 1 := l3
  have l4' : w 42 0 = nI 0 := l4
  have l5' : w 43 0 = nI len := l5
  refine CI.of rfl (t44_84_37_at0 (d := d + 1) w _ ?_)
  rw [l3', if_neg (z00 w), show (kI 0).toNatClampNeg = 0 from rfl, l4', l5']
  refine ⟨by decide, by decide, CI.mono (c_46_37 (d := d) (Nat.zero_le _) l1 l2 hV l6) ?_⟩
  intro x u2 hx
  obtain ⟨hx, hf⟩ := hx
  have hb := seg_bool (V := V) (Nat.zero_le _) (fun k hk => by obtain ⟨cd, hcd⟩ := l2 k hk; exact hcd.1) l6
  unfold fbF
  rcases hb with e | e
  · rw [hx, e, if_pos (show kI 0 = 0 from rfl)]; exact ⟨by rw [decide_eq_false (by decide)]; rfl, hf⟩
  · rw [hx, e, if_neg (by decide)]; exact ⟨by rw [decide_eq_true rfl]; rfl, hf⟩
theorem l_151_0 {X : Scr} {d R : Nat} {w : Wd} {op ar : Nat → Nat} {len : Nat} (hD : DFC w 0 op ar len) (hR : w 102 6 = nI R) (hR2 : R < 2 ^ 20) : ∀ (m r : Nat) (u : Wd), r + m = 20 → (∀ a, a ≠ 85 → a ≠ 86 → u a = w a) → EI X (d + 3) 151 (4, [some (.ref 0), some (.int (kI 0)), some (.int (nI (mkS (fuB R op ar len (w 103) (w 104) (w 105) (w 106)) r))), some (.int (nI r))], [], SH, u) (fun x u2 => x = nI (mkS (fuB R op ar len (w 103) (w 104) (w 105) (w 106)) 20) ∧ ∀ a, a ≠ 85 → a ≠ 86 → u2 a = w a) := by
  intro m
  induction m with
  | zero =>
    intro r u h hF
    have e : r = 20 := by omega
    subst e
    refine t151_0_c0_at4 u _ _ ?_
    rw [if_pos (by decide)]
    exact ⟨rfl, hF⟩
  | succ m ih =>
    intro r u h hF
    have hr : r < 20 := by omega
    refine t151_0_c0_at4 u _ _ ?_
    rw [if_neg (lt_20 r hr), hF 102 (by decide) (by decide), hR, k1, shl1_nI (by omega), or_nI]
    by_cases hb : R.testBit r = true
    · rw [if_neg (by rw [isin_z u (by omega) (by omega)]; exact fun x => x hb)]
      obtain ⟨t1, t2⟩ := tv_r (w := u) hr
      rw [hF 103 (by decide) (by decide), hF 104 (by decide) (by decide), hF 105 (by decide) (by decide), hF 106 (by decide) (by decide)] at t1
      refine CI.mono (c_44_37 (d := d) (hD.cg (by decide) (fun a h1 h2 => by rw [t2 a (by omega)]; exact hF a (by omega) (by omega))) t1) ?_
      intro x u1 hx
      obtain ⟨hx, hf⟩ := hx
      have hF1 : ∀ a, a ≠ 85 → a ≠ 86 → u1 a = w a := fun a h1 h2 => by rw [hf a h2, t2 a h1]; exact hF a h1 h2
      have g := ih (r + 1) u1 (by omega) hF1
      cases e : fbF op ar len (VRr (w 103) (w 104) (w 105) (w 106) r) with
      | true =>
        rw [e, if_pos rfl] at hx
        rw [mkS_t (by unfold fuB; rw [hb, e]; rfl)] at g
        rw [hx, if_neg (by decide)]
        exact g
      | false =>
        rw [e, if_neg (by decide)] at hx
        rw [mkS_f (by unfold fuB; rw [hb, e]; rfl)] at g
        rw [hx, if_pos (show kI 0 = 0 from rfl)]
        exact g
    · rw [if_pos (by rw [isin_z u (by omega) (by omega)]; exact hb)]
      have g := ih (r + 1) u (by omega) hF
      have hb2 : R.testBit r = false := by simpa using hb
      rw [mkS_f (by unfold fuB; rw [hb2]; rfl)] at g
      exact g
theorem c_44_44 {X : Scr} {d : Nat} {w : Wd} {op ar : Nat → Nat} {len : Nat} {V : Nat → Int32} (hD : DFC w 1 op ar len) (hV : ∀ j, j < 12 → w 85 j = V j) : CI X (d + 3) 44 [.ref 84, .ref 44, .int (kI 0)] w (fun x u2 => x = (if fbF op ar len V then kI 1 else kI 0) ∧ ∀ c, c ≠ 86 → u2 c = w c) := by
  obtain ⟨l1, l2, l3, l4, l5, l6⟩ := hD
  have l3' : w 44 7 = 1 := l3
  have l4' : w 49 0 = nI 0 := l4
  have l5' : w 50 0 = nI len := l5
  refine CI.of rfl (t44_84_44_at0 (d := d + 1) w _ ?_)
  rw [l3', if_neg (z00 w), show (kI 0).toNatClampNeg = 0 from rfl, l4', l5']
  refine ⟨by decide, by decide, CI.mono (c_46_44 (d := d) (Nat.zero_le _) l1 l2 hV l6) ?_⟩
  intro x u2 hx
  obtain ⟨hx, hf⟩ := hx
  have hb := seg_bool (V := V) (Nat.zero_le _) (fun k hk => by obtain ⟨cd, hcd⟩ := l2 k hk; exact hcd.1) l6
  unfold fbF
  rcases hb with e | e
  · rw [hx, e, if_pos (show kI 0 = 0 from rfl)]; exact ⟨by rw [decide_eq_false (by decide)]; rfl, hf⟩
  · rw [hx, e, if_neg (by decide)]; exact ⟨by rw [decide_eq_true rfl]; rfl, hf⟩
theorem l_151_1 {X : Scr} {d R : Nat} {w : Wd} {op ar : Nat → Nat} {len : Nat} (hD : DFC w 1 op ar len) (hR : w 102 6 = nI R) (hR2 : R < 2 ^ 20) : ∀ (m r : Nat) (u : Wd), r + m = 20 → (∀ a, a ≠ 85 → a ≠ 86 → u a = w a) → EI X (d + 3) 151 (4, [some (.ref 0), some (.int (kI 1)), some (.int (nI (mkS (fuB R op ar len (w 103) (w 104) (w 105) (w 106)) r))), some (.int (nI r))], [], SH, u) (fun x u2 => x = nI (mkS (fuB R op ar len (w 103) (w 104) (w 105) (w 106)) 20) ∧ ∀ a, a ≠ 85 → a ≠ 86 → u2 a = w a) := by
  intro m
  induction m with
  | zero =>
    intro r u h hF
    have e : r = 20 := by omega
    subst e
    refine t151_0_c1_at4 u _ _ ?_
    rw [if_pos (by decide)]
    exact ⟨rfl, hF⟩
  | succ m ih =>
    intro r u h hF
    have hr : r < 20 := by omega
    refine t151_0_c1_at4 u _ _ ?_
    rw [if_neg (lt_20 r hr), hF 102 (by decide) (by decide), hR, k1, shl1_nI (by omega), or_nI]
    by_cases hb : R.testBit r = true
    · rw [if_neg (by rw [isin_z u (by omega) (by omega)]; exact fun x => x hb)]
      obtain ⟨t1, t2⟩ := tv_r (w := u) hr
      rw [hF 103 (by decide) (by decide), hF 104 (by decide) (by decide), hF 105 (by decide) (by decide), hF 106 (by decide) (by decide)] at t1
      refine CI.mono (c_44_44 (d := d) (hD.cg (by decide) (fun a h1 h2 => by rw [t2 a (by omega)]; exact hF a (by omega) (by omega))) t1) ?_
      intro x u1 hx
      obtain ⟨hx, hf⟩ := hx
      have hF1 : ∀ a, a ≠ 85 → a ≠ 86 → u1 a = w a := fun a h1 h2 => by rw [hf a h2, t2 a h1]; exact hF a h1 h2
      have g := ih (r + 1) u1 (by omega) hF1
      cases e : fbF op ar len (VRr (w 103) (w 104) (w 105) (w 106) r) with
      | true =>
        rw [e, if_pos rfl] at hx
        rw [mkS_t (by unfold fuB; rw [hb, e]; rfl)] at g
        rw [hx, if_neg (by decide)]
        exact g
      | false =>
        rw [e, if_neg (by decide)] at hx
        rw [mkS_f (by unfold fuB; rw [hb, e]; rfl)] at g
        rw [hx, if_pos (show kI 0 = 0 from rfl)]
        exact g
    · rw [if_pos (by rw [isin_z u (by omega) (by omega)]; exact hb)]
      have g := ih (r + 1) u (by omega) hF
      have hb2 : R.testBit r = false := by simpa using hb
      rw [mkS_f (by unfold fuB; rw [hb2]; rfl)] at g
      exact g
theorem c_44_51 {X : Scr} {d : Nat} {w : Wd} {op ar : Nat → Nat} {len : Nat} {V : Nat → Int32} (hD : DFC w 2 op ar len) (hV : ∀ j, j < 12 → w 85 j = V j) : CI X (d + 3) 44 [.ref 84, .ref 51, .int (kI 0)] w (fun x u2 => x = (if fbF op ar len V then kI 1 else kI 0) ∧ ∀ c, c ≠ 86 → u2 c = w c) := by
  obtain ⟨l1, l2, l3, l4, l5, l6⟩ := hD
  have l3' : w 51 7 = 1 := l3
  have l4' : w 56 0 = nI 0 := l4
  have l5' : w 57 0 = nI len := l5
  refine CI.of rfl (t44_84_51_at0 (d := d + 1) w _ ?_)
  rw [l3', if_neg (z00 w), show (kI 0).toNatClampNeg = 0 from rfl, l4', l5']
  refine ⟨by decide, by decide, CI.mono (c_46_51 (d := d) (Nat.zero_le _) l1 l2 hV l6) ?_⟩
  intro x u2 hx
  obtain ⟨hx, hf⟩ := hx
  have hb := seg_bool (V := V) (Nat.zero_le _) (fun k hk => by obtain ⟨cd, hcd⟩ := l2 k hk; exact hcd.1) l6
  unfold fbF
  rcases hb with e | e
  · rw [hx, e, if_pos (show kI 0 = 0 from rfl)]; exact ⟨by rw [decide_eq_false (by decide)]; rfl, hf⟩
  · rw [hx, e, if_neg (by decide)]; exact ⟨by rw [decide_eq_true rfl]; rfl, hf⟩
theorem l_151_2 {X : Scr} {d R : Nat} {w : Wd} {op ar : Nat → Nat} {len : Nat} (hD : DFC w 2 op ar len) (hR : w 102 6 = nI R) (hR2 : R < 2 ^ 20) : ∀ (m r : Nat) (u : Wd), r + m = 20 → (∀ a, a ≠ 85 → a ≠ 86 → u a = w a) → EI X (d + 3) 151 (4, [some (.ref 0), some (.int (kI 2)), some (.int (nI (mkS (fuB R op ar len (w 103) (w 104) (w 105) (w 106)) r))), some (.int (nI r))], [], SH, u) (fun x u2 => x = nI (mkS (fuB R op ar len (w 103) (w 104) (w 105) (w 106)) 20) ∧ ∀ a, a ≠ 85 → a ≠ 86 → u2 a = w a) := by
  intro m
  induction m with
  | zero =>
    intro r u h hF
    have e : r = 20 := by omega
    subst e
    refine t151_0_c2_at4 u _ _ ?_
    rw [if_pos (by decide)]
    exact ⟨rfl, hF⟩
  | succ m ih =>
    intro r u h hF
    have hr : r < 20 := by omega
    refine t151_0_c2_at4 u _ _ ?_
    rw [if_neg (lt_20 r hr), hF 102 (by decide) (by decide), hR, k1, shl1_nI (by omega), or_nI]
    by_cases hb : R.testBit r = true
    · rw [if_neg (by rw [isin_z u (by omega) (by omega)]; exact fun x => x hb)]
      obtain ⟨t1, t2⟩ := tv_r (w := u) hr
      rw [hF 103 (by decide) (by decide), hF 104 (by decide) (by decide), hF 105 (by decide) (by decide), hF 106 (by decide) (by decide)] at t1
      refine CI.mono (c_44_51 (d := d) (hD.cg (by decide) (fun a h1 h2 => by rw [t2 a (by omega)]; exact hF a (by omega) (by omega))) t1) ?_
      intro x u1 hx
      obtain ⟨hx, hf⟩ := hx
      have hF1 : ∀ a, a ≠ 85 → a ≠ 86 → u1 a = w a := fun a h1 h2 => by rw [hf a h2, t2 a h1]; exact hF a h1 h2
      have g := ih (r + 1) u1 (by omega) hF1
      cases e : fbF op ar len (VRr (w 103) (w 104) (w 105) (w 106) r) with
      | true =>
        rw [e, if_pos rfl] at hx
        rw [mkS_t (by unfold fuB; rw [hb, e]; rfl)] at g
        rw [hx, if_neg (by decide)]
        exact g
      | false =>
        rw [e, if_neg (by decide)] at hx
        rw [mkS_f (by unfold fuB; rw [hb, e]; rfl)] at g
        rw [hx, if_pos (show kI 0 = 0 from rfl)]
        exact g
    · rw [if_pos (by rw [isin_z u (by omega) (by omega)]; exact hb)]
      have g := ih (r + 1) u (by omega) hF
      have hb2 : R.testBit r = false := by simpa using hb
      rw [mkS_f (by unfold fuB; rw [hb2]; rfl)] at g
      exact g
theorem c_44_58 {X : Scr} {d : Nat} {w : Wd} {op ar : Nat → Nat} {len : Nat} {V : Nat → Int32} (hD : DFC w 3 op ar len) (hV : ∀ j, j < 12 → w 85 j = V j) : CI X (d + 3) 44 [.ref 84, .ref 58, .int (kI 0)] w (fun x u2 => x = (if fbF op ar len V then kI 1 else kI 0) ∧ ∀ c, c ≠ 86 → u2 c = w c) := by
  obtain ⟨l1, l2, l3, l4, l5, l6⟩ := hD
  have l3' : w 58 7 = 1 := l3
  have l4' : w 63 0 = nI 0 := l4
  have l5' : w 64 0 = nI len := l5
  refine CI.of rfl (t44_84_58_at0 (d := d + 1) w _ ?_)
  rw [l3', if_neg (z00 w), show (kI 0).toNatClampNeg = 0 from rfl, l4', l5']
  refine ⟨by decide, by decide, CI.mono (c_46_58 (d := d) (Nat.zero_le _) l1 l2 hV l6) ?_⟩
  intro x u2 hx
  obtain ⟨hx, hf⟩ := hx
  have hb := seg_bool (V := V) (Nat.zero_le _) (fun k hk => by obtain ⟨cd, hcd⟩ := l2 k hk; exact hcd.1) l6
  unfold fbF
  rcases hb with e | e
  · rw [hx, e, if_pos (show kI 0 = 0 from rfl)]; exact ⟨by rw [decide_eq_false (by decide)]; rfl, hf⟩
  · rw [hx, e, if_neg (by decide)]; exact ⟨by rw [decide_eq_true rfl]; rfl, hf⟩
theorem l_151_3 {X : Scr} {d R : Nat} {w : Wd} {op ar : Nat → Nat} {len : Nat} (hD : DFC w 3 op ar len) (hR : w 102 6 = nI R) (hR2 : R < 2 ^ 20) : ∀ (m r : Nat) (u : Wd), r + m = 20 → (∀ a, a ≠ 85 → a ≠ 86 → u a = w a) → EI X (d + 3) 151 (4, [some (.ref 0), some (.int (kI 3)), some (.int (nI (mkS (fuB R op ar len (w 103) (w 104) (w 105) (w 106)) r))), some (.int (nI r))], [], SH, u) (fun x u2 => x = nI (mkS (fuB R op ar len (w 103) (w 104) (w 105) (w 106)) 20) ∧ ∀ a, a ≠ 85 → a ≠ 86 → u2 a = w a) := by
  intro m
  induction m with
  | zero =>
    intro r u h hF
    have e : r = 20 := by omega
    subst e
    refine t151_0_c3_at4 u _ _ ?_
    rw [if_pos (by decide)]
    exact ⟨rfl, hF⟩
  | succ m ih =>
    intro r u h hF
    have hr : r < 20 := by omega
    refine t151_0_c3_at4 u _ _ ?_
    rw [if_neg (lt_20 r hr), hF 102 (by decide) (by decide), hR, k1, shl1_nI (by omega), or_nI]
    by_cases hb : R.testBit r = true
    · rw [if_neg (by rw [isin_z u (by omega) (by omega)]; exact fun x => x hb)]
      obtain ⟨t1, t2⟩ := tv_r (w := u) hr
      rw [hF 103 (by decide) (by decide), hF 104 (by decide) (by decide), hF 105 (by decide) (by decide), hF 106 (by decide) (by decide)] at t1
      refine CI.mono (c_44_58 (d := d) (hD.cg (by decide) (fun a h1 h2 => by rw [t2 a (by omega)]; exact hF a (by omega) (by omega))) t1) ?_
      intro x u1 hx
      obtain ⟨hx, hf⟩ := hx
      have hF1 : ∀ a, a ≠ 85 → a ≠ 86 → u1 a = w a := fun a h1 h2 => by rw [hf a h2, t2 a h1]; exact hF a h1 h2
      have g := ih (r + 1) u1 (by omega) hF1
      cases e : fbF op ar len (VRr (w 103) (w 104) (w 105) (w 106) r) with
      | true =>
        rw [e, if_pos rfl] at hx
        rw [mkS_t (by unfold fuB; rw [hb, e]; rfl)] at g
        rw [hx, if_neg (by decide)]
        exact g
      | false =>
        rw [e, if_neg (by decide)] at hx
        rw [mkS_f (by unfold fuB; rw [hb, e]; rfl)] at g
        rw [hx, if_pos (show kI 0 = 0 from rfl)]
        exact g
    · rw [if_pos (by rw [isin_z u (by omega) (by omega)]; exact hb)]
      have g := ih (r + 1) u (by omega) hF
      have hb2 : R.testBit r = false := by simpa using hb
      rw [mkS_f (by unfold fuB; rw [hb2]; rfl)] at g
      exact g
theorem c_44_65 {X : Scr} {d : Nat} {w : Wd} {op ar : Nat → Nat} {len : Nat} {V : Nat → Int32} (hD : DFC w 4 op ar len) (hV : ∀ j, j < 12 → w 85 j = V j) : CI X (d + 3) 44 [.ref 84, .ref 65, .int (kI 0)] w (fun x u2 => x = (if fbF op ar len V then kI 1 else kI 0) ∧ ∀ c, c ≠ 86 → u2 c = w c) := by
  obtain ⟨l1, l2, l3, l4, l5, l6⟩ := hD
  have l3' : w 65 7 = 1 := l3
  have l4' : w 70 0 = nI 0 := l4
  have l5' : w 71 0 = nI len := l5
  refine CI.of rfl (t44_84_65_at0 (d := d + 1) w _ ?_)
  rw [l3', if_neg (z00 w), show (kI 0).toNatClampNeg = 0 from rfl, l4', l5']
  refine ⟨by decide, by decide, CI.mono (c_46_65 (d := d) (Nat.zero_le _) l1 l2 hV l6) ?_⟩
  intro x u2 hx
  obtain ⟨hx, hf⟩ := hx
  have hb := seg_bool (V := V) (Nat.zero_le _) (fun k hk => by obtain ⟨cd, hcd⟩ := l2 k hk; exact hcd.1) l6
  unfold fbF
  rcases hb with e | e
  · rw [hx, e, if_pos (show kI 0 = 0 from rfl)]; exact ⟨by rw [decide_eq_false (by decide)]; rfl, hf⟩
  · rw [hx, e, if_neg (by decide)]; exact ⟨by rw [decide_eq_true rfl]; rfl, hf⟩
theorem l_151_4 {X : Scr} {d R : Nat} {w : Wd} {op ar : Nat → Nat} {len : Nat} (hD : DFC w 4 op ar len) (hR : w 102 6 = nI R) (hR2 : R < 2 ^ 20) : ∀ (m r : Nat) (u : Wd), r + m = 20 → (∀ a, a ≠ 85 → a ≠ 86 → u a = w a) → EI X (d + 3) 151 (4, [some (.ref 0), some (.int (kI 4)), some (.int (nI (mkS (fuB R op ar len (w 103) (w 104) (w 105) (w 106)) r))), some (.int (nI r))], [], SH, u) (fun x u2 => x = nI (mkS (fuB R op ar len (w 103) (w 104) (w 105) (w 106)) 20) ∧ ∀ a, a ≠ 85 → a ≠ 86 → u2 a = w a) := by
  intro m
  induction m with
  | zero =>
    intro r u h hF
    have e : r = 20 := by omega
    subst e
    refine t151_0_c4_at4 u _ _ ?_
    rw [if_pos (by decide)]
    exact ⟨rfl, hF⟩
  | succ m ih =>
    intro r u h hF
    have hr : r < 20 := by omega
    refine t151_0_c4_at4 u _ _ ?_
    rw [if_neg (lt_20 r hr), hF 102 (by decide) (by decide), hR, k1, shl1_nI (by omega), or_nI]
    by_cases hb : R.testBit r = true
    · rw [if_neg (by rw [isin_z u (by omega) (by omega)]; exact fun x => x hb)]
      obtain ⟨t1, t2⟩ := tv_r (w := u) hr
      rw [hF 103 (by decide) (by decide), hF 104 (by decide) (by decide), hF 105 (by decide) (by decide), hF 106 (by decide) (by decide)] at t1
      refine CI.mono (c_44_65 (d := d) (hD.cg (by decide) (fun a h1 h2 => by rw [t2 a (by omega)]; exact hF a (by omega) (by omega))) t1) ?_
      intro x u1 hx
      obtain ⟨hx, hf⟩ := hx
      have hF1 : ∀ a, a ≠ 85 → a ≠ 86 → u1 a = w a := fun a h1 h2 => by rw [hf a h2, t2 a h1]; exact hF a h1 h2
      have g := ih (r + 1) u1 (by omega) hF1
      cases e : fbF op ar len (VRr (w 103) (w 104) (w 105) (w 106) r) with
      | true =>
        rw [e, if_pos rfl] at hx
        rw [mkS_t (by unfold fuB; rw [hb, e]; rfl)] at g
        rw [hx, if_neg (by decide)]
        exact g
      | false =>
        rw [e, if_neg (by decide)] at hx
        rw [mkS_f (by unfold fuB; rw [hb, e]; rfl)] at g
        rw [hx, if_pos (show kI 0 = 0 from rfl)]
        exact g
    · rw [if_pos (by rw [isin_z u (by omega) (by omega)]; exact hb)]
      have g := ih (r + 1) u (by omega) hF
      have hb2 : R.testBit r = false := by simpa using hb
      rw [mkS_f (by unfold fuB; rw [hb2]; rfl)] at g
      exact g
theorem c_44_72 {X : Scr} {d : Nat} {w : Wd} {op ar : Nat → Nat} {len : Nat} {V : Nat → Int32} (hD : DFC w 5 op ar len) (hV : ∀ j, j < 12 → w 85 j = V j) : CI X (d + 3) 44 [.ref 84, .ref 72, .int (kI 0)] w (fun x u2 => x = (if fbF op ar len V then kI 1 else kI 0) ∧ ∀ c, c ≠ 86 → u2 c = w c) := by
  obtain ⟨l1, l2, l3, l4, l5, l6⟩ := hD
  have l3' : w 72 7 = 1 := l3
  have l4' : w 77 0 = nI 0 := l4
  have l5' : w 78 0 = nI len := l5
  refine CI.of rfl (t44_84_72_at0 (d := d + 1) w _ ?_)
  rw [l3', if_neg (z00 w), show (kI 0).toNatClampNeg = 0 from rfl, l4', l5']
  refine ⟨by decide, by decide, CI.mono (c_46_72 (d := d) (Nat.zero_le _) l1 l2 hV l6) ?_⟩
  intro x u2 hx
  obtain ⟨hx, hf⟩ := hx
  have hb := seg_bool (V := V) (Nat.zero_le _) (fun k hk => by obtain ⟨cd, hcd⟩ := l2 k hk; exact hcd.1) l6
  unfold fbF
  rcases hb with e | e
  · rw [hx, e, if_pos (show kI 0 = 0 from rfl)]; exact ⟨by rw [decide_eq_false (by decide)]; rfl, hf⟩
  · rw [hx, e, if_neg (by decide)]; exact ⟨by rw [decide_eq_true rfl]; rfl, hf⟩
theorem l_151_5 {X : Scr} {d R : Nat} {w : Wd} {op ar : Nat → Nat} {len : Nat} (hD : DFC w 5 op ar len) (hR : w 102 6 = nI R) (hR2 : R < 2 ^ 20) : ∀ (m r : Nat) (u : Wd), r + m = 20 → (∀ a, a ≠ 85 → a ≠ 86 → u a = w a) → EI X (d + 3) 151 (4, [some (.ref 0), some (.int (kI 5)), some (.int (nI (mkS (fuB R op ar len (w 103) (w 104) (w 105) (w 106)) r))), some (.int (nI r))], [], SH, u) (fun x u2 => x = nI (mkS (fuB R op ar len (w 103) (w 104) (w 105) (w 106)) 20) ∧ ∀ a, a ≠ 85 → a ≠ 86 → u2 a = w a) := by
  intro m
  induction m with
  | zero =>
    intro r u h hF
    have e : r = 20 := by omega
    subst e
    refine t151_0_c5_at4 u _ _ ?_
    rw [if_pos (by decide)]
    exact ⟨rfl, hF⟩
  | succ m ih =>
    intro r u h hF
    have hr : r < 20 := by omega
    refine t151_0_c5_at4 u _ _ ?_
    rw [if_neg (lt_20 r hr), hF 102 (by decide) (by decide), hR, k1, shl1_nI (by omega), or_nI]
    by_cases hb : R.testBit r = true
    · rw [if_neg (by rw [isin_z u (by omega) (by omega)]; exact fun x => x hb)]
      obtain ⟨t1, t2⟩ := tv_r (w := u) hr
      rw [hF 103 (by decide) (by decide), hF 104 (by decide) (by decide), hF 105 (by decide) (by decide), hF 106 (by decide) (by decide)] at t1
      refine CI.mono (c_44_72 (d := d) (hD.cg (by decide) (fun a h1 h2 => by rw [t2 a (by omega)]; exact hF a (by omega) (by omega))) t1) ?_
      intro x u1 hx
      obtain ⟨hx, hf⟩ := hx
      have hF1 : ∀ a, a ≠ 85 → a ≠ 86 → u1 a = w a := fun a h1 h2 => by rw [hf a h2, t2 a h1]; exact hF a h1 h2
      have g := ih (r + 1) u1 (by omega) hF1
      cases e : fbF op ar len (VRr (w 103) (w 104) (w 105) (w 106) r) with
      | true =>
        rw [e, if_pos rfl] at hx
        rw [mkS_t (by unfold fuB; rw [hb, e]; rfl)] at g
        rw [hx, if_neg (by decide)]
        exact g
      | false =>
        rw [e, if_neg (by decide)] at hx
        rw [mkS_f (by unfold fuB; rw [hb, e]; rfl)] at g
        rw [hx, if_pos (show kI 0 = 0 from rfl)]
        exact g
    · rw [if_pos (by rw [isin_z u (by omega) (by omega)]; exact hb)]
      have g := ih (r + 1) u (by omega) hF
      have hb2 : R.testBit r = false := by simpa using hb
      rw [mkS_f (by unfold fuB; rw [hb2]; rfl)] at g
      exact g
theorem c_151 {X : Scr} {d k R : Nat} {w : Wd} {op ar : Nat → Nat} {len : Nat} (hk : k < 6) (hD : DFC w k op ar len) (hR : w 102 6 = nI R) (hR2 : R < 2 ^ 20) : CI X (d + 4) 151 [.ref 0, .int (nI k)] w (fun x u2 => x = nI (mkS (fuB R op ar len (w 103) (w 104) (w 105) (w 106)) 20) ∧ ∀ a, a ≠ 85 → a ≠ 86 → u2 a = w a) := by
  have : k = 0 ∨ k = 1 ∨ k = 2 ∨ k = 3 ∨ k = 4 ∨ k = 5 := by omega
  rcases this with rfl | rfl | rfl | rfl | rfl | rfl
  · exact CI.of rfl (t151_0_c0_at0 (d := d) w (l_151_0 hD hR hR2 20 0 w rfl (fun _ _ _ => rfl)))
  · exact CI.of rfl (t151_0_c1_at0 (d := d) w (l_151_1 hD hR hR2 20 0 w rfl (fun _ _ _ => rfl)))
  · exact CI.of rfl (t151_0_c2_at0 (d := d) w (l_151_2 hD hR hR2 20 0 w rfl (fun _ _ _ => rfl)))
  · exact CI.of rfl (t151_0_c3_at0 (d := d) w (l_151_3 hD hR hR2 20 0 w rfl (fun _ _ _ => rfl)))
  · exact CI.of rfl (t151_0_c4_at0 (d := d) w (l_151_4 hD hR hR2 20 0 w rfl (fun _ _ _ => rfl)))
  · exact CI.of rfl (t151_0_c5_at0 (d := d) w (l_151_5 hD hR hR2 20 0 w rfl (fun _ _ _ => rfl)))
/-! the reference -/
theorem ixM (d k : Nat) : ((kI 260) * nI d) + nI k = nI (260 * d + k) := by
  show (nI 260 * nI d) + nI k = _
  rw [pk_mul, nI_add]
/-- the codes of j places are changed -/
def SWP (w u : Wd) (d j : Nat) : Prop := (∀ k, u 124 k = if k < j then w 144 (260 * d + k) else w 124 k) ∧ (∀ k, k < j → u 146 k = w 124 k) ∧ ∀ a, a ≠ 124 → a ≠ 146 → u a = w a
theorem l_236a {X : Scr} {d dd len : Nat} {v2 : Int32} {w : Wd} {Q : Int32 → Wd → Prop} (hd : dd < 6) (hl : len ≤ 80) (h145 : w 145 dd = nI len) (kk : ∀ u, SWP w u dd len → EI X (d + 1) 236 (50, [some (.ref 110), some (.int (nI dd)), some (.int v2), some (.int (kI 0)), none], [], SH, u) Q) : ∀ (m j : Nat) (u : Wd), j + m = len → SWP w u dd j → EI X (d + 1) 236 (2, [some (.ref 110), some (.int (nI dd)), some (.int v2), some (.int (nI j)), none], [], SH, u) Q := by
  intro m
  induction m with
  | zero =>
    intro j u h hS
    have e : j = len := by omega
    subst e
    refine t236_110_at2 u _ _ _ ?_
    rw [nI_clamp (by omega), hS.2.2 145 (by decide) (by decide), h145, if_pos (nI_le (Nat.le_refl _) (by omega))]
    exact ⟨inB_nI hd (by decide), kk u hS⟩
  | succ m ih =>
    intro j u h hS
    refine t236_110_at2 u _ _ _ ?_
    rw [nI_clamp (by omega), hS.2.2 145 (by decide) (by decide), h145, if_neg (nI_ge (by omega) (by omega)), ixM, nI_clamp (by omega), nI_clamp (by omega), k1]
    refine ⟨inB_nI hd (by decide), inB_nI (by omega) (by decide), inB_nI (by omega) (by decide), inB_nI (by omega) (by decide), inB_nI (by omega) (by decide), ih (j + 1) _ (by omega) ⟨fun k => ?_, fun k hk => ?_, fun a h1 h2 => ?_⟩⟩
    · rw [up2_at, up2_ne (by decide)]
      by_cases e : k = j
      · rw [if_pos e, if_pos (by omega), hS.2.2 144 (by decide) (by decide), e]
      · rw [if_neg e, hS.1 k]
        by_cases e2 : k < j
        · rw [if_pos e2, if_pos (by omega)]
        · rw [if_neg e2, if_neg (by omega)]
    · rw [up2_ne (by decide), up2_at]
      by_cases e : k = j
      · rw [if_pos e, hS.1 j, if_neg (by omega), e]
      · rw [if_neg e]; exact hS.2.1 k (by omega)
    · rw [up2_ne h1, up2_ne h2]; exact hS.2.2 a h1 h2
theorem lz_236 {X : Scr} {d : Nat} {w : Wd} {v1 v2 : Int32} {Q : Int32 → Wd → Prop} (kk : EI X (d + 1) 236 (50, [some (.ref 110), some (.int v1), some (.int v2), some (.int (nI 12)), none], [], SH, fillW w 130 12 (kI 0)) Q) : ∀ (m n : Nat), n + m = 12 → EI X (d + 1) 236 (50, [some (.ref 110), some (.int v1), some (.int v2), some (.int (nI n)), none], [], SH, fillW w 130 n (kI 0)) Q := by
  intro m
  induction m with
  | zero =>
    intro n h
    have hn : n = 12 := by omega
    subst hn
    exact kk
  | succ m ih =>
    intro n h
    refine t236_110_at50 _ _ _ _ ?_
    rw [if_neg (lt_12 n (by omega)), k1, nI_clamp (by omega), fillW_up]
    exact ⟨inB_nI (by omega) (by decide), ih (n + 1) (by omega)⟩
/-- the codes of j places are back -/
def SWB (w u : Wd) (len j : Nat) : Prop := (∀ k, (k < j ∨ len ≤ k) → u 124 k = w 124 k) ∧ (∀ k, k < len → u 146 k = w 124 k) ∧ ∀ a, a ≠ 124 → a ≠ 129 → a ≠ 130 → a ≠ 146 → u a = w a
theorem l_236c {X : Scr} {d dd len : Nat} {v2 v3 : Int32} {w : Wd} {Q : Int32 → Wd → Prop} (hd : dd < 6) (hl : len ≤ 80) (h145 : w 145 dd = nI len) (h3 : v3 = 0 ∨ v3 = 1) (kk : ∀ u, (∀ a, a ≠ 129 → a ≠ 130 → a ≠ 146 → u a = w a) → Q v3 u) : ∀ (m j : Nat) (u : Wd), j + m = len → SWB w u len j → EI X (d + 1) 236 (152, [some (.ref 110), some (.int (nI dd)), some (.int v2), some (.int v3), some (.int (nI j))], [], SH, u) Q := by
  intro m
  induction m with
  | zero =>
    intro j u h hS
    have e : j = len := by omega
    subst e
    refine t236_110_at152 u _ _ _ _ ?_
    rw [nI_clamp (by omega), hS.2.2 145 (by decide) (by decide) (by decide) (by decide), h145, if_pos (nI_le (Nat.le_refl _) (by omega))]
    refine ⟨inB_nI hd (by decide), h3, kk u (fun a h1 h2 h4 => ?_)⟩
    by_cases e : a = 124
    · subst e
      funext k
      exact hS.1 k (by omega)
    · exact hS.2.2 a e h1 h2 h4
  | succ m ih =>
    intro j u h hS
    refine t236_110_at152 u _ _ _ _ ?_
    rw [nI_clamp (by omega), hS.2.2 145 (by decide) (by decide) (by decide) (by decide), h145, if_neg (nI_ge (by omega) (by omega)), nI_clamp (by omega), k1]
    refine ⟨inB_nI hd (by decide), inB_nI (by omega) (by decide), inB_nI (by omega) (by decide), ih (j + 1) _ (by omega) ⟨fun k hk => ?_, fun k hk => ?_, fun a h1 h2 h4 h5 => ?_⟩⟩
    · rw [up2_at]
      by_cases e : k = j
      · rw [if_pos e, hS.2.1 j (by omega), e]
      · rw [if_neg e]; exact hS.1 k (by omega)
    · rw [up2_ne (by decide)]; exact hS.2.1 k hk
    · rw [up2_ne h1]; exact hS.2.2 a h1 h2 h4 h5
theorem c_236 {X : Scr} {d dd r : Nat} {w : Wd} {op ar : Nat → Nat} {len : Nat} (hd : dd < 6) (hr : r < 20) (hD : DFR w dd op ar len) : CI X (d + 4) 236 [.ref 110, .int (nI dd), .int (nI r)] w (fun x u2 => x = (if fbF op ar len (VRr (w 140) (w 141) (w 142) (w 143) r) then kI 1 else kI 0) ∧ ∀ a, a ≠ 129 → a ≠ 130 → a ≠ 146 → u2 a = w a) := by
  obtain ⟨l1, l2, l3, l4⟩ := hD
  refine CI.of rfl (t236_110_at0 (d := d + 2) w _ _ ?_)
  refine l_236a (d := d + 2) hd l1 l3 ?_ len 0 w (Nat.zero_add _) ⟨fun k => by rw [if_neg (by omega)], fun k hk => by omega, fun _ _ _ => rfl⟩
  intro u hS
  have z := lz_236 (X := X) (d := d + 2) (w := u) (v1 := nI dd) (v2 := nI r) (Q := fun x u2 => x = (if fbF op ar len (VRr (w 140) (w 141) (w 142) (w 143) r) then kI 1 else kI 0) ∧ ∀ a, a ≠ 129 → a ≠ 130 → a ≠ 146 → u2 a = w a) ?_ 12 0 rfl
  · rw [fillW_0] at z
    exact z
  · refine t236_110_at50 _ _ _ _ ?_
    rw [if_pos (by decide), nI_clamp (by omega), nI_clamp (by omega)]
    have hib : inB (nI r) 20 = true := inB_nI hr (by decide)
    refine ⟨hib, hib, hib, hib, inB_nI hd (by decide), ?_⟩
    have e145 : fillW u 130 12 (kI 0) 145 dd = nI len := by rw [fill_ne (by decide), hS.2.2 145 (by decide) (by decide)]; exact l3
    rw [e145]
    have g := c_198 (X := X) (d := d + 1) (a := 0) (b := len) (op := op) (ar := ar) (isC := true) (V := VRr (w 140) (w 141) (w 142) (w 143) r) (w := (up2 (up2 (up2 (up2 (up2 (fillW u 130 12 (kI 0)) 130 (kI 0).toNatClampNeg ((fillW u 130 12 (kI 0)) 140 r)) 130 (kI 8).toNatClampNeg (nI r)) 130 (kI 9).toNatClampNeg ((fillW u 130 12 (kI 0)) 141 r)) 130 (kI 10).toNatClampNeg ((fillW u 130 12 (kI 0)) 142 r)) 130 (kI 11).toNatClampNeg ((fillW u 130 12 (kI 0)) 143 r))) (Nat.zero_le _) (by omega) ?_ ?_ l4
    · refine CI.mono g ?_
      intro x u2 hx
      obtain ⟨hx, hf⟩ := hx
      have fr : ∀ a, a ≠ 129 → a ≠ 130 → u2 a = u a := fun a h1 h2 => by rw [hf a h1, up2_ne h2, up2_ne h2, up2_ne h2, up2_ne h2, up2_ne h2, fill_ne h2]
      have SB : SWB w u2 len 0 := by
        refine ⟨fun k hk => ?_, fun k hk => ?_, fun a h1 h2 h4 h5 => ?_⟩
        · rw [fr 124 (by decide) (by decide), hS.1 k, if_neg (by omega)]
        · rw [fr 146 (by decide) (by decide)]; exact hS.2.1 k hk
        · rw [fr a h2 h4]; exact hS.2.2 a h1 h5
      have hb := seg_bool (V := VRr (w 140) (w 141) (w 142) (w 143) r) (Nat.zero_le _) (fun k hk => (l2 k hk).1) l4
      rcases hb with e | e
      · have e2 : fbF op ar len (VRr (w 140) (w 141) (w 142) (w 143) r) = false := by unfold fbF; rw [e]; exact decide_eq_false (by decide)
        rw [hx, e, if_neg (by decide)]
        exact l_236c (d := d + 2) hd l1 l3 (Or.inl rfl) (fun u3 h3 => ⟨by rw [e2]; rfl, h3⟩) len 0 u2 (Nat.zero_add _) SB
      · have e2 : fbF op ar len (VRr (w 140) (w 141) (w 142) (w 143) r) = true := by unfold fbF; rw [e]; exact decide_eq_true rfl
        rw [hx, e, if_pos rfl]
        exact l_236c (d := d + 2) hd l1 l3 (Or.inr rfl) (fun u3 h3 => ⟨by rw [e2]; rfl, h3⟩) len 0 u2 (Nat.zero_add _) SB
    · intro k hk
      have e : (up2 (up2 (up2 (up2 (up2 (fillW u 130 12 (kI 0)) 130 (kI 0).toNatClampNeg ((fillW u 130 12 (kI 0)) 140 r)) 130 (kI 8).toNatClampNeg (nI r)) 130 (kI 9).toNatClampNeg ((fillW u 130 12 (kI 0)) 141 r)) 130 (kI 10).toNatClampNeg ((fillW u 130 12 (kI 0)) 142 r)) 130 (kI 11).toNatClampNeg ((fillW u 130 12 (kI 0)) 143 r)) 124 k = w 144 (260 * dd + k) := by
        rw [up2_ne (by decide), up2_ne (by decide), up2_ne (by decide), up2_ne (by decide), up2_ne (by decide), fill_ne (by decide), hS.1 k, if_pos hk]
      rw [e]
      exact l2 k hk
    · intro j hj
      rw [fill_ne (by decide), fill_ne (by decide), fill_ne (by decide), fill_ne (by decide), hS.2.2 140 (by decide) (by decide), hS.2.2 141 (by decide) (by decide), hS.2.2 142 (by decide) (by decide), hS.2.2 143 (by decide) (by decide)]
      match j, hj with
      | 0, _ => rfl
      | 1, _ => rfl
      | 2, _ => rfl
      | 3, _ => rfl
      | 4, _ => rfl
      | 5, _ => rfl
      | 6, _ => rfl
      | 7, _ => rfl
      | 8, _ => rfl
      | 9, _ => rfl
      | 10, _ => rfl
      | 11, _ => rfl
      | n + 12, h => omega
theorem l_237 {X : Scr} {d dd R : Nat} {w : Wd} {op ar : Nat → Nat} {len : Nat} (hd : dd < 6) (hD : DFR w dd op ar len) (hR : w 110 56 = nI R) (hR2 : R < 2 ^ 20) : ∀ (m r : Nat) (u : Wd), r + m = 20 → (∀ a, a ≠ 129 → a ≠ 130 → a ≠ 146 → u a = w a) → EI X (d + 4) 237 (4, [some (.ref 110), some (.int (nI dd)), some (.int (nI (mkS (fuB R op ar len (w 140) (w 141) (w 142) (w 143)) r))), some (.int (nI r))], [], SH, u) (fun x u2 => x = nI (mkS (fuB R op ar len (w 140) (w 141) (w 142) (w 143)) 20) ∧ ∀ a, a ≠ 129 → a ≠ 130 → a ≠ 146 → u2 a = w a) := by
  intro m
  induction m with
  | zero =>
    intro r u h hF
    have e : r = 20 := by omega
    subst e
    refine t237_110_at4 (d := d + 3) u _ _ _ ?_
    rw [if_pos (by decide)]
    exact ⟨rfl, hF⟩
  | succ m ih =>
    intro r u h hF
    have hr : r < 20 := by omega
    refine t237_110_at4 (d := d + 3) u _ _ _ ?_
    rw [if_neg (lt_20 r hr), hF 110 (by decide) (by decide) (by decide), hR, k1, shl1_nI (by omega), or_nI]
    by_cases hb : R.testBit r = true
    · rw [if_neg (by rw [has_z u (by omega) (by omega)]; exact fun x => x hb)]
      have c := c_236 (X := X) (d := d) (w := u) hd hr (hD.cg (hF 144 (by decide) (by decide) (by decide)) (hF 145 (by decide) (by decide) (by decide)))
      rw [hF 140 (by decide) (by decide) (by decide), hF 141 (by decide) (by decide) (by decide), hF 142 (by decide) (by decide) (by decide), hF 143 (by decide) (by decide) (by decide)] at c
      refine CI.mono c ?_
      intro x u1 hx
      obtain ⟨hx, hf⟩ := hx
      have hF1 : ∀ a, a ≠ 129 → a ≠ 130 → a ≠ 146 → u1 a = w a := fun a h1 h2 h3 => by rw [hf a h1 h2 h3]; exact hF a h1 h2 h3
      have g := ih (r + 1) u1 (by omega) hF1
      cases e : fbF op ar len (VRr (w 140) (w 141) (w 142) (w 143) r) with
      | true =>
        rw [e, if_pos rfl] at hx
        rw [mkS_t (by unfold fuB; rw [hb, e]; rfl)] at g
        rw [hx, if_neg (by decide)]
        exact g
      | false =>
        rw [e, if_neg (by decide)] at hx
        rw [mkS_f (by unfold fuB; rw [hb, e]; rfl)] at g
        rw [hx, if_pos (show kI 0 = 0 from rfl)]
        exact g
    · rw [if_pos (by rw [has_z u (by omega) (by omega)]; exact hb)]
      have g := ih (r + 1) u (by omega) hF
      have hb2 : R.testBit r = false := by simpa using hb
      rw [mkS_f (by unfold fuB; rw [hb2]; rfl)] at g
      exact g
theorem c_237 {X : Scr} {d dd R : Nat} {w : Wd} {op ar : Nat → Nat} {len : Nat} (hd : dd < 6) (hD : DFR w dd op ar len) (hR : w 110 56 = nI R) (hR2 : R < 2 ^ 20) : CI X (d + 5) 237 [.ref 110, .int (nI dd)] w (fun x u2 => x = nI (mkS (fuB R op ar len (w 140) (w 141) (w 142) (w 143)) 20) ∧ ∀ a, a ≠ 129 → a ≠ 130 → a ≠ 146 → u2 a = w a) :=
  CI.of rfl (t237_110_at0 (d := d + 3) w _ (l_237 hd hD hR hR2 20 0 w rfl (fun _ _ _ _ => rfl)))
theorem mkS_cg {f g : Nat → Bool} : ∀ n, (∀ r, r < n → f r = g r) → mkS f n = mkS g n
  | 0, _ => rfl
  | n + 1, h => by
    show (if f n then mkS f n ||| 2 ^ n else mkS f n) = (if g n then mkS g n ||| 2 ^ n else mkS g n)
    rw [h n (by omega), mkS_cg n (fun r hr => h r (by omega))]
theorem fu_eq {w : Wd} {R : Nat} {op ar : Nat → Nat} {len : Nat} (h : IR w) : mkS (fuB R op ar len (w 140) (w 141) (w 142) (w 143)) 20 = mkS (fuB R op ar len (w 103) (w 104) (w 105) (w 106)) 20 := by
  refine mkS_cg 20 (fun r hr => ?_)
  obtain ⟨e1, e2, e3, e4, -⟩ := h.2.2 r hr
  unfold fuB VRr
  rw [e1, e2, e3, e4]
theorem IR.rec {w : Wd} (h : IR w) : ∃ R, R < 2 ^ 20 ∧ w 102 6 = nI R ∧ w 110 56 = nI R := by
  obtain ⟨r1, ⟨R, hR, eR⟩, -⟩ := h
  exact ⟨R, by omega, eR, by rw [r1]; exact eR⟩
theorem J_fallsUnder {X : Scr} {w : Wd} (h : II w) (p : Int32) : JJ X 137 239 [.int p] w := by
  obtain ⟨R, hR, e1, e2⟩ := h.2.2.2.2.2.2.rec
  obtain ⟨d1, ⟨T, hT, eT⟩, d3⟩ := h.2.2.2.2.2.1
  unfold JJ
  refine CI.of (d := 59) rfl (t137_0_at0 (d := 58) w p ?_)
  have t : ∀ (u : Wd) (Q : Int32 → Wd → Prop), _ → CI X 60 239 [.ref 110, .int p] u Q := fun u Q H => CI.of (d := 59) rfl (t239_110_at0 (d := 58) u p H)
  by_cases h1 : F_153 p (kI 0) (kI 5) w = 0
  · rw [if_pos h1]
    refine t w _ ?_
    rw [if_pos (show F_157 p (kI 0) (kI 5) w = 0 from h1)]
    exact ⟨rfl, h⟩
  rw [if_neg h1]
  by_cases h2 : F_154 (w 0 16) p w = 0
  · rw [if_pos h2]
    refine t w _ ?_
    rw [if_neg (show ¬ F_157 p (kI 0) (kI 5) w = 0 from h1), d1, if_pos (show F_161 (w 0 16) p w = 0 from h2)]
    exact ⟨rfl, h⟩
  rw [if_neg h2]
  obtain ⟨k, -, hk, rfl⟩ := within_z (a := 0) (b := 5) (by decide) (by decide) h1
  obtain ⟨op, ar, len, hC, hRf⟩ := def_of (d3 k (by omega) h2)
  refine CI.mono (c_151 (d := 55) (by omega) hC e1 hR) ?_
  intro x ua hx
  obtain ⟨hx, fr⟩ := hx
  refine t ua _ ?_
  rw [if_neg (show ¬ F_157 (nI k) (kI 0) (kI 5) ua = 0 from h1), fr 110 (by decide) (by decide), d1, if_neg (show ¬ F_161 (w 0 16) (nI k) ua = 0 from h2)]
  refine CI.mono (c_237 (d := 54) (R := R) (by omega) (hRf.cg (fr 144 (by decide) (by decide)) (fr 145 (by decide) (by decide))) (by rw [fr 110 (by decide) (by decide)]; exact e2) hR) ?_
  intro y ub hy
  obtain ⟨hy, fr2⟩ := hy
  rw [fr 140 (by decide) (by decide), fr 141 (by decide) (by decide), fr 142 (by decide) (by decide), fr 143 (by decide) (by decide), fu_eq h.2.2.2.2.2.2] at hy
  refine ⟨by rw [hy, hx], h.ss (SS.of [85, 86, 129, 130, 146] (fun a ha => ?_) (by decide))⟩
  simp only [List.mem_cons, List.not_mem_nil, or_false, not_or] at ha
  rw [fr2 a ha.2.2.1 ha.2.2.2.1 ha.2.2.2.2, fr a ha.1 ha.2.1]
end FALLS
