/-! table, part 4: the choice, the two calls -/
section TABLEJ
def TFo (f : Nat → Option Nat) : Prop := ∀ U v, f U = some v → v ≤ 350
def TFp (o : Option (Nat × Nat)) : Prop := ∀ p, o = some p → p.1 ≤ 350 ∧ p.2 < 4096
theorem clT_p {f : Nat → Option Nat} {U : Nat} {o : Option (Nat × Nat)} (hf : TFo f) (hU : U < 4096) (ho : TFp o) : TFp (clT f U o) := by
  intro p hp
  unfold clT at hp
  cases e : f U with
  | none => rw [e] at hp; exact ho p hp
  | some v =>
    rw [e] at hp
    dsimp only at hp
    cases o with
    | none => cases hp; exact ⟨hf U v e, hU⟩
    | some p0 =>
      dsimp only at hp
      split at hp
      · cases hp; exact ho _ rfl
      · cases hp; exact ⟨hf U v e, hU⟩
theorem clTF_p {f : Nat → Option Nat} (hf : TFo f) : ∀ (m U : Nat) (o : Option (Nat × Nat)), U + m ≤ 4096 → TFp o → TFp (clTF f m U o)
  | 0, _, _, _, ho => ho
  | m + 1, U, o, h, ho => clTF_p hf m (U + 1) _ (by omega) (clT_p hf (by omega) ho)
/-- the class's found, off and up -/
def KT (w u : Wd) (o : Option (Nat × Nat)) : Prop := (∀ p, o = some p → u 95 8 = nI p.1 ∧ u 95 9 = nI p.2) ∧ (∀ a, a ≠ 95 → a ≠ 97 → u a = w a) ∧ ∀ j, j ≠ 8 → j ≠ 9 → u 95 j = w 95 j
def fnd (o : Option (Nat × Nat)) : Int32 := match o with
  | none => kI 0
  | some _ => kI 1
theorem l_32 {X : Scr} {d b c q : Nat} {v2 v3 : Int32} {w : Wd} {ρ : Nat → Nat} (hb2 : b ≤ 50) (hc1 : 1 ≤ c) (hc : c ≤ 3) (hq : q ≤ 4) (hρ : ∀ y, ρ y < b) (hW : W34 w ρ c q) : ∀ (m U : Nat) (u : Wd) (o : Option (Nat × Nat)), U + m = 2 ^ (c * q) → TFp o → KT w u o → EI X (d + 3) 32 (39, [some (.ref 95), some (.ref 7), some (.int v2), some (.int v3), some (.int (nI b)), some (.int (fnd o)), some (.int (nI U)), none], [], SH, u) (fun x u2 => x = fnd (clTF (fun U => if badU ρ (c * q) U then none else ofZ (byZ b ρ U) b q c) m U o) ∧ KT w u2 (clTF (fun U => if badU ρ (c * q) U then none else ofZ (byZ b ρ U) b q c) m U o)) := by
  intro m
  have hcq : c * q ≤ 3 * 4 := Nat.mul_le_mul hc hq
  have hpow : 2 ^ (c * q) ≤ 2 ^ 12 := Nat.pow_le_pow_right (by decide) (by omega)
  have hfo : TFo (fun U => if badU ρ (c * q) U then none else ofZ (byZ b ρ U) b q c) := by
    intro U v hv
    dsimp only at hv
    split at hv
    · cases hv
    · exact ofZ_le hb2 hq hc hv
  have f01 : ∀ o : Option (Nat × Nat), fnd o = 0 ∨ fnd o = 1 := by
    intro o
    cases o with
    | none => exact Or.inl rfl
    | some p => exact Or.inr rfl
  induction m with
  | zero =>
    intro U u o h ho hK
    refine t32_95_7_at39 (d := d + 2) u _ _ _ _ _ ?_
    rw [hK.2.2 6 (by decide) (by decide), hW.1, shl1_nI (by omega), if_pos (nI_le (by omega) (by omega))]
    exact ⟨f01 o, rfl, hK⟩
  | succ m ih =>
    intro U u o h ho hK
    refine t32_95_7_at39 (d := d + 2) u _ _ _ _ _ ?_
    rw [hK.2.2 6 (by decide) (by decide), hW.1, shl1_nI (by omega), if_neg (nI_ge (by omega) (by omega)), k1]
    have hWu : W34 u ρ c q := by
      unfold W34
      rw [hK.2.2 6 (by decide) (by decide), hK.2.2 7 (by decide) (by decide), hK.2.1 96 (by decide) (by decide)]
      exact hW
    refine CI.mono (c_34 (d := d) hb2 hc1 hc hq (by omega) hρ hWu) ?_
    intro x u1 hx
    obtain ⟨hx, hF⟩ := hx
    have hK1 : KT w u1 o := ⟨fun p hp => by rw [hF 95 (by decide)]; exact hK.1 p hp, fun a h1 h2 => by rw [hF a h2]; exact hK.2.1 a h1 h2, fun j h1 h2 => by rw [hF 95 (by decide)]; exact hK.2.2 j h1 h2⟩
    have put : ∀ v : Nat, KT w (up2 (up2 u1 95 8 (nI v)) 95 9 (nI U)) (some (v, U)) := by
      intro v
      refine ⟨fun p hp => ?_, fun a h1 h2 => ?_, fun j h1 h2 => ?_⟩
      · cases hp
        exact ⟨by rw [up2_at, if_neg (by decide), up2_at, if_pos rfl], by rw [up2_at, if_pos rfl]⟩
      · rw [up2_ne h1, up2_ne h1]; exact hK1.2.1 a h1 h2
      · rw [up2_at, if_neg h2, up2_at, if_neg h1]; exact hK1.2.2 j h1 h2
    unfold clTF
    have hp2 := clT_p hfo (show U < 4096 by omega) ho
    unfold clT at hp2 ⊢
    dsimp only at hp2 ⊢
    cases e : (if badU ρ (c * q) U then none else ofZ (byZ b ρ U) b q c) with
    | none =>
      rw [e] at hx hp2
      rw [hx, if_pos (show enO none < 0 by decide)]
      exact ih (U + 1) u1 o (by omega) ho hK1
    | some v =>
      rw [e] at hx hp2
      have hv : v ≤ 350 := hfo U v e
      rw [hx, if_neg (show ¬ enO (some v) < 0 from nI_pos (by omega)), show enO (some v) = nI v from rfl]
      dsimp only at hp2 ⊢
      cases o with
      | none =>
        rw [if_pos (show fnd none = 0 from rfl)]
        exact ih (U + 1) _ (some (v, U)) (by omega) hp2 (put v)
      | some p =>
        have hp := (ho p rfl).1
        rw [if_neg (show ¬ fnd (some p) = 0 from (by decide : ¬ kI 1 = 0)), (hK1.1 p rfl).1]
        dsimp only at hp2 ⊢
        by_cases hl : p.1 ≤ v
        · rw [if_pos (nI_le hl (by omega)), if_pos hl]
          exact ih (U + 1) u1 (some p) (by omega) ho hK1
        · rw [if_neg (nI_ge (by omega) (by omega)), if_neg hl]
          rw [if_neg hl] at hp2
          exact ih (U + 1) _ (some (v, U)) (by omega) hp2 (put v)
def bst (o : Option (Nat × Nat)) : Int32 := match o with
  | none => kI (-2)
  | some p => nI p.2
def lst (o : Option (Nat × Nat)) : Int32 := match o with
  | none => kI 100000000
  | some p => nI p.1
theorem l_231 {X : Scr} {d b c q : Nat} {v1 v2 v4 : Int32} {w : Wd} {v : Nat → Nat} {Q : Int32 → Wd → Prop} (hb1 : 2 ≤ b) (hb2 : b ≤ 50) (hc : c ≤ 3) (hq : q ≤ 4) (hv : ∀ y, y < c * q → v y ≤ 9999) (hW : W23 w q c v (c * q)) : ∀ (m U : Nat) (o : Option (Nat × Nat)), U + m = 2 ^ (c * q) → TFp o → (Q (match clTF (fun U => ofZ (byZ b (fun y => v y % b) U) b q c) m U o with
    | none => kI (-2)
    | some p => if v4 = kI 1 then nI p.2 else nI p.1) w) → EI X (d + 3) 231 (88, [some (.ref 110), some (.int v1), some (.int v2), some (.int (nI b)), some (.int v4), some (.int (bst o)), some (.int (lst o)), some (.int (nI U)), none], [], SH, w) Q := by
  intro m
  have hcq : c * q ≤ 3 * 4 := Nat.mul_le_mul hc hq
  have hpow : 2 ^ (c * q) ≤ 2 ^ 12 := Nat.pow_le_pow_right (by decide) (by omega)
  have hfo : TFo (fun U => ofZ (byZ b (fun y => v y % b) U) b q c) := fun U v hv => ofZ_le hb2 hq hc hv
  have hsh : (kI 1) <<< (((w 110 46) * (w 110 47)) &&& 31) = nI (2 ^ (c * q)) := by
    rw [hW.1, hW.2.1, pk_mul, Nat.mul_comm q c, shl1_nI (by omega)]
  induction m with
  | zero =>
    intro U o h ho hQ
    refine t231_110_at88 (d := d + 1) w _ _ _ _ _ _ _ ?_
    rw [hsh, if_pos (nI_le (by omega) (by omega))]
    cases o with
    | none =>
      have hQ2 : Q (kI (-2)) w := hQ
      by_cases h4 : v4 = kI 1
      · rw [if_pos h4]; exact hQ2
      · rw [if_neg h4, if_pos (show bst none = kI (-2) from rfl)]; exact hQ2
    | some p =>
      have hp := (ho p rfl).2
      have hQ2 : Q (if v4 = kI 1 then nI p.2 else nI p.1) w := hQ
      by_cases h4 : v4 = kI 1
      · rw [if_pos h4]
        rw [if_pos h4] at hQ2
        exact hQ2
      · rw [if_neg h4, if_neg (show ¬ bst (some p) = kI (-2) from enN_ne p.2 (by omega))]
        rw [if_neg h4] at hQ2
        exact hQ2
  | succ m ih =>
    intro U o h ho hQ
    refine t231_110_at88 (d := d + 1) w _ _ _ _ _ _ _ ?_
    rw [hsh, if_neg (nI_ge (by omega) (by omega)), k1]
    refine CI.mono (c_230 (d := d) hb1 hb2 hc hq (by omega) hv hW) ?_
    intro x w1 hx
    obtain ⟨hx, hu⟩ := hx
    have hu2 := hu.symm
    subst hu2
    unfold clTF at hQ
    have hp2 := clT_p hfo (show U < 4096 by omega) ho
    unfold clT at hp2 hQ
    dsimp only at hp2 hQ
    cases e : ofZ (byZ b (fun y => v y % b) U) b q c with
    | none =>
      rw [e] at hx hp2 hQ
      rw [hx, if_pos (show enO none = kI (-1) from rfl)]
      exact ih (U + 1) o (by omega) ho hQ
    | some z =>
      rw [e] at hx hp2 hQ
      have hz : z ≤ 350 := hfo U z e
      rw [hx, if_neg (show ¬ enO (some z) = kI (-1) from nI_m1 (by omega)), show enO (some z) = nI z from rfl]
      dsimp only at hp2 hQ
      cases o with
      | none =>
        rw [if_pos (show nI z < lst none from nI_lt (b := 100000000) (by omega) (by decide))]
        exact ih (U + 1) (some (z, U)) (by omega) hp2 hQ
      | some p =>
        have hp := (ho p rfl).1
        dsimp only at hp2 hQ
        by_cases hl : p.1 ≤ z
        · rw [if_neg (show ¬ nI z < lst (some p) from nI_nlt hl (by omega))]
          rw [if_pos hl] at hQ
          exact ih (U + 1) (some p) (by omega) ho hQ
        · rw [if_pos (show nI z < lst (some p) from nI_lt (by omega) (by omega))]
          rw [if_neg hl] at hQ hp2
          exact ih (U + 1) (some (z, U)) (by omega) hp2 hQ
theorem sub_lt64 {x : Int32} {T : Nat} (hT : T < 64) (h : x &&& (nI T ^^^ kI (-1)) = 0) : ∃ n, n < 64 ∧ x = nI n := by
  have hx := nI_any x
  have hlt : x.toBitVec.toNat < 2 ^ 32 := x.toBitVec.isLt
  refine ⟨x.toBitVec.toNat, ?_, hx⟩
  generalize x.toBitVec.toNat = n at hx hlt
  rw [hx, andn_nI n T hlt] at h
  have hz : n &&& (T ^^^ 4294967295) = 0 := by
    have h1 : n &&& (T ^^^ 4294967295) < 2 ^ 32 := Nat.lt_of_le_of_lt Nat.and_le_left hlt
    have h2 := congrArg (fun y : Int32 => y.toBitVec.toNat) h
    have h3 : (nI (n &&& (T ^^^ 4294967295))).toBitVec.toNat = n &&& (T ^^^ 4294967295) := pk_tn h1
    rw [h3] at h2
    exact h2
  have he : n &&& T = n := by
    apply Nat.eq_of_testBit_eq
    intro i
    rw [Nat.testBit_and]
    have h4 := tb_andn (a := n) (b := T) (i := i) hlt
    rw [hz, Nat.zero_testBit] at h4
    cases e1 : n.testBit i with
    | false => rfl
    | true =>
      rw [e1, Bool.true_and] at h4
      cases e2 : T.testBit i with
      | true => rfl
      | false => rw [e2] at h4; cases h4
  have : n &&& T ≤ T := Nat.and_le_right
  omega
theorem f155 {x : Int32} {T m : Nat} {w : Wd} (hT : T < 64) (hm : m ≤ 4) : ¬ F_155 x (nI T) (nI m) w = 0 ↔ ∃ n, n < 64 ∧ x = nI n ∧ 1 ≤ n ∧ nI n &&& (nI T ^^^ kI (-1)) = 0 ∧ bcN n ≤ m := by
  unfold F_155
  constructor
  · intro h
    by_cases h1 : x = 0
    · rw [if_pos h1] at h; exact absurd rfl h
    · rw [if_neg h1] at h
      by_cases h2 : x &&& (nI T ^^^ kI (-1)) = 0
      · rw [if_pos h2] at h
        obtain ⟨n, hn, rfl⟩ := sub_lt64 hT h2
        have b1 := bcN_le n
        rw [bc259 w n hn] at h
        by_cases h3 : nI m < nI (bcN n)
        · rw [if_pos h3] at h; exact absurd rfl h
        · rw [nI_ltI (by omega) (by omega)] at h3
          refine ⟨n, hn, rfl, ?_, h2, by omega⟩
          have : n ≠ 0 := fun e => h1 (by rw [e]; rfl)
          omega
      · rw [if_neg h2] at h; exact absurd rfl h
  · rintro ⟨n, hn, rfl, h1, h2, h3⟩
    rw [if_neg (nI_ne0 (by omega) (by omega)), if_pos h2, bc259 w n hn, if_neg (nI_nlt h3 (by omega))]
    decide
theorem J_table {X : Scr} {w : Wd} (h : II w) (p q r s : Int32) : JJ X 132 231 [.int p, .int q, .int r, .int s] w := by
  have h0 := h
  obtain ⟨hO, hB, hK, hT, hL, hD, hR⟩ := h
  obtain ⟨o1, o2, o3, ⟨TC, hTC, eTC⟩, ⟨TG, hTG, eTG⟩, o6, o7⟩ := hO
  unfold JJ
  refine CI.of (d := 59) rfl (t132_0_at0 (d := 57) w p q r s ?_)
  have t : ∀ (u : Wd) (Q : Int32 → Wd → Prop), _ → CI X 60 231 [.ref 110, .int p, .int q, .int r, .int s] u Q := fun u Q H => CI.of (d := 59) rfl (t231_110_at0 (d := 57) u p q r s H)
  rw [eTC, eTG]
  have fail : (F_155 p (nI TC) (kI 4) w = 0 ∨ F_155 q (nI TG) (kI 3) w = 0 ∨ F_153 r (kI 2) (kI 50) w = 0 ∨ F_153 s (kI 0) (kI 1) w = 0) → CI X 60 231 [.ref 110, .int p, .int q, .int r, .int s] w (fun y u3 => y = kI (-1) ∧ II u3) := by
    intro hf
    refine t w _ ?_
    rw [o1, o2, eTC, eTG]
    by_cases r1 : p < kI 1
    · rw [if_pos r1]; exact ⟨rfl, h0⟩
    rw [if_neg r1]
    by_cases r2 : q < kI 1
    · rw [if_pos r2]; exact ⟨rfl, h0⟩
    rw [if_neg r2]
    by_cases r3 : p &&& (nI TC ^^^ kI (-1)) = 0
    · rw [if_pos r3]
      by_cases r4 : q &&& (nI TG ^^^ kI (-1)) = 0
      · rw [if_pos r4]
        obtain ⟨C, hC, eC⟩ := sub_lt64 (by omega) r3
        obtain ⟨G, hG, eG⟩ := sub_lt64 (by omega) r4
        subst eC
        subst eG
        have b1 := bcN_le C
        have b2 := bcN_le G
        rw [bc162 w C hC, bc162 w G hG]
        by_cases r5 : kI 4 < nI (bcN C)
        · rw [if_pos r5]; exact ⟨rfl, h0⟩
        rw [if_neg r5]
        by_cases r6 : kI 3 < nI (bcN G)
        · rw [if_pos r6]; exact ⟨rfl, h0⟩
        rw [if_neg r6]
        by_cases r7 : F_157 r (kI 2) (kI 50) w = 0
        · rw [if_pos r7]; exact ⟨rfl, h0⟩
        rw [if_neg r7]
        by_cases r8 : F_157 s (kI 0) (kI 1) w = 0
        · rw [if_pos r8]; exact ⟨rfl, h0⟩
        exfalso
        have r5b : ¬ 4 < bcN C := fun e => r5 (nI_lt (a := 4) e (by omega))
        have r6b : ¬ 3 < bcN G := fun e => r6 (nI_lt (a := 3) e (by omega))
        have r1b : 1 ≤ C := Nat.pos_of_ne_zero (fun e => r1 (by rw [e]; decide))
        have r2b : 1 ≤ G := Nat.pos_of_ne_zero (fun e => r2 (by rw [e]; decide))
        rcases hf with e | e | e | e
        · exact (f155 (m := 4) (w := w) (by omega) (by decide)).mpr ⟨C, hC, rfl, r1b, r3, by omega⟩ e
        · exact (f155 (m := 3) (w := w) (by omega) (by decide)).mpr ⟨G, hG, rfl, r2b, r4, by omega⟩ e
        · exact r7 e
        · exact r8 e
      · rw [if_neg r4]; exact ⟨rfl, h0⟩
    · rw [if_neg r3]; exact ⟨rfl, h0⟩
  by_cases c1 : F_155 p (nI TC) (kI 4) w = 0
  · rw [if_pos c1]; exact fail (Or.inl c1)
  rw [if_neg c1]
  by_cases c2 : F_155 q (nI TG) (kI 3) w = 0
  · rw [if_pos c2]; exact fail (Or.inr (Or.inl c2))
  rw [if_neg c2]
  by_cases c3 : F_153 r (kI 2) (kI 50) w = 0
  · rw [if_pos c3]; exact fail (Or.inr (Or.inr (Or.inl c3)))
  rw [if_neg c3]
  by_cases c4 : F_153 s (kI 0) (kI 1) w = 0
  · rw [if_pos c4]; exact fail (Or.inr (Or.inr (Or.inr c4)))
  rw [if_neg c4]
  obtain ⟨C, hC, rfl, C1, Cs, Cb⟩ := (f155 (m := 4) (w := w) (by omega) (by decide)).mp c1
  obtain ⟨G, hG, rfl, G1, Gs, Gb⟩ := (f155 (m := 3) (w := w) (by omega) (by decide)).mp c2
  obtain ⟨b, hb1, hb2, rfl⟩ := within_z (a := 2) (b := 50) (by decide) (by decide) c3
  have eq6 := cnS_6 C hC
  have ec6 := cnS_6 G hG
  have ec1 : 1 ≤ cnS G 6 := by rw [ec6]; exact (by decide +kernel : ∀ n, n < 64 → 1 ≤ n → 1 ≤ bcN n) G hG G1
  have hc3 : cnS G 6 ≤ 3 := by omega
  have hq4 : cnS C 6 ≤ 4 := by omega
  have hcq : cnS G 6 * cnS C 6 ≤ 3 * 4 := Nat.mul_le_mul hc3 hq4
  obtain ⟨x, hx⟩ := CT.nums (n := w 111) hB.2.1
  have hx8 : ∀ i, i < 36 → w 8 i = nI (x i) ∧ x i ≤ 9999 := fun i hi => by rw [hB.1.1 i hi]; exact hx i hi
  refine CI.of (d := 58) rfl (t32_95_7_at0 (d := 57) w _ _ _ ?_)
  rw [if_neg (show ¬ nI b < kI 1 from nI_nlt (b := 1) (by omega) (by omega)), bc259 w G hG, ← ec6, if_pos (show kI 1 ≤ nI (cnS G 6) from nI_le (a := 1) ec1 (by omega))]
  have g33 := l_33 (X := X) (d := 55) (C := C) (G := G) (b := b) (c := cnS G 6) (w := up2 w 95 7 (nI (cnS G 6))) (x := x) hC hG hb1 hb2 rfl (by omega) (fun i hi => by rw [up2_ne (by decide)]; exact hx8 i hi) 6 0 (up2 (up2 w 95 7 (nI (cnS G 6))) 95 6 (kI 0)) rfl ⟨by rw [up2_at, if_pos rfl]; rfl, fun y hy => by (have h1 : y < cnS G 6 * 0 := hy); rw [Nat.mul_zero] at h1; omega, fun a h1 h2 => up2_ne h1, fun j hj => by rw [up2_at, if_neg hj]⟩
  refine CU.mono (CU.of (d := 57) rfl (t33_95_7_at0 (d := 55) (up2 w 95 7 (nI (cnS G 6))) _ _ _ g33)) ?_
  intro ua hA
  obtain ⟨a1, a2, a3, a4⟩ := hA
  have hWa : W34 ua (fun y => cvF C G (cnS G 6) x y % b) (cnS G 6) (cnS C 6) := ⟨a1, by rw [a4 7 (by decide), up2_at, if_pos rfl], a2⟩
  have hρ : ∀ y, (fun y => cvF C G (cnS G 6) x y % b) y < b := fun y => Nat.mod_lt _ (by omega)
  refine EI.mono (l_32 (d := 55) (w := ua) hb2 ec1 hc3 hq4 hρ hWa (2 ^ (cnS G 6 * cnS C 6)) 0 ua none (Nat.zero_add _) (fun p hp => by cases hp) ⟨fun p hp => (by cases hp), fun _ _ _ => rfl, fun _ _ _ => rfl⟩) ?_
  intro x1 ub hx1
  obtain ⟨hx1, hKb⟩ := hx1
  have fr : ∀ a, a ≠ 95 → a ≠ 96 → a ≠ 97 → ub a = w a := fun a h1 h2 h3 => by rw [hKb.2.1 a h1 h3, a3 a h1 h2, up2_ne h1]
  have fz : ∀ a, 110 ≤ a → ub a = w a := fun a ha => fr a (by omega) (by omega) (by omega)
  have eqF := clTF_eq (f := fun U => ofZ (byZ b (fun y => cvF C G (cnS G 6) x y % b) U) b (cnS C 6) (cnS G 6)) (g := fun U => if badU (fun y => cvF C G (cnS G 6) x y % b) (cnS G 6 * cnS C 6) U then none else ofZ (byZ b (fun y => cvF C G (cnS G 6) x y % b) U) b (cnS C 6) (cnS G 6)) (fun U => by
    cases hbad : badU (fun y => cvF C G (cnS G 6) x y % b) (cnS G 6 * cnS C 6) U with
    | false => exact Or.inl rfl
    | true =>
      obtain ⟨z, hz, hzb, hz0⟩ := bad_iff.mp hbad
      exact Or.inr ⟨rfl, _, clr_lt hzb, by rw [byZ_x (ρ := fun y => cvF C G (cnS G 6) x y % b) (y := z) hz0]⟩) (2 ^ (cnS G 6 * cnS C 6)) 0 none (fun V v hV => by omega)
  rw [eqF] at hx1 hKb
  have fin : ∀ z : Int32, z = (match clTF (fun U => ofZ (byZ b (fun y => cvF C G (cnS G 6) x y % b) U) b (cnS C 6) (cnS G 6)) (2 ^ (cnS G 6 * cnS C 6)) 0 none with
      | none => kI (-2)
      | some p => if s = kI 1 then nI p.2 else nI p.1) → CI X 60 231 [.ref 110, .int (nI C), .int (nI G), .int (nI b), .int s] ub (fun y u3 => y = z ∧ II u3) := by
    intro z hz
    refine t ub _ ?_
    rw [fz 110 (by decide), o1, o2, eTC, eTG, if_neg (show ¬ nI C < kI 1 from nI_nlt (b := 1) (by omega) (by omega)), if_neg (show ¬ nI G < kI 1 from nI_nlt (b := 1) (by omega) (by omega)), if_pos Cs, if_pos Gs, bc162 ub C hC, bc162 ub G hG, if_neg (show ¬ kI 4 < nI (bcN C) from nI_nlt (a := 4) Cb (by decide)), if_neg (show ¬ kI 3 < nI (bcN G) from nI_nlt (a := 3) Gb (by decide)), if_neg (show ¬ F_157 (nI b) (kI 2) (kI 50) ub = 0 from c3), if_neg (show ¬ F_157 s (kI 0) (kI 1) ub = 0 from c4)]
    refine CU.mono (c_228 (d := 57) (x := x) hC hG hq4 hc3 (fun i hi => by rw [fz 111 (by decide)]; exact hx i hi)) ?_
    intro uc hU
    obtain ⟨hF4, hW2⟩ := hU
    have hII : II uc := h0.ss ⟨fun a ha => (hF4.1 a (fun e => by rw [e] at ha; cases ha) (fun e => by rw [e] at ha; cases ha) (fun e => by rw [e] at ha; cases ha) (fun e => by rw [e] at ha; cases ha)).trans (fr a (fun e => by rw [e] at ha; cases ha) (fun e => by rw [e] at ha; cases ha) (fun e => by rw [e] at ha; cases ha)),
      by rw [hF4.1 0 (by decide) (by decide) (by decide) (by decide), fr 0 (by decide) (by decide) (by decide)], by rw [hF4.1 0 (by decide) (by decide) (by decide) (by decide), fr 0 (by decide) (by decide) (by decide)], by rw [hF4.1 1 (by decide) (by decide) (by decide) (by decide), fr 1 (by decide) (by decide) (by decide)], by rw [hF4.1 102 (by decide) (by decide) (by decide) (by decide), fr 102 (by decide) (by decide) (by decide)],
      by rw [hF4.2 6 (by decide) (by decide), fz 110 (by decide)], by rw [hF4.2 7 (by decide) (by decide), fz 110 (by decide)], by rw [hF4.2 8 (by decide) (by decide), fz 110 (by decide)], by rw [hF4.2 10 (by decide) (by decide), fz 110 (by decide)], by rw [hF4.2 19 (by decide) (by decide), fz 110 (by decide)], by rw [hF4.2 56 (by decide) (by decide), fz 110 (by decide)], by rw [hF4.2 57 (by decide) (by decide), fz 110 (by decide)], by rw [hF4.2 64 (by decide) (by decide), fz 110 (by decide)]⟩
    have hvle : ∀ y, y < cnS G 6 * cnS C 6 → cvF C G (cnS G 6) x y ≤ 9999 := fun y _ => (hx _ (by
      have k6 := kS_lt (S := C) (i := y / cnS G 6) 6 (by decide)
      have k7 := kS_lt (S := G) (i := y % cnS G 6) 6 (by decide)
      omega)).2
    exact l_231 (d := 56) (v := cvF C G (cnS G 6) x) hb1 hb2 hc3 hq4 hvle hW2 (2 ^ (cnS G 6 * cnS C 6)) 0 none (Nat.zero_add _) (fun p hp => by cases hp) ⟨hz.symm, hII⟩
  obtain ⟨k, -, hk, rfl⟩ := within_z (a := 0) (b := 1) (by decide) (by decide) c4
  rw [hx1]
  generalize clTF (fun U => ofZ (byZ b (fun y => cvF C G (cnS G 6) x y % b) U) b (cnS C 6) (cnS G 6)) (2 ^ (cnS G 6 * cnS C 6)) 0 none = o at fin hKb hx1
  cases o with
  | none =>
    rw [if_pos (show fnd none = 0 from rfl)]
    exact fin _ rfl
  | some pp =>
    rw [if_neg (show ¬ fnd (some pp) = 0 from (by decide : ¬ kI 1 = 0)), (hKb.1 pp rfl).1, (hKb.1 pp rfl).2]
    by_cases k0 : k = 0
    · subst k0
      rw [if_pos (show nI 0 = 0 from rfl)]
      exact fin _ (by dsimp only; rw [if_neg (show ¬ nI 0 = kI 1 by decide)])
    · have k1 : k = 1 := by omega
      subst k1
      rw [if_neg (show ¬ nI 1 = 0 by decide)]
      exact fin _ (by dsimp only; rw [if_pos (show nI 1 = kI 1 from rfl)])
end TABLEJ
