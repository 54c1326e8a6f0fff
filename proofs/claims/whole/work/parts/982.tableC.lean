/-! table, part 2: the class -/
section TABLEC
def L33 (w u : Wd) (ρ : Nat → Nat) (n : Nat) : Prop := u 95 6 = nI n ∧ (∀ y, y < n → u 96 y = nI (ρ y)) ∧ (∀ a, a ≠ 95 → a ≠ 96 → u a = w a) ∧ ∀ j, j ≠ 6 → u 95 j = w 95 j
theorem cn_up {C k c : Nat} (h : C.testBit k = true) : c * cnS C (k + 1) = c * cnS C k + c := by
  show c * (cnS C k + (C.testBit k).toNat) = _
  rw [h]
  exact Nat.mul_succ _ _
theorem l_33f {X : Scr} {d C G b c k : Nat} {w : Wd} {x : Nat → Nat} {Q : Wd → Prop} (hC : C < 64) (hG : G < 64) (hb1 : 2 ≤ b) (hb2 : b ≤ 50) (hc : cnS G 6 = c) (hn : c * cnS C 6 ≤ 12) (hk : k < 6) (hx : ∀ i, i < 36 → w 8 i = nI (x i) ∧ x i ≤ 9999) (hCk : C.testBit k = true) (kk : ∀ u : Wd, L33 w u (fun y => cvF C G c x y % b) (c * cnS C (k + 1)) → EU X (d + 2) 33 (8, [some (.ref 95), some (.ref 7), some (.int (nI C)), some (.int (nI G)), some (.int (nI b)), some (.int (nI (k + 1))), none], [], SH, u) Q) : ∀ (m f : Nat) (u : Wd), f + m = 6 → L33 w u (fun y => cvF C G c x y % b) (c * cnS C k + cnS G f) → EU X (d + 2) 33 (18, [some (.ref 95), some (.ref 7), some (.int (nI C)), some (.int (nI G)), some (.int (nI b)), some (.int (nI k)), some (.int (nI f))], [], SH, u) Q := by
  intro m
  have hmul : c * (cnS C k + 1) ≤ c * cnS C 6 := Nat.mul_le_mul_left c (cnS_lt hk hCk)
  have hms : c * (cnS C k + 1) = c * cnS C k + c := Nat.mul_succ _ _
  induction m with
  | zero =>
    intro f u h hL
    have e : f = 6 := by omega
    subst e
    refine t33_95_7_at18 u _ _ _ _ _ ?_
    rw [if_pos (by decide), k1]
    refine kk u ?_
    rw [cn_up hCk, ← hc]
    rw [← hc] at hL
    exact hL
  | succ m ih =>
    intro f u h hL
    have hf : f < 6 := by omega
    have e : cnS G (f + 1) = cnS G f + (G.testBit f).toNat := rfl
    refine t33_95_7_at18 u _ _ _ _ _ ?_
    rw [if_neg (lt_6 f hf), if_neg (by rw [isin_z u (by omega) (by omega)]; exact fun z => z hCk), k1]
    by_cases hg : G.testBit f = true
    · have hlt := cnS_lt (S := G) hf hg
      obtain ⟨l1, l2, l3, l4⟩ := hL
      obtain ⟨x1, x2⟩ := hx (6 * k + f) (by omega)
      rw [if_neg (by rw [isin_z u (by omega) (by omega)]; exact fun z => z hg), l1, if_neg (lt_12 _ (by omega)), if_neg (nI_nle (by omega) (by omega)), nI_clamp (by omega), countOf7 hk hf, l3 8 (by decide) (by decide), x1, pk_rem (by omega) (by omega) (by omega), k1]
      refine ⟨nI_ne0 (by omega) (by omega), inB_nI (by omega) (by decide), ih (f + 1) _ (by omega) ⟨?_, fun y hy => ?_, fun a h1 h2 => ?_, fun j hj => ?_⟩⟩
      · rw [up2_at, if_pos rfl, e, hg]; rfl
      · rw [up2_ne (by decide), up2_at]
        rw [e, hg] at hy
        by_cases ey : y = c * cnS C k + cnS G f
        · rw [if_pos ey, ey]
          show _ = nI (cvF C G c x (c * cnS C k + cnS G f) % b)
          rw [cv_at hCk hg hk hf hc]
        · rw [if_neg ey]
          have h1 : Bool.toNat true = 1 := rfl
          exact l2 y (by omega)
      · rw [up2_ne h1, up2_ne h2]; exact l3 a h1 h2
      · rw [up2_at, if_neg hj, up2_ne (by decide)]; exact l4 j hj
    · rw [if_pos (by rw [isin_z u (by omega) (by omega)]; exact hg)]
      have hg2 : G.testBit f = false := by simpa using hg
      rw [hg2] at e
      refine ih (f + 1) u (by omega) ?_
      rw [e]
      exact hL
theorem l_33 {X : Scr} {d C G b c : Nat} {w : Wd} {x : Nat → Nat} (hC : C < 64) (hG : G < 64) (hb1 : 2 ≤ b) (hb2 : b ≤ 50) (hc : cnS G 6 = c) (hn : c * cnS C 6 ≤ 12) (hx : ∀ i, i < 36 → w 8 i = nI (x i) ∧ x i ≤ 9999) : ∀ (m k : Nat) (u : Wd), k + m = 6 → L33 w u (fun y => cvF C G c x y % b) (c * cnS C k) → EU X (d + 2) 33 (8, [some (.ref 95), some (.ref 7), some (.int (nI C)), some (.int (nI G)), some (.int (nI b)), some (.int (nI k)), none], [], SH, u) (fun u2 => L33 w u2 (fun y => cvF C G c x y % b) (c * cnS C 6)) := by
  intro m
  induction m with
  | zero =>
    intro k u h hL
    have e : k = 6 := by omega
    subst e
    refine t33_95_7_at8 u _ _ _ _ ?_
    rw [if_pos (by decide)]
    exact hL
  | succ m ih =>
    intro k u h hL
    have hk : k < 6 := by omega
    refine t33_95_7_at8 u _ _ _ _ ?_
    rw [if_neg (lt_6 k hk)]
    by_cases hCk : C.testBit k = true
    · refine l_33f hC hG hb1 hb2 hc hn hk hx hCk (fun u2 h2 => ih (k + 1) u2 (by omega) h2) 6 0 u rfl ?_
      exact hL
    · refine t33_95_7_at18 u _ _ _ _ _ ?_
      rw [if_neg (show ¬ kI 6 ≤ kI 0 by decide), if_pos (by rw [isin_z u (by omega) (by omega)]; exact hCk), k1]
      have hg2 : C.testBit k = false := by simpa using hCk
      have e : cnS C (k + 1) = cnS C k + (C.testBit k).toNat := rfl
      rw [hg2] at e
      refine ih (k + 1) u (by omega) ?_
      rw [e]
      exact hL
/-! columnsOff -/
def sp35 (B : Nat → Int) (b c q m j o : Nat) : Option Nat := match spC B b c q m j o with
  | none => none
  | some o2 => if (acZ B c q c).natAbs < b then some o2 else none
theorem l_35 {X : Scr} {d b c q : Nat} {w : Wd} {B : Nat → Int} (hB : BZ B) (hb2 : b ≤ 50) (hc : c ≤ 3) (hq : q ≤ 4) (h7 : w 95 7 = nI c) (h97 : ∀ j, j < c → w 97 j = kI (colZ B c j q)) : ∀ (m j o : Nat), j + m = c → EI X (d + 1) 35 (7, [some (.ref 95), some (.int (nI b)), some (.int (nI o)), some (.int (kI (acZ B c q j))), some (.int (nI j))], [], SH, w) (fun x u => x = enO (sp35 B b c q m j o) ∧ u = w) := by
  intro m
  induction m with
  | zero =>
    intro j o h
    have e : j = c := by omega
    subst e
    have ha := acZ_le hB (c := j) hq j
    refine t35_95_at7 w _ _ _ _ ?_
    rw [h7, if_pos (nI_le (Nat.le_refl _) (by omega)), kI_abs (by omega) (by omega)]
    show (if nI (acZ B j q j).natAbs < nI b then _ else _)
    by_cases hl : (acZ B j q j).natAbs < b
    · rw [if_pos (nI_lt hl (by omega))]
      refine ⟨?_, rfl⟩
      show nI o = enO (if (acZ B j q j).natAbs < b then some o else none)
      rw [if_pos hl]
      rfl
    · rw [if_neg (nI_nlt (by omega) (by omega))]
      refine ⟨?_, rfl⟩
      show kI (-1) = enO (if (acZ B j q j).natAbs < b then some o else none)
      rw [if_neg hl]
      rfl
  | succ m ih =>
    intro j o h
    have hz := colZ_le hB (c := c) (j := j) q
    refine t35_95_at7 w _ _ _ _ ?_
    rw [h7, if_neg (nI_ge (by omega) (by omega)), if_neg (lt_6 j (by omega)), nI_clamp (by omega), h97 j (by omega), kI_abs (by omega) (by omega), k1, kI_a]
    refine ⟨inB_nI (by omega) (by decide), ?_⟩
    unfold sp35 spC
    by_cases hl : (colZ B c j q).natAbs < b
    · rw [if_pos (nI_lt hl (by omega)), nI_add]
      simp only [if_pos hl]
      exact ⟨inB_nI (by omega) (by decide), inB_nI (by omega) (by decide), ih (j + 1) _ (by omega)⟩
    · rw [if_neg (nI_nlt (by omega) (by omega))]
      simp only [if_neg hl]
      exact ⟨rfl, trivial⟩
/-! offBy -/
def tlR (B : Nat → Int) (b q c m i o : Nat) : Option Nat := match spR B b c m i o with
  | none => none
  | some o1 => match spC B b c q c 0 o1 with
    | none => none
    | some o2 => if (arZ B c q).natAbs < b then some o2 else none
def W34 (w : Wd) (ρ : Nat → Nat) (c q : Nat) : Prop := w 95 6 = nI (c * q) ∧ w 95 7 = nI c ∧ ∀ y, y < c * q → w 96 y = nI (ρ y)
def C97 (B : Nat → Int) (u : Wd) (c i j : Nat) : Prop := ∀ k, k < c → u 97 k = kI (colZ B c k (if k < j then i + 1 else i))
theorem C97.up {B : Nat → Int} {u : Wd} {c i j : Nat} {δ : Int32} (h : C97 B u c i j) (hj : j < c) (hδ : δ = kI (B (c * i + j))) : C97 B (up2 u 97 j (u 97 j + δ)) c i (j + 1) := by
  intro k hk
  rw [up2_at]
  by_cases e : k = j
  · rw [if_pos e, h j hj, if_neg (by omega), hδ, kI_a, if_pos (by omega), e]
    rfl
  · rw [if_neg e, h k hk]
    by_cases e2 : k < j
    · rw [if_pos e2, if_pos (by omega)]
    · rw [if_neg e2, if_neg (by omega)]
theorem C97.nx {B : Nat → Int} {u : Wd} {c i : Nat} (h : C97 B u c i c) : C97 B u c (i + 1) 0 := by
  intro k hk
  rw [h k hk, if_pos hk, if_neg (by omega)]
theorem by_off {b : Nat} {ρ : Nat → Nat} {U y : Nat} (h : ¬ U.testBit y = true) : byZ b ρ U y = -(ρ y : Int) := by
  unfold byZ
  by_cases e : ρ y = 0
  · rw [if_pos e, e]; rfl
  · rw [if_neg e, if_neg h]
theorem by_on {b : Nat} {ρ : Nat → Nat} {U y : Nat} (h : U.testBit y = true) (e : ρ y ≠ 0) : byZ b ρ U y = (b : Int) - ρ y := by
  unfold byZ
  rw [if_neg e, if_pos h]
theorem l_34r {X : Scr} {d b c q U i o : Nat} {w : Wd} {ρ : Nat → Nat} {Q : Int32 → Wd → Prop} (hb2 : b ≤ 50) (hc : c ≤ 3) (hq : q ≤ 4) (hU : U < 2 ^ 12) (hρ : ∀ y, ρ y < b) (hgood : ∀ y, y < c * q → U.testBit y = true → ρ y ≠ 0) (hW : W34 w ρ c q) (hi : i < q)
    (kno : ∀ u : Wd, ¬ (rowZ (byZ b ρ U) c i c).natAbs < b → (∀ a, a ≠ 97 → u a = w a) → Q (kI (-1)) u)
    (kk : ∀ u : Wd, (rowZ (byZ b ρ U) c i c).natAbs < b → (∀ a, a ≠ 97 → u a = w a) → C97 (byZ b ρ U) u c (i + 1) 0 → EI X (d + 2) 34 (19, [some (.ref 95), some (.int (nI U)), some (.int (nI b)), some (.int (nI (o + (rowZ (byZ b ρ U) c i c).natAbs))), some (.int (kI 0)), some (.int (kI 0)), some (.int (nI (c * (i + 1)))), none, none], [], SH, u) Q) :
    ∀ (m j : Nat) (u : Wd), j + m + 1 = c → (∀ a, a ≠ 97 → u a = w a) → C97 (byZ b ρ U) u c i j → EI X (d + 2) 34 (19, [some (.ref 95), some (.int (nI U)), some (.int (nI b)), some (.int (nI o)), some (.int (kI (rowZ (byZ b ρ U) c i j))), some (.int (nI j)), some (.int (nI (c * i + j))), none, none], [], SH, u) Q := by
  intro m
  have hBZ := byZ_le (b := b) (ρ := ρ) (U := U) hb2 hρ
  have hmul : c * (i + 1) ≤ c * q := Nat.mul_le_mul_left c hi
  have hms : c * (i + 1) = c * i + c := Nat.mul_succ _ _
  have hcq : c * q ≤ 3 * 4 := Nat.mul_le_mul hc hq
  induction m with
  | zero =>
    intro j u h hF h97
    have hr := rowZ_le hBZ (c := c) (i := i) c
    have er : rowZ (byZ b ρ U) c i j + byZ b ρ U (c * i + j) = rowZ (byZ b ρ U) c i c := by
      rw [show c = j + 1 by omega]
      rfl
    have core : ∀ δ : Int32, δ = kI (byZ b ρ U (c * i + j)) → (inB (nI j) 6 = true ∧ (inB (nI j) 6 = true ∧ (if nI (j + 1) < nI c then EI X (d + 2) 34 (19, [some (.ref 95), some (.int (nI U)), some (.int (nI b)), some (.int (nI o)), some (.int (kI (rowZ (byZ b ρ U) c i j) + δ)), some (.int (nI (j + 1))), some (.int (nI (c * i + j + 1))), none, none], [], SH, up2 u 97 j (u 97 j + δ)) Q else (if (if 0 ≤ (kI (rowZ (byZ b ρ U) c i j) + δ) then (kI (rowZ (byZ b ρ U) c i j) + δ) else 0 - (kI (rowZ (byZ b ρ U) c i j) + δ)) < nI b then EI X (d + 2) 34 (19, [some (.ref 95), some (.int (nI U)), some (.int (nI b)), some (.int (nI o + (if 0 ≤ (kI (rowZ (byZ b ρ U) c i j) + δ) then (kI (rowZ (byZ b ρ U) c i j) + δ) else 0 - (kI (rowZ (byZ b ρ U) c i j) + δ)))), some (.int (kI 0)), some (.int (kI 0)), some (.int (nI (c * i + j + 1))), none, none], [], SH, up2 u 97 j (u 97 j + δ)) Q else Q (kI (-1)) (up2 u 97 j (u 97 j + δ)))))) := by
      intro δ hδ
      have hF2 : ∀ a, a ≠ 97 → (up2 u 97 j (u 97 j + δ)) a = w a := fun a ha => by rw [up2_ne ha]; exact hF a ha
      have h97b := h97.up (by omega) hδ
      refine ⟨inB_nI (by omega) (by decide), inB_nI (by omega) (by decide), ?_⟩
      rw [if_neg (nI_nlt (by omega) (by omega)), show kI (rowZ (byZ b ρ U) c i j) + δ = kI (rowZ (byZ b ρ U) c i c) by rw [hδ, kI_a, er], kI_abs (by omega) (by omega)]
      by_cases hl : (rowZ (byZ b ρ U) c i c).natAbs < b
      · rw [if_pos (nI_lt hl (by omega)), nI_add, show c * i + j + 1 = c * (i + 1) by omega]
        refine kk _ hl hF2 ?_
        rw [show j + 1 = c by omega] at h97b
        exact h97b.nx
      · rw [if_neg (nI_nlt (by omega) (by omega))]
        exact kno _ hl hF2
    refine t34_95_at19 u _ _ _ _ _ _ ?_
    rw [hF 95 (by decide), hF 96 (by decide), hW.1, hW.2.1, if_neg (nI_ge (by omega) (by omega)), nI_clamp (by omega), nI_clamp (by omega), hW.2.2 _ (by omega), if_neg (lt_6 j (by omega)), if_neg (lt_6 j (by omega)), k1, k1]
    by_cases hbit : U.testBit (c * i + j) = true
    · rw [if_neg (by rw [isin_z u (by omega) (by omega)]; exact fun z => z hbit)]
      have hne := hgood _ (show c * i + j < c * q by omega) hbit
      have hlt := hρ (c * i + j)
      refine ⟨inB_nI (by omega) (by decide), ?_⟩
      rw [if_neg (nI_ne0 (by omega) (by omega))]
      exact ⟨inB_nI (by omega) (by decide), core _ (by rw [by_on hbit hne, nI_s])⟩
    · rw [if_pos (by rw [isin_z u (by omega) (by omega)]; exact hbit)]
      exact ⟨inB_nI (by omega) (by decide), core _ (by rw [by_off hbit, nI_neg])⟩
  | succ m ih =>
    intro j u h hF h97
    have core : ∀ (δ : Int32) (z1 z2 : Prop), δ = kI (byZ b ρ U (c * i + j)) → (inB (nI j) 6 = true ∧ (inB (nI j) 6 = true ∧ (if nI (j + 1) < nI c then EI X (d + 2) 34 (19, [some (.ref 95), some (.int (nI U)), some (.int (nI b)), some (.int (nI o)), some (.int (kI (rowZ (byZ b ρ U) c i j) + δ)), some (.int (nI (j + 1))), some (.int (nI (c * i + j + 1))), none, none], [], SH, up2 u 97 j (u 97 j + δ)) Q else z1))) := by
      intro δ z1 z2 hδ
      refine ⟨inB_nI (by omega) (by decide), inB_nI (by omega) (by decide), ?_⟩
      rw [if_pos (nI_lt (by omega) (by omega)), hδ, kI_a]
      exact ih (j + 1) _ (by omega) (fun a ha => by rw [up2_ne ha]; exact hF a ha) (h97.up (by omega) rfl)
    refine t34_95_at19 u _ _ _ _ _ _ ?_
    rw [hF 95 (by decide), hF 96 (by decide), hW.1, hW.2.1, if_neg (nI_ge (by omega) (by omega)), nI_clamp (by omega), nI_clamp (by omega), hW.2.2 _ (by omega), if_neg (lt_6 j (by omega)), if_neg (lt_6 j (by omega)), k1, k1]
    by_cases hbit : U.testBit (c * i + j) = true
    · rw [if_neg (by rw [isin_z u (by omega) (by omega)]; exact fun z => z hbit)]
      have hne := hgood _ (show c * i + j < c * q by omega) hbit
      have hlt := hρ (c * i + j)
      refine ⟨inB_nI (by omega) (by decide), ?_⟩
      rw [if_neg (nI_ne0 (by omega) (by omega))]
      exact ⟨inB_nI (by omega) (by decide), core _ _ True (by rw [by_on hbit hne, nI_s])⟩
    · rw [if_pos (by rw [isin_z u (by omega) (by omega)]; exact hbit)]
      exact ⟨inB_nI (by omega) (by decide), core _ _ True (by rw [by_off hbit, nI_neg])⟩
theorem l_34 {X : Scr} {d b c q U : Nat} {w : Wd} {ρ : Nat → Nat} (hb2 : b ≤ 50) (hc1 : 1 ≤ c) (hc : c ≤ 3) (hq : q ≤ 4) (hU : U < 2 ^ 12) (hρ : ∀ y, ρ y < b) (hgood : ∀ y, y < c * q → U.testBit y = true → ρ y ≠ 0) (hW : W34 w ρ c q) : ∀ (m i o : Nat) (u : Wd), i + m = q → o ≤ 50 * i → (∀ a, a ≠ 97 → u a = w a) → C97 (byZ b ρ U) u c i 0 → EI X (d + 2) 34 (19, [some (.ref 95), some (.int (nI U)), some (.int (nI b)), some (.int (nI o)), some (.int (kI 0)), some (.int (kI 0)), some (.int (nI (c * i))), none, none], [], SH, u) (fun x u2 => x = enO (tlR (byZ b ρ U) b q c m i o) ∧ ∀ a, a ≠ 97 → u2 a = w a) := by
  intro m
  have hBZ := byZ_le (b := b) (ρ := ρ) (U := U) hb2 hρ
  have hcq : c * q ≤ 3 * 4 := Nat.mul_le_mul hc hq
  induction m with
  | zero =>
    intro i o u h ho hF h97
    have e : i = q := by omega
    subst e
    refine t34_95_at19 u _ _ _ _ _ _ ?_
    rw [hF 95 (by decide), hW.1, if_pos (nI_le (Nat.le_refl _) (by omega))]
    refine CI.mono (CI.of (d := d + 1) rfl (t35_95_at0 (d := d) u _ (l_35 (B := byZ b ρ U) (q := i) hBZ hb2 hc hq (by rw [hF 95 (by decide)]; exact hW.2.1) (fun j hj => by rw [h97 j hj, if_neg (by omega)]) c 0 0 (Nat.zero_add _)))) ?_
    intro x u2 hx
    obtain ⟨hx, hu⟩ := hx
    have hu2 := hu.symm
    subst hu2
    rw [hx]
    have ea := spC_add (B := byZ b ρ U) (b := b) (c := c) (q := i) c 0 o 0
    rw [Nat.add_zero] at ea
    unfold tlR spR sp35
    dsimp only
    rw [ea, ar_ac]
    cases e2 : spC (byZ b ρ U) b c i c 0 0 with
    | none =>
      rw [if_pos (show enO none = kI (-1) from rfl)]
      exact ⟨rfl, hF⟩
    | some o2 =>
      have hle := spC_le c 0 0 o2 e2
      have h4 : b * c ≤ 50 * 3 := Nat.mul_le_mul hb2 hc
      dsimp only [Option.map]
      by_cases hl : (acZ (byZ b ρ U) c i c).natAbs < b
      · simp only [if_pos hl]
        rw [if_neg (show ¬ enO (some o2) = kI (-1) from nI_m1 (by omega))]
        exact ⟨nI_add o o2, hF⟩
      · simp only [if_neg hl]
        rw [if_pos (show enO none = kI (-1) from rfl)]
        exact ⟨rfl, hF⟩
  | succ m ih =>
    intro i o u h ho hF h97
    have g := l_34r (X := X) (d := d) (o := o) (Q := fun x u2 => x = enO (tlR (byZ b ρ U) b q c (m + 1) i o) ∧ ∀ a, a ≠ 97 → u2 a = w a) hb2 hc hq hU hρ hgood hW (show i < q by omega) (fun u2 hl h2 => ?_) (fun u2 hl h2 h3 => ?_) (c - 1) 0 u (by omega) hF h97
    · exact g
    · refine ⟨?_, h2⟩
      unfold tlR spR
      rw [if_neg hl]
      rfl
    · have r := ih (i + 1) (o + (rowZ (byZ b ρ U) c i c).natAbs) u2 (by omega) (by omega) h2 h3
      have e : tlR (byZ b ρ U) b q c (m + 1) i o = tlR (byZ b ρ U) b q c m (i + 1) (o + (rowZ (byZ b ρ U) c i c).natAbs) := by
        unfold tlR
        rw [show spR (byZ b ρ U) b c (m + 1) i o = if (rowZ (byZ b ρ U) c i c).natAbs < b then spR (byZ b ρ U) b c m (i + 1) (o + (rowZ (byZ b ρ U) c i c).natAbs) else none from rfl, if_pos hl]
      rw [e]
      exact r
/-- a bit where nothing is to be rounded: none -/
theorem l_34b {X : Scr} {d b c q U z : Nat} {w : Wd} {ρ : Nat → Nat} (hb1 : 1 ≤ c) (hc : c ≤ 3) (hcq : c * q ≤ 12) (hU : U < 2 ^ 12) (hW : W34 w ρ c q) (hρ2 : ∀ y, ρ y < 50) (hz : z < c * q) (hzb : U.testBit z = true) (hz0 : ρ z = 0) : ∀ (m y j : Nat) (v3 v4 : Int32) (u : Wd), y + m = z → j < c → (∀ a, a ≠ 97 → u a = w a) → EI X (d + 2) 34 (19, [some (.ref 95), some (.int (nI U)), some (.int (nI b)), some (.int v3), some (.int v4), some (.int (nI j)), some (.int (nI y)), none, none], [], SH, u) (fun x u2 => x = kI (-1) ∧ ∀ a, a ≠ 97 → u2 a = w a) := by
  intro m
  induction m with
  | zero =>
    intro y j v3 v4 u h hj hF
    have e : y = z := by omega
    subst e
    refine t34_95_at19 u _ _ _ _ _ _ ?_
    rw [hF 95 (by decide), hW.1, if_neg (nI_ge hz (by omega)), if_neg (by rw [isin_z u (by omega) (by omega)]; exact fun z => z hzb), nI_clamp (by omega), hF 96 (by decide), hW.2.2 _ hz, hz0]
    refine ⟨inB_nI (by omega) (by decide), ?_⟩
    rw [if_pos (show nI 0 = 0 from rfl)]
    exact ⟨rfl, hF⟩
  | succ m ih =>
    intro y j v3 v4 u h hj hF
    have hF2 : ∀ v : Int32, ∀ a, a ≠ 97 → (up2 u 97 j v) a = w a := fun v a ha => by rw [up2_ne ha]; exact hF a ha
    have hy : y < c * q := by omega
    have core : ∀ (δ : Int32) (v3b : Int32) (T : Prop) (hT : Decidable T), (inB (nI j) 6 = true ∧ (inB (nI j) 6 = true ∧ (if nI (j + 1) < nI c then EI X (d + 2) 34 (19, [some (.ref 95), some (.int (nI U)), some (.int (nI b)), some (.int v3), some (.int (v4 + δ)), some (.int (nI (j + 1))), some (.int (nI (y + 1))), none, none], [], SH, up2 u 97 j (u 97 j + δ)) (fun x u2 => x = kI (-1) ∧ ∀ a, a ≠ 97 → u2 a = w a) else (if T then EI X (d + 2) 34 (19, [some (.ref 95), some (.int (nI U)), some (.int (nI b)), some (.int v3b), some (.int (kI 0)), some (.int (kI 0)), some (.int (nI (y + 1))), none, none], [], SH, up2 u 97 j (u 97 j + δ)) (fun x u2 => x = kI (-1) ∧ ∀ a, a ≠ 97 → u2 a = w a) else (kI (-1) = kI (-1) ∧ ∀ a, a ≠ 97 → (up2 u 97 j (u 97 j + δ)) a = w a))))) := by
      intro δ v3b T hT
      refine ⟨inB_nI (by omega) (by decide), inB_nI (by omega) (by decide), ?_⟩
      by_cases h1 : j + 1 < c
      · rw [if_pos (nI_lt h1 (by omega))]
        exact ih (y + 1) (j + 1) _ _ _ (by omega) h1 (hF2 _)
      · rw [if_neg (nI_nlt (by omega) (by omega))]
        split
        · exact ih (y + 1) 0 _ _ _ (by omega) (by omega) (hF2 _)
        · exact ⟨rfl, hF2 _⟩
    refine t34_95_at19 u _ _ _ _ _ _ ?_
    rw [hF 95 (by decide), hW.1, hW.2.1, if_neg (nI_ge hy (by omega)), nI_clamp (by omega), nI_clamp (by omega), if_neg (lt_6 j (by omega)), if_neg (lt_6 j (by omega)), k1, k1]
    by_cases hbit : U.testBit y = true
    · rw [if_neg (by rw [isin_z u (by omega) (by omega)]; exact fun z => z hbit)]
      refine ⟨inB_nI (by omega) (by decide), ?_⟩
      by_cases h0 : u 96 y = 0
      · rw [if_pos h0]; exact ⟨rfl, hF⟩
      · rw [if_neg h0]
        exact ⟨inB_nI (by omega) (by decide), core _ _ _ _⟩
    · rw [if_pos (by rw [isin_z u (by omega) (by omega)]; exact hbit)]
      exact ⟨inB_nI (by omega) (by decide), core _ _ _ _⟩
/-- offBy -/
theorem c_34 {X : Scr} {d b c q U : Nat} {w : Wd} {ρ : Nat → Nat} (hb2 : b ≤ 50) (hc1 : 1 ≤ c) (hc : c ≤ 3) (hq : q ≤ 4) (hU : U < 2 ^ 12) (hρ : ∀ y, ρ y < b) (hW : W34 w ρ c q) : CI X (d + 3) 34 [.ref 95, .int (nI U), .int (nI b)] w (fun x u2 => x = enO (if badU ρ (c * q) U then none else ofZ (byZ b ρ U) b q c) ∧ ∀ a, a ≠ 97 → u2 a = w a) := by
  have hcq : c * q ≤ 3 * 4 := Nat.mul_le_mul hc hq
  have hG : ∀ a, a ≠ 97 → (G_258_97 (kI 0) w) a = w a := fun a ha => fill_ne ha
  have hW2 : W34 (G_258_97 (kI 0) w) ρ c q := by
    unfold W34
    rw [hG 95 (by decide), hG 96 (by decide)]
    exact hW
  refine CI.of rfl (t34_95_at0 (d := d) w _ _ ?_)
  cases hbad : badU ρ (c * q) U with
  | true =>
    obtain ⟨z, hz, hzb, hz0⟩ := bad_iff.mp hbad
    refine EI.mono (l_34b (d := d) (b := b) hc1 hc (by omega) hU hW2 (fun y => by have := hρ y; omega) hz hzb hz0 z 0 0 (kI 0) (kI 0) _ (Nat.zero_add _) hc1 (fun _ _ => rfl)) ?_
    intro x u2 hx
    exact ⟨hx.1, fun a ha => by rw [hx.2 a ha]; exact hG a ha⟩
  | false =>
    have hgood : ∀ y, y < c * q → U.testBit y = true → ρ y ≠ 0 := fun y h1 h2 h3 => by
      have := bad_iff.mpr ⟨y, h1, h2, h3⟩
      rw [hbad] at this
      cases this
    have g := l_34 (X := X) (d := d) (w := G_258_97 (kI 0) w) hb2 hc1 hc hq hU hρ hgood hW2 q 0 0 _ (Nat.zero_add _) (by omega) (fun _ _ => rfl) (fun k hk => ?_)
    · rw [Nat.mul_zero] at g
      refine EI.mono g ?_
      intro x u2 hx
      exact ⟨hx.1, fun a ha => by rw [hx.2 a ha]; exact hG a ha⟩
    · rw [if_neg (by omega)]
      show (if k < 6 then kI 0 else w 97 k) = _
      rw [if_pos (by omega)]
      rfl
end TABLEC
