/-! table, part 3: the reference -/
section TABLER
def FR4 (w u : Wd) : Prop := (∀ a, a ≠ 110 → a ≠ 135 → a ≠ 136 → a ≠ 137 → u a = w a) ∧ ∀ j, j ≠ 46 → j ≠ 47 → u 110 j = w 110 j
theorem FR4.p {w u : Wd} {a k : Nat} {v : Int32} (h : FR4 w u) (ha : a = 135 ∨ a = 136 ∨ a = 137) : FR4 w (up2 u a k v) := by
  refine ⟨fun b h1 h2 h3 h4 => ?_, fun j h1 h2 => ?_⟩
  · rw [up2_ne (by omega)]; exact h.1 b h1 h2 h3 h4
  · rw [up2_ne (by omega)]; exact h.2 j h1 h2
theorem FR4.q {w u : Wd} {k : Nat} {v : Int32} (h : FR4 w u) (hk : k = 46 ∨ k = 47) : FR4 w (up2 u 110 k v) := by
  refine ⟨fun b h1 h2 h3 h4 => ?_, fun j h1 h2 => ?_⟩
  · rw [up2_ne h1]; exact h.1 b h1 h2 h3 h4
  · rw [up2_at, if_neg (by omega)]; exact h.2 j h1 h2
theorem l_228a {X : Scr} {d C : Nat} {v2 : Int32} {w : Wd} {Q : Wd → Prop} (hC : C < 64) (hq : cnS C 6 ≤ 4) (kk : ∀ u : Wd, FR4 w u → u 110 46 = nI (cnS C 6) → u 110 47 = kI 0 → (∀ i, i < cnS C 6 → u 136 i = nI (kS C 6 i)) → EU X (d + 1) 228 (57, [some (.ref 110), some (.int (nI C)), some (.int v2), some (.int (kI 0)), none], [], SH, u) Q) : ∀ (m k : Nat) (u : Wd), k + m = 6 → FR4 w u → u 110 46 = nI (cnS C k) → u 110 47 = kI 0 → (∀ i, i < cnS C k → u 136 i = nI (kS C 6 i)) → EU X (d + 1) 228 (12, [some (.ref 110), some (.int (nI C)), some (.int v2), some (.int (nI k)), none], [], SH, u) Q := by
  intro m
  induction m with
  | zero =>
    intro k u h hF h46 h47 h1
    have e : k = 6 := by omega
    subst e
    refine t228_110_at12 u _ _ _ ?_
    rw [if_pos (by decide)]
    exact kk u hF h46 h47 h1
  | succ m ih =>
    intro k u h hF h46 h47 h1
    have e : cnS C (k + 1) = cnS C k + (C.testBit k).toNat := rfl
    refine t228_110_at12 u _ _ _ ?_
    rw [if_neg (lt_6 k (by omega)), k1, h46]
    by_cases hb : C.testBit k = true
    · have hlt := cnS_lt (S := C) (k := k) (n := 6) (by omega) hb
      rw [if_neg (by rw [has_z u (by omega) (by omega)]; exact fun x => x hb), nI_clamp (by omega), k1]
      rw [hb] at e
      have e1 : cnS C (k + 1) = cnS C k + 1 := e
      refine ⟨inB_nI (by omega) (by decide), ih (k + 1) _ (by omega) ((hF.p (Or.inr (Or.inl rfl))).q (Or.inl rfl)) ?_ ?_ (fun i hi => ?_)⟩
      · rw [up2_at, if_pos rfl, e1]
      · rw [up2_at, if_neg (by decide), up2_ne (by decide)]; exact h47
      · rw [up2_ne (by decide), up2_at]
        by_cases ei : i = cnS C k
        · rw [if_pos ei, ei, kS_at hb 6 (by omega)]
        · rw [if_neg ei]; exact h1 i (by omega)
    · rw [if_pos (by rw [has_z u (by omega) (by omega)]; exact hb)]
      have hb2 : C.testBit k = false := by simpa using hb
      rw [hb2] at e
      have e1 : cnS C (k + 1) = cnS C k := e
      exact ih (k + 1) u (by omega) hF (by rw [e1]; exact h46) h47 (by rw [e1]; exact h1)
theorem l_228b {X : Scr} {d G q : Nat} {v1 : Int32} {w : Wd} {f : Nat → Int32} {Q : Wd → Prop} (hG : G < 64) (hc : cnS G 6 ≤ 3) (kk : ∀ u : Wd, FR4 w u → u 110 46 = nI q → u 110 47 = nI (cnS G 6) → (∀ i, i < q → u 136 i = f i) → (∀ i, i < cnS G 6 → u 137 i = nI (kS G 6 i)) → EU X (d + 1) 228 (102, [some (.ref 110), some (.int v1), some (.int (nI G)), some (.int (kI 0)), none], [], SH, u) Q) : ∀ (m k : Nat) (u : Wd), k + m = 6 → FR4 w u → u 110 46 = nI q → u 110 47 = nI (cnS G k) → (∀ i, i < q → u 136 i = f i) → (∀ i, i < cnS G k → u 137 i = nI (kS G 6 i)) → EU X (d + 1) 228 (57, [some (.ref 110), some (.int v1), some (.int (nI G)), some (.int (nI k)), none], [], SH, u) Q := by
  intro m
  induction m with
  | zero =>
    intro k u h hF h46 h47 h0 h1
    have e : k = 6 := by omega
    subst e
    refine t228_110_at57 u _ _ _ ?_
    rw [if_pos (by decide)]
    exact kk u hF h46 h47 h0 h1
  | succ m ih =>
    intro k u h hF h46 h47 h0 h1
    have e : cnS G (k + 1) = cnS G k + (G.testBit k).toNat := rfl
    refine t228_110_at57 u _ _ _ ?_
    rw [if_neg (lt_6 k (by omega)), k1, h47]
    by_cases hb : G.testBit k = true
    · have hlt := cnS_lt (S := G) (k := k) (n := 6) (by omega) hb
      rw [if_neg (by rw [has_z u (by omega) (by omega)]; exact fun x => x hb), nI_clamp (by omega), k1]
      rw [hb] at e
      have e1 : cnS G (k + 1) = cnS G k + 1 := e
      refine ⟨inB_nI (by omega) (by decide), ih (k + 1) _ (by omega) ((hF.p (Or.inr (Or.inr rfl))).q (Or.inr rfl)) ?_ ?_ (fun i hi => ?_) (fun i hi => ?_)⟩
      · rw [up2_at, if_neg (by decide), up2_ne (by decide)]; exact h46
      · rw [up2_at, if_pos rfl, e1]
      · rw [up2_ne (by decide), up2_ne (by decide)]; exact h0 i hi
      · rw [up2_ne (by decide), up2_at]
        by_cases ei : i = cnS G k
        · rw [if_pos ei, ei, kS_at hb 6 (by omega)]
        · rw [if_neg ei]; exact h1 i (by omega)
    · rw [if_pos (by rw [has_z u (by omega) (by omega)]; exact hb)]
      have hb2 : G.testBit k = false := by simpa using hb
      rw [hb2] at e
      have e1 : cnS G (k + 1) = cnS G k := e
      exact ih (k + 1) u (by omega) hF h46 (by rw [e1]; exact h47) h0 (by rw [e1]; exact h1)
theorem cv_ij {C G c i j : Nat} {x : Nat → Nat} (hj : j < c) : cvF C G c x (c * i + j) = x (6 * kS C 6 i + kS G 6 j) := by
  unfold cvF
  rw [Nat.mul_add_div (by omega), Nat.div_eq_of_lt hj, Nat.add_zero, Nat.mul_add_mod, Nat.mod_eq_of_lt hj]
/-- rows, columns and cells of the reference -/
def W23 (u : Wd) (q c : Nat) (v : Nat → Nat) (n : Nat) : Prop := u 110 46 = nI q ∧ u 110 47 = nI c ∧ ∀ y, y < n → u 135 y = nI (v y)
theorem ixq (c i j : Nat) : (nI c * nI i) + nI j = nI (c * i + j) := by rw [pk_mul, nI_add]
theorem l_228d {X : Scr} {d C G q c i : Nat} {v1 v2 : Int32} {w : Wd} {x : Nat → Nat} {Q : Wd → Prop} (hq : q ≤ 4) (hc : c ≤ 3) (hi : i < q) (hx : ∀ i, i < 36 → w 111 i = nI (x i) ∧ x i ≤ 9999) (kk : ∀ u : Wd, FR4 w u → W23 u q c (cvF C G c x) (c * (i + 1)) → (∀ i, i < q → u 136 i = nI (kS C 6 i)) → (∀ i, i < c → u 137 i = nI (kS G 6 i)) → EU X (d + 1) 228 (102, [some (.ref 110), some (.int v1), some (.int v2), some (.int (nI (i + 1))), none], [], SH, u) Q) : ∀ (m j : Nat) (u : Wd), j + m = c → FR4 w u → W23 u q c (cvF C G c x) (c * i + j) → (∀ i, i < q → u 136 i = nI (kS C 6 i)) → (∀ i, i < c → u 137 i = nI (kS G 6 i)) → EU X (d + 1) 228 (113, [some (.ref 110), some (.int v1), some (.int v2), some (.int (nI i)), some (.int (nI j))], [], SH, u) Q := by
  intro m
  have hmul : c * (i + 1) ≤ c * q := Nat.mul_le_mul_left c hi
  have hms : c * (i + 1) = c * i + c := Nat.mul_succ _ _
  have hcq : c * q ≤ 3 * 4 := Nat.mul_le_mul hc hq
  induction m with
  | zero =>
    intro j u h hF hW h6 h7
    have e : j = c := by omega
    subst e
    refine t228_110_at113 u _ _ _ _ ?_
    rw [hW.2.1, if_pos (nI_le (Nat.le_refl _) (by omega)), k1]
    rw [← hms] at hW
    exact kk u hF hW h6 h7
  | succ m ih =>
    intro j u h hF hW h6 h7
    have k6 := kS_lt (S := C) (i := i) 6 (by decide)
    have k7 := kS_lt (S := G) (i := j) 6 (by decide)
    obtain ⟨x1, x2⟩ := hx (6 * kS C 6 i + kS G 6 j) (by omega)
    refine t228_110_at113 u _ _ _ _ ?_
    rw [hW.2.1, if_neg (nI_ge (by omega) (by omega)), nI_clamp (by omega), nI_clamp (by omega), h6 i hi, h7 j (by omega), ixC, ixq, nI_clamp (by omega), k1, countR k6 k7, hF.1 111 (by decide) (by decide) (by decide) (by decide), x1]
    refine ⟨inB_nI (by omega) (by decide), inB_nI (by omega) (by decide), inB_nI (by omega) (by decide), inB_nI (by omega) (by decide), ih (j + 1) _ (by omega) (hF.p (Or.inl rfl)) ⟨?_, ?_, fun y hy => ?_⟩ (fun i hi => ?_) (fun i hi => ?_)⟩
    · rw [up2_ne (by decide)]; exact hW.1
    · rw [up2_ne (by decide)]; exact hW.2.1
    · rw [up2_at]
      by_cases ey : y = c * i + j
      · rw [if_pos ey, ey, cv_ij (by omega)]
      · rw [if_neg ey]; exact hW.2.2 y (by omega)
    · rw [up2_ne (by decide)]; exact h6 i hi
    · rw [up2_ne (by decide)]; exact h7 i hi
theorem l_228c {X : Scr} {d C G q c : Nat} {v1 v2 : Int32} {w : Wd} {x : Nat → Nat} (hq : q ≤ 4) (hc : c ≤ 3) (hx : ∀ i, i < 36 → w 111 i = nI (x i) ∧ x i ≤ 9999) : ∀ (m i : Nat) (u : Wd), i + m = q → FR4 w u → W23 u q c (cvF C G c x) (c * i) → (∀ i, i < q → u 136 i = nI (kS C 6 i)) → (∀ i, i < c → u 137 i = nI (kS G 6 i)) → EU X (d + 1) 228 (102, [some (.ref 110), some (.int v1), some (.int v2), some (.int (nI i)), none], [], SH, u) (fun u2 => FR4 w u2 ∧ W23 u2 q c (cvF C G c x) (c * q)) := by
  intro m
  induction m with
  | zero =>
    intro i u h hF hW h6 h7
    have e : i = q := by omega
    subst e
    refine t228_110_at102 u _ _ _ ?_
    rw [hW.1, if_pos (nI_le (Nat.le_refl _) (by omega))]
    exact ⟨hF, hW⟩
  | succ m ih =>
    intro i u h hF hW h6 h7
    refine t228_110_at102 u _ _ _ ?_
    rw [hW.1, if_neg (nI_ge (by omega) (by omega))]
    exact l_228d hq hc (by omega) hx (fun u2 a1 a2 a3 a4 => ih (i + 1) u2 (by omega) a1 a2 a3 a4) c 0 u (Nat.zero_add _) hF hW h6 h7
theorem c_228 {X : Scr} {d C G : Nat} {w : Wd} {x : Nat → Nat} (hC : C < 64) (hG : G < 64) (hq : cnS C 6 ≤ 4) (hc : cnS G 6 ≤ 3) (hx : ∀ i, i < 36 → w 111 i = nI (x i) ∧ x i ≤ 9999) : CU X (d + 2) 228 [.ref 110, .int (nI C), .int (nI G)] w (fun u2 => FR4 w u2 ∧ W23 u2 (cnS C 6) (cnS G 6) (cvF C G (cnS G 6) x) (cnS G 6 * cnS C 6)) := by
  have F0 : FR4 w w := ⟨fun _ _ _ _ _ => rfl, fun _ _ _ => rfl⟩
  refine CU.of rfl (t228_110_at0 (d := d) w _ _ ?_)
  refine l_228a hC hq ?_ 6 0 _ rfl ((F0.q (Or.inl rfl)).q (Or.inr rfl)) ?_ ?_ (fun i hi => ?_)
  · intro u a1 a2 a3 a4
    refine l_228b (q := cnS C 6) (f := fun i => nI (kS C 6 i)) hG hc ?_ 6 0 u rfl a1 a2 a3 a4 (fun i hi => ?_)
    · intro u2 b1 b2 b3 b4 b5
      refine l_228c (C := C) (G := G) (q := cnS C 6) (c := cnS G 6) hq hc hx (cnS C 6) 0 u2 (Nat.zero_add _) b1 ⟨b2, b3, fun y hy => ?_⟩ b4 b5
      rw [Nat.mul_zero] at hy
      omega
    · have : i < 0 := hi
      omega
  · rw [up2_at, if_neg (by decide), up2_at, if_pos rfl]; rfl
  · rw [up2_at, if_pos rfl]
  · have : i < 0 := hi
    omega
/-! offBy -/
theorem f229 {w : Wd} {q c b U n y : Nat} {v : Nat → Nat} (hW : W23 w q c v n) (hy : y < n) (hn : n ≤ 12) (hb1 : 2 ≤ b) (hb2 : b ≤ 50) (hv : v y ≤ 9999) (hU : U < 2 ^ 12) : F_229_110 (nI y) (nI b) (nI U) w = kI (byZ b (fun y => v y % b) U y) := by
  unfold F_229_110 byZ
  rw [nI_clamp (by omega), hW.2.2 y hy, pk_rem (by omega) (by omega) (by omega)]
  have hlt := Nat.mod_lt (v y) (show 0 < b by omega)
  by_cases e : v y % b = 0
  · rw [if_pos (by rw [e]; rfl), if_pos e]
  · rw [if_neg (nI_ne0 (by omega) (by omega)), if_neg e]
    by_cases hb : U.testBit y = true
    · rw [if_neg (by rw [has_z w (by omega) (by omega)]; exact fun x => x hb), if_pos hb, nI_s]
    · rw [if_pos (by rw [has_z w (by omega) (by omega)]; exact hb), if_neg hb, nI_neg]
theorem l_230r {X : Scr} {d b c q U i o : Nat} {w : Wd} {v : Nat → Nat} {Q : Int32 → Wd → Prop} {v4 : Int32} (hb1 : 2 ≤ b) (hb2 : b ≤ 50) (hc : c ≤ 3) (hq : q ≤ 4) (hU : U < 2 ^ 12) (hv : ∀ y, y < c * q → v y ≤ 9999) (hW : W23 w q c v (c * q)) (hi : i < q) (kk : EI X (d + 2) 230 (23, [some (.ref 110), some (.int (nI b)), some (.int (nI U)), some (.int (nI o)), some (.int v4), some (.int (nI i)), some (.int (kI (rowZ (byZ b (fun y => v y % b) U) c i c))), some (.int (nI c))], [], SH, w) Q) : ∀ (m j : Nat), j + m = c → EI X (d + 2) 230 (23, [some (.ref 110), some (.int (nI b)), some (.int (nI U)), some (.int (nI o)), some (.int v4), some (.int (nI i)), some (.int (kI (rowZ (byZ b (fun y => v y % b) U) c i j))), some (.int (nI j))], [], SH, w) Q := by
  intro m
  have hmul : c * (i + 1) ≤ c * q := Nat.mul_le_mul_left c hi
  have hms : c * (i + 1) = c * i + c := Nat.mul_succ _ _
  have hcq : c * q ≤ 3 * 4 := Nat.mul_le_mul hc hq
  induction m with
  | zero =>
    intro j h
    have e : j = c := by omega
    subst e
    exact kk
  | succ m ih =>
    intro j h
    refine t230_110_at23 w _ _ _ _ _ _ _ ?_
    rw [hW.2.1, if_neg (nI_ge (by omega) (by omega)), ixq, f229 hW (by omega) (by omega) hb1 hb2 (hv _ (by omega)) hU, kI_a, k1]
    exact ⟨inB_nI (by omega) (by decide), nI_ne0 (by omega) (by omega), ih (j + 1) (by omega)⟩
theorem l_230c {X : Scr} {d b c q U j o : Nat} {w : Wd} {v : Nat → Nat} {Q : Int32 → Wd → Prop} {v4 : Int32} (hb1 : 2 ≤ b) (hb2 : b ≤ 50) (hc : c ≤ 3) (hq : q ≤ 4) (hU : U < 2 ^ 12) (hv : ∀ y, y < c * q → v y ≤ 9999) (hW : W23 w q c v (c * q)) (hj : j < c) (kk : EI X (d + 2) 230 (109, [some (.ref 110), some (.int (nI b)), some (.int (nI U)), some (.int (nI o)), some (.int v4), some (.int (nI j)), some (.int (kI (colZ (byZ b (fun y => v y % b) U) c j q))), some (.int (nI q))], [], SH, w) Q) : ∀ (m i : Nat), i + m = q → EI X (d + 2) 230 (109, [some (.ref 110), some (.int (nI b)), some (.int (nI U)), some (.int (nI o)), some (.int v4), some (.int (nI j)), some (.int (kI (colZ (byZ b (fun y => v y % b) U) c j i))), some (.int (nI i))], [], SH, w) Q := by
  intro m
  have hcq : c * q ≤ 3 * 4 := Nat.mul_le_mul hc hq
  induction m with
  | zero =>
    intro i h
    have e : i = q := by omega
    subst e
    exact kk
  | succ m ih =>
    intro i h
    have hmul : c * (i + 1) ≤ c * q := Nat.mul_le_mul_left c (by omega)
    have hms : c * (i + 1) = c * i + c := Nat.mul_succ _ _
    refine t230_110_at109 w _ _ _ _ _ _ _ ?_
    rw [hW.1, hW.2.1, if_neg (nI_ge (by omega) (by omega)), ixq, f229 hW (by omega) (by omega) hb1 hb2 (hv _ (by omega)) hU, kI_a, k1]
    exact ⟨inB_nI (by omega) (by decide), nI_ne0 (by omega) (by omega), ih (i + 1) (by omega)⟩
theorem l_230d {X : Scr} {d b c q U : Nat} {w : Wd} {v : Nat → Nat} (hb1 : 2 ≤ b) (hb2 : b ≤ 50) (hc : c ≤ 3) (hq : q ≤ 4) (hU : U < 2 ^ 12) (hv : ∀ y, y < c * q → v y ≤ 9999) (hW : W23 w q c v (c * q)) : ∀ (m j o : Nat), j + m = c → EI X (d + 2) 230 (94, [some (.ref 110), some (.int (nI b)), some (.int (nI U)), some (.int (nI o)), some (.int (kI (arZ (byZ b (fun y => v y % b) U) c q))), some (.int (nI j)), none, none], [], SH, w) (fun x u => x = enO (match spC (byZ b (fun y => v y % b) U) b c q m j o with
    | none => none
    | some o2 => if (arZ (byZ b (fun y => v y % b) U) c q).natAbs < b then some o2 else none) ∧ u = w) := by
  intro m
  have hBZ := byZ_le (b := b) (ρ := fun y => v y % b) (U := U) hb2 (fun y => Nat.mod_lt _ (by omega))
  induction m with
  | zero =>
    intro j o h
    have e : j = c := by omega
    subst e
    have ha := acZ_le hBZ (c := j) hq j
    rw [← ar_ac] at ha
    refine t230_110_at94 w _ _ _ _ _ ?_
    rw [hW.2.1, if_pos (nI_le (Nat.le_refl _) (by omega)), kI_abs2 (by omega) (by omega)]
    show (if nI (arZ (byZ b (fun y => v y % b) U) j q).natAbs < nI b then _ else _)
    by_cases hl : (arZ (byZ b (fun y => v y % b) U) j q).natAbs < b
    · rw [if_pos (nI_lt hl (by omega))]
      refine ⟨?_, rfl⟩
      show nI o = enO (if (arZ (byZ b (fun y => v y % b) U) j q).natAbs < b then some o else none)
      rw [if_pos hl]
      rfl
    · rw [if_neg (nI_nlt (by omega) (by omega))]
      refine ⟨?_, rfl⟩
      show kI (-1) = enO (if (arZ (byZ b (fun y => v y % b) U) j q).natAbs < b then some o else none)
      rw [if_neg hl]
      rfl
  | succ m ih =>
    intro j o h
    have hz := colZ_le hBZ (c := c) (j := j) q
    refine t230_110_at94 w _ _ _ _ _ ?_
    rw [hW.2.1, if_neg (nI_ge (by omega) (by omega))]
    refine l_230c hb1 hb2 hc hq hU hv hW (by omega) ?_ q 0 (Nat.zero_add _)
    refine t230_110_at109 w _ _ _ _ _ _ _ ?_
    rw [hW.1, if_pos (nI_le (Nat.le_refl _) (by omega)), kI_abs2 (by omega) (by omega), k1]
    unfold spC
    by_cases hl : (colZ (byZ b (fun y => v y % b) U) c j q).natAbs < b
    · rw [if_pos (nI_lt hl (by omega)), nI_add]
      simp only [if_pos hl]
      exact ih (j + 1) _ (by omega)
    · rw [if_neg (nI_nlt (by omega) (by omega))]
      simp only [if_neg hl]
      exact ⟨rfl, trivial⟩
theorem l_230 {X : Scr} {d b c q U : Nat} {w : Wd} {v : Nat → Nat} (hb1 : 2 ≤ b) (hb2 : b ≤ 50) (hc : c ≤ 3) (hq : q ≤ 4) (hU : U < 2 ^ 12) (hv : ∀ y, y < c * q → v y ≤ 9999) (hW : W23 w q c v (c * q)) : ∀ (m i o : Nat), i + m = q → EI X (d + 2) 230 (8, [some (.ref 110), some (.int (nI b)), some (.int (nI U)), some (.int (nI o)), some (.int (kI (arZ (byZ b (fun y => v y % b) U) c i))), some (.int (nI i)), none, none], [], SH, w) (fun x u => x = enO (tlR (byZ b (fun y => v y % b) U) b q c m i o) ∧ u = w) := by
  intro m
  have hBZ := byZ_le (b := b) (ρ := fun y => v y % b) (U := U) hb2 (fun y => Nat.mod_lt _ (by omega))
  induction m with
  | zero =>
    intro i o h
    have e : i = q := by omega
    subst e
    refine t230_110_at8 w _ _ _ _ _ ?_
    rw [hW.1, if_pos (nI_le (Nat.le_refl _) (by omega))]
    exact l_230d hb1 hb2 hc hq hU hv hW c 0 o (Nat.zero_add _)
  | succ m ih =>
    intro i o h
    have hz := rowZ_le hBZ (c := c) (i := i) c
    refine t230_110_at8 w _ _ _ _ _ ?_
    rw [hW.1, if_neg (nI_ge (by omega) (by omega))]
    refine l_230r hb1 hb2 hc hq hU hv hW (by omega) ?_ c 0 (Nat.zero_add _)
    refine t230_110_at23 w _ _ _ _ _ _ _ ?_
    rw [hW.2.1, if_pos (nI_le (Nat.le_refl _) (by omega)), kI_abs2 (by omega) (by omega), k1, kI_a]
    have e : tlR (byZ b (fun y => v y % b) U) b q c (m + 1) i o = match (if (rowZ (byZ b (fun y => v y % b) U) c i c).natAbs < b then spR (byZ b (fun y => v y % b) U) b c m (i + 1) (o + (rowZ (byZ b (fun y => v y % b) U) c i c).natAbs) else none) with
      | none => none
      | some o1 => match spC (byZ b (fun y => v y % b) U) b c q c 0 o1 with
        | none => none
        | some o2 => if (arZ (byZ b (fun y => v y % b) U) c q).natAbs < b then some o2 else none := rfl
    rw [e]
    by_cases hl : (rowZ (byZ b (fun y => v y % b) U) c i c).natAbs < b
    · rw [if_pos (nI_lt hl (by omega)), nI_add, if_pos hl]
      exact ih (i + 1) _ (by omega)
    · rw [if_neg (nI_nlt (by omega) (by omega)), if_neg hl]
      exact ⟨rfl, rfl⟩
theorem c_230 {X : Scr} {d b c q U : Nat} {w : Wd} {v : Nat → Nat} (hb1 : 2 ≤ b) (hb2 : b ≤ 50) (hc : c ≤ 3) (hq : q ≤ 4) (hU : U < 2 ^ 12) (hv : ∀ y, y < c * q → v y ≤ 9999) (hW : W23 w q c v (c * q)) : CI X (d + 3) 230 [.ref 110, .int (nI b), .int (nI U)] w (fun x u => x = enO (ofZ (byZ b (fun y => v y % b) U) b q c) ∧ u = w) :=
  CI.of rfl (t230_110_at0 (d := d) w _ _ (l_230 hb1 hb2 hc hq hU hv hW q 0 0 (Nat.zero_add _)))
end TABLER
