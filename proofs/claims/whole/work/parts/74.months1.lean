/-! months, part 1: what the letters are, sums, one count more -/
section MONTHS1
/-- the values of the letters for county c, figure f, month mo; n the row -/
def Vof (n : Nat → Int32) (T Pp : Nat → Int32) (c f : Nat) (mo : Int32) : Nat → Int32 := fun j => if j = 0 then nI c else if j = 1 then nI f else if j = 2 then n (6 * c + f) else if j = 3 then sum6 n f else if j = 4 then T f else if j = 5 then Pp c else if j = 6 then mo else if j = 7 then n 158 else kI 0
def mn9 (x : Int32) : Int32 := if x < kI 9999 then x else kI 9999
theorem kc (n : Nat) (h : n < 2 ^ 31) : (nI n).toNatClampNeg = n := nI_clamp h
theorem fill_ne {w : Wd} {r n c : Nat} {v : Int32} (h : c ≠ r) : fillW w r n v c = w c := if_neg h
theorem fill_at {w : Wd} {r n : Nat} {v : Int32} (j : Nat) : fillW w r n v r j = if j < n then v else w r j := by simp [fillW]
/-- sumOf of the reference -/
theorem c_167 {X : Scr} {d f : Nat} {w : Wd} (hf : f < 6) (hz : ∀ c, c < 6 → F_164_110 (nI c) w = 0 → w 111 (6 * c + f) = 0) : CI X (d + 3) 167 [.ref 110, .int (nI f)] w (fun x u2 => x = sum6 (w 111) f ∧ u2 = w) := by
  refine CI.of rfl (t167_110_at0 w _ ?_)
  have step : ∀ (c : Nat) (a : Int32) (Q : Int32 → Wd → Prop), c < 6 → EI X (d + 2) 167 (4, [some (.ref 110), some (.int (nI f)), some (.int (a + w 111 (6 * c + f))), some (.int (nI (c + 1)))], [], SH, w) Q → EI X (d + 2) 167 (4, [some (.ref 110), some (.int (nI f)), some (.int a), some (.int (nI c))], [], SH, w) Q := by
    intro c a Q hc H
    refine t167_110_at4 w _ _ _ ?_
    rw [if_neg (lt_6 c hc), k1]
    by_cases h0 : F_164_110 (nI c) w = 0
    · rw [if_pos h0, add0]
      rw [hz c hc h0, show a + 0 = a from Int32.add_zero a] at H
      exact H
    · rw [if_neg h0, ixC, countR hc hf]
      exact ⟨inB_nI (by omega) (by decide), H⟩
  refine step 0 _ _ (by decide) (step 1 _ _ (by decide) (step 2 _ _ (by decide) (step 3 _ _ (by decide) (step 4 _ _ (by decide) (step 5 _ _ (by decide) ?_)))))
  refine t167_110_at4 w _ _ _ ?_
  rw [if_pos (by decide)]
  refine ⟨?_, rfl⟩
  unfold sum6
  rw [zadd]
  simp only [Nat.mul_zero, Nat.zero_add]
/-- feels -/
theorem lz_201 {X : Scr} {d : Nat} {w : Wd} {v1 v2 v3 : Int32} {Q : Wd → Prop} (kk : EU X (d + 1) 201 (3, [some (.ref 110), some (.int v1), some (.int v2), some (.int v3), some (.int (nI 12))], [], SH, fillW w 130 12 (kI 0)) Q) : ∀ (m n : Nat), n + m = 12 → EU X (d + 1) 201 (3, [some (.ref 110), some (.int v1), some (.int v2), some (.int v3), some (.int (nI n))], [], SH, fillW w 130 n (kI 0)) Q := by
  intro m
  induction m with
  | zero =>
    intro n h
    have hn : n = 12 := by omega
    subst hn
    exact kk
  | succ m ih =>
    intro n h
    refine t201_110_at3 _ _ _ _ _ ?_
    rw [if_neg (lt_12 n (by omega)), k1, nI_clamp (by omega), fillW_up]
    exact ⟨inB_nI (by omega) (by decide), ih (n + 1) (by omega)⟩
theorem c_201 {X : Scr} {d c f : Nat} {w : Wd} {mo : Int32} (hc : c < 6) (hf : f < 6) (hz : ∀ c, c < 6 → F_164_110 (nI c) w = 0 → w 111 (6 * c + f) = 0) : CU X (d + 4) 201 [.ref 110, .int (nI c), .int (nI f), .int mo] w (fun u2 => (∀ j, j < 12 → u2 130 j = Vof (w 111) (w 116) (w 114) c f mo j) ∧ ∀ a, a ≠ 130 → u2 a = w a) := by
  refine CU.of rfl (t201_110_at0 (d := d + 2) w _ _ _ ?_)
  have z := lz_201 (X := X) (d := d + 2) (w := w) (v1 := nI c) (v2 := nI f) (v3 := mo) (Q := fun u2 => (∀ j, j < 12 → u2 130 j = Vof (w 111) (w 116) (w 114) c f mo j) ∧ ∀ a, a ≠ 130 → u2 a = w a) ?_ 12 0 rfl
  · rw [fillW_0] at z
    exact z
  · refine t201_110_at3 _ _ _ _ _ ?_
    rw [if_pos (by decide), ixC]
    refine ⟨inB_nI (by omega) (by decide), ?_⟩
    have c167 := c_167 (X := X) (d := d) (f := f) (w := up2 (up2 (up2 (fillW w 130 12 (kI 0)) 130 (kI 0).toNatClampNeg (nI c)) 130 (kI 1).toNatClampNeg (nI f)) 130 (kI 2).toNatClampNeg (F_166_110 (nI c) (nI f) (up2 (up2 (fillW w 130 12 (kI 0)) 130 (kI 0).toNatClampNeg (nI c)) 130 (kI 1).toNatClampNeg (nI f)))) hf hz
    refine CI.mono c167 ?_
    intro x ua hx
    obtain ⟨rfl, rfl⟩ := hx
    rw [countR hc hf, nI_clamp (by omega), nI_clamp (by omega)]
    refine ⟨inB_nI hf (by decide), inB_nI hc (by decide), ?_, ?_⟩
    · intro j hj
      match j, hj with
      | 0, _ => rfl
      | 1, _ => rfl
      | 2, _ => rfl
      | 3, _ => rfl
      | 4, _ => rfl
      | 5, _ => rfl
      | 6, _ => rfl
      | 7, _ => rfl
      | 8, _ => rfl
      | 9, _ => rfl
      | 10, _ => rfl
      | 11, _ => rfl
      | n + 12, h => omega
    · intro a ha
      rw [up2_ne ha, up2_ne ha, up2_ne ha, up2_ne ha, up2_ne ha, up2_ne ha, up2_ne ha, up2_ne ha, fill_ne ha]
/-- a number 0 .. 9999 more by 0 .. 200, at most 9999 -/
theorem mn9_nI (a : Nat) (ha : a < 2 ^ 30) : mn9 (nI a) = nI (min a 9999) := by
  unfold mn9
  by_cases h : a < 9999
  · rw [if_pos (show nI a < kI 9999 from nI_lt (b := 9999) h (by decide)), Nat.min_eq_left (by omega)]
  · rw [if_neg (show ¬ nI a < kI 9999 from nI_nlt (b := 9999) (by omega) (by omega)), Nat.min_eq_right (by omega)]; rfl
theorem min158 (a : Nat) (w : Wd) (ha : a < 2 ^ 30) : F_158 (kI 9999) (nI a) w = mn9 (nI a) := by
  rw [mn9_nI a ha]
  unfold F_158
  by_cases h : a ≤ 9999
  · rw [if_pos (show nI a ≤ kI 9999 from nI_le (b := 9999) h (by decide)), Nat.min_eq_left h]
  · rw [if_neg (show ¬ nI a ≤ kI 9999 from nI_ge (a := 9999) (by omega) (by omega)), Nat.min_eq_right (by omega)]; rfl
theorem sum6_nI {n : Nat → Int32} {x : Nat → Nat} {f : Nat} (hf : f < 6) (h : ∀ i, i < 36 → n i = nI (x i)) : sum6 n f = nI (x f + x (6 + f) + x (12 + f) + x (18 + f) + x (24 + f) + x (30 + f)) := by
  unfold sum6
  rw [h f (by omega), h (6 + f) (by omega), h (12 + f) (by omega), h (18 + f) (by omega), h (24 + f) (by omega), h (30 + f) (by omega), nI_add, nI_add, nI_add, nI_add, nI_add]
/-- a figure's sum, where one count of it has changed -/
theorem sum6_upd {n : Nat → Int32} {c f : Nat} {v : Nat} (hc : c < 6) (hf : f < 6) (h : ∀ i, i < 36 → nn (n i) 9999) (hv : v ≤ 9999) : sum6 (upd n (6 * c + f) (nI v)) f = (sum6 n f - n (6 * c + f)) + nI v := by
  have hx : ∀ i, i < 36 → n i = nI (n i).toNatClampNeg ∧ (n i).toNatClampNeg ≤ 9999 := by
    intro i hi
    obtain ⟨m, hm, e⟩ := h i hi
    rw [e, nI_clamp (by omega)]
    exact ⟨rfl, hm⟩
  rw [sum6_nI (x := fun i => (n i).toNatClampNeg) hf (fun i hi => (hx i hi).1)]
  rw [sum6_nI (x := fun i => if i = 6 * c + f then v else (n i).toNatClampNeg) hf (fun i hi => by
    unfold upd
    by_cases e : i = 6 * c + f
    · rw [if_pos e, if_pos e]
    · rw [if_neg e, if_neg e]; exact (hx i hi).1)]
  rw [(hx (6 * c + f) (by omega)).1]
  have b0 := (hx f (by omega)).2
  have b1 := (hx (6 + f) (by omega)).2
  have b2 := (hx (12 + f) (by omega)).2
  have b3 := (hx (18 + f) (by omega)).2
  have b4 := (hx (24 + f) (by omega)).2
  have b5 := (hx (30 + f) (by omega)).2
  match c, hc with
  | 0, _ =>
    simp only [Nat.mul_zero, Nat.zero_add, if_true, if_neg (show ¬ 6 + f = f by omega), if_neg (show ¬ 12 + f = f by omega), if_neg (show ¬ 18 + f = f by omega), if_neg (show ¬ 24 + f = f by omega), if_neg (show ¬ 30 + f = f by omega)]
    rw [pk_sub (by omega), nI_add]; congr 1; omega
  | 1, _ =>
    simp only [Nat.mul_one, if_true, if_neg (show ¬ f = 6 + f by omega), if_neg (show ¬ 12 + f = 6 + f by omega), if_neg (show ¬ 18 + f = 6 + f by omega), if_neg (show ¬ 24 + f = 6 + f by omega), if_neg (show ¬ 30 + f = 6 + f by omega)]
    rw [pk_sub (by omega), nI_add]; congr 1; omega
  | 2, _ =>
    simp only [show 6 * 2 = 12 from rfl, if_true, if_neg (show ¬ f = 12 + f by omega), if_neg (show ¬ 6 + f = 12 + f by omega), if_neg (show ¬ 18 + f = 12 + f by omega), if_neg (show ¬ 24 + f = 12 + f by omega), if_neg (show ¬ 30 + f = 12 + f by omega)]
    rw [pk_sub (by omega), nI_add]; congr 1; omega
  | 3, _ =>
    simp only [show 6 * 3 = 18 from rfl, if_true, if_neg (show ¬ f = 18 + f by omega), if_neg (show ¬ 6 + f = 18 + f by omega), if_neg (show ¬ 12 + f = 18 + f by omega), if_neg (show ¬ 24 + f = 18 + f by omega), if_neg (show ¬ 30 + f = 18 + f by omega)]
    rw [pk_sub (by omega), nI_add]; congr 1; omega
  | 4, _ =>
    simp only [show 6 * 4 = 24 from rfl, if_true, if_neg (show ¬ f = 24 + f by omega), if_neg (show ¬ 6 + f = 24 + f by omega), if_neg (show ¬ 12 + f = 24 + f by omega), if_neg (show ¬ 18 + f = 24 + f by omega), if_neg (show ¬ 30 + f = 24 + f by omega)]
    rw [pk_sub (by omega), nI_add]; congr 1; omega
  | 5, _ =>
    simp only [show 6 * 5 = 30 from rfl, if_true, if_neg (show ¬ f = 30 + f by omega), if_neg (show ¬ 6 + f = 30 + f by omega), if_neg (show ¬ 12 + f = 30 + f by omega), if_neg (show ¬ 18 + f = 30 + f by omega), if_neg (show ¬ 24 + f = 30 + f by omega)]
    rw [pk_sub (by omega), nI_add]; congr 1; omega
  | k + 6, h => omega
theorem sum6_ne {n : Nat → Int32} {i f : Nat} {v : Int32} (hi : ∀ c, c < 6 → i ≠ 6 * c + f) : sum6 (upd n i v) f = sum6 n f := by
  have e : ∀ j, j ≠ i → upd n i v j = n j := fun j hj => if_neg hj
  have h0 := hi 0 (by omega); have h1 := hi 1 (by omega); have h2 := hi 2 (by omega); have h3 := hi 3 (by omega); have h4 := hi 4 (by omega); have h5 := hi 5 (by omega)
  unfold sum6
  rw [e _ (by omega), e _ (by omega), e _ (by omega), e _ (by omega), e _ (by omega), e _ (by omega)]
/-- tellValues, of the Books at 7 -/
theorem tv_7 {w : Wd} {n : Nat → Int32} {c f : Nat} {mo : Int32} (hB : BK 7 w n) (hc : c < 6) (hf : f < 6) : (∀ j, j < 12 → (G_28_87_7 (nI c) (nI f) mo w) 85 j = Vof n (w 5) (w 4) c f mo j) ∧ ∀ a, a ≠ 85 → (G_28_87_7 (nI c) (nI f) mo w) a = w a := by
  obtain ⟨b1, b2, b3, b4, b5, b6, b7, b8, b9⟩ := hB
  unfold G_28_87_7
  rw [countOf7 hc hf, sumOf7 hf, targetOf_nI hf, peopleOf_nI hc]
  refine ⟨fun j hj => ?_, fun a ha => ?_⟩
  · match j, hj with
    | 0, _ => rfl
    | 1, _ => rfl
    | 2, _ => exact b1 _ (by omega)
    | 3, _ => exact b2 _ hf
    | 4, _ => rfl
    | 5, _ => rfl
    | 6, _ => rfl
    | 7, _ => exact b6
    | 8, _ => rfl
    | 9, _ => rfl
    | 10, _ => rfl
    | 11, _ => rfl
    | k + 12, h => omega
  · rw [up2_ne ha, up2_ne ha, up2_ne ha, up2_ne ha, up2_ne ha, up2_ne ha, up2_ne ha, up2_ne ha]
    exact fill_ne ha
/-- change: one count more by m -/
theorem ch_7 {w : Wd} {n : Nat → Int32} {c f m : Nat} (hB : BK 7 w n) (hn : ∀ i, i < 36 → nn (n i) 9999) (hc : c < 6) (hf : f < 6) (hm : m ≤ 200) : BK 7 (G_16_7 (nI c) (nI f) (nI m) w) (upd n (6 * c + f) (mn9 (n (6 * c + f) + nI m))) ∧ ∀ a, a ≠ 8 → a ≠ 9 → (G_16_7 (nI c) (nI f) (nI m) w) a = w a := by
  obtain ⟨b1, b2, b3, b4, b5, b6, b7, b8, b9⟩ := hB
  obtain ⟨x, hx, ex⟩ := hn (6 * c + f) (by omega)
  have e8 : w 8 (6 * c + f) = nI x := by rw [b1 _ (by omega), ex]
  have emn : mn9 (n (6 * c + f) + nI m) = nI (min (x + m) 9999) := by rw [ex, nI_add, mn9_nI _ (by omega)]
  have emx : (if (kI 0) < (if (nI (x + m)) < (kI 9999) then (nI (x + m)) else (kI 9999)) then (if (nI (x + m)) < (kI 9999) then (nI (x + m)) else (kI 9999)) else (kI 0)) = nI (min (x + m) 9999) := by
    rw [show (if (nI (x + m)) < (kI 9999) then (nI (x + m)) else (kI 9999)) = nI (min (x + m) 9999) from mn9_nI _ (by omega)]
    by_cases h0 : min (x + m) 9999 = 0
    · rw [h0]; rfl
    · rw [if_pos (show kI 0 < nI (min (x + m) 9999) from nI_lt (a := 0) (by omega) (by omega))]
  rw [emn]
  have eG : G_16_7 (nI c) (nI f) (nI m) w = up2 (up2 (up2 w 9 f (w 9 f - nI x)) 8 (6 * c + f) (nI (min (x + m) 9999))) 9 f ((w 9 f - nI x) + nI (min (x + m) 9999)) := by
    unfold G_16_7
    rw [if_neg (in5 hc), if_neg (in5 hf), ixB, nI_clamp (show 6 * c + f < 2 ^ 31 by omega), nI_clamp (show f < 2 ^ 31 by omega), e8, nI_add, emx, up2_at, if_pos rfl, up2_at, if_pos rfl]
  rw [eG]
  refine ⟨⟨fun i hi => ?_, fun g hg => ?_, fun i hi => ?_, fun g k hg hk => ?_, ?_, ?_, ?_, ?_, ?_⟩, fun a h1 h2 => ?_⟩
  · show up2 (up2 (up2 w 9 f _) 8 (6 * c + f) _) 9 f _ 8 i = upd n (6 * c + f) _ i
    rw [up2_ne (by decide), up2_at]
    unfold upd
    by_cases e : i = 6 * c + f
    · rw [if_pos e, if_pos e]
    · rw [if_neg e, if_neg e, up2_ne (by decide)]; exact b1 i hi
  · show up2 (up2 (up2 w 9 f _) 8 (6 * c + f) _) 9 f _ 9 g = _
    rw [up2_at]
    by_cases e : g = f
    · subst e
      rw [if_pos rfl, sum6_upd hc hf hn (by omega), ← b2 g hg, ex]
    · rw [if_neg e, up2_ne (by decide), up2_at, if_neg e, sum6_ne (fun c2 hc2 => by omega)]
      exact b2 g hg
  · show up2 (up2 (up2 w 9 f _) 8 (6 * c + f) _) 9 f _ 10 i = upd n (6 * c + f) _ (36 + i)
    rw [up2_ne (by decide), up2_ne (by decide), up2_ne (by decide)]
    unfold upd
    rw [if_neg (by omega)]
    exact b3 i hi
  · show up2 (up2 (up2 w 9 f _) 8 (6 * c + f) _) 9 f _ 11 (6 * k + g) = upd n (6 * c + f) _ (108 + 8 * g + k)
    rw [up2_ne (by decide), up2_ne (by decide), up2_ne (by decide)]
    unfold upd
    rw [if_neg (by omega)]
    exact b4 g k hg hk
  all_goals first
    | (show up2 (up2 (up2 w 9 f _) 8 (6 * c + f) _) 9 f _ 7 4 = upd n (6 * c + f) _ 157; rw [up2_ne (by decide), up2_ne (by decide), up2_ne (by decide)]; unfold upd; rw [if_neg (by omega)]; exact b5)
    | (show up2 (up2 (up2 w 9 f _) 8 (6 * c + f) _) 9 f _ 7 5 = upd n (6 * c + f) _ 158; rw [up2_ne (by decide), up2_ne (by decide), up2_ne (by decide)]; unfold upd; rw [if_neg (by omega)]; exact b6)
    | (show up2 (up2 (up2 w 9 f _) 8 (6 * c + f) _) 9 f _ 7 6 = upd n (6 * c + f) _ 159; rw [up2_ne (by decide), up2_ne (by decide), up2_ne (by decide)]; unfold upd; rw [if_neg (by omega)]; exact b7)
    | (show up2 (up2 (up2 w 9 f _) 8 (6 * c + f) _) 9 f _ 7 7 = upd n (6 * c + f) _ 160; rw [up2_ne (by decide), up2_ne (by decide), up2_ne (by decide)]; unfold upd; rw [if_neg (by omega)]; exact b8)
    | (show up2 (up2 (up2 w 9 f _) 8 (6 * c + f) _) 9 f _ 7 8 = upd n (6 * c + f) _ 161; rw [up2_ne (by decide), up2_ne (by decide), up2_ne (by decide)]; unfold upd; rw [if_neg (by omega)]; exact b9)
    | (rw [up2_ne h2, up2_ne h1, up2_ne h2])
/-- tellValues, of the Books at 17 -/
theorem tv_17 {w : Wd} {n : Nat → Int32} {c f : Nat} {mo : Int32} (hB : BK 17 w n) (hc : c < 6) (hf : f < 6) : (∀ j, j < 12 → (G_28_87_17 (nI c) (nI f) mo w) 85 j = Vof n (w 5) (w 4) c f mo j) ∧ ∀ a, a ≠ 85 → (G_28_87_17 (nI c) (nI f) mo w) a = w a := by
  obtain ⟨b1, b2, b3, b4, b5, b6, b7, b8, b9⟩ := hB
  unfold G_28_87_17
  rw [countOf17 hc hf, sumOf17 hf, targetOf_nI hf, peopleOf_nI hc]
  refine ⟨fun j hj => ?_, fun a ha => ?_⟩
  · match j, hj with
    | 0, _ => rfl
    | 1, _ => rfl
    | 2, _ => exact b1 _ (by omega)
    | 3, _ => exact b2 _ hf
    | 4, _ => rfl
    | 5, _ => rfl
    | 6, _ => rfl
    | 7, _ => exact b6
    | 8, _ => rfl
    | 9, _ => rfl
    | 10, _ => rfl
    | 11, _ => rfl
    | k + 12, h => omega
  · rw [up2_ne ha, up2_ne ha, up2_ne ha, up2_ne ha, up2_ne ha, up2_ne ha, up2_ne ha, up2_ne ha]
    exact fill_ne ha
/-- change: one count more by m -/
theorem ch_17 {w : Wd} {n : Nat → Int32} {c f m : Nat} (hB : BK 17 w n) (hn : ∀ i, i < 36 → nn (n i) 9999) (hc : c < 6) (hf : f < 6) (hm : m ≤ 200) : BK 17 (G_16_17 (nI c) (nI f) (nI m) w) (upd n (6 * c + f) (mn9 (n (6 * c + f) + nI m))) ∧ ∀ a, a ≠ 18 → a ≠ 19 → (G_16_17 (nI c) (nI f) (nI m) w) a = w a := by
  obtain ⟨b1, b2, b3, b4, b5, b6, b7, b8, b9⟩ := hB
  obtain ⟨x, hx, ex⟩ := hn (6 * c + f) (by omega)
  have e8 : w 18 (6 * c + f) = nI x := by rw [b1 _ (by omega), ex]
  have emn : mn9 (n (6 * c + f) + nI m) = nI (min (x + m) 9999) := by rw [ex, nI_add, mn9_nI _ (by omega)]
  have emx : (if (kI 0) < (if (nI (x + m)) < (kI 9999) then (nI (x + m)) else (kI 9999)) then (if (nI (x + m)) < (kI 9999) then (nI (x + m)) else (kI 9999)) else (kI 0)) = nI (min (x + m) 9999) := by
    rw [show (if (nI (x + m)) < (kI 9999) then (nI (x + m)) else (kI 9999)) = nI (min (x + m) 9999) from mn9_nI _ (by omega)]
    by_cases h0 : min (x + m) 9999 = 0
    · rw [h0]; rfl
    · rw [if_pos (show kI 0 < nI (min (x + m) 9999) from nI_lt (a := 0) (by omega) (by omega))]
  rw [emn]
  have eG : G_16_17 (nI c) (nI f) (nI m) w = up2 (up2 (up2 w 19 f (w 19 f - nI x)) 18 (6 * c + f) (nI (min (x + m) 9999))) 19 f ((w 19 f - nI x) + nI (min (x + m) 9999)) := by
    unfold G_16_17
    rw [if_neg (in5 hc), if_neg (in5 hf), ixB, nI_clamp (show 6 * c + f < 2 ^ 31 by omega), nI_clamp (show f < 2 ^ 31 by omega), e8, nI_add, emx, up2_at, if_pos rfl, up2_at, if_pos rfl]
  rw [eG]
  refine ⟨⟨fun i hi => ?_, fun g hg => ?_, fun i hi => ?_, fun g k hg hk => ?_, ?_, ?_, ?_, ?_, ?_⟩, fun a h1 h2 => ?_⟩
  · show up2 (up2 (up2 w 19 f _) 18 (6 * c + f) _) 19 f _ 18 i = upd n (6 * c + f) _ i
    rw [up2_ne (by decide), up2_at]
    unfold upd
    by_cases e : i = 6 * c + f
    · rw [if_pos e, if_pos e]
    · rw [if_neg e, if_neg e, up2_ne (by decide)]; exact b1 i hi
  · show up2 (up2 (up2 w 19 f _) 18 (6 * c + f) _) 19 f _ 19 g = _
    rw [up2_at]
    by_cases e : g = f
    · subst e
      rw [if_pos rfl, sum6_upd hc hf hn (by omega), ← b2 g hg, ex]
    · rw [if_neg e, up2_ne (by decide), up2_at, if_neg e, sum6_ne (fun c2 hc2 => by omega)]
      exact b2 g hg
  · show up2 (up2 (up2 w 19 f _) 18 (6 * c + f) _) 19 f _ 20 i = upd n (6 * c + f) _ (36 + i)
    rw [up2_ne (by decide), up2_ne (by decide), up2_ne (by decide)]
    unfold upd
    rw [if_neg (by omega)]
    exact b3 i hi
  · show up2 (up2 (up2 w 19 f _) 18 (6 * c + f) _) 19 f _ 21 (6 * k + g) = upd n (6 * c + f) _ (108 + 8 * g + k)
    rw [up2_ne (by decide), up2_ne (by decide), up2_ne (by decide)]
    unfold upd
    rw [if_neg (by omega)]
    exact b4 g k hg hk
  all_goals first
    | (show up2 (up2 (up2 w 19 f _) 18 (6 * c + f) _) 19 f _ 17 4 = upd n (6 * c + f) _ 157; rw [up2_ne (by decide), up2_ne (by decide), up2_ne (by decide)]; unfold upd; rw [if_neg (by omega)]; exact b5)
    | (show up2 (up2 (up2 w 19 f _) 18 (6 * c + f) _) 19 f _ 17 5 = upd n (6 * c + f) _ 158; rw [up2_ne (by decide), up2_ne (by decide), up2_ne (by decide)]; unfold upd; rw [if_neg (by omega)]; exact b6)
    | (show up2 (up2 (up2 w 19 f _) 18 (6 * c + f) _) 19 f _ 17 6 = upd n (6 * c + f) _ 159; rw [up2_ne (by decide), up2_ne (by decide), up2_ne (by decide)]; unfold upd; rw [if_neg (by omega)]; exact b7)
    | (show up2 (up2 (up2 w 19 f _) 18 (6 * c + f) _) 19 f _ 17 7 = upd n (6 * c + f) _ 160; rw [up2_ne (by decide), up2_ne (by decide), up2_ne (by decide)]; unfold upd; rw [if_neg (by omega)]; exact b8)
    | (show up2 (up2 (up2 w 19 f _) 18 (6 * c + f) _) 19 f _ 17 8 = upd n (6 * c + f) _ 161; rw [up2_ne (by decide), up2_ne (by decide), up2_ne (by decide)]; unfold upd; rw [if_neg (by omega)]; exact b9)
    | (rw [up2_ne h2, up2_ne h1, up2_ne h2])
end MONTHS1
