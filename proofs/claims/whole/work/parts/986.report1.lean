/-! report, part 1: lines, changes -/
section REPORT1
def clN (y : Int) : Nat := if y < 0 then 0 else if y < 9999 then y.toNat else 9999
theorem clN_le (y : Int) : clN y ≤ 9999 := by
  unfold clN
  split
  · omega
  · split <;> omega
theorem kI_lt {a b : Int} (a1 : -1000000 ≤ a) (a2 : a ≤ 1000000) (b1 : -1000000 ≤ b) (b2 : b ≤ 1000000) : kI a < kI b ↔ a < b := by
  rw [Int32.lt_iff_toInt_lt, kI_toInt a1 a2, kI_toInt b1 b2]
theorem kI_le {a b : Int} (a1 : -1000000 ≤ a) (a2 : a ≤ 1000000) (b1 : -1000000 ≤ b) (b2 : b ≤ 1000000) : kI a ≤ kI b ↔ a ≤ b := by
  rw [Int32.le_iff_toInt_le, kI_toInt a1 a2, kI_toInt b1 b2]
theorem clN_kI {y : Int} : nI (clN y) = if y < 0 then kI 0 else if y < 9999 then kI y else kI 9999 := by
  unfold clN
  by_cases h : y < 0
  · rw [if_pos h, if_pos h]; rfl
  · rw [if_neg h, if_neg h]
    by_cases h2 : y < 9999
    · rw [if_pos h2, if_pos h2, ← kI_of]
      congr 1
      omega
    · rw [if_neg h2, if_neg h2]; rfl
theorem cl_c {y : Int} (h1 : -20000 ≤ y) (h2 : y ≤ 20000) : (if (kI 0) < (if kI y < (kI 9999) then kI y else (kI 9999)) then (if kI y < (kI 9999) then kI y else (kI 9999)) else (kI 0)) = nI (clN y) := by
  rw [clN_kI]
  by_cases h : y < 9999
  · simp only [if_pos (show kI y < kI 9999 from (kI_lt (by omega) (by omega) (by omega) (by omega)).mpr h), if_pos h]
    by_cases h0 : 0 < y
    · rw [if_pos (show kI 0 < kI y from (kI_lt (by omega) (by omega) (by omega) (by omega)).mpr h0), if_neg (by omega)]
    · rw [if_neg (show ¬ kI 0 < kI y from fun e => h0 ((kI_lt (by omega) (by omega) (by omega) (by omega)).mp e))]
      by_cases h3 : y < 0
      · rw [if_pos h3]
      · rw [if_neg h3, show y = 0 by omega]
  · simp only [if_neg (show ¬ kI y < kI 9999 from fun e => h ((kI_lt (by omega) (by omega) (by omega) (by omega)).mp e)), if_neg h]
    rw [if_pos (by decide), if_neg (by omega)]
theorem cl_r {y : Int} {w : Wd} (h1 : -20000 ≤ y) (h2 : y ≤ 20000) : F_159 (kI 0) (F_158 (kI 9999) (kI y) w) w = nI (clN y) := by
  rw [clN_kI]
  unfold F_159 F_158
  by_cases h : y ≤ 9999
  · simp only [if_pos (show kI y ≤ kI 9999 from (kI_le (by omega) (by omega) (by omega) (by omega)).mpr h)]
    by_cases h0 : 0 ≤ y
    · rw [if_pos (show kI 0 ≤ kI y from (kI_le (by omega) (by omega) (by omega) (by omega)).mpr h0), if_neg (by omega)]
      by_cases h3 : y < 9999
      · rw [if_pos h3]
      · rw [if_neg h3, show y = 9999 by omega]
    · rw [if_neg (show ¬ kI 0 ≤ kI y from fun e => h0 ((kI_le (by omega) (by omega) (by omega) (by omega)).mp e)), if_pos (by omega)]
  · simp only [if_neg (show ¬ kI y ≤ kI 9999 from fun e => h ((kI_le (by omega) (by omega) (by omega) (by omega)).mp e))]
    rw [if_pos (by decide), if_neg (by omega), if_neg (by omega)]
theorem ch_7z {w : Wd} {n : Nat → Int32} {c f x : Nat} {z : Int} (hB : BK 7 w n) (hn : ∀ i, i < 36 → nn (n i) 9999) (hc : c < 6) (hf : f < 6) (ex : n (6 * c + f) = nI x) (hx : x ≤ 9999) (z1 : -999 ≤ z) (z2 : z ≤ 999) : BK 7 (G_16_7 (nI c) (nI f) (kI z) w) (upd n (6 * c + f) (nI (clN (x + z)))) ∧ ∀ a, a ≠ 8 → a ≠ 9 → (G_16_7 (nI c) (nI f) (kI z) w) a = w a := by
  obtain ⟨b1, b2, b3, b4, b5, b6, b7, b8, b9⟩ := hB
  have e8 : w 8 (6 * c + f) = nI x := by rw [b1 _ (by omega), ex]
  have eadd : nI x + kI z = kI (x + z) := by rw [← kI_of, kI_a]
  have hcl := clN_le (x + z)
  have eG : G_16_7 (nI c) (nI f) (kI z) w = up2 (up2 (up2 w 9 f (w 9 f - nI x)) 8 (6 * c + f) (nI (clN (x + z)))) 9 f ((w 9 f - nI x) + nI (clN (x + z))) := by
    unfold G_16_7
    rw [if_neg (in5 hc), if_neg (in5 hf), ixB, nI_clamp (show 6 * c + f < 2 ^ 31 by omega), nI_clamp (show f < 2 ^ 31 by omega), e8, eadd, cl_c (by omega) (by omega), up2_at, if_pos rfl, up2_at, if_pos rfl]
  rw [eG]
  refine ⟨⟨fun i hi => ?_, fun g hg => ?_, fun i hi => ?_, fun g k hg hk => ?_, ?_, ?_, ?_, ?_, ?_⟩, fun a h1 h2 => ?_⟩
  · show up2 (up2 (up2 w 9 f _) 8 (6 * c + f) _) 9 f _ 8 i = upd n (6 * c + f) _ i
    rw [up2_ne (by decide), up2_at]
    unfold upd
    by_cases e : i = 6 * c + f
    · rw [if_pos e, if_pos e]
    · rw [if_neg e, if_neg e, up2_ne (by decide)]; exact b1 i hi
  · show up2 (up2 (up2 w 9 f _) 8 (6 * c + f) _) 9 f _ 9 g = _
    rw [up2_at]
    by_cases e : g = f
    · subst e
      rw [if_pos rfl, sum6_upd hc hf hn (by omega), ← b2 g hg, ex]
    · rw [if_neg e, up2_ne (by decide), up2_at, if_neg e, sum6_ne (fun c2 hc2 => by omega)]
      exact b2 g hg
  · show up2 (up2 (up2 w 9 f _) 8 (6 * c + f) _) 9 f _ 10 i = upd n (6 * c + f) _ (36 + i)
    rw [up2_ne (by decide), up2_ne (by decide), up2_ne (by decide)]
    unfold upd
    rw [if_neg (by omega)]
    exact b3 i hi
  · show up2 (up2 (up2 w 9 f _) 8 (6 * c + f) _) 9 f _ 11 (6 * k + g) = upd n (6 * c + f) _ (108 + 8 * g + k)
    rw [up2_ne (by decide), up2_ne (by decide), up2_ne (by decide)]
    unfold upd
    rw [if_neg (by omega)]
    exact b4 g k hg hk
  all_goals first
    | (show up2 (up2 (up2 w 9 f _) 8 (6 * c + f) _) 9 f _ 7 4 = upd n (6 * c + f) _ 157; rw [up2_ne (by decide), up2_ne (by decide), up2_ne (by decide)]; unfold upd; rw [if_neg (by omega)]; exact b5)
    | (show up2 (up2 (up2 w 9 f _) 8 (6 * c + f) _) 9 f _ 7 5 = upd n (6 * c + f) _ 158; rw [up2_ne (by decide), up2_ne (by decide), up2_ne (by decide)]; unfold upd; rw [if_neg (by omega)]; exact b6)
    | (show up2 (up2 (up2 w 9 f _) 8 (6 * c + f) _) 9 f _ 7 6 = upd n (6 * c + f) _ 159; rw [up2_ne (by decide), up2_ne (by decide), up2_ne (by decide)]; unfold upd; rw [if_neg (by omega)]; exact b7)
    | (show up2 (up2 (up2 w 9 f _) 8 (6 * c + f) _) 9 f _ 7 7 = upd n (6 * c + f) _ 160; rw [up2_ne (by decide), up2_ne (by decide), up2_ne (by decide)]; unfold upd; rw [if_neg (by omega)]; exact b8)
    | (show up2 (up2 (up2 w 9 f _) 8 (6 * c + f) _) 9 f _ 7 8 = upd n (6 * c + f) _ 161; rw [up2_ne (by decide), up2_ne (by decide), up2_ne (by decide)]; unfold upd; rw [if_neg (by omega)]; exact b9)
    | (rw [up2_ne h2, up2_ne h1, up2_ne h2])
/-- a line: the fault, or county, figure, change, the place behind -/
def nbF (ch : Nat → Nat) (c f p : Nat) (s : Int) : Int32 ⊕ (Nat × Nat × Int × Nat) := if isD (ch p) then (match rdN ch 3 p 0 with
  | .inl q => .inl (flt (kI 2) q)
  | .inr x => .inr (c, f, s * x.1, x.2)) else .inl (flt (kI 1) p)
def lneF (ch : Nat → Nat) (fc ft : Nat → Bool) (k p : Nat) : Int32 ⊕ (Nat × Nat × Int × Nat) :=
  if 97 ≤ ch p ∧ ch p ≤ 102 then (if 20 ≤ k then .inl (flt (kI 4) p) else if fc (ch p - 97) then (
    if 48 ≤ ch (p + 1) ∧ ch (p + 1) ≤ 53 then (if ft (ch (p + 1) - 48) then (
      if ch (p + 2) = 43 then nbF ch (ch p - 97) (ch (p + 1) - 48) (p + 3) 1 else if ch (p + 2) = 45 then nbF ch (ch p - 97) (ch (p + 1) - 48) (p + 3) (-1) else .inl (flt (kI 1) (p + 2)))
    else .inl (flt (kI 7) (p + 1))) else .inl (flt (kI 1) (p + 1)))
  else .inl (flt (kI 7) p)) else .inl (flt (kI 1) p)
def okL (fc : Nat → Bool) (x : Nat × Nat × Int) : Prop := x.1 < 6 ∧ x.2.1 < 6 ∧ fc x.1 = true ∧ -999 ≤ x.2.2 ∧ x.2.2 ≤ 999
theorem nbF_ok {ch : Nat → Nat} {c f p : Nat} {s : Int} {r : Nat × Nat × Int × Nat} (hs : s = 1 ∨ s = -1) (h : nbF ch c f p s = .inr r) : r.1 = c ∧ r.2.1 = f ∧ -999 ≤ r.2.2.1 ∧ r.2.2.1 ≤ 999 ∧ p ≤ r.2.2.2 := by
  unfold nbF at h
  split at h
  · cases e : rdN ch 3 p 0 with
    | inl q => rw [e] at h; cases h
    | inr x =>
      rw [e] at h
      obtain ⟨a1, a2, a3⟩ := rdN_le 3 p 0 x.1 x.2 e
      cases h
      dsimp only
      refine ⟨rfl, rfl, ?_, ?_, a1⟩ <;> rcases hs with rfl | rfl <;> omega
  · cases h
theorem lneF_ok {ch : Nat → Nat} {fc ft : Nat → Bool} {k p : Nat} {r : Nat × Nat × Int × Nat} (h : lneF ch fc ft k p = .inr r) : okL fc (r.1, r.2.1, r.2.2.1) ∧ k < 20 ∧ p + 3 ≤ r.2.2.2 := by
  unfold lneF at h
  split at h
  · rename_i h1
    split at h
    · cases h
    · rename_i h2
      split at h
      · rename_i h3
        split at h
        · rename_i h4
          split at h
          · split at h
            · obtain ⟨a1, a2, a3, a4, a5⟩ := nbF_ok (Or.inl rfl) h
              exact ⟨⟨by dsimp only; omega, by dsimp only; omega, by dsimp only; rw [a1]; exact h3, a3, a4⟩, by omega, a5⟩
            · split at h
              · obtain ⟨a1, a2, a3, a4, a5⟩ := nbF_ok (Or.inr rfl) h
                exact ⟨⟨by dsimp only; omega, by dsimp only; omega, by dsimp only; rw [a1]; exact h3, a3, a4⟩, by omega, a5⟩
              · cases h
          · cases h
        · cases h
      · cases h
  · cases h
/-- what the class's reader of a line leaves -/
def FL (w u : Wd) : Prop := (∀ a, a ≠ 1 → a ≠ 80 → a ≠ 81 → a ≠ 82 → a ≠ 83 → u a = w a) ∧ ∀ j, j ≠ 3 → j ≠ 4 → u 1 j = w 1 j
def LneC (ch : Nat → Nat) (n k : Nat) (w u : Wd) (x : Int32) (r : Int32 ⊕ (Nat × Nat × Int × Nat)) : Prop := FL w u ∧ (match r with
  | .inl e => x = kI 0 ∧ u 1 4 = e
  | .inr y => x = kI 1 ∧ TXC u ch n y.2.2.2 ∧ u 1 4 = w 1 4 ∧ u 80 5 = nI (k + 1) ∧ u 81 k = nI y.1 ∧ u 82 k = nI y.2.1 ∧ u 83 k = kI y.2.2.1 ∧ ∀ i, i < k → u 81 i = w 81 i ∧ u 82 i = w 82 i ∧ u 83 i = w 83 i)
theorem FL.ft {w u : Wd} (h : FT w u) : FL w u := ⟨fun a h1 _ _ _ _ => h.1 a h1, h.2⟩
theorem FL.trans {w u v : Wd} (h : FL w u) (g : FL u v) : FL w v := ⟨fun a h1 h2 h3 h4 h5 => (g.1 a h1 h2 h3 h4 h5).trans (h.1 a h1 h2 h3 h4 h5), fun j h1 h2 => (g.2 j h1 h2).trans (h.2 j h1 h2)⟩
theorem FL.p {w : Wd} {a k : Nat} {v : Int32} (ha : a = 80 ∨ a = 81 ∨ a = 82 ∨ a = 83) : FL w (up2 w a k v) := ⟨fun b h1 h2 h3 h4 h5 => up2_ne (by omega), fun j _ _ => by rw [up2_ne (by omega)]⟩
theorem c_88 {X : Scr} {d n k p c f : Nat} {w0 w : Wd} {ch : Nat → Nat} {fr : Nat × Nat} (hk : k < 20) (hT : TXC w ch n p) (h5 : w 80 5 = nI k) (hFL : FL w0 w) (h14 : w 1 4 = w0 1 4) (h81 : w 81 k = nI c) (h82 : w 82 k = nI f) (hold : ∀ i, i < k → w 81 i = w0 81 i ∧ w 82 i = w0 82 i ∧ w 83 i = w0 83 i) : CI X (d + 6) 88 [.ref 80] w (fun x u => (x = 0 ∨ x = 1) ∧ LneC ch n k w0 u x (if ch p = 43 then nbF ch c f (p + 1) 1 else if ch p = 45 then nbF ch c f (p + 1) (-1) else .inl (flt (kI 1) p))) := by
  have hle := hT.le
  refine CI.of rfl (t88_80_at0 (d := d + 3) w ⟨hT.ix, ?_⟩)
  rw [hT.sg]
  have num : ∀ (s : Int) (gg : Int32 → Int32), (∀ x : Nat, gg (nI x) = kI (s * x)) → ch p < 256 → CI X (d + 5) 114 [.ref 1, .int (kI 3)] (G_112_1 w) (fun x1 w1 => (if x1 = (kI (-1)) then (((kI 0) = 0 ∨ (kI 0) = 1) ∧ LneC ch n k w0 w1 (kI 0) (nbF ch c f (p + 1) s)) else (if (w1 80 5) < (kI 20) then (inB (w1 80 5) 20 = true ∧ (((kI 1) = 0 ∨ (kI 1) = 1) ∧ LneC ch n k w0 (up2 (up2 w1 83 (w1 80 5).toNatClampNeg (gg x1)) 80 5 ((w1 80 5) + (kI 1))) (kI 1) (nbF ch c f (p + 1) s))) else (((kI 0) = 0 ∨ (kI 0) = 1) ∧ LneC ch n k w0 w1 (kI 0) (nbF ch c f (p + 1) s))))) := by
    intro s gg hgg hlt
    have hT2 : TXC (G_112_1 w) ch n (p + 1) := hT.step hlt
    have hFT : FT w (G_112_1 w) := FT.p (Or.inl rfl)
    refine c_114 (d := d + 1) (N := 3) (by decide) hT2 (fun h0 => ?_) (fun h0 x q hr u2 f2 t2 e2 => ?_) (fun h0 q hr u2 f2 t2 e2 => ?_)
    · rw [if_pos rfl]
      refine ⟨Or.inl rfl, hFL.trans (FL.ft (hFT.trans (FT.p (Or.inr rfl)))), ?_⟩
      unfold nbF
      rw [h0, if_neg (by decide)]
      exact ⟨rfl, by rw [up2_at, if_pos rfl]⟩
    · have hx := (rdN_le 3 (p + 1) 0 x q hr).2.2
      have fr2 : ∀ a, a ≠ 1 → u2 a = w a := fun a ha => by rw [f2.1 a ha, hFT.1 a ha]
      have e5 : u2 80 5 = nI k := by rw [fr2 80 (by decide)]; exact h5
      rw [if_neg (nI_m1 (by omega)), e5, if_pos (show nI k < kI 20 from nI_lt (b := 20) hk (by decide)), nI_clamp (by omega), k1, hgg]
      refine ⟨inB_nI hk (by decide), Or.inr rfl, (hFL.trans (FL.ft (hFT.trans f2))).trans ((FL.p (Or.inr (Or.inr (Or.inr rfl)))).trans (FL.p (Or.inl rfl))), ?_⟩
      unfold nbF
      rw [h0, if_pos rfl, hr]
      dsimp only
      refine ⟨rfl, t2.cg (by rw [up2_ne (by decide), up2_ne (by decide)]) (by rw [up2_ne (by decide), up2_ne (by decide)]) (by rw [up2_ne (by decide), up2_ne (by decide)]) (by rw [up2_ne (by decide), up2_ne (by decide)]), ?_, ?_, ?_, ?_, ?_, fun i hi => ⟨?_, ?_, ?_⟩⟩
      · rw [up2_ne (by decide), up2_ne (by decide), e2]
        show up2 w 1 3 _ 1 4 = _
        rw [up2_at, if_neg (by decide)]
        exact h14
      · rw [up2_at, if_pos rfl]
      · rw [up2_ne (by decide), up2_ne (by decide), fr2 81 (by decide)]; exact h81
      · rw [up2_ne (by decide), up2_ne (by decide), fr2 82 (by decide)]; exact h82
      · rw [up2_ne (by decide), up2_at, if_pos rfl]
      · rw [up2_ne (by decide), up2_ne (by decide), fr2 81 (by decide)]; exact (hold i hi).1
      · rw [up2_ne (by decide), up2_ne (by decide), fr2 82 (by decide)]; exact (hold i hi).2.1
      · rw [up2_ne (by decide), up2_at, if_neg (by omega), fr2 83 (by decide)]; exact (hold i hi).2.2
    · rw [if_pos rfl]
      refine ⟨Or.inl rfl, hFL.trans (FL.ft (hFT.trans f2)), ?_⟩
      unfold nbF
      rw [h0, if_pos rfl, hr]
      exact ⟨rfl, e2⟩
  by_cases h43 : ch p = 43
  · rw [if_pos (show enC (ch p) = kI 43 from (enC_eq (k := 43) (by decide)).mpr h43), if_pos h43]
    exact num 1 (fun x => x) (fun x => by rw [Int.one_mul]; rfl) (by omega)
  · rw [if_neg (show ¬ enC (ch p) = kI 43 from fun e => h43 ((enC_eq (k := 43) (by decide)).mp e)), if_neg h43]
    by_cases h45 : ch p = 45
    · rw [if_pos (show enC (ch p) = kI 45 from (enC_eq (k := 45) (by decide)).mpr h45), if_pos h45]
      exact num (-1) (fun x => -x) (fun x => by rw [nI_neg]; congr 1; omega) (by omega)
    · rw [if_neg (show ¬ enC (ch p) = kI 45 from fun e => h45 ((enC_eq (k := 45) (by decide)).mp e)), if_neg h45, hT.fail]
      exact ⟨Or.inl rfl, hFL.trans (FL.ft (FT.p (Or.inr rfl))), rfl, by rw [up2_at, if_pos rfl]⟩
end REPORT1
