/-! months, part 2: what happens -/
section MONTHS2
/-- rows that there can be (apart from the counties told) -/
def NVn (n : Nat → Int32) : Prop := (∀ i, i < 36 → nn (n i) 9999) ∧ (∀ i, i < 72 → nn (n (36 + i)) 9999) ∧ nn (n 157) 11 ∧ nn (n 158) 999 ∧ nn (n 159) 9999 ∧ nn (n 161) 65535
theorem clmp_nn (x : Int32) (v : Nat) (hv : v < 2 ^ 31) : nn (clmp x (nI v)) v := by
  unfold clmp
  by_cases h : 0 ≤ x
  · rw [if_pos h]
    obtain ⟨j, hj, rfl⟩ := nI_of (Int32.not_lt.mpr h)
    by_cases h2 : nI j ≤ nI v
    · rw [if_pos h2]
      rw [nI_leI hj hv] at h2
      exact ⟨j, h2, rfl⟩
    · rw [if_neg h2]; exact ⟨v, Nat.le_refl _, rfl⟩
  · rw [if_neg h]; exact ⟨0, Nat.zero_le _, rfl⟩
theorem askF_nn {lt C E : Nat → Int32} {l : Int32} {v : Nat} (hv : v < 2 ^ 31) : ∀ m q, nn (askF lt C E l (nI v) m q) v
  | 0, _ => ⟨0, Nat.zero_le _, rfl⟩
  | m + 1, q => by
    unfold askF
    split
    · exact clmp_nn _ v hv
    · exact askF_nn hv m (q + 1)
def drw (x : Int32) : Int32 := ((kI 25173 * x) + kI 13849) &&& kI 65535
def rm10 (z : Int32) : Int32 := z - z / kI 10 * kI 10
def mnyN (AN AD : (Nat → Int32) → Int32) (V : Nat → Int32) (z : Int32) : Int32 := if AD V ≤ rm10 z then AN V else AN V + kI 1
def hapN (AN AD XL : (Nat → Int32) → Int32) (T Pp : Nat → Int32) (c f : Nat) (n : Nat → Int32) : Nat → Int32 :=
  if XL (Vof n T Pp c f (n 157)) = 0 then upd (upd (upd n 161 (drw (n 161))) (6 * c + f) (mn9 (n (6 * c + f) + mnyN AN AD (Vof n T Pp c f (n 157)) (drw (n 161))))) (36 + 12 * f + (n 157).toNatClampNeg) (mn9 (n (36 + 12 * f + (n 157).toNatClampNeg) + mnyN AN AD (Vof n T Pp c f (n 157)) (drw (n 161)))) else upd n 161 (drw (n 161))
def hapH (AN AD : (Nat → Int32) → Int32) (T Pp : Nat → Int32) (c f : Nat) (n : Nat → Int32) : Int32 := mnyN AN AD (Vof n T Pp c f (n 157)) (drw (n 161))
theorem drw_nI {x : Int32} (h : nn x 65535) : ∃ k, k < 2 ^ 31 ∧ (kI 25173 * x) + kI 13849 = nI k ∧ drw x = nI (k % 65536) := by
  obtain ⟨a, ha, rfl⟩ := h
  have e : (kI 25173 * nI a) + kI 13849 = nI (25173 * a + 13849) := by
    show (nI 25173 * nI a) + nI 13849 = _
    rw [pk_mul, nI_add]
  refine ⟨25173 * a + 13849, by omega, e, ?_⟩
  unfold drw
  rw [e]
  exact pk_andN (by omega) 16 rfl
theorem drw_rem {x : Int32} (h : nn x 65535) : ((kI 25173 * x) + kI 13849) - ((kI 25173 * x) + kI 13849) / kI 65536 * kI 65536 = drw x := by
  obtain ⟨k, hk, e1, e2⟩ := drw_nI h
  rw [e1, e2]
  exact pk_rem hk (by decide) (by decide)
theorem drw_nn {x : Int32} (h : nn x 65535) : nn (drw x) 65535 := by
  obtain ⟨k, hk, e1, e2⟩ := drw_nI h
  rw [e2]
  exact ⟨k % 65536, by omega, rfl⟩
theorem mny_nn {AN AD : (Nat → Int32) → Int32} {V : Nat → Int32} {z : Int32} (h : nn (AN V) 99) : nn (mnyN AN AD V z) 100 := by
  obtain ⟨a, ha, e⟩ := h
  unfold mnyN
  rw [e]
  split
  · exact ⟨a, by omega, rfl⟩
  · exact ⟨a + 1, by omega, k1 a⟩
theorem mn9_nn {x : Int32} {m : Nat} (h : nn x 9999) (hm : m ≤ 200) : nn (mn9 (x + nI m)) 9999 := by
  obtain ⟨a, ha, rfl⟩ := h
  rw [nI_add, mn9_nI _ (by omega)]
  exact ⟨_, by omega, rfl⟩
theorem NVn.hap {AN AD XL : (Nat → Int32) → Int32} {T Pp : Nat → Int32} {c f : Nat} {n : Nat → Int32} (h : NVn n) (hc : c < 6) (hf : f < 6) (hA : ∀ V, nn (AN V) 99) : NVn (hapN AN AD XL T Pp c f n) := by
  obtain ⟨h1, h2, h3, h4, h5, h6⟩ := h
  obtain ⟨mo, hmo, emo⟩ := h3
  obtain ⟨m, hm, em⟩ := mny_nn (AD := AD) (z := drw (n 161)) (hA (Vof n T Pp c f (n 157)))
  unfold hapN
  rw [em, emo, nI_clamp (by omega)]
  split
  · refine ⟨fun i hi => ?_, fun i hi => ?_, ?_, ?_, ?_, ?_⟩
    · unfold upd
      rw [if_neg (by omega)]
      by_cases e : i = 6 * c + f
      · rw [if_pos e]; exact mn9_nn (h1 _ (by omega)) (by omega)
      · rw [if_neg e, if_neg (by omega)]; exact h1 i hi
    · unfold upd
      by_cases e : 36 + i = 36 + 12 * f + mo
      · rw [if_pos e]
        have := h2 (12 * f + mo) (by omega)
        rw [show 36 + (12 * f + mo) = 36 + 12 * f + mo by omega] at this
        exact mn9_nn this (by omega)
      · rw [if_neg e, if_neg (by omega), if_neg (by omega)]; exact h2 i hi
    · unfold upd; rw [if_neg (by omega), if_neg (by omega), if_neg (by omega), emo]; exact ⟨mo, hmo, rfl⟩
    · unfold upd; rw [if_neg (by omega), if_neg (by omega), if_neg (by omega)]; exact h4
    · unfold upd; rw [if_neg (by omega), if_neg (by omega), if_neg (by omega)]; exact h5
    · unfold upd; rw [if_neg (by omega), if_neg (by omega), if_pos rfl]; exact drw_nn h6
  · refine ⟨fun i hi => ?_, fun i hi => ?_, ?_, ?_, ?_, ?_⟩
    · unfold upd; rw [if_neg (by omega)]; exact h1 i hi
    · unfold upd; rw [if_neg (by omega)]; exact h2 i hi
    · unfold upd; rw [if_neg (by omega), emo]; exact ⟨mo, hmo, rfl⟩
    · unfold upd; rw [if_neg (by omega)]; exact h4
    · unfold upd; rw [if_neg (by omega)]; exact h5
    · unfold upd; rw [if_pos rfl]; exact drw_nn h6
theorem hi_7 {w : Wd} {n : Nat → Int32} {f m mo : Nat} (hB : BK 7 w n) (hmo : n 157 = nI mo) (hm12 : mo < 12) (hf : f < 6) : BK 7 (G_17_7 (nI f) (nI m) w) (upd n (36 + 12 * f + mo) (mn9 (n (36 + 12 * f + mo) + nI m))) ∧ ∀ a, a ≠ 10 → (G_17_7 (nI f) (nI m) w) a = w a := by
  obtain ⟨b1, b2, b3, b4, b5, b6, b7, b8, b9⟩ := hB
  have e10 : w 10 (12 * f + mo) = n (36 + 12 * f + mo) := by rw [b3 _ (by omega), show 36 + (12 * f + mo) = 36 + 12 * f + mo by omega]
  have eG : G_17_7 (nI f) (nI m) w = up2 w 10 (12 * f + mo) (mn9 (n (36 + 12 * f + mo) + nI m)) := by
    unfold G_17_7 mn9
    rw [if_neg (in5 hf), b5, hmo, if_neg (in11 hm12), ixH, nI_clamp (by omega), e10]
  rw [eG]
  have up : ∀ j, j ≠ 36 + 12 * f + mo → ∀ v, upd n (36 + 12 * f + mo) v j = n j := fun j hj v => if_neg hj
  refine ⟨⟨fun i hi => ?_, fun g hg => ?_, fun i hi => ?_, fun g k hg hk => ?_, ?_, ?_, ?_, ?_, ?_⟩, fun a h1 => up2_ne h1⟩
  · rw [up _ (by omega), up2_ne (by decide)]; exact b1 i hi
  · rw [sum6_ne (fun c2 hc2 => by omega), up2_ne (by decide)]; exact b2 g hg
  · show up2 w 10 (12 * f + mo) _ 10 i = _
    rw [up2_at]
    by_cases e : i = 12 * f + mo
    · rw [if_pos e]
      unfold upd
      rw [if_pos (by omega)]
    · rw [if_neg e, up _ (by omega)]; exact b3 i hi
  · rw [up _ (by omega), up2_ne (by decide)]; exact b4 g k hg hk
  · rw [up _ (by omega), up2_ne (by decide)]; exact b5
  · rw [up _ (by omega), up2_ne (by decide)]; exact b6
  · rw [up _ (by omega), up2_ne (by decide)]; exact b7
  · rw [up _ (by omega), up2_ne (by decide)]; exact b8
  · rw [up _ (by omega), up2_ne (by decide)]; exact b9
theorem dr_7 {w : Wd} {n : Nat → Int32} (hB : BK 7 w n) : BK 7 (G_18_7 w) (upd n 161 (drw (n 161))) ∧ (∀ a, a ≠ 7 → (G_18_7 w) a = w a) ∧ F_18_7 w = rm10 (drw (n 161)) := by
  obtain ⟨b1, b2, b3, b4, b5, b6, b7, b8, b9⟩ := hB
  have eG : G_18_7 w = up2 w 7 8 (drw (n 161)) := by unfold G_18_7; rw [b9]; rfl
  have up : ∀ j, j ≠ 161 → ∀ v, upd n 161 v j = n j := fun j hj v => if_neg hj
  refine ⟨?_, fun a ha => by rw [eG]; exact up2_ne ha, ?_⟩
  · rw [eG]
    refine ⟨fun i hi => ?_, fun g hg => ?_, fun i hi => ?_, fun g k hg hk => ?_, ?_, ?_, ?_, ?_, ?_⟩
    · rw [up _ (by omega), up2_ne (by decide)]; exact b1 i hi
    · rw [sum6_ne (fun c2 hc2 => by omega), up2_ne (by decide)]; exact b2 g hg
    · rw [up _ (by omega), up2_ne (by decide)]; exact b3 i hi
    · rw [up _ (by omega), up2_ne (by decide)]; exact b4 g k hg hk
    · rw [up _ (by omega), up2_at, if_neg (by decide)]; exact b5
    · rw [up _ (by omega), up2_at, if_neg (by decide)]; exact b6
    · rw [up _ (by omega), up2_at, if_neg (by decide)]; exact b7
    · rw [up _ (by omega), up2_at, if_neg (by decide)]; exact b8
    · rw [up2_at, if_pos rfl]; unfold upd; rw [if_pos rfl]
  · unfold F_18_7 rm10 drw
    rw [b9]
theorem hi_17 {w : Wd} {n : Nat → Int32} {f m mo : Nat} (hB : BK 17 w n) (hmo : n 157 = nI mo) (hm12 : mo < 12) (hf : f < 6) : BK 17 (G_17_17 (nI f) (nI m) w) (upd n (36 + 12 * f + mo) (mn9 (n (36 + 12 * f + mo) + nI m))) ∧ ∀ a, a ≠ 20 → (G_17_17 (nI f) (nI m) w) a = w a := by
  obtain ⟨b1, b2, b3, b4, b5, b6, b7, b8, b9⟩ := hB
  have e10 : w 20 (12 * f + mo) = n (36 + 12 * f + mo) := by rw [b3 _ (by omega), show 36 + (12 * f + mo) = 36 + 12 * f + mo by omega]
  have eG : G_17_17 (nI f) (nI m) w = up2 w 20 (12 * f + mo) (mn9 (n (36 + 12 * f + mo) + nI m)) := by
    unfold G_17_17 mn9
    rw [if_neg (in5 hf), b5, hmo, if_neg (in11 hm12), ixH, nI_clamp (by omega), e10]
  rw [eG]
  have up : ∀ j, j ≠ 36 + 12 * f + mo → ∀ v, upd n (36 + 12 * f + mo) v j = n j := fun j hj v => if_neg hj
  refine ⟨⟨fun i hi => ?_, fun g hg => ?_, fun i hi => ?_, fun g k hg hk => ?_, ?_, ?_, ?_, ?_, ?_⟩, fun a h1 => up2_ne h1⟩
  · rw [up _ (by omega), up2_ne (by decide)]; exact b1 i hi
  · rw [sum6_ne (fun c2 hc2 => by omega), up2_ne (by decide)]; exact b2 g hg
  · show up2 w 20 (12 * f + mo) _ 20 i = _
    rw [up2_at]
    by_cases e : i = 12 * f + mo
    · rw [if_pos e]
      unfold upd
      rw [if_pos (by omega)]
    · rw [if_neg e, up _ (by omega)]; exact b3 i hi
  · rw [up _ (by omega), up2_ne (by decide)]; exact b4 g k hg hk
  · rw [up _ (by omega), up2_ne (by decide)]; exact b5
  · rw [up _ (by omega), up2_ne (by decide)]; exact b6
  · rw [up _ (by omega), up2_ne (by decide)]; exact b7
  · rw [up _ (by omega), up2_ne (by decide)]; exact b8
  · rw [up _ (by omega), up2_ne (by decide)]; exact b9
theorem dr_17 {w : Wd} {n : Nat → Int32} (hB : BK 17 w n) : BK 17 (G_18_17 w) (upd n 161 (drw (n 161))) ∧ (∀ a, a ≠ 17 → (G_18_17 w) a = w a) ∧ F_18_17 w = rm10 (drw (n 161)) := by
  obtain ⟨b1, b2, b3, b4, b5, b6, b7, b8, b9⟩ := hB
  have eG : G_18_17 w = up2 w 17 8 (drw (n 161)) := by unfold G_18_17; rw [b9]; rfl
  have up : ∀ j, j ≠ 161 → ∀ v, upd n 161 v j = n j := fun j hj v => if_neg hj
  refine ⟨?_, fun a ha => by rw [eG]; exact up2_ne ha, ?_⟩
  · rw [eG]
    refine ⟨fun i hi => ?_, fun g hg => ?_, fun i hi => ?_, fun g k hg hk => ?_, ?_, ?_, ?_, ?_, ?_⟩
    · rw [up _ (by omega), up2_ne (by decide)]; exact b1 i hi
    · rw [sum6_ne (fun c2 hc2 => by omega), up2_ne (by decide)]; exact b2 g hg
    · rw [up _ (by omega), up2_ne (by decide)]; exact b3 i hi
    · rw [up _ (by omega), up2_ne (by decide)]; exact b4 g k hg hk
    · rw [up _ (by omega), up2_at, if_neg (by decide)]; exact b5
    · rw [up _ (by omega), up2_at, if_neg (by decide)]; exact b6
    · rw [up _ (by omega), up2_at, if_neg (by decide)]; exact b7
    · rw [up _ (by omega), up2_at, if_neg (by decide)]; exact b8
    · rw [up2_at, if_pos rfl]; unfold upd; rw [if_pos rfl]
  · unfold F_18_17 rm10 drw
    rw [b9]
end MONTHS2
