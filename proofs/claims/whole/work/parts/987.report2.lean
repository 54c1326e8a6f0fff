/-! report, part 2: a line of the class, a line of the reference -/
section REPORT2
theorem c_87 {X : Scr} {d n k p : Nat} {w : Wd} {ch : Nat → Nat} {fc ft : Nat → Bool} (hk : k ≤ 20) (hT : TXC w ch n p) (h5 : w 80 5 = nI k) (hfc : ∀ c, c < 6 → (F_51_3 (nI c) w = 0 ↔ fc c = false)) (hft : ∀ c, c < 6 → (F_52_3 (nI c) w = 0 ↔ ft c = false)) : CI X (d + 7) 87 [.ref 80] w (fun x u => LneC ch n k w u x (lneF ch fc ft k p)) := by
  have flt0 : ∀ (u : Wd) (kd : Int32) (q : Nat), FL w u → TXC u ch n q → LneC ch n k w (G_115_1 kd u) (kI 0) (.inl (flt kd q)) := by
    intro u kd q hF hU
    rw [hU.fail]
    exact ⟨hF.trans (FL.ft (FT.p (Or.inr rfl))), rfl, by rw [up2_at, if_pos rfl]⟩
  refine CI.of rfl (t87_80_at0 (d := d + 4) w ⟨hT.ix, ?_⟩)
  rw [hT.sg]
  unfold lneF
  by_cases h1 : 97 ≤ ch p ∧ ch p ≤ 102
  · rw [if_neg (show ¬ F_153 (enC (ch p) - kI 97) (kI 0) (kI 5) w = 0 from fun e => (enC_s (a := 97) (b := 5) (by decide) (by decide)).mp e h1), h5]
    simp only [if_pos h1]
    by_cases h2 : 20 ≤ k
    · rw [if_neg (show ¬ nI k < kI 20 from nI_nlt (b := 20) h2 (by omega))]
      simp only [if_pos h2]
      exact flt0 w _ p (FL.ft (FT.refl w)) hT
    · rw [if_pos (show nI k < kI 20 from nI_lt (b := 20) (by omega) (by decide))]
      simp only [if_neg h2]
      have hT1 : TXC (G_112_1 w) ch n (p + 1) := hT.step (by omega)
      have hF1 : FT w (G_112_1 w) := FT.p (Or.inl rfl)
      have e97 : enC (ch p) - kI 97 = nI (ch p - 97) := by rw [enC_lt (by omega)]; exact pk_sub (b := 97) h1.1
      rw [e97]
      have fc1 := hfc (ch p - 97) (by omega)
      cases h3 : fc (ch p - 97) with
      | false =>
        rw [if_pos (fc1.mpr h3)]
        exact flt0 w _ p (FL.ft (FT.refl w)) hT
      | true =>
        rw [if_neg (fun e => by rw [fc1, h3] at e; cases e)]
        refine ⟨hT1.ix, ?_⟩
        rw [hT1.sg]
        simp only [if_pos]
        by_cases h4 : 48 ≤ ch (p + 1) ∧ ch (p + 1) ≤ 53
        · rw [if_neg (show ¬ F_153 (enC (ch (p + 1)) - kI 48) (kI 0) (kI 5) (G_112_1 w) = 0 from fun e => (enC_s (a := 48) (b := 5) (by decide) (by decide)).mp e h4)]
          simp only [if_pos h4]
          have e48 : enC (ch (p + 1)) - kI 48 = nI (ch (p + 1) - 48) := by rw [enC_lt (by omega)]; exact pk_sub (b := 48) h4.1
          rw [e48]
          have ft1 := hft (ch (p + 1) - 48) (by omega)
          have e52 : F_52_3 (nI (ch (p + 1) - 48)) (G_112_1 w) = F_52_3 (nI (ch (p + 1) - 48)) w := f52_cg (hF1.1 3 (by decide)) _
          rw [e52]
          cases h5f : ft (ch (p + 1) - 48) with
          | false =>
            rw [if_pos (ft1.mpr h5f)]
            exact flt0 (G_112_1 w) _ (p + 1) (FL.ft hF1) hT1
          | true =>
            rw [if_neg (fun e => by rw [ft1, h5f] at e; cases e)]
            simp only [if_pos]
            have hT2 : TXC (G_112_1 (G_112_1 w)) ch n (p + 2) := hT1.step (by omega)
            have hF2 : FT w (G_112_1 (G_112_1 w)) := hF1.trans (FT.p (Or.inl rfl))
            have e5 : (G_112_1 (G_112_1 w)) 80 5 = nI k := by rw [hF2.1 80 (by decide)]; exact h5
            rw [e5, nI_clamp (by omega)]
            refine ⟨inB_nI (by omega) (by decide), inB_nI (by omega) (by decide), ?_⟩
            refine c_88 (d := d) (k := k) (p := p + 2) (fr := (0, 0)) (by omega) (hT2.cg (by rw [up2_ne (by decide), up2_ne (by decide)]) (by rw [up2_ne (by decide), up2_ne (by decide)]) (by rw [up2_ne (by decide), up2_ne (by decide)]) (by rw [up2_ne (by decide), up2_ne (by decide)])) ?_ ((FL.ft hF2).trans ((FL.p (Or.inr (Or.inl rfl))).trans (FL.p (Or.inr (Or.inr (Or.inl rfl)))))) ?_ ?_ ?_ (fun i hi => ⟨?_, ?_, ?_⟩)
            · rw [up2_ne (by decide), up2_ne (by decide)]; exact e5
            · rw [up2_ne (by decide), up2_ne (by decide)]
              show up2 (up2 w 1 3 _) 1 3 _ 1 4 = w 1 4
              rw [up2_at, if_neg (by decide), up2_at, if_neg (by decide)]
            · rw [up2_ne (by decide), up2_at, if_pos rfl]
            · rw [up2_at, if_pos rfl]
            · rw [up2_ne (by decide), up2_at, if_neg (by omega), hF2.1 81 (by decide)]
            · rw [up2_at, if_neg (by omega), up2_ne (by decide), hF2.1 82 (by decide)]
            · rw [up2_ne (by decide), up2_ne (by decide), hF2.1 83 (by decide)]
        · rw [if_pos (show F_153 (enC (ch (p + 1)) - kI 48) (kI 0) (kI 5) (G_112_1 w) = 0 from (enC_s (a := 48) (b := 5) (by decide) (by decide)).mpr h4)]
          simp only [if_neg h4]
          exact flt0 (G_112_1 w) _ (p + 1) (FL.ft hF1) hT1
  · rw [if_pos (show F_153 (enC (ch p) - kI 97) (kI 0) (kI 5) w = 0 from (enC_s (a := 97) (b := 5) (by decide) (by decide)).mpr h1)]
    simp only [if_neg h1]
    exact flt0 w _ p (FL.ft (FT.refl w)) hT
/-! the reference -/
def FLR (w u : Wd) : Prop := (∀ a, a ≠ 110 → a ≠ 131 → a ≠ 132 → u a = w a) ∧ ∀ j, j ≠ 11 → j ≠ 13 → j ≠ 35 → u 110 j = w 110 j
theorem FLR.refl (w : Wd) : FLR w w := ⟨fun _ _ _ _ => rfl, fun _ _ _ _ => rfl⟩
theorem FLR.trans {w u v : Wd} (h : FLR w u) (g : FLR u v) : FLR w v := ⟨fun a h1 h2 h3 => (g.1 a h1 h2 h3).trans (h.1 a h1 h2 h3), fun j h1 h2 h3 => (g.2 j h1 h2 h3).trans (h.2 j h1 h2 h3)⟩
theorem FLR.p {w : Wd} {a k : Nat} {v : Int32} (ha : a = 131 ∨ a = 132) : FLR w (up2 w a k v) := ⟨fun b h1 h2 h3 => up2_ne (by omega), fun j _ _ _ => by rw [up2_ne (by omega)]⟩
theorem FLR.q {w : Wd} {k : Nat} {v : Int32} (hk : k = 11 ∨ k = 13 ∨ k = 35) : FLR w (up2 w 110 k v) := ⟨fun b h1 h2 h3 => up2_ne h1, fun j h1 h2 h3 => by rw [up2_at, if_neg (by omega)]⟩
theorem TXR.sN {w : Wd} {ch : Nat → Nat} {n p : Nat} (h : TXR w ch n p) (hp : ch p < 256) : TXR (up2 w 110 11 (nI (p + 1))) ch n (p + 1) := by
  have := h.step hp
  rw [h.2.1, k1] at this
  exact this
theorem TXR.f13 {w : Wd} {ch : Nat → Nat} {n p : Nat} (h : TXR w ch n p) (v : Int32) : TXR (up2 w 110 13 v) ch n p := h.cg (by rw [up2_at, if_neg (by decide)]) (by rw [up2_at, if_neg (by decide)]) (up2_ne (by decide))
def LneR (ch : Nat → Nat) (n k : Nat) (w u : Wd) (x : Int32) (r : Int32 ⊕ (Nat × Nat × Int × Nat)) : Prop := FLR w u ∧ (match r with
  | .inl e => x = kI 0 ∧ u 110 13 = e
  | .inr y => x = kI 1 ∧ TXR u ch n y.2.2.2 ∧ u 110 35 = nI (k + 1) ∧ u 131 k = nI (6 * y.1 + y.2.1) ∧ u 132 k = kI y.2.2.1 ∧ ∀ i, i < k → u 131 i = w 131 i ∧ u 132 i = w 132 i)
theorem l_202n {X : Scr} {d n k c f p0 : Nat} {s : Int} {w : Wd} {ch : Nat → Nat} (hk : k < 20) (hs : s = 1 ∨ s = -1) (h35 : w 110 35 = nI k) (h0 : p0 ≤ 260) : ∀ (m p v : Nat) (u : Wd), m ≤ 3 → p + m = p0 + 3 → v < 10 ^ (3 - m) → TXR u ch n p → FLR w u → u 110 35 = nI k → (∀ i, i < k → u 131 i = w 131 i ∧ u 132 i = w 132 i) → EI X (d + 2) 202 (209, [some (.ref 110), some (.int (nI c)), some (.int (nI f)), some (.int (kI s)), some (.int (nI p0)), some (.int (nI v))], [], SH, u) (fun x u2 => LneR ch n k w u2 x (match rdN ch m p v with
    | .inl q => .inl (flt (kI 2) q)
    | .inr x => .inr (c, f, s * x.1, x.2))) := by
  intro m
  have done : ∀ (p v : Nat) (u : Wd), v < 1000 → TXR u ch n p → FLR w u → u 110 35 = nI k → (∀ i, i < k → u 131 i = w 131 i ∧ u 132 i = w 132 i) → (inB (u 110 35) 20 = true ∧ (inB (u 110 35) 20 = true ∧ LneR ch n k w (up2 (up2 (up2 u 131 (u 110 35).toNatClampNeg (((kI 0) + ((kI 6) * nI c)) + nI f)) 132 (u 110 35).toNatClampNeg (kI s * nI v)) 110 35 ((u 110 35) + (kI 1))) (kI 1) (.inr (c, f, s * v, p)))) := by
    intro p v u hv hT hF h5 ho
    rw [h5, nI_clamp (by omega), ixC, k1]
    refine ⟨inB_nI hk (by decide), inB_nI hk (by decide), hF.trans ((FLR.p (Or.inl rfl)).trans ((FLR.p (Or.inr rfl)).trans (FLR.q (Or.inr (Or.inr rfl))))), rfl, ?_, ?_, ?_, ?_, fun i hi => ⟨?_, ?_⟩⟩
    · exact hT.cg (by rw [up2_at, if_neg (by decide), up2_ne (by decide), up2_ne (by decide)]) (by rw [up2_at, if_neg (by decide), up2_ne (by decide), up2_ne (by decide)]) (by rw [up2_ne (by decide), up2_ne (by decide), up2_ne (by decide)])
    · rw [up2_at, if_pos rfl]
    · rw [up2_ne (by decide), up2_ne (by decide), up2_at, if_pos rfl]
    · rw [up2_ne (by decide), up2_at, if_pos rfl, ← kI_of]
      exact (Int32.ofInt_mul _ _).symm
    · rw [up2_ne (by decide), up2_ne (by decide), up2_at, if_neg (by omega)]; exact (ho i hi).1
    · rw [up2_ne (by decide), up2_at, if_neg (by omega), up2_ne (by decide)]; exact (ho i hi).2
  induction m with
  | zero =>
    intro p v u hm3 hp hv hT hF h5 ho
    have hv3 : v < 1000 := hv
    refine t202_110_at209 u _ _ _ _ _ ⟨hT.ix, fun _ => hT.ix, ?_⟩
    unfold rdN
    cases hd : isD (ch p) with
    | false =>
      rw [if_pos (hT.dg.mpr hd), if_neg (by decide)]
      exact done p v u hv3 hT hF h5 ho
    | true =>
      rw [if_neg (fun e => by rw [hT.dg, hd] at e; cases e), if_pos rfl, hT.2.1, show nI p0 + kI 3 = nI (p0 + 3) from nI_add p0 3, if_pos (by rw [show p = p0 + 3 by omega])]
      exact ⟨hF.trans (FLR.q (Or.inr (Or.inl rfl))), rfl, by show up2 u 110 13 _ 110 13 = _; rw [up2_at, if_pos rfl]; rfl⟩
  | succ m ih =>
    intro p v u hm3 hp hv hT hF h5 ho
    have hpk : 10 ^ (3 - (m + 1)) ≤ 10 ^ 2 := Nat.pow_le_pow_right (by decide) (by omega)
    refine t202_110_at209 u _ _ _ _ _ ⟨hT.ix, fun _ => hT.ix, ?_⟩
    unfold rdN
    cases hd : isD (ch p) with
    | false =>
      rw [if_pos (hT.dg.mpr hd), if_neg (by decide)]
      exact done p v u (by omega) hT hF h5 ho
    | true =>
      have hd2 := isD_iff.mp hd
      have hpn : p ≤ n := hT.2.2.2.1
      have hn2 : n ≤ 260 := hT.2.2.1
      rw [if_neg (fun e => by rw [hT.dg, hd] at e; cases e), if_pos rfl, hT.sg, enC_lt (by omega), if_neg (by rw [hT.2.1, show nI p0 + kI 3 = nI (p0 + 3) from nI_add p0 3, nI_eq (by omega) (by omega)]; omega)]
      have e : (((kI 10) * nI v) + nI (ch p)) - (kI 48) = nI (v * 10 + (ch p - 48)) := by
        rw [show kI 10 * nI v = nI (10 * v) from pk_mul 10 v, nI_add, show nI (10 * v + ch p) - kI 48 = nI (10 * v + ch p - 48) from pk_sub (b := 48) (by omega)]
        congr 1
        omega
      rw [e, hT.2.1, k1]
      refine ⟨?_, ih (p + 1) _ _ (by omega) (by omega) ?_ (hT.sN (by omega)) (hF.trans (FLR.q (Or.inl rfl))) (by rw [up2_at, if_neg (by decide)]; exact h5) (fun i hi => by rw [up2_ne (by decide), up2_ne (by decide)]; exact ho i hi)⟩
      · have := hT.ix
        rw [hT.2.1] at this
        exact this
      · have e3 : 3 - m = 3 - (m + 1) + 1 := by omega
        rw [e3, Nat.pow_succ]
        omega
theorem c_202 {X : Scr} {d n k p : Nat} {w : Wd} {ch : Nat → Nat} {fc ft : Nat → Bool} (hk : k ≤ 20) (hT : TXR w ch n p) (h35 : w 110 35 = nI k) (hfc : ∀ c, c < 6 → (F_164_110 (nI c) w = 0 ↔ fc c = false)) (hft : ∀ c, c < 6 → (F_165_110 (nI c) w = 0 ↔ ft c = false)) : CI X (d + 3) 202 [.ref 110] w (fun x u => LneR ch n k w u x (lneF ch fc ft k p)) := by
  have flt0 : ∀ (u : Wd) (kd : Int32) (q : Nat), FLR w u → LneR ch n k w (G_177_110 kd (nI q) u) (kI 0) (.inl (flt kd q)) := by
    intro u kd q hF
    exact ⟨hF.trans (FLR.q (Or.inr (Or.inl rfl))), rfl, by show up2 u 110 13 _ 110 13 = _; rw [up2_at, if_pos rfl]; rfl⟩
  have hpn : p ≤ n := hT.2.2.2.1
  have hn2 : n ≤ 260 := hT.2.2.1
  refine CI.of rfl (t202_110_at0 (d := d) w ⟨hT.ix, ?_⟩)
  rw [hT.sg]
  simp only [hT.2.1, k1]
  unfold lneF
  by_cases h1 : 97 ≤ ch p ∧ ch p ≤ 102
  · rw [if_neg (show ¬ F_157 (enC (ch p) - kI 97) (kI 0) (kI 5) w = 0 from fun e => (enC_s (w := w) (a := 97) (b := 5) (by decide) (by decide)).mp e h1), h35]
    simp only [if_pos h1]
    by_cases h2 : 20 ≤ k
    · rw [if_pos (show nI k = kI 20 by rw [show k = 20 by omega]; rfl)]
      simp only [if_pos h2]
      exact flt0 w _ p (FLR.refl w)
    · rw [if_neg (show ¬ nI k = kI 20 from fun e => h2 (by have := nI_inj (a := k) (b := 20) (by omega) (by decide) e; omega))]
      simp only [if_neg h2]
      have hT1 := hT.sN (by omega)
      have hF1 : FLR w (up2 w 110 11 (nI (p + 1))) := FLR.q (Or.inl rfl)
      have e97 : enC (ch p) - kI 97 = nI (ch p - 97) := by rw [enC_lt (by omega)]; exact pk_sub (b := 97) h1.1
      rw [e97]
      have fc1 := hfc (ch p - 97) (by omega)
      cases h3 : fc (ch p - 97) with
      | false =>
        rw [if_pos (fc1.mpr h3)]
        exact flt0 w _ p (FLR.refl w)
      | true =>
        rw [if_neg (fun e => by rw [fc1, h3] at e; cases e)]
        refine ⟨hT1.ix, ?_⟩
        rw [hT1.sg]
        simp only [if_pos]
        by_cases h4 : 48 ≤ ch (p + 1) ∧ ch (p + 1) ≤ 53
        · rw [if_neg (show ¬ F_157 (enC (ch (p + 1)) - kI 48) (kI 0) (kI 5) (up2 w 110 11 (nI (p + 1))) = 0 from fun e => (enC_s (w := up2 w 110 11 (nI (p + 1))) (a := 48) (b := 5) (by decide) (by decide)).mp e h4)]
          simp only [if_pos h4]
          have e48 : enC (ch (p + 1)) - kI 48 = nI (ch (p + 1) - 48) := by rw [enC_lt (by omega)]; exact pk_sub (b := 48) h4.1
          rw [e48]
          have ft1 := hft (ch (p + 1) - 48) (by omega)
          rw [c165 (w := w) (u := up2 w 110 11 (nI (p + 1))) (by rw [up2_at, if_neg (by decide)])]
          cases h5f : ft (ch (p + 1) - 48) with
          | false =>
            rw [if_pos (ft1.mpr h5f)]
            exact flt0 _ _ (p + 1) hF1
          | true =>
            rw [if_neg (fun e => by rw [ft1, h5f] at e; cases e)]
            simp only [if_pos]
            have hT2 := hT1.sN (by omega)
            have hF2 : FLR w (up2 (up2 w 110 11 (nI (p + 1))) 110 11 (nI (p + 1 + 1))) := hF1.trans (FLR.q (Or.inl rfl))
            have hF3 : FLR w (up2 (up2 (up2 w 110 11 (nI (p + 1))) 110 11 (nI (p + 1 + 1))) 110 11 (nI (p + 1 + 1 + 1))) := hF2.trans (FLR.q (Or.inl rfl))
            have le2 := hT2.le
            refine ⟨hT2.ix, ?_⟩
            rw [hT2.sg]
            have num : ∀ s : Int, s = 1 ∨ s = -1 → ch (p + 1 + 1) < 256 → ((¬ (up2 (up2 (up2 w 110 11 (nI (p + 1))) 110 11 (nI (p + 1 + 1))) 110 11 (nI (p + 1 + 1 + 1))) 110 12 ≤ (up2 (up2 (up2 w 110 11 (nI (p + 1))) 110 11 (nI (p + 1 + 1))) 110 11 (nI (p + 1 + 1 + 1))) 110 11 → (inB ((up2 (up2 (up2 w 110 11 (nI (p + 1))) 110 11 (nI (p + 1 + 1))) 110 11 (nI (p + 1 + 1 + 1))) 110 11) 260 = true)) ∧ ((¬ (F_175_110 (up2 (up2 (up2 w 110 11 (nI (p + 1))) 110 11 (nI (p + 1 + 1))) 110 11 (nI (p + 1 + 1 + 1)))) < (kI 48) → (¬ (up2 (up2 (up2 w 110 11 (nI (p + 1))) 110 11 (nI (p + 1 + 1))) 110 11 (nI (p + 1 + 1 + 1))) 110 12 ≤ (up2 (up2 (up2 w 110 11 (nI (p + 1))) 110 11 (nI (p + 1 + 1))) 110 11 (nI (p + 1 + 1 + 1))) 110 11 → (inB ((up2 (up2 (up2 w 110 11 (nI (p + 1))) 110 11 (nI (p + 1 + 1))) 110 11 (nI (p + 1 + 1 + 1))) 110 11) 260 = true))) ∧ (if (F_176_110 (up2 (up2 (up2 w 110 11 (nI (p + 1))) 110 11 (nI (p + 1 + 1))) 110 11 (nI (p + 1 + 1 + 1)))) = 0 then LneR ch n k w (G_177_110 (kI 1) (nI (p + 1 + 1 + 1)) (up2 (up2 (up2 w 110 11 (nI (p + 1))) 110 11 (nI (p + 1 + 1))) 110 11 (nI (p + 1 + 1 + 1)))) (F_177_110 (kI 1) (nI (p + 1 + 1 + 1)) (up2 (up2 (up2 w 110 11 (nI (p + 1))) 110 11 (nI (p + 1 + 1))) 110 11 (nI (p + 1 + 1 + 1)))) (nbF ch (ch p - 97) (ch (p + 1) - 48) (p + 3) s) else EI X (d + 2) 202 (209, [some (.ref 110), some (.int (nI (ch p - 97))), some (.int (nI (ch (p + 1) - 48))), some (.int (kI s)), some (.int (nI (p + 1 + 1 + 1))), some (.int (kI 0))], [], SH, (up2 (up2 (up2 w 110 11 (nI (p + 1))) 110 11 (nI (p + 1 + 1))) 110 11 (nI (p + 1 + 1 + 1)))) (fun x u => LneR ch n k w u x (nbF ch (ch p - 97) (ch (p + 1) - 48) (p + 3) s))))) := by
              intro s hs hlt
              have hT3 := hT2.sN hlt
              refine ⟨hT3.ix, fun _ => hT3.ix, ?_⟩
              unfold nbF
              cases hd : isD (ch (p + 3)) with
              | false =>
                rw [if_pos (hT3.dg.mpr hd)]
                exact flt0 _ _ (p + 3) hF3
              | true =>
                rw [if_neg (fun e => by rw [hT3.dg] at e; rw [show ch (p + 1 + 1 + 1) = ch (p + 3) from rfl, hd] at e; cases e)]
                have hp3 := hT3.2.2.2.1
                exact l_202n (d := d) (p0 := p + 3) (c := ch p - 97) (f := ch (p + 1) - 48) (s := s) (w := w) (by omega) hs h35 (by omega) 3 (p + 3) 0 _ (by omega) rfl (by decide) hT3 hF3 (by rw [up2_at, if_neg (by decide), up2_at, if_neg (by decide), up2_at, if_neg (by decide)]; exact h35) (fun i hi => ⟨by rw [up2_ne (by decide), up2_ne (by decide), up2_ne (by decide)], by rw [up2_ne (by decide), up2_ne (by decide), up2_ne (by decide)]⟩)
            by_cases h43 : ch (p + 2) = 43
            · rw [if_pos (show enC (ch (p + 1 + 1)) = kI 43 from (enC_eq (k := 43) (by decide)).mpr h43)]
              simp only [if_pos h43]
              exact num 1 (Or.inl rfl) (by show ch (p + 2) < 256; omega)
            · rw [if_neg (show ¬ enC (ch (p + 1 + 1)) = kI 43 from fun e => h43 ((enC_eq (k := 43) (by decide)).mp e))]
              simp only [if_neg h43]
              refine ⟨hT2.ix, ?_⟩
              by_cases h45 : ch (p + 2) = 45
              · rw [if_pos (show enC (ch (p + 1 + 1)) = kI 45 from (enC_eq (k := 45) (by decide)).mpr h45)]
                simp only [if_pos h45]
                exact num (-1) (Or.inr rfl) (by show ch (p + 2) < 256; omega)
              · rw [if_neg (show ¬ enC (ch (p + 1 + 1)) = kI 45 from fun e => h45 ((enC_eq (k := 45) (by decide)).mp e))]
                simp only [if_neg h45]
                exact flt0 _ _ (p + 2) hF2
        · rw [if_pos (show F_157 (enC (ch (p + 1)) - kI 48) (kI 0) (kI 5) (up2 w 110 11 (nI (p + 1))) = 0 from (enC_s (w := up2 w 110 11 (nI (p + 1))) (a := 48) (b := 5) (by decide) (by decide)).mpr h4)]
          simp only [if_neg h4]
          exact flt0 _ _ (p + 1) hF1
  · rw [if_pos (show F_157 (enC (ch p) - kI 97) (kI 0) (kI 5) w = 0 from (enC_s (w := w) (a := 97) (b := 5) (by decide) (by decide)).mpr h1)]
    simp only [if_neg h1]
    exact flt0 w _ p (FLR.refl w)
end REPORT2
