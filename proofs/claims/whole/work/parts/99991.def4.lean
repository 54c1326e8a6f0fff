/-! definitions, part 4: the reference as a whole -/
section DEF4
theorem c_238 {X : Scr} {e n k : Nat} {w : Wd} {ch : Nat → Nat} {Q : Int32 → Wd → Prop} (hk : k < 6) (hn1 : 1 ≤ n) (hn : n ≤ 80) (hle : nI n ≤ w 110 10) (h1 : ∀ i, i < n → w 117 i &&& kI 255 = nI (ch i) ∧ ch i < 256) (h2 : ∀ i, n ≤ i → ch i = 256) (q0 : ∀ r, dfA ch = .inl r → ∀ v, GPr (G_195_110 (nI n) w) v → Q r (up2 v 110 10 (kI 0))) (q1 : ∀ t, dfA ch = .inr t → ∀ v, GPr (G_195_110 (nI n) w) v → CDR v t.2 → ∀ v2 : Wd, (∀ a, a ≠ 110 → a ≠ 144 → a ≠ 145 → v2 a = v a) → (∀ j, j ≠ 10 → j ≠ 57 → v2 110 j = v 110 j) → v2 110 10 = kI 0 → v2 110 57 = ((v 110 57) ||| ((kI 1) <<< ((nI k) &&& 31))) → (∀ i, v2 145 i = if i = k then nI t.2.2.2 else v 145 i) → (∀ i, v2 144 i = if 260 * k + 0 ≤ i ∧ i < 260 * k + t.2.2.2 then v 118 (i - 260 * k) else v 144 i) → CI X (e + 7) 237 [.ref 110, .int (nI k)] v2 (fun x1 w1 => Q (F_162 x1 w1) w1)) : CI X (e + 8) 238 [.ref 110, .int (nI k), .int (nI n)] w Q := by
  have e195 : (∀ a, a ≠ 110 → G_195_110 (nI n) w a = w a) ∧ G_195_110 (nI n) w 110 11 = nI 0 ∧ G_195_110 (nI n) w 110 12 = nI n ∧ G_195_110 (nI n) w 110 16 = nI 0 := by
    unfold G_195_110
    refine ⟨fun a ha => by rw [up2_ne ha, up2_ne ha, up2_ne ha, up2_ne ha, up2_ne ha, up2_ne ha], ?_, ?_, ?_⟩
    · rw [up2_at, if_neg (by decide), up2_at, if_neg (by decide), up2_at, if_neg (by decide), up2_at, if_neg (by decide), up2_at, if_neg (by decide), up2_at, if_pos rfl]; rfl
    · rw [up2_at, if_neg (by decide), up2_at, if_neg (by decide), up2_at, if_neg (by decide), up2_at, if_neg (by decide), up2_at, if_pos rfl]
    · rw [up2_at, if_neg (by decide), up2_at, if_neg (by decide), up2_at, if_neg (by decide), up2_at, if_pos rfl]; rfl
  obtain ⟨a1, a2, a3, a4⟩ := e195
  have T1 : TXR (G_195_110 (nI n) w) ch n 0 := ⟨a3, a2, by omega, Nat.zero_le _, fun i hi => by rw [a1 117 (by decide)]; exact h1 i hi, h2⟩
  have hok := dfA_ok T1.c256 (show n ≤ 240 by omega)
  have f1 : ¬ F_157 (nI k) (kI 0) (kI 5) w = 0 := by
    have := within_nI (n := k) (a := 0) (b := 5) (w := w) (by omega) (by decide) (by decide)
    rw [if_pos (by omega)] at this
    intro e
    rw [show F_157 (nI k) (kI 0) (kI 5) w = 1 from this] at e
    exact absurd e (by decide)
  have f2 : ¬ F_157 (nI n) (kI 1) (kI 80) w = 0 := by
    have := within_nI (n := n) (a := 1) (b := 80) (w := w) (by omega) (by decide) (by decide)
    rw [if_pos (by omega)] at this
    intro e
    rw [show F_157 (nI n) (kI 1) (kI 80) w = 1 from this] at e
    exact absurd e (by decide)
  refine CI.of rfl (t238_110_at0 (d := e + 5) w _ _ ?_)
  rw [if_neg f1, if_neg f2, if_pos hle]
  unfold dfA at q0 q1 hok
  refine c_193 (e := e) (w := G_195_110 (nI n) w) (c := cd0) (GPr.refl _) T1 ⟨a4, fun k hk => by have : k < 0 := hk; omega⟩ (Nat.le_refl _) (by omega) (fun r er v g1 g2 => ?_) (fun t er v hv => ?_)
  · rw [er] at q0
    rw [if_pos (by decide), g2]
    exact q0 r rfl v g1
  · rw [er] at q0 q1 hok
    dsimp only at q0 q1 hok
    rw [if_neg (by decide)]
    obtain ⟨g1, s2, s3, s4, s5, s6, s7, s8, s9, s10⟩ := hv
    have b1 := s2.2.2.2.1
    by_cases h256 : ch t.1 = 256
    · rw [if_pos h256] at q1 hok
      rw [if_pos (by rw [s2.1, s2.2.1]; exact nI_le (s2.end.mpr h256) (by omega)), nI_clamp (by omega), s3.1]
      have hL : t.2.2.2 ≤ 240 := by have := (hok.1 t rfl).2.1; omega
      refine l_238 (e := e) (L := t.2.2.2) hL hk t.2.2.2 0 _ (by omega) (by rw [up2_ne (by decide), up2_at, if_neg (by decide), up2_at, if_neg (by decide)]; exact s3.1) (fun v2 k1 k2 => ?_)
      refine q1 t rfl v g1 s3 v2 (fun a x1 x2 x3 => by rw [k1 a x2, up2_ne x3, up2_ne x1, up2_ne x1]) (fun j x1 x2 => by rw [k1 110 (by decide), up2_ne (by decide), up2_at, if_neg x2, up2_at, if_neg x1]) (by rw [k1 110 (by decide), up2_ne (by decide), up2_at, if_neg (by decide), up2_at, if_pos rfl]) (by rw [k1 110 (by decide), up2_ne (by decide), up2_at, if_pos rfl]) (fun i => by rw [k1 145 (by decide), up2_at, up2_ne (by decide), up2_ne (by decide)]) (fun i => ?_)
      rw [k2 i, up2_ne (show (118 : Nat) ≠ 145 by decide), up2_ne (show (118 : Nat) ≠ 110 by decide), up2_ne (show (118 : Nat) ≠ 110 by decide), up2_ne (show (144 : Nat) ≠ 145 by decide), up2_ne (show (144 : Nat) ≠ 110 by decide), up2_ne (show (144 : Nat) ≠ 110 by decide)]
    · rw [if_neg h256] at q0
      have hlt : t.1 < n := Nat.lt_of_not_le (fun ee => h256 (s2.end.mp ee))
      rw [if_neg (by rw [s2.1, s2.2.1]; exact nI_ge hlt (by omega))]
      refine CI.mono (CI.ofF (m_177_110 (d := e + 6) v (kI 1) (v 110 11))) (fun x2 w2 hx => ?_)
      obtain ⟨hx1, hx2⟩ := hx
      rw [hx1, hx2, if_pos (show F_177_110 (kI 1) (v 110 11) v = 0 from rfl), s2.fail]
      have := q0 _ rfl (up2 v 110 13 (flt (kI 1) t.1)) (g1.p (by omega))
      rw [up2_at, if_pos rfl]
      exact this
end DEF4
