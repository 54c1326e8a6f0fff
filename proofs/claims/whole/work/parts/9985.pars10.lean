/-! parsers, part 10: readsCondition -/
section PARS10
/-- the closing sign of a condition within another one -/
theorem ce_r {X : Scr} {e n p k j : Nat} {Q : Int32 → Wd → Prop} {w : Wd} {ch : Nat → Nat} {c1 c : Cd} {P l : Sk} (hk : k + 1 + j ≤ 6) (hL : LNs l) (hl : NTs j l ≠ []) (hP : PJs P c1 c) (h38 : ch p ≠ 38) (h124 : ch p ≠ 124) (q1 : ch p = 41 → H92 X e Q w ch n (p + 1) (nts j c) l (6 - (k + 1) - j)) (q0 : ¬ ch p = 41 → FLr Q w (flt (kI 1) p)) : H92 X e Q w ch n p c1 (P ++ (13, 0) :: NTs j l) (6 - k) := by
  intro u h
  have hp := h.pn
  refine t193_110_at92 (d := e + 4) u ⟨h.ix, ?_⟩
  by_cases h41 : ch p = 41
  · rw [if_pos (show F_175_110 u = kI 41 from (h.is (z := 41) (by decide)).mpr h41)]
    have hh := hP ((13, 0) :: NTs j l) (fun x t ee => by cases ee; exact (show 12 < 13 by decide))
    refine c_190 (d := e + 4) (b := true) rfl h hh.2 (fun u2 h2 => ?_)
    rw [hh.1] at h2
    have ha := h2.at.2
    have hl9 : (NTs j l).length + 1 ≤ p := h2.2.2.2.2.2.2.2.2.1
    have hne : (NTs j l).length ≠ 0 := fun ee => hl (List.length_eq_zero_iff.mp ee)
    rw [if_neg (show ¬ u2 110 17 - kI 1 = 0 by rw [ha, nI_z (by omega)]; exact hne)]
    have h2b : STr w u2 ch n p c ((13, 0) :: NTs j l) (6 - (k + 1) - j + j + 1) := by
      rw [show 6 - (k + 1) - j + j + 1 = 6 - k by omega]
      exact h2
    exact c_189 (d := e + 4) hL (h2b.close (by omega)) (fun u3 h3 => q1 h41 u3 h3)
  · rw [if_neg (show ¬ F_175_110 u = kI 41 from fun ee => h41 ((h.is (z := 41) (by decide)).mp ee))]
    refine ⟨h.ix, ?_⟩
    rw [if_neg (show ¬ F_175_110 u = kI 38 from fun ee => h38 ((h.is (z := 38) (by decide)).mp ee))]
    refine ⟨h.ix, ?_⟩
    rw [if_neg (show ¬ F_175_110 u = kI 124 from fun ee => h124 ((h.is (z := 124) (by decide)).mp ee))]
    exact q0 h41 _ (h.fail _).1 (h.fail _).2
/-- the closing sign of the whole condition -/
theorem oc_r {X : Scr} {e n p : Nat} {Q : Int32 → Wd → Prop} {w : Wd} {ch : Nat → Nat} {c1 c : Cd} {P : Sk} (hP : PJs P c1 c) (h38 : ch p ≠ 38) (h124 : ch p ≠ 124) (q1 : ch p = 41 → ∀ u2, STr w u2 ch n (p + 1) c [] 0 → Q (kI 1) u2) (q0 : ¬ ch p = 41 → FLr Q w (flt (kI 1) p)) : H92 X e Q w ch n p c1 (P ++ [(13, 0)]) (6 - 5) := by
  intro u h
  have hp := h.pn
  refine t193_110_at92 (d := e + 4) u ⟨h.ix, ?_⟩
  by_cases h41 : ch p = 41
  · rw [if_pos (show F_175_110 u = kI 41 from (h.is (z := 41) (by decide)).mpr h41)]
    have hh := hP [(13, 0)] (fun x t ee => by cases ee; exact (show 12 < 13 by decide))
    refine c_190 (d := e + 4) (b := true) rfl h hh.2 (fun u2 h2 => ?_)
    rw [hh.1] at h2
    have ha := h2.at.2
    rw [if_pos (show u2 110 17 - kI 1 = 0 by rw [ha]; rfl)]
    have h2b : STr w u2 ch n p c [(13, 0)] (0 + 1) := h2
    exact q1 h41 _ (h2b.close (by omega))
  · rw [if_neg (show ¬ F_175_110 u = kI 41 from fun ee => h41 ((h.is (z := 41) (by decide)).mp ee))]
    refine ⟨h.ix, ?_⟩
    rw [if_neg (show ¬ F_175_110 u = kI 38 from fun ee => h38 ((h.is (z := 38) (by decide)).mp ee))]
    refine ⟨h.ix, ?_⟩
    rw [if_neg (show ¬ F_175_110 u = kI 124 from fun ee => h124 ((h.is (z := 124) (by decide)).mp ee))]
    exact q0 h41 _ (h.fail _).1 (h.fail _).2
theorem ts_r {X : Scr} {e n k : Nat} {Q : Int32 → Wd → Prop} {w : Wd} {ch : Nat → Nat} (hk6 : k ≤ 6) (hE : ∀ k2, k = k2 + 1 → TSr X e Q w ch n k2 ∧ CDr X e Q w ch n k2) : TSr X e Q w ch n k := by
  intro j p c l hL hl hk q0 q1 u h
  have hp := h.pn
  have hle := h.2.1.le
  refine t193_110_at40 (d := e + 4) u ⟨h.ix, ?_⟩
  rw [tF_eq] at q0 q1
  unfold teF at q0 q1
  dsimp only at q0 q1
  by_cases h33 : ch p = 33
  · rw [if_neg (by omega), if_pos h33] at q0 q1
    rw [if_pos (show F_175_110 u = kI 33 from (h.is (z := 33) (by decide)).mpr h33)]
    refine ⟨h.ix, fun _ => h.ix17, ?_⟩
    by_cases hk0 : k = 0
    · rw [hk0] at h q0
      have hd := h.deep (kI 10)
      rw [hd.1, if_pos (by decide)]
      exact q0 _ rfl _ hd.2.1 hd.2.2
    · obtain ⟨k2, hk2⟩ : ∃ k2, k = k2 + 1 := ⟨k - 1, by omega⟩
      have hop := h.opn (a := 10) (by omega) (by omega) (by decide)
      rw [show (kI 10 : Int32) = nI 10 from rfl, hop.1, if_neg (by decide)]
      rw [hk2] at q0 q1
      have e0 : nnT ch (k2 + 1) (p, c) = ntF (tF ch k2) (p, c) := rfl
      rw [e0] at q0 q1
      unfold ntF at q0 q1
      dsimp only at q0 q1
      have hs := hop.2
      rw [show 6 - k + 1 = 6 - k2 by omega] at hs
      refine (hE k2 hk2).1 (j + 1) (p + 1) c l hL hl (by omega) (fun r er => ?_) (fun t er => ?_) _ hs
      · rw [er] at q0; exact q0 r rfl
      · rw [er] at q1
        have hh := q1 _ rfl
        rw [show 6 - (k2 + 1) - j = 6 - k2 - (j + 1) by omega] at hh
        exact hh
  rw [if_neg (show ¬ F_175_110 u = kI 33 from fun ee => h33 ((h.is (z := 33) (by decide)).mp ee))]
  refine ⟨h.ix, ?_⟩
  by_cases h40 : ch p = 40
  · rw [if_pos h40] at q0 q1
    rw [if_pos (show F_175_110 u = kI 40 from (h.is (z := 40) (by decide)).mpr h40)]
    refine ⟨h.ix, fun _ => h.ix17, ?_⟩
    by_cases hk0 : k = 0
    · rw [hk0] at h q0
      have hd := h.deep (kI 13)
      rw [hd.1, if_pos (by decide)]
      exact q0 _ rfl _ hd.2.1 hd.2.2
    · obtain ⟨k2, hk2⟩ : ∃ k2, k = k2 + 1 := ⟨k - 1, by omega⟩
      have hop := h.opn (a := 13) (by omega) (by omega) (by decide)
      rw [show (kI 13 : Int32) = nI 13 from rfl, hop.1, if_neg (by decide)]
      rw [hk2] at q0 q1
      have e0 : brT ch (k2 + 1) (p, c) = inF ch (cdF ch (tF ch k2)) 41 (p, c) := rfl
      rw [e0] at q0 q1
      unfold inF at q0 q1
      dsimp only at q0 q1
      have hs := hop.2
      rw [show 6 - k + 1 = 6 - k2 by omega] at hs
      have hne : NTs j l ≠ [] := by
        cases j with
        | zero => exact hl
        | succ j => intro ee; cases ee
      refine (hE k2 hk2).2 (p + 1) c ((13, 0) :: NTs j l) (fun x t ee => by cases ee; exact (show 12 < 13 by decide)) (by intro ee; cases ee) (fun r er => ?_) (fun t c1 P er h38 h124 hP => ?_) _ hs
      · rw [er] at q0; exact q0 r rfl
      · rw [er] at q0 q1
        dsimp only at q0 q1
        refine ce_r (by omega) hL hne hP h38 h124 (fun h41 => ?_) (fun h41 => ?_)
        · rw [if_pos h41] at q1
          exact q1 _ rfl
        · rw [if_neg h41] at q0
          exact q0 _ rfl
  · rw [if_neg h40, if_neg h33] at q0 q1
    rw [if_neg (show ¬ F_175_110 u = kI 40 from fun ee => h40 ((h.is (z := 40) (by decide)).mp ee))]
    refine c_192 (e := e) hk hL h (fun r er => ?_) (fun t er u2 h2 => ?_)
    · intro u2 g1 g2
      rw [if_pos (by decide)]
      exact q0 r er u2 g1 g2
    · rw [if_neg (by decide)]
      exact q1 t er u2 h2
theorem all_t {X : Scr} {e n : Nat} {Q : Int32 → Wd → Prop} {w : Wd} {ch : Nat → Nat} : ∀ k, k ≤ 6 → TSr X e Q w ch n k
  | 0, _ => ts_r (by omega) (fun k2 h => by omega)
  | k + 1, hk => ts_r hk (fun k2 h => by
      rw [show k2 = k by omega]
      exact ⟨all_t k (by omega), cdf_r (ajf_r (by omega) (all_t k (by omega)))⟩)
/-- readsCondition -/
theorem c_193 {X : Scr} {e n p : Nat} {Q : Int32 → Wd → Prop} {w u : Wd} {ch : Nat → Nat} {c : Cd} (hG : GPr w u) (hT : TXR u ch n p) (hC : CDR u c) (hb : c.2.2 ≤ p) (hn : n ≤ 240) (q0 : ∀ r, bkF ch 6 (p, c) = .inl r → FLr Q w r) (q1 : ∀ t, bkF ch 6 (p, c) = .inr t → ∀ u2, STr w u2 ch n t.1 t.2 [] 0 → Q (kI 1) u2) : CI X (e + 7) 193 [.ref 110] u Q := by
  have hs : STr w (up2 (up2 u 110 15 (kI 0)) 110 17 (kI 0)) ch n p c [] 0 := ⟨(hG.p (by omega)).p (by omega), hT.cg (by rw [up2_at, if_neg (by decide), up2_at, if_neg (by decide)]) (by rw [up2_at, if_neg (by decide), up2_at, if_neg (by decide)]) (by rw [up2_ne (by decide), up2_ne (by decide)]), hC.cg (by rw [up2_at, if_neg (by decide), up2_at, if_neg (by decide)]) (by rw [up2_ne (by decide), up2_ne (by decide)]), by rw [up2_at, if_pos rfl]; rfl, trivial, by rw [up2_at, if_neg (by decide), up2_at, if_pos rfl]; rfl, by omega, by show c.2.2 + 0 ≤ p; omega, Nat.zero_le _, hn⟩
  refine CI.of rfl (t193_110_at0 (d := e + 4) u ⟨hT.ix, ?_⟩)
  unfold bkF at q0 q1
  dsimp only at q0 q1
  have his : F_175_110 u = kI 40 ↔ ch p = 40 := by
    rw [hT.sg]
    exact enC_eq (k := 40) (by decide)
  by_cases h40 : ch p = 40
  · rw [if_pos h40] at q0 q1
    rw [if_pos (his.mpr h40)]
    refine ⟨fun _ => hs.ix17, ?_⟩
    have hop := hs.opn (a := 13) (by decide) (by omega) (by decide)
    rw [show (kI 13 : Int32) = nI 13 from rfl, hop.1, if_neg (by decide)]
    have e0 : brT ch 6 (p, c) = inF ch (cdF ch (tF ch 5)) 41 (p, c) := rfl
    rw [e0] at q0 q1
    unfold inF at q0 q1
    dsimp only at q0 q1
    have hc := cdf_r (ajf_r (X := X) (e := e) (Q := Q) (w := w) (ch := ch) (n := n) (k := 5) (by decide) (all_t 5 (by decide)))
    refine hc (p + 1) c [(13, 0)] (fun x t ee => by cases ee; exact (show 12 < 13 by decide)) (by intro ee; cases ee) (fun r er => ?_) (fun t c1 P er h38 h124 hP => ?_) _ hop.2
    · rw [er] at q0; exact q0 r rfl
    · rw [er] at q0 q1
      dsimp only at q0 q1
      refine oc_r hP h38 h124 (fun h41 => ?_) (fun h41 => ?_)
      · rw [if_pos h41] at q1
        exact q1 _ rfl
      · rw [if_neg h41] at q0
        exact q0 _ rfl
  · rw [if_neg h40] at q0
    rw [if_neg (fun ee => h40 (his.mp ee)), hT.fail]
    exact q0 _ rfl _ (hG.p (by omega)) (by rw [up2_at, if_pos rfl])
end PARS10
