/-! parsers, part 9: the reference's conditions come to the functions -/
section PARS9
theorem STr.is {w u : Wd} {ch : Nat → Nat} {n p o z : Nat} {c : Cd} {l : Sk} (h : STr w u ch n p c l o) (hz : z < 256) : F_175_110 u = nI z ↔ ch p = z := by
  rw [h.2.1.sg]
  exact enC_eq hz
/-- the second sum of a comparison -/
theorem cm_r {X : Scr} {e n p k j a : Nat} {Q : Int32 → Wd → Prop} {w u : Wd} {ch : Nat → Nat} {c : Cd} {l : Sk} (hk : k + j ≤ 6) (hL : LNs l) (h : STr w u ch n p c (NTs j l) (6 - k)) (hz : ch p < 256) (q0 : ∀ r, eF ch k (p + 1, c) = .inl r → FLr Q w r) (q1 : ∀ t, eF ch k (p + 1, c) = .inr t → ∀ u2, STr w u2 ch n t.1 (nts j (emit t.2 a 0)) l (6 - k - j) → Q (kI 1) u2) : CI X (e + 5) 188 [.ref 110] (up2 u 110 11 ((u 110 11) + (kI 1))) (fun x6 w6 => (if x6 = 0 then Q (kI 0) w6 else (((inB (w6 110 16) 260 = true)) ∧ CU X (e + 5) 189 [.ref 110] (G_180_110 (nI a) (kI 0) w6) (fun w7 => Q (kI 1) w7)))) := by
  have hc := h.2.1.c256
  have hlt := hc.lt hz
  have h8 := h.2.2.2.2.2.2.2.1
  refine c_188 (e := e) (by omega) (NTs.t hL j) (h.step hz) (fun r er => ?_) (fun t er u2 h2 => ?_)
  · intro u2 g1 g2
    rw [if_pos (by decide)]
    exact q0 r er u2 g1 g2
  · rw [if_neg (by decide)]
    refine ⟨h2.ix16, ?_⟩
    have hg := (eF_grw hc k (p + 1, c) t hlt er).2.2.2
    have hg2 : t.2.2.2 + (p + 1) ≤ c.2.2 + t.1 := hg
    have h3 := h2.note (a := a) (v := 0) (by omega)
    rw [show 6 - k = 6 - k - j + j by omega] at h3
    exact c_189 (d := e + 3) hL h3 (fun u3 h4 => q1 t er u3 h4)
/-- readsCompared -/
theorem c_192 {X : Scr} {e n p k j : Nat} {Q : Int32 → Wd → Prop} {w u : Wd} {ch : Nat → Nat} {c : Cd} {l : Sk} (hk : k + j ≤ 6) (hL : LNs l) (h : STr w u ch n p c (NTs j l) (6 - k)) (q0 : ∀ r, cmF ch (eF ch k) (p, c) = .inl r → FLr Q w r) (q1 : ∀ t, cmF ch (eF ch k) (p, c) = .inr t → ∀ u2, STr w u2 ch n t.1 (nts j t.2) l (6 - k - j) → Q (kI 1) u2) : CI X (e + 6) 192 [.ref 110] u Q := by
  refine CI.of rfl (t192_110_at0 (d := e + 4) u ?_)
  unfold cmF at q0 q1
  refine c_188 (e := e) (by omega) (NTs.t hL j) h (fun r er => ?_) (fun t er u2 h2 => ?_)
  · intro u2 g1 g2
    rw [if_pos (by decide)]
    rw [er] at q0
    exact q0 r rfl u2 g1 g2
  · rw [if_neg (by decide)]
    rw [er] at q0 q1
    dsimp only at q0 q1
    refine ⟨h2.ix, ?_⟩
    have key : ∀ a, csg (ch t.1) = a → a ≠ 0 → CI X (e + 5) 188 [.ref 110] (up2 u2 110 11 ((u2 110 11) + (kI 1))) (fun x6 w6 => (if x6 = 0 then Q (kI 0) w6 else (((inB (w6 110 16) 260 = true)) ∧ CU X (e + 5) 189 [.ref 110] (G_180_110 (nI a) (kI 0) w6) (fun w7 => Q (kI 1) w7)))) := by
      intro a ha h0
      rw [ha, if_neg h0] at q0 q1
      have hz := (csg_sign (ch t.1) (by have := h2.2.1.le; omega) (by omega)).1
      refine cm_r hk hL h2 hz (fun r er2 => ?_) (fun q er2 u3 h3 => ?_)
      · rw [er2] at q0; exact q0 r rfl
      · rw [er2] at q1; exact q1 _ rfl u3 h3
    by_cases h60 : ch t.1 = 60
    · rw [if_pos (show F_175_110 u2 = kI 60 from (h2.is (z := 60) (by decide)).mpr h60)]
      exact key 7 (by rw [h60]; rfl) (by decide)
    rw [if_neg (show ¬ F_175_110 u2 = kI 60 from fun ee => h60 ((h2.is (z := 60) (by decide)).mp ee))]
    refine ⟨h2.ix, ?_⟩
    by_cases h62 : ch t.1 = 62
    · rw [if_pos (show F_175_110 u2 = kI 62 from (h2.is (z := 62) (by decide)).mpr h62)]
      exact key 8 (by rw [h62]; rfl) (by decide)
    rw [if_neg (show ¬ F_175_110 u2 = kI 62 from fun ee => h62 ((h2.is (z := 62) (by decide)).mp ee))]
    refine ⟨h2.ix, ?_⟩
    by_cases h61 : ch t.1 = 61
    · rw [if_pos (show F_175_110 u2 = kI 61 from (h2.is (z := 61) (by decide)).mpr h61)]
      exact key 9 (by rw [h61]; rfl) (by decide)
    rw [if_neg (show ¬ F_175_110 u2 = kI 61 from fun ee => h61 ((h2.is (z := 61) (by decide)).mp ee))]
    have h0 : csg (ch t.1) = 0 := by unfold csg; rw [if_neg h60, if_neg h62, if_neg h61]
    rw [if_pos h0] at q0
    exact q0 _ rfl _ (h2.fail _).1 (h2.fail _).2
def H40 (X : Scr) (e : Nat) (Q : Int32 → Wd → Prop) (w : Wd) (ch : Nat → Nat) (n p : Nat) (c : Cd) (l : Sk) (o : Nat) : Prop := ∀ u, STr w u ch n p c l o → EI X (e + 6) 193 (40, [some (.ref 110)], [], SH, u) Q
def H92 (X : Scr) (e : Nat) (Q : Int32 → Wd → Prop) (w : Wd) (ch : Nat → Nat) (n p : Nat) (c : Cd) (l : Sk) (o : Nat) : Prop := ∀ u, STr w u ch n p c l o → EI X (e + 6) 193 (92, [some (.ref 110)], [], SH, u) Q
def TSr (X : Scr) (e : Nat) (Q : Int32 → Wd → Prop) (w : Wd) (ch : Nat → Nat) (n k : Nat) : Prop := ∀ j p c l, LNs l → l ≠ [] → k + j ≤ 6 → (∀ r, tF ch k (p, c) = .inl r → FLr Q w r) → (∀ t, tF ch k (p, c) = .inr t → H92 X e Q w ch n t.1 (nts j t.2) l (6 - k - j)) → H40 X e Q w ch n p c (NTs j l) (6 - k)
def AJr (X : Scr) (e : Nat) (Q : Int32 → Wd → Prop) (w : Wd) (ch : Nat → Nat) (n k : Nat) : Prop := ∀ p c l, LAs l → l ≠ [] → (∀ r, jmF ch 38 11 (tF ch k) (p, c) = .inl r → FLr Q w r) → (∀ t c1 P, jmF ch 38 11 (tF ch k) (p, c) = .inr t → ch t.1 ≠ 38 → PAs P c1 t.2 → H92 X e Q w ch n t.1 c1 (P ++ l) (6 - k)) → H40 X e Q w ch n p c l (6 - k)
def CDr (X : Scr) (e : Nat) (Q : Int32 → Wd → Prop) (w : Wd) (ch : Nat → Nat) (n k : Nat) : Prop := ∀ p c l, LJs l → l ≠ [] → (∀ r, cdF ch (tF ch k) (p, c) = .inl r → FLr Q w r) → (∀ t c1 P, cdF ch (tF ch k) (p, c) = .inr t → ch t.1 ≠ 38 → ch t.1 ≠ 124 → PJs P c1 t.2 → H92 X e Q w ch n t.1 c1 (P ++ l) (6 - k)) → H40 X e Q w ch n p c l (6 - k)
theorem and_r {X : Scr} {e n p o : Nat} {Q : Int32 → Wd → Prop} {w : Wd} {ch : Nat → Nat} {c1 c : Cd} {l l1 : Sk} (hf : fll false l1 c1 = (c, l)) (hJ : JOk false l1 c1) (hz : ch p = 38) (hF : H40 X e Q w ch n (p + 1) (emit c 11 0) ((11, c.2.2) :: l) o) : H92 X e Q w ch n p c1 l1 o := by
  intro u h
  refine t193_110_at92 (d := e + 4) u ⟨h.ix, ?_⟩
  rw [if_neg (show ¬ F_175_110 u = kI 41 from fun ee => by have := (h.is (z := 41) (by decide)).mp ee; omega)]
  refine ⟨h.ix, ?_⟩
  rw [if_pos (show F_175_110 u = kI 38 from (h.is (z := 38) (by decide)).mpr hz)]
  refine ⟨h.ix, ?_⟩
  rw [if_neg (show ¬ F_175_110 u = kI 124 from fun ee => by have := (h.is (z := 124) (by decide)).mp ee; omega)]
  refine c_190 (d := e + 4) (b := false) rfl h hJ (fun u2 h2 => ?_)
  rw [hf] at h2
  refine ⟨h2.ix, ?_⟩
  rw [if_pos (show F_175_110 u2 = kI 38 from (h2.is (z := 38) (by decide)).mpr hz)]
  refine ⟨h2.ix17, ?_, hF _ (h2.jmp (by omega) (by decide) (by decide))⟩
  rw [up2_at, if_neg (by decide), up2_ne (by decide)]
  exact h2.ix16
theorem or_r {X : Scr} {e n p o : Nat} {Q : Int32 → Wd → Prop} {w : Wd} {ch : Nat → Nat} {c1 c : Cd} {l l1 : Sk} (hf : fll true l1 c1 = (c, l)) (hJ : JOk true l1 c1) (hz : ch p = 124) (hF : H40 X e Q w ch n (p + 1) (emit c 12 0) ((12, c.2.2) :: l) o) : H92 X e Q w ch n p c1 l1 o := by
  intro u h
  refine t193_110_at92 (d := e + 4) u ⟨h.ix, ?_⟩
  rw [if_neg (show ¬ F_175_110 u = kI 41 from fun ee => by have := (h.is (z := 41) (by decide)).mp ee; omega)]
  refine ⟨h.ix, ?_⟩
  rw [if_neg (show ¬ F_175_110 u = kI 38 from fun ee => by have := (h.is (z := 38) (by decide)).mp ee; omega)]
  refine ⟨h.ix, ?_⟩
  rw [if_pos (show F_175_110 u = kI 124 from (h.is (z := 124) (by decide)).mpr hz)]
  refine ⟨h.ix, c_190 (d := e + 4) (b := true) rfl h hJ (fun u2 h2 => ?_)⟩
  rw [hf] at h2
  refine ⟨h2.ix, ?_⟩
  rw [if_neg (show ¬ F_175_110 u2 = kI 38 from fun ee => by have := (h2.is (z := 38) (by decide)).mp ee; omega)]
  refine ⟨h2.ix17, ?_, hF _ (h2.jmp (by omega) (by decide) (by decide))⟩
  rw [up2_at, if_neg (by decide), up2_ne (by decide)]
  exact h2.ix16
theorem aj_r {X : Scr} {e n k : Nat} {Q : Int32 → Wd → Prop} {w : Wd} {ch : Nat → Nat} (hk : k ≤ 6) (hT : TSr X e Q w ch n k) (l : Sk) (hL : LAs l) : ∀ (m p : Nat) (c1 c : Cd) (P : Sk), PAs P c1 c → n ≤ p + 2 * m → (∀ r, jmL ch 38 11 (tF ch k) m (p, c) = .inl r → FLr Q w r) → (∀ t c2 P2, jmL ch 38 11 (tF ch k) m (p, c) = .inr t → ch t.1 ≠ 38 → PAs P2 c2 t.2 → H92 X e Q w ch n t.1 c2 (P2 ++ l) (6 - k)) → H92 X e Q w ch n p c1 (P ++ l) (6 - k) := by
  intro m
  induction m with
  | zero =>
    intro p c1 c P hP hn q0 q1 u h
    have hp := h.pn
    have h256 : ch p = 256 := h.2.1.end.mp (by omega)
    exact q1 (p, c) c1 P rfl (by show ch p ≠ 38; omega) hP u h
  | succ m ih =>
    intro p c1 c P hP hn q0 q1 u h
    have hp := h.pn
    unfold jmL at q0 q1
    dsimp only at q0 q1
    by_cases h38 : ch p = 38
    · rw [if_pos h38] at q0 q1
      have hc := h.2.1.c256
      have hlt := hc.lt (show ch p < 256 by omega)
      refine and_r (hP l hL).1 (hP l hL).2.1 h38 ?_ u h
      refine hT 0 (p + 1) (emit c 11 0) ((11, c.2.2) :: l) (fun x t ee => by cases ee; exact (show 10 < 11 by decide)) (by intro ee; cases ee) (by omega) (fun r er => ?_) (fun t er => ?_)
      · rw [er] at q0; exact q0 r rfl
      · rw [er] at q0 q1
        have hg : p + 1 < t.1 := (tF_grw hc k (p + 1, emit c 11 0) t hlt er).1
        have hs := (tF_sg k (p + 1, emit c 11 0) t er)
        have hs1 := hs.1 c.2.2 (show c.2.2 < c.2.2 + 1 by omega)
        have hs2 : c.2.2 + 1 < t.2.2.2 := hs.2.1
        have e1 : t.2.1 c.2.2 = 11 := hs1.1.trans updN_at
        have e2 : t.2.2.1 c.2.2 = 0 := hs1.2.trans updN_at
        exact ih t.1 t.2 (land t.2 c.2.2) [(11, c.2.2)] (PAs.one ⟨by omega, by omega, by omega⟩) (by omega) q0 q1
    · rw [if_neg h38] at q1
      exact q1 (p, c) c1 P rfl h38 hP u h
theorem ajf_r {X : Scr} {e n k : Nat} {Q : Int32 → Wd → Prop} {w : Wd} {ch : Nat → Nat} (hk : k ≤ 6) (hT : TSr X e Q w ch n k) : AJr X e Q w ch n k := by
  intro p c l hL hl q0 q1
  intro u h
  have hp := h.pn
  unfold jmF at q0 q1
  refine hT 0 p c l hL.n hl (by omega) (fun r er => ?_) (fun t er => ?_) u h
  · rw [er] at q0; exact q0 r rfl
  · rw [er] at q0 q1
    exact aj_r hk hT l hL 240 t.1 t.2 t.2 [] (PAs.nil _) (by omega) q0 q1
theorem dj_r {X : Scr} {e n k : Nat} {Q : Int32 → Wd → Prop} {w : Wd} {ch : Nat → Nat} (hT : AJr X e Q w ch n k) (l : Sk) (hL : LJs l) : ∀ (m p : Nat) (c1 c : Cd) (P : Sk), PJs P c1 c → ch p ≠ 38 → n ≤ p + 2 * m → (∀ r, jmL ch 124 12 (jmF ch 38 11 (tF ch k)) m (p, c) = .inl r → FLr Q w r) → (∀ t c2 P2, jmL ch 124 12 (jmF ch 38 11 (tF ch k)) m (p, c) = .inr t → ch t.1 ≠ 38 → ch t.1 ≠ 124 → PJs P2 c2 t.2 → H92 X e Q w ch n t.1 c2 (P2 ++ l) (6 - k)) → H92 X e Q w ch n p c1 (P ++ l) (6 - k) := by
  intro m
  induction m with
  | zero =>
    intro p c1 c P hP h38 hn q0 q1 u h
    have hp := h.pn
    have h256 : ch p = 256 := h.2.1.end.mp (by omega)
    exact q1 (p, c) c1 P rfl h38 (by show ch p ≠ 124; omega) hP u h
  | succ m ih =>
    intro p c1 c P hP h38 hn q0 q1 u h
    have hp := h.pn
    unfold jmL at q0 q1
    dsimp only at q0 q1
    by_cases h124 : ch p = 124
    · rw [if_pos h124] at q0 q1
      have hc := h.2.1.c256
      have hlt := hc.lt (show ch p < 256 by omega)
      refine or_r (hP l hL).1 (hP l hL).2 h124 ?_ u h
      refine hT (p + 1) (emit c 12 0) ((12, c.2.2) :: l) (fun x t ee => by cases ee; exact (show 11 < 12 by decide)) (by intro ee; cases ee) (fun r er => ?_) (fun t c2 P2 er h38b hP2 => ?_)
      · rw [er] at q0; exact q0 r rfl
      · rw [er] at q0 q1
        have hg : p + 1 < t.1 := (jm_grw hc (by decide) (tF_grw hc k) (p + 1, emit c 12 0) t hlt er).1
        have hs := (jm_sg (Or.inl rfl) (tF_sg k) (p + 1, emit c 12 0) t er)
        have hs1 := hs.1 c.2.2 (show c.2.2 < c.2.2 + 1 by omega)
        have hs2 : c.2.2 + 1 < t.2.2.2 := hs.2.1
        have e1 : t.2.1 c.2.2 = 12 := hs1.1.trans updN_at
        have e2 : t.2.2.1 c.2.2 = 0 := hs1.2.trans updN_at
        have hh := ih t.1 c2 (land t.2 c.2.2) (P2 ++ [(12, c.2.2)]) (hP2.app ⟨by omega, by omega, by omega⟩) h38b (by omega) q0 q1
        rw [List.append_assoc] at hh
        exact hh
    · rw [if_neg h124] at q1
      exact q1 (p, c) c1 P rfl h38 h124 hP u h
theorem cdf_r {X : Scr} {e n k : Nat} {Q : Int32 → Wd → Prop} {w : Wd} {ch : Nat → Nat} (hT : AJr X e Q w ch n k) : CDr X e Q w ch n k := by
  intro p c l hL hl q0 q1
  intro u h
  have hp := h.pn
  unfold cdF at q0 q1
  have e0 : jmF ch 124 12 (jmF ch 38 11 (tF ch k)) (p, c) = match jmF ch 38 11 (tF ch k) (p, c) with
    | .inl e => .inl e
    | .inr q => jmL ch 124 12 (jmF ch 38 11 (tF ch k)) 240 q := rfl
  rw [e0] at q0 q1
  refine hT p c l hL.a hl (fun r er => ?_) (fun t c1 P er h38 hP => ?_) u h
  · rw [er] at q0; exact q0 r rfl
  · rw [er] at q0 q1
    exact dj_r hT l hL 240 t.1 c1 t.2 P hP.j h38 (by omega) q0 q1
end PARS9
