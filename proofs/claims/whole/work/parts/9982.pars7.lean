/-! parsers, part 7: products, sums, readsSum -/
section PARS7
theorem osg_n1 (z : Nat) : osg z = 0 ∨ (2 ≤ osg z ∧ osg z ≤ 6) := by
  unfold osg
  repeat' (first | omega | split)
/-- a sign of a product or a sum, at the head -/
theorem op_r {X : Scr} {e B n p o : Nat} {Q : Int32 → Wd → Prop} {w : Wd} {ch : Nat → Nat} {c1 c : Cd} {l l1 : Sk} (hf : flu (decide (osg (ch p) < 4)) l1 c1 = (c, l)) (ho : osg (ch p) ≠ 0) (hF : FSr X e B Q w ch n (p + 1) c ((osg (ch p), 0) :: l) o) : HDr X e B Q w ch n p c1 l1 o := by
  intro u h
  have hs := osg_n1 (ch p)
  have hz := (osg_sign (ch p) (by have := h.2.1.le; omega) ho).1
  refine t188_110_at14 (d := e + 3) u _ ⟨h.ix, ?_⟩
  rw [h.osg, if_neg ho, if_neg (nI_mi1 _ (by omega))]
  by_cases h4 : osg (ch p) < 4
  · rw [if_neg (show ¬ kI 4 ≤ nI (osg (ch p)) from nI_ge (a := osg (ch p)) (b := 4) h4 (by decide))]
    rw [show decide (osg (ch p) < 4) = true from decide_eq_true h4] at hf
    refine c_185 (d := e + 2) (b := true) rfl h (fun u2 h2 => ?_)
    rw [hf] at h2
    exact ⟨h2.ix17, CI.of rfl (hF _ (h2.push hz (by omega)))⟩
  · rw [if_pos (show kI 4 ≤ nI (osg (ch p)) from nI_le (a := 4) (b := osg (ch p)) (by omega) (by omega))]
    rw [show decide (osg (ch p) < 4) = false from decide_eq_false h4] at hf
    refine c_185 (d := e + 2) (b := false) rfl h (fun u2 h2 => ?_)
    rw [hf] at h2
    exact ⟨h2.ix17, CI.of rfl (hF _ (h2.push hz (by omega)))⟩
theorem tr_r {X : Scr} {e B n k : Nat} {Q : Int32 → Wd → Prop} {w : Wd} {ch : Nat → Nat} (hF : FAr X e B Q w ch n k) (l : Sk) (hB : B ≤ l.length) (hL : LMs l) : ∀ (m p : Nat) (c1 c : Cd) (M : Sk), PMs M c1 c → n ≤ p + 2 * m → (∀ r, trL ch (faE ch k) m (p, c) = .inl r → FLr Q w r) → (∀ t c2 M2, trL ch (faE ch k) m (p, c) = .inr t → osg (ch t.1) < 4 → PMs M2 c2 t.2 → HDr X e B Q w ch n t.1 c2 (M2 ++ l) (6 - k)) → HDr X e B Q w ch n p c1 (M ++ l) (6 - k) := by
  intro m
  induction m with
  | zero =>
    intro p c1 c M hM hn q0 q1 u h
    have hp := h.pn
    have h256 : ch p = 256 := h.2.1.end.mp (by omega)
    exact q1 (p, c) c1 M rfl (by show osg (ch p) < 4; rw [h256]; decide) hM u h
  | succ m ih =>
    intro p c1 c M hM hn q0 q1 u h
    have hp := h.pn
    unfold trL at q0 q1
    dsimp only at q0 q1
    by_cases h4 : 4 ≤ osg (ch p)
    · rw [if_pos h4] at q0 q1
      have h6 := osg_le (ch p)
      have hc := h.2.1.c256
      have hz := (osg_sign (ch p) (by have := h.2.1.le; omega) (by omega)).1
      have hlt := hc.lt hz
      refine op_r (c := c) (l := l) (by rw [show decide (osg (ch p) < 4) = false from decide_eq_false (by omega)]; exact (hM.1 l hL).1) (by omega) ?_ u h
      refine hF (p + 1) c ((osg (ch p), 0) :: l) (by show B ≤ l.length + 1; omega) (fun r er => ?_) (fun t er => ?_)
      · rw [er] at q0; exact q0 r rfl
      · rw [er] at q0 q1
        have hg := (faE_grw hc k (p + 1, c) t hlt er).1
        have hg2 : p + 1 < t.1 := hg
        exact ih t.1 t.2 (emit t.2 (osg (ch p)) 0) [(osg (ch p), 0)] (PMs.one _ h4 h6) (by omega) q0 q1
    · rw [if_neg h4] at q1
      exact q1 (p, c) c1 M rfl (by show osg (ch p) < 4; omega) hM u h
theorem trm_r {X : Scr} {e B n k : Nat} {Q : Int32 → Wd → Prop} {w : Wd} {ch : Nat → Nat} (hF : FAr X e B Q w ch n k) : TMr X e B Q w ch n k := by
  intro p c l hB hL q0 q1
  intro u h
  have hp := h.pn
  unfold trmF at q0 q1
  refine hF p c l hB (fun r er => ?_) (fun t er => ?_) u h
  · rw [er] at q0; exact q0 r rfl
  · rw [er] at q0 q1
    exact tr_r hF l hB hL 240 t.1 t.2 t.2 [] (PMs.nil _) (by omega) q0 q1
theorem ex_r {X : Scr} {e B n k : Nat} {Q : Int32 → Wd → Prop} {w : Wd} {ch : Nat → Nat} (hF : TMr X e B Q w ch n k) (l : Sk) (hB : B ≤ l.length) (hL : LTs l) : ∀ (m p : Nat) (c1 c : Cd) (M : Sk), PDs M c1 c → osg (ch p) < 4 → n ≤ p + 2 * m → (∀ r, exL ch (trmF ch (faE ch k)) m (p, c) = .inl r → FLr Q w r) → (∀ t c2 M2, exL ch (trmF ch (faE ch k)) m (p, c) = .inr t → osg (ch t.1) = 0 → PDs M2 c2 t.2 → HDr X e B Q w ch n t.1 c2 (M2 ++ l) (6 - k)) → HDr X e B Q w ch n p c1 (M ++ l) (6 - k) := by
  intro m
  induction m with
  | zero =>
    intro p c1 c M hM h4 hn q0 q1 u h
    have hp := h.pn
    have h256 : ch p = 256 := h.2.1.end.mp (by omega)
    exact q1 (p, c) c1 M rfl (by show osg (ch p) = 0; rw [h256]; decide) hM u h
  | succ m ih =>
    intro p c1 c M hM h4 hn q0 q1 u h
    have hp := h.pn
    unfold exL at q0 q1
    dsimp only at q0 q1
    by_cases h2 : osg (ch p) = 2 ∨ osg (ch p) = 3
    · rw [if_pos h2] at q0 q1
      have hc := h.2.1.c256
      have hz := (osg_sign (ch p) (by have := h.2.1.le; omega) (by omega)).1
      have hlt := hc.lt hz
      refine op_r (c := c) (l := l) (by rw [show decide (osg (ch p) < 4) = true from decide_eq_true (by omega)]; exact hM.1 l hL) (by omega) ?_ u h
      refine hF (p + 1) c ((osg (ch p), 0) :: l) (by show B ≤ l.length + 1; omega) (fun x t ee => by cases ee; exact Or.inl h4) (fun r er => ?_) (fun t c2 M2 er h4b hM2 => ?_)
      · rw [er] at q0; exact q0 r rfl
      · rw [er] at q0 q1
        have hg := (trm_grw hc (faE_grw hc k) (p + 1, c) t hlt er).1
        have hg2 : p + 1 < t.1 := hg
        have hh := ih t.1 c2 (emit t.2 (osg (ch p)) 0) (M2 ++ [(osg (ch p), 0)]) (hM2.app (by omega) h4) h4b (by omega) q0 q1
        rw [List.append_assoc] at hh
        exact hh
    · rw [if_neg h2] at q1
      have := osg_n1 (ch p)
      exact q1 (p, c) c1 M rfl (by show osg (ch p) = 0; omega) hM u h
theorem exp_r {X : Scr} {e B n k : Nat} {Q : Int32 → Wd → Prop} {w : Wd} {ch : Nat → Nat} (hF : TMr X e B Q w ch n k) : EXr X e B Q w ch n k := by
  intro p c l hB hL q0 q1
  intro u h
  have hp := h.pn
  rw [eF_eq] at q0 q1
  unfold expF at q0 q1
  refine hF p c l hB hL.m (fun r er => ?_) (fun t c1 M er h4 hM => ?_) u h
  · rw [er] at q0; exact q0 r rfl
  · rw [er] at q0 q1
    exact ex_r hF l hB hL 240 t.1 c1 t.2 M hM.d h4 (by omega) q0 q1
theorem all_r {X : Scr} {e B n : Nat} {Q : Int32 → Wd → Prop} {w : Wd} {ch : Nat → Nat} : ∀ k, k ≤ 6 → EXr X e B Q w ch n k
  | 0, _ => exp_r (trm_r (fac_r (by omega) (fun k2 h => by omega)))
  | k + 1, hk => exp_r (trm_r (fac_r hk (fun k2 h => by rw [show k2 = k by omega]; exact all_r k (by omega))))
/-- readsSum -/
theorem c_188 {X : Scr} {e n p k : Nat} {Q : Int32 → Wd → Prop} {w u : Wd} {ch : Nat → Nat} {c : Cd} {l : Sk} (hk : k ≤ 6) (hL : LTs l) (h : STr w u ch n p c l (6 - k)) (q0 : ∀ r, eF ch k (p, c) = .inl r → FLr Q w r) (q1 : ∀ t, eF ch k (p, c) = .inr t → ∀ u2, STr w u2 ch n t.1 t.2 l (6 - k) → Q (kI 1) u2) : CI X (e + 5) 188 [.ref 110] u Q := by
  refine CI.of rfl (t188_110_at0 (d := e + 3) u ?_)
  rw [h.2.2.2.1]
  refine CI.of rfl (all_r (X := X) (e := e) (B := l.length) (n := n) (Q := Q) (w := w) (ch := ch) k hk p c l (Nat.le_refl _) hL q0 (fun t c1 M er ho hP => ?_) u h)
  intro u2 h2
  have hp := h2.pn
  have hl9 := h2.2.2.2.2.2.2.2.2.1
  have hlen : l.length ≤ (M ++ l).length := by rw [List.length_append]; omega
  have hno := h2.2.2.2.2.1.no hP.2
  refine t188_110_at14 (d := e + 3) u2 _ ⟨h2.ix, ?_⟩
  rw [h2.osg, if_pos ho, if_pos rfl]
  refine ⟨h2.ix, ?_⟩
  have hend : CU X (e + 3 + 1) 185 [.ref 110, .int (kI 1)] u2 (fun w5 => Q (kI 1) w5) := by
    refine c_185 (d := e + 2) (b := true) rfl h2 (fun u3 h3 => ?_)
    rw [hP.1 l hL] at h3
    exact q1 t er u3 h3
  by_cases h93 : F_175_110 u2 = kI 93
  · rw [if_pos h93]
    refine c_187 (d := e + 2) h2.2.2.2.1 (by omega) hlen (fun hx => ?_) (fun _ => ?_)
    · obtain ⟨j, j1, j2, j3⟩ := hx
      exact absurd j3 (hno j j1 j2)
    · rw [if_pos (by decide)]
      refine c_187 (d := e + 2) h2.2.2.2.1 (by omega) hlen (fun hx => ?_) (fun _ => ?_)
      · obtain ⟨j, j1, j2, j3⟩ := hx
        exact absurd j3 (hno j j1 j2)
      · rw [if_pos (by decide)]
        exact hend
  · rw [if_neg h93]
    refine c_187 (d := e + 2) h2.2.2.2.1 (by omega) hlen (fun hx => ?_) (fun _ => ?_)
    · obtain ⟨j, j1, j2, j3⟩ := hx
      exact absurd j3 (hno j j1 j2)
    · rw [if_pos (by decide)]
      exact hend
end PARS7
