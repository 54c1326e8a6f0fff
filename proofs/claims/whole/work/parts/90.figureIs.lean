/-! figureIs -/
section FIGUREIS
theorem ndF_cg {fc : Nat → Bool} {AK : (Nat → Int32) → Int32} {T T2 Pp P2 : Nat → Int32} {f : Nat} (h1 : T2 f = T f) (h2 : ∀ c, c < 6 → P2 c = Pp c) : ∀ (m : Nat) (n : Nat → Int32) (s : Int32), ndF fc AK T2 P2 f m n s = ndF fc AK T Pp f m n s := by
  intro m
  induction m with
  | zero => intro n s; simp only [ndF]
  | succ m ih =>
    intro n s
    have e : chF fc (fun c => AK (Vof n T2 P2 c f (kI 11))) 6 0 (none, 0) = chF fc (fun c => AK (Vof n T Pp c f (kI 11))) 6 0 (none, 0) := chF_cg (fun c hc => by rw [Vof_cg h1 (h2 c hc)]) 6 0 _ rfl
    unfold ndF
    rw [e]
    generalize chF fc (fun c => AK (Vof n T Pp c f (kI 11))) 6 0 (none, 0) = R
    obtain ⟨o, k⟩ := R
    cases o with
    | none => rfl
    | some c => exact ih _ _
theorem nedF_cg {fc : Nat → Bool} {AK : (Nat → Int32) → Int32} {T T2 Pp P2 : Nat → Int32} {f t S : Nat} {n : Nat → Int32} (h1 : T2 f = T f) (h2 : ∀ c, c < 6 → P2 c = Pp c) : nedF fc AK T2 P2 f n t S = nedF fc AK T Pp f n t S := by
  unfold nedF
  rw [ndF_cg h1 h2]
/-- only what the two work with has changed -/
def NDF (w u : Wd) : Prop := (∀ a, ¬ (17 ≤ a ∧ a ≤ 21) → a ≠ 85 → a ≠ 86 → a ≠ 87 → a ≠ 88 → a ≠ 110 → a ≠ 111 → a ≠ 112 → a ≠ 129 → a ≠ 130 → a ≠ 139 → u a = w a) ∧ (∀ i, i < 162 → u 111 i = w 111 i) ∧ ∀ j, j ≠ 40 → u 110 j = w 110 j
theorem II.nd {w u : Wd} (h : II w) (hN : NDF w u) : II u := by
  obtain ⟨z, r, sj⟩ := hN
  refine h.ss2 (fun a ha hne => ?_) r ?_ ?_ ?_ ?_ (fun j hj => sj j (by omega))
  · refine z a ?_ ?_ ?_ ?_ ?_ ?_ hne ?_ ?_ ?_ ?_
    · rintro ⟨x1, x2⟩
      have : a = 17 ∨ a = 18 ∨ a = 19 ∨ a = 20 ∨ a = 21 := by omega
      rcases this with rfl | rfl | rfl | rfl | rfl <;> cases ha
    all_goals (intro e; subst e; cases ha)
  · rw [z 0 (by omega) (by decide) (by decide) (by decide) (by decide) (by decide) (by decide) (by decide) (by decide) (by decide) (by decide)]
  · rw [z 0 (by omega) (by decide) (by decide) (by decide) (by decide) (by decide) (by decide) (by decide) (by decide) (by decide) (by decide)]
  · rw [z 1 (by omega) (by decide) (by decide) (by decide) (by decide) (by decide) (by decide) (by decide) (by decide) (by decide) (by decide)]
  · rw [z 102 (by omega) (by decide) (by decide) (by decide) (by decide) (by decide) (by decide) (by decide) (by decide) (by decide) (by decide)]
/-! forecasts -/
def fcsF (n : Nat → Int32) (f : Nat) : Nat → Nat → Int32 → Int32
  | 0, _, a => a
  | m + 1, k, a => fcsF n f m (k + 1) (a + n (36 + 12 * f + k))
theorem l_15 {X : Scr} {d f mo : Nat} {w : Wd} (hf : f < 6) (hB : BK 7 w (w 111)) (hm : w 7 4 = nI mo) (h1 : 1 ≤ mo) (h2 : mo ≤ 11) : ∀ (m k : Nat) (a : Int32), k + m = mo → EI X (d + 2) 15 (15, [some (.ref 7), some (.int (nI f)), some (.int a), some (.int (nI k))], [], SH, w) (fun x u => x = (kI 24 * fcsF (w 111) f m k a + nI mo) / (kI 2 * nI mo) ∧ u = w) := by
  intro m
  induction m with
  | zero =>
    intro k a hk
    refine t15_7_at15 w _ _ _ ?_
    rw [hm, if_pos (nI_le (by omega) (by omega))]
    refine ⟨?_, rfl, rfl⟩
    show ¬ nI 2 * nI mo = 0
    rw [pk_mul]
    exact nI_ne0 (by omega) (by omega)
  | succ m ih =>
    intro k a hk
    refine t15_7_at15 w _ _ _ ?_
    rw [hm, if_neg (nI_ge (by omega) (by omega)), k1, histOf7 hf (by omega), hB.2.2.1 (12 * f + k) (by omega), ← Nat.add_assoc]
    exact ih (k + 1) _ (by omega)
theorem l_215 {X : Scr} {d f mo : Nat} {w : Wd} (hf : f < 6) (h1 : 1 ≤ mo) (h2 : mo ≤ 11) : ∀ (m k : Nat) (a : Int32), k + m = mo → EI X (d + 1) 215 (14, [some (.ref 110), some (.int (nI f)), some (.int (nI mo)), some (.int a), some (.int (nI k))], [], SH, w) (fun x u => x = (kI 24 * fcsF (w 111) f m k a + nI mo) / (kI 2 * nI mo) ∧ u = w) := by
  intro m
  induction m with
  | zero =>
    intro k a hk
    refine t215_110_at14 w _ _ _ _ ?_
    rw [if_pos (nI_le (by omega) (by omega)), if_neg (nI_ne0 (by omega) (by omega))]
    refine ⟨?_, rfl, rfl⟩
    show ¬ nI 2 * nI mo = 0
    rw [pk_mul]
    exact nI_ne0 (by omega) (by omega)
  | succ m ih =>
    intro k a hk
    refine t215_110_at14 w _ _ _ _ ?_
    rw [if_neg (nI_ge (by omega) (by omega)), k1, ixG, nI_clamp (by omega)]
    exact ⟨inB_nI (by omega) (by decide), ih (k + 1) _ (by omega)⟩
theorem J_figureIs {X : Scr} {w : Wd} (h : II w) (p q : Int32) : JJ X 127 217 [.int p, .int q] w := by
  have h0 := h
  obtain ⟨hO, hB, hK, hT, hL, hD, hR⟩ := h
  obtain ⟨o1, o2, o3, o4, o5, o6, o7⟩ := hO
  obtain ⟨fc, f1, f2⟩ := told_fc o1
  obtain ⟨op, ar, lt, la, lm, lb, cnt, len, LC, LR, LV⟩ := law_of hL
  obtain ⟨v1, v2⟩ := hB.2.split f1
  unfold JJ
  refine CI.of (d := 59) rfl (t127_0_at0 (d := 57) w p q ?_)
  have t : ∀ (u : Wd) (Q : Int32 → Wd → Prop), _ → CI X 60 217 [.ref 110, .int p, .int q] u Q := fun u Q H => CI.of (d := 59) rfl (t217_110_at0 (d := 57) u p q H)
  by_cases h1 : F_52_3 p w = 0
  · rw [if_pos h1]
    refine t w _ ?_
    rw [isF_eq o2, if_pos h1]
    exact ⟨rfl, h0⟩
  rw [if_neg h1]
  have h1r : ∀ u : Wd, u 110 7 = w 110 7 → ¬ F_165_110 p u = 0 := fun u e => by rw [c165 e, isF_eq o2]; exact h1
  obtain ⟨f, hf, rfl, -⟩ := hasF h1
  have hib : inB (nI f) 6 = true := inB_nI hf (by decide)
  have cl : (nI f).toNatClampNeg = f := nI_clamp (by omega)
  have hzw : ∀ c, c < 6 → F_164_110 (nI c) w = 0 → w 111 (6 * c + f) = 0 := fun c hc hz => v2 c f hc hf ((f2 c hc).mp hz)
  by_cases h2 : F_153 q (kI 10) (kI 21) w = 0
  · rw [if_pos h2]
    by_cases q0 : q = kI 0
    · rw [if_pos q0]
      refine t w _ ?_
      rw [if_neg (h1r w rfl), if_pos q0, targetOf_nI hf, cl]
      exact ⟨hib, (o7 f hf).2.1, h0⟩
    rw [if_neg q0]
    by_cases q1 : q = kI 1
    · rw [if_pos q1]
      refine t w _ ?_
      rw [if_neg (h1r w rfl), if_neg q0, if_pos q1]
      refine CI.mono (c_167 (d := 56) hf hzw) ?_
      intro x ua hx
      obtain ⟨hx, hu⟩ := hx
      have hu2 := hu.symm
      subst hu2
      rw [sumOf7 hf]
      exact ⟨by rw [hx]; exact (hB.1.2.1 f hf).symm, h0⟩
    rw [if_neg q1]
    by_cases q2 : q = kI 2
    · rw [if_pos q2]
      obtain ⟨mo, hmo, em⟩ := v1.2.2.1
      have em7 : w 7 4 = nI mo := by rw [hB.1.2.2.2.2.1]; exact em
      have k157 : (kI 157).toNatClampNeg = 157 := rfl
      refine CI.of (d := 58) rfl (t15_7_at0 (d := 56) w _ ?_)
      by_cases hm1 : 1 ≤ mo
      · rw [em7, if_pos (show kI 1 ≤ nI mo from nI_le (a := 1) hm1 (by omega))]
        refine EI.mono (l_15 (d := 56) hf hB.1 em7 hm1 hmo mo 0 (kI 0) (Nat.zero_add _)) ?_
        intro x ua hx
        obtain ⟨hx, hu⟩ := hx
        have hu2 := hu.symm
        subst hu2
        refine t w _ ?_
        rw [if_neg (h1r w rfl), if_neg q0, if_neg q1, if_pos q2]
        refine CI.of (d := 58) rfl (t215_110_at0 (d := 57) w _ ?_)
        rw [k157, em]
        refine EI.mono (l_215 (d := 57) hf hm1 hmo mo 0 (kI 0) (Nat.zero_add _)) ?_
        intro y ub hy
        obtain ⟨hy, hub⟩ := hy
        have hub2 := hub.symm
        subst hub2
        exact ⟨by rw [hy, hx], h0⟩
      · have e0 : mo = 0 := by omega
        subst e0
        rw [em7, if_neg (show ¬ kI 1 ≤ nI 0 by decide)]
        refine t w _ ?_
        rw [if_neg (h1r w rfl), if_neg q0, if_neg q1, if_pos q2]
        refine CI.of (d := 58) rfl (t215_110_at0 (d := 57) w _ ?_)
        rw [k157, em]
        refine t215_110_at14 (d := 57) w _ _ _ _ ?_
        rw [if_pos (show nI 0 ≤ kI 0 by decide), if_pos (show nI 0 = 0 from rfl)]
        exact ⟨rfl, h0⟩
    rw [if_neg q2]
    by_cases q3 : q = kI 3
    · rw [if_pos q3]
      obtain ⟨t1, t2⟩ := to_17_7 hB.1
      obtain ⟨tt, ht, et⟩ := (o7 f hf).2.2.2.2.1
      obtain ⟨S, hS, eS⟩ := CT.sum (n := w 111) v1.1 hf
      have e3 : G_10_17_7 w 3 = w 3 := t2 3 (by omega)
      refine CI.mono (c_24 (d := 52) (fc := fc) (t := tt) (S := S) hf (LC.cg2 (fun c h1 h2 => t2 c (by omega))) LV (fun c hc => by rw [f51_cg e3]; exact f1 c hc) t1 v1.1 (by rw [t2 5 (by omega)]; exact et) ht eS hS) ?_
      intro x ua hx
      rw [t2 5 (by omega), t2 4 (by omega)] at hx
      obtain ⟨hx, fr, -⟩ := hx
      have frw : ∀ a, ¬ (17 ≤ a ∧ a ≤ 21) → a ≠ 85 → a ≠ 86 → a ≠ 87 → ua a = w a := fun a h1 h2 h3 h4 => by rw [fr a h1 h2 h3 h4, t2 a h1]
      have fz : ∀ a, 110 ≤ a → ua a = w a := fun a ha => frw a (by omega) (by omega) (by omega) (by omega)
      refine t ua _ ?_
      rw [if_neg (h1r ua (by rw [fz 110 (by decide)])), if_neg q0, if_neg q1, if_neg q2, if_pos q3]
      refine CI.mono (c_216 (d := 52) (fc := fc) (t := tt) (S := S) hf (LR.cg2 (by rw [fz 110 (by decide)]) (fun a h1 h2 => fz a (by omega))) LV (fun c hc => by rw [c164 (w := w) (by rw [fz 110 (by decide)])]; exact f2 c hc) (by rw [fz 111 (by decide)]; exact v1.1) (by rw [fz 111 (by decide)]; exact v2) (by rw [fz 116 (by decide), (o7 f hf).2.1]; exact et) ht (by rw [fz 111 (by decide)]; exact eS) hS) ?_
      intro y ub hy
      rw [fz 111 (by decide), fz 116 (by decide), fz 114 (by decide), fz 110 (by decide), nedF_cg (T := w 5) (Pp := w 4) (o7 f hf).2.1 (fun c hc => (o7 c hc).1)] at hy
      obtain ⟨hy, r1, r2, r3⟩ := hy
      exact ⟨by rw [hy, hx], h0.nd ⟨fun a a1 a2 a3 a4 a5 a6 a7 a8 a9 a10 a11 => by rw [r2 a a6 a7 a8 a9 a10, frw a a1 a2 a3 a4], r1, r3⟩⟩
    · rw [if_neg q3]
      refine t w _ ?_
      rw [if_neg (h1r w rfl), if_neg q0, if_neg q1, if_neg q2, if_neg q3, if_pos (show F_157 q (kI 10) (kI 21) w = 0 from h2)]
      exact ⟨rfl, h0⟩
  · rw [if_neg h2]
    refine t w _ ?_
    have h2b := h2
    obtain ⟨m, hm1, hm2, rfl⟩ := within_z (a := 10) (b := 21) (by decide) (by decide) h2
    have nz : ∀ k : Nat, k < 10 → ¬ nI m = nI k := fun k hk => by rw [nI_eq (by omega) (by omega)]; omega
    have n0 : ¬ nI m = kI 0 := nz 0 (by decide)
    have n1 : ¬ nI m = kI 1 := nz 1 (by decide)
    have n2 : ¬ nI m = kI 2 := nz 2 (by decide)
    have n3 : ¬ nI m = kI 3 := nz 3 (by decide)
    rw [if_neg (h1r w rfl), if_neg n0, if_neg n1, if_neg n2, if_neg n3, if_neg (show ¬ F_157 (nI m) (kI 10) (kI 21) w = 0 from h2b)]
    have ei : (((kI 36) + ((kI 12) * nI f)) + nI m) - kI 10 = nI (36 + 12 * f + (m - 10)) := by
      rw [ixG]
      have := pk_sub (a := 36 + 12 * f + m) (b := 10) (by omega)
      rw [show 36 + 12 * f + m - 10 = 36 + 12 * f + (m - 10) by omega] at this
      exact this
    have eh : nI m - kI 10 = nI (m - 10) := pk_sub (b := 10) hm1
    rw [ei, nI_clamp (by omega), eh, histOf7 hf (by omega), hB.1.2.2.1 (12 * f + (m - 10)) (by omega), Nat.add_assoc]
    exact ⟨inB_nI (by omega) (by decide), rfl, h0⟩
end FIGUREIS
