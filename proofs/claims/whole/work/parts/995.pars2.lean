/-! parsers, part 2: the class's parser comes to the functions -/
section PARS2
def CCd (u : Wd) (c : Cd) : Prop := u 29 6 = nI c.2.2 ∧ c.2.2 ≤ 240 ∧ ∀ k, k < c.2.2 → u 30 k = kI (opS (c.1 k)) ∧ u 31 k = nI (c.2.1 k)
def GPc (w u : Wd) : Prop := (∀ a, a ≠ 1 → a ≠ 29 → a ≠ 30 → a ≠ 31 → u a = w a) ∧ (∀ j, j ≠ 3 → j ≠ 4 → u 1 j = w 1 j) ∧ ∀ j, j ≠ 6 → u 29 j = w 29 j
theorem GPc.refl (w : Wd) : GPc w w := ⟨fun _ _ _ _ _ => rfl, fun _ _ _ => rfl, fun _ _ => rfl⟩
theorem GPc.trans {w u v : Wd} (h : GPc w u) (g : GPc u v) : GPc w v := ⟨fun a h1 h2 h3 h4 => (g.1 a h1 h2 h3 h4).trans (h.1 a h1 h2 h3 h4), fun j h3 h4 => (g.2.1 j h3 h4).trans (h.2.1 j h3 h4), fun j hj => (g.2.2 j hj).trans (h.2.2 j hj)⟩
theorem GPc.ft {w u : Wd} (h : FT w u) : GPc w u := ⟨fun a h1 _ _ _ => h.1 a h1, h.2, fun j _ => by rw [h.1 29 (by decide)]⟩
def BDL (u : Wd) : Prop := ∃ L, L ≤ 240 ∧ u 29 6 = nI L
theorem CCd.bd {u : Wd} {c : Cd} (h : CCd u c) : BDL u := ⟨_, h.2.1, h.1⟩
theorem BDL.ix {u : Wd} (h : BDL u) : (u 29 6) < (Int32.ofNat 240) → inB (u 29 6) 240 = true := by
  obtain ⟨L, h1, h2⟩ := h
  intro hlt
  rw [h2] at hlt ⊢
  exact inB_nI ((nI_ltI (a := L) (b := 240) (by omega) (by decide)).mp hlt) (by decide)
theorem CCd.cg {u v : Wd} {c : Cd} (h : CCd u c) (e6 : v 29 6 = u 29 6) (e30 : v 30 = u 30) (e31 : v 31 = u 31) : CCd v c := by
  unfold CCd at h ⊢
  rw [e6, e30, e31]
  exact h
theorem CCd.ft {u v : Wd} {c : Cd} (h : CCd u c) (f : FT u v) : CCd v c := h.cg (by rw [f.1 29 (by decide)]) (f.1 30 (by decide)) (f.1 31 (by decide))
theorem g78_gp (a b : Int32) (u : Wd) : GPc u (G_78_29 a b u) ∧ (G_78_29 a b u) 1 = u 1 := by
  unfold G_78_29
  split
  · exact ⟨⟨fun x h1 h2 h3 h4 => by rw [up2_ne h2, up2_ne h4, up2_ne h3], fun j _ _ => by rw [up2_ne (by decide), up2_ne (by decide), up2_ne (by decide)], fun j hj => by rw [up2_at, if_neg hj, up2_ne (by decide), up2_ne (by decide)]⟩, by rw [up2_ne (by decide), up2_ne (by decide), up2_ne (by decide)]⟩
  · exact ⟨GPc.refl u, rfl⟩
theorem g78_bd {u : Wd} (a b : Int32) (h : BDL u) : BDL (G_78_29 a b u) := by
  obtain ⟨L, h1, h2⟩ := h
  unfold G_78_29
  by_cases hl : (u 29 6) < (Int32.ofNat 240)
  · rw [if_pos hl]
    rw [h2] at hl
    have : L < 240 := (nI_ltI (a := L) (b := 240) (by omega) (by decide)).mp hl
    exact ⟨L + 1, by omega, by rw [up2_at, if_pos rfl, h2, k1]⟩
  · rw [if_neg hl]; exact ⟨L, h1, h2⟩
theorem g78_c {u : Wd} {c : Cd} {o v : Nat} (h : CCd u c) (hl : c.2.2 < 240) : CCd (G_78_29 (kI (opS o)) (nI v) u) (emit c o v) := by
  unfold G_78_29
  rw [if_pos (by rw [h.1]; exact nI_lt (b := 240) hl (by decide)), h.1, nI_clamp (by omega), k1]
  refine ⟨by rw [up2_at, if_pos rfl]; rfl, by show c.2.2 + 1 ≤ 240; omega, fun k hk => ?_⟩
  have hk2 : k < c.2.2 + 1 := hk
  refine ⟨?_, ?_⟩
  · rw [up2_ne (by decide), up2_ne (by decide), up2_at]
    show _ = kI (opS (updN c.1 c.2.2 o k))
    unfold updN
    by_cases e : k = c.2.2
    · rw [if_pos e, if_pos e]
    · rw [if_neg e, if_neg e]; exact (h.2.2 k (by omega)).1
  · rw [up2_ne (by decide), up2_at]
    show _ = nI (updN c.2.1 c.2.2 v k)
    unfold updN
    by_cases e : k = c.2.2
    · rw [if_pos e, if_pos e]
    · rw [if_neg e, if_neg e, up2_ne (by decide)]; exact (h.2.2 k (by omega)).2
theorem TXC.gp {u v : Wd} {ch : Nat → Nat} {n p : Nat} (h : TXC u ch n p) (e : v 1 = u 1) (e2 : v 2 = u 2) : TXC v ch n p := h.cg (by rw [e]) (by rw [e]) (by rw [e]) e2
theorem TXC.c256 {u : Wd} {ch : Nat → Nat} {n p : Nat} (h : TXC u ch n p) : CHn256 ch n := by
  obtain ⟨-, -, -, -, -, h6, h7⟩ := h
  refine ⟨fun i => ?_, h7, fun i hi => (h6 i hi).2⟩
  by_cases e : n ≤ i
  · rw [h7 i e]; omega
  · have := (h6 i (by omega)).2; omega
def STc (w u : Wd) (ch : Nat → Nat) (n : Nat) (s : PSs) : Prop := GPc w u ∧ TXC u ch n s.1 ∧ CCd u s.2 ∧ u 1 4 = kI 0 ∧ s.2.2.2 ≤ s.1 ∧ n ≤ 240
def PoC (w : Wd) (ch : Nat → Nat) (n : Nat) (x : Int32) (u : Wd) (r : PRs) : Prop := GPc w u ∧ BDL u ∧ (match r with
  | .inl e => x = kI 0 ∧ u 1 4 = e
  | .inr t => x = kI 1 ∧ STc w u ch n t)
def CK (X : Scr) (D m : Nat) (w : Wd) (ch : Nat → Nat) (n : Nat) (v : Int32) (f : PSs → PRs) : Prop := ∀ (u : Wd) (s : PSs), STc w u ch n s → CI X D m [.ref 79, .int v] u (fun x u2 => PoC w ch n x u2 (f s))
theorem CK.up {X : Scr} {D m n : Nat} {w : Wd} {ch : Nat → Nat} {v : Int32} {f : PSs → PRs} (h : CK X D m w ch n v f) (e : Nat) : CK X (D + e) m w ch n v f := fun u s hs => (h u s hs).up e
theorem STc.step {w u : Wd} {ch : Nat → Nat} {n : Nat} {s : PSs} (h : STc w u ch n s) (hp : ch s.1 < 256) : STc w (G_112_1 u) ch n (s.1 + 1, s.2) := by
  obtain ⟨h1, h2, h3, h4, h5, h6⟩ := h
  have f : FT u (G_112_1 u) := FT.p (Or.inl rfl)
  exact ⟨h1.trans (GPc.ft f), h2.step hp, h3.ft f, by show up2 u 1 3 _ 1 4 = _; rw [up2_at, if_neg (by decide)]; exact h4, by show s.2.2.2 ≤ s.1 + 1; omega, h6⟩
theorem STc.fail {w u : Wd} {ch : Nat → Nat} {n : Nat} {s : PSs} (h : STc w u ch n s) (k : Int32) : PoC w ch n (kI 0) (G_115_1 k u) (.inl (flt k s.1)) := by
  obtain ⟨h1, h2, h3, h4, h5, h6⟩ := h
  rw [h2.fail]
  have f : FT u (up2 u 1 4 (flt k s.1)) := FT.p (Or.inr rfl)
  exact ⟨h1.trans (GPc.ft f), (h3.ft f).bd, rfl, by rw [up2_at, if_pos rfl]⟩
theorem STc.emit {w u : Wd} {ch : Nat → Nat} {n o v : Nat} {s : PSs} (h : STc w u ch n s) (hl : s.2.2.2 < s.1) : STc w (G_78_29 (kI (opS o)) (nI v) u) ch n (s.1, emit s.2 o v) := by
  obtain ⟨h1, h2, h3, h4, h5, h6⟩ := h
  have hpn := h2.2.2.2.1
  obtain ⟨g1, g2⟩ := g78_gp (kI (opS o)) (nI v) u
  refine ⟨h1.trans g1, h2.gp g2 (g1.1 2 (by decide) (by decide) (by decide) (by decide)), g78_c h3 (by omega), by rw [g2]; exact h4, by show s.2.2.2 + 1 ≤ s.1; omega, h6⟩
theorem PoC.add {w u : Wd} {ch : Nat → Nat} {n : Nat} {x e : Int32} (h : PoC w ch n x u (.inl e)) (a b : Int32) : PoC w ch n x (G_78_29 a b u) (.inl e) := by
  obtain ⟨g1, g2⟩ := g78_gp a b u
  exact ⟨h.1.trans g1, g78_bd a b h.2.1, h.2.2.1, by rw [g2]; exact h.2.2.2⟩
theorem f113_y {w u : Wd} {ch : Nat → Nat} {n z : Nat} {s : PSs} (h : STc w u ch n s) (hz : z < 256) (he : ch s.1 = z) : F_113_1 (kI z) u = kI 1 ∧ STc w (G_113_1 (kI z) u) ch n (s.1 + 1, s.2) := by
  have es : F_110_1 u = kI z := by rw [h.2.1.sg]; exact (enC_eq (k := z) hz).mpr he
  have e1 : F_113_1 (kI z) u = kI 1 := by unfold F_113_1; rw [if_pos es]
  have e2 : G_113_1 (kI z) u = G_112_1 u := by unfold G_113_1; rw [if_pos es]; rfl
  rw [e1, e2]
  exact ⟨rfl, h.step (by omega)⟩
theorem f113_n {w u : Wd} {ch : Nat → Nat} {n z : Nat} {s : PSs} (h : STc w u ch n s) (hz : z < 256) (he : ¬ ch s.1 = z) : F_113_1 (kI z) u = kI 0 ∧ PoC w ch n (kI 0) (G_113_1 (kI z) u) (.inl (flt (kI 1) s.1)) := by
  have es : ¬ F_110_1 u = kI z := by rw [h.2.1.sg]; exact fun e => he ((enC_eq (k := z) hz).mp e)
  have e1 : F_113_1 (kI z) u = kI 0 := by unfold F_113_1; rw [if_neg es]; rfl
  have e2 : G_113_1 (kI z) u = G_115_1 (kI 1) u := by unfold G_113_1; rw [if_neg es]
  rw [e1, e2]
  exact ⟨rfl, h.fail _⟩
/-- readFactor -/
theorem c_72 {X : Scr} {d n k : Nat} {w : Wd} {ch : Nat → Nat} (hk : k ≤ 6) (hE : ∀ k2, k = k2 + 1 → CK X (d + 6) 70 w ch n (nI (6 - k2)) (eF ch k2)) : CK X (d + 7) 72 w ch n (nI (6 - k)) (faE ch k) := by
  intro u s hs
  have hs0 := hs
  obtain ⟨h1, h2, h3, h4, h5, h6⟩ := hs
  have hc := h2.c256
  have hle := h2.le
  have hpn := h2.2.2.2.1
  refine CI.of rfl (t72_79_at0 (d := d) u _ ⟨h2.ix, ?_⟩)
  rw [h2.sg]
  obtain ⟨br, hbr, hb0, hbs⟩ : ∃ br, faE ch k = facF ch br ∧ (k = 0 → br = deep) ∧ ∀ k2, k = k2 + 1 → br = inF ch (eF ch k2) 93 := by
    cases k with
    | zero => exact ⟨deep, rfl, fun _ => rfl, fun k2 e => by omega⟩
    | succ k => exact ⟨inF ch (eF ch k) 93, rfl, fun e => by omega, fun k2 e => by rw [show k2 = k by omega]⟩
  rw [hbr]
  unfold facF
  by_cases h91 : ch s.1 = 91
  · rw [if_pos (show enC (ch s.1) = kI 91 from (enC_eq (k := 91) (by decide)).mpr h91), if_pos h91]
    cases k with
    | zero =>
      rw [if_neg (show ¬ nI (6 - 0) < kI 6 by decide), hb0 rfl]
      exact hs0.fail _
    | succ k =>
      rw [if_pos (show nI (6 - (k + 1)) < kI 6 from nI_lt (b := 6) (by omega) (by decide)), k1, show 6 - (k + 1) + 1 = 6 - k by omega, hbs k rfl]
      refine CI.mono (hE k rfl _ _ (hs0.step (by omega))) ?_
      intro x u2 hx
      unfold inF
      cases er : eF ch k (s.1 + 1, s.2) with
      | inl e =>
        rw [er] at hx
        rw [if_pos (show x = 0 from hx.2.2.1)]
        exact ⟨hx.1, hx.2.1, rfl, hx.2.2.2⟩
      | inr t =>
        rw [er] at hx
        rw [if_neg (show ¬ x = 0 by rw [hx.2.2.1]; decide)]
        have hst := hx.2.2.2
        refine ⟨hst.2.1.ix, ?_⟩
        dsimp only
        by_cases hz : ch t.1 = 93
        · obtain ⟨q1, q2⟩ := f113_y hst (z := 93) (by decide) hz
          rw [show F_113_1 (kI 93) u2 = kI 1 from q1, if_neg (show ¬ kI 1 = 0 by decide), if_pos hz]
          exact ⟨q2.1, q2.2.2.1.bd, rfl, q2⟩
        · obtain ⟨q1, q2⟩ := f113_n hst (z := 93) (by decide) hz
          rw [show F_113_1 (kI 93) u2 = kI 0 from q1, if_pos (show kI 0 = 0 from rfl), if_neg hz]
          exact q2
  · rw [if_neg (show ¬ enC (ch s.1) = kI 91 from fun e => h91 ((enC_eq (k := 91) (by decide)).mp e)), if_neg h91]
    refine ⟨h2.ix, ?_⟩
    cases hd : isD (ch s.1) with
    | true =>
      have hd2 := isD_iff.mp hd
      rw [if_neg (fun e => by rw [h2.dg, hd] at e; cases e), if_pos rfl]
      refine c_114 (d := d + 2) (N := 5) (by decide) h2 (fun h0 => by rw [hd] at h0; cases h0) (fun _ x q hr u2 f2 t2 e2 => ?_) (fun _ q hr u2 f2 t2 e2 => ?_)
      · rw [hr]
        dsimp only
        have hx := (rdN_le 5 s.1 0 x q hr).2.2
        have hq : s.1 < q := by
          have e3 : rdN ch 5 s.1 0 = rdN ch 4 (s.1 + 1) (0 * 10 + (ch s.1 - 48)) := by
            show (if isD (ch s.1) then _ else _) = _
            rw [hd, if_pos rfl]
          rw [e3] at hr
          have := (rdN_le 4 (s.1 + 1) _ x q hr).1
          omega
        have hst : STc w u2 ch n (q, s.2) := ⟨h1.trans (GPc.ft f2), t2, h3.ft f2, by rw [e2]; exact h4, by show s.2.2.2 ≤ q; omega, h6⟩
        rw [if_neg (nI_m1 (by omega))]
        have em := hst.emit (o := 0) (v := x) (by show s.2.2.2 < q; omega)
        exact ⟨hst.2.2.1.bd.ix, em.1, em.2.2.1.bd, rfl, em⟩
      · rw [hr]
        dsimp only
        have hp : PoC w ch n (kI 0) u2 (.inl (flt (kI 2) q)) := ⟨h1.trans (GPc.ft f2), (h3.ft f2).bd, rfl, e2⟩
        rw [if_pos rfl]
        exact ⟨hp.2.1.ix, hp.add _ _⟩
    | false =>
      rw [if_pos (h2.dg.mpr hd), if_neg (show ¬ (false = true) by decide)]
      have e109 : F_109_1 u = if s.1 < n then kI 0 else kI 1 := by
        unfold F_109_1
        rw [h2.2.1, h2.1]
        by_cases h : s.1 < n
        · rw [if_pos (nI_lt h (by omega)), if_pos h]
        · rw [if_neg (nI_nlt (by omega) (by omega)), if_neg h]
      by_cases h256 : ch s.1 = 256
      · rw [e109, if_neg (show ¬ s.1 < n from fun h => by have := h2.end.mpr h256; omega), if_neg (show ¬ kI 1 = 0 by decide), if_pos (show lix (ch s.1) = 12 by rw [h256]; rfl)]
        exact hs0.fail _
      · have hlt : s.1 < n := Nat.lt_of_not_le (fun h => h256 (h2.end.mp h))
        rw [e109, if_pos hlt, if_pos (show kI 0 = 0 from rfl), lix_cls (ch s.1) (by omega)]
        refine ⟨h2.ix, ?_⟩
        by_cases h12 : lix (ch s.1) = 12
        · rw [if_pos h12, if_pos h12, if_neg (show ¬ (0 : Int32) ≤ kI (-1) by decide)]
          exact hs0.fail _
        · have hll := (lix_lt (ch s.1) (by omega)).1
          rw [if_neg h12, if_neg h12, if_pos (show (0 : Int32) ≤ nI (lix (ch s.1)) from nI_pos' (by omega))]
          have hst := hs0.step (show ch s.1 < 256 by omega)
          have em := hst.emit (o := 1) (v := lix (ch s.1)) (by show s.2.2.2 < s.1 + 1; omega)
          exact ⟨hst.2.2.1.bd.ix, em.1, em.2.2.1.bd, rfl, em⟩
theorem l_71 {X : Scr} {d n : Nat} {w : Wd} {ch : Nat → Nat} {v : Int32} {g : PSs → PRs} (hg : GRW g n) (hC : CK X (d + 2) 72 w ch n v g) : ∀ (m i : Nat) (s : PSs) (u : Wd), i + m = 240 → i ≤ s.1 → STc w u ch n s → EI X (d + 2) 71 (8, [some (.ref 79), some (.int v), some (.int (kI 1)), some (.int (nI i)), none], [], SH, u) (fun x u2 => PoC w ch n x u2 (trL ch g m s)) := by
  intro m
  induction m with
  | zero =>
    intro i s u hi his hs
    refine t71_79_at8 u _ _ _ ?_
    rw [if_pos (show kI 240 ≤ nI i from nI_le (a := 240) (by omega) (by omega))]
    exact ⟨Or.inr rfl, hs.1, hs.2.2.1.bd, rfl, hs⟩
  | succ m ih =>
    intro i s u hi his hs
    have h2 := hs.2.1
    have hle := h2.le
    have hpn := h2.2.2.2.1
    have hn := hs.2.2.2.2.2
    refine t71_79_at8 u _ _ _ ?_
    rw [if_neg (lt_240 i (by omega)), if_neg (show ¬ kI 1 = 0 by decide), h2.sg, k1]
    refine ⟨h2.ix, ?_⟩
    unfold trL
    by_cases ho : 4 ≤ osg (ch s.1)
    · rw [if_neg (show ¬ F_74 (enC (ch s.1)) u = 0 from fun e => (osg_prd (ch s.1) (by omega)).mp e ho), if_pos ho]
      obtain ⟨z1, z2, z3⟩ := osg_sign (ch s.1) (by omega) (by omega)
      refine ⟨h2.ix, ?_⟩
      refine CI.mono (hC _ _ (hs.step z1)) ?_
      intro x u2 hx
      cases er : g (s.1 + 1, s.2) with
      | inl e =>
        rw [er] at hx
        refine ⟨hx.2.1.ix, ?_⟩
        have hp := (hx.add (enC (ch s.1)) (kI 0))
        refine t71_79_at8 _ _ _ _ ?_
        rw [hp.2.2.1]
        have g0 : ((kI 0 = 0 ∨ kI 0 = 1) ∧ PoC w ch n (kI 0) (G_78_29 (enC (ch s.1)) (kI 0) u2) (.inl e)) := ⟨Or.inl rfl, hp.1, hp.2.1, rfl, hp.2.2.2⟩
        by_cases h240 : kI 240 ≤ nI (i + 1)
        · rw [if_pos h240]; exact g0
        · rw [if_neg h240, if_pos (show kI 0 = 0 from rfl)]; exact g0
      | inr t =>
        rw [er] at hx
        obtain ⟨b1, b2, b3, b4⟩ := hg (s.1 + 1, s.2) t (by have := h2.c256.lt z1; show s.1 + 1 ≤ n; omega) er
        dsimp only at b1 b3 b4
        have hst := hx.2.2.2
        have h5 := hs.2.2.2.2.1
        have em := hst.emit (o := osg (ch s.1)) (v := 0) (by omega)
        rw [hx.2.2.1, z3]
        exact ⟨hst.2.2.1.bd.ix, ih (i + 1) _ _ (by omega) (by show i + 1 ≤ t.1; omega) em⟩
    · rw [if_pos (show F_74 (enC (ch s.1)) u = 0 from (osg_prd (ch s.1) (by omega)).mpr ho), if_neg ho]
      exact ⟨Or.inr rfl, hs.1, hs.2.2.1.bd, rfl, hs⟩
theorem c_71 {X : Scr} {d n : Nat} {w : Wd} {ch : Nat → Nat} {v : Int32} {g : PSs → PRs} (hg : GRW g n) (hC : CK X (d + 2) 72 w ch n v g) : CK X (d + 3) 71 w ch n v (trmF ch g) := by
  intro u s hs
  refine CI.of rfl (t71_79_at0 (d := d) u _ ?_)
  refine CI.mono (hC u s hs) ?_
  intro x u2 hx
  unfold trmF
  cases er : g s with
  | inl e =>
    rw [er] at hx
    rw [hx.2.2.1]
    refine t71_79_at8 _ _ _ _ ?_
    rw [if_neg (show ¬ kI 240 ≤ kI 0 by decide), if_pos (show kI 0 = 0 from rfl)]
    exact ⟨Or.inl rfl, hx.1, hx.2.1, rfl, hx.2.2.2⟩
  | inr t =>
    rw [er] at hx
    rw [hx.2.2.1]
    exact l_71 hg hC 240 0 t u2 rfl (Nat.zero_le _) hx.2.2.2
theorem l_70 {X : Scr} {d n : Nat} {w : Wd} {ch : Nat → Nat} {v : Int32} {g : PSs → PRs} (hg : GRW g n) (hC : CK X (d + 2) 71 w ch n v g) : ∀ (m i : Nat) (s : PSs) (u : Wd), i + m = 240 → i ≤ s.1 → STc w u ch n s → EI X (d + 2) 70 (8, [some (.ref 79), some (.int v), some (.int (kI 1)), some (.int (nI i)), none], [], SH, u) (fun x u2 => PoC w ch n x u2 (exL ch g m s)) := by
  intro m
  induction m with
  | zero =>
    intro i s u hi his hs
    refine t70_79_at8 u _ _ _ ?_
    rw [if_pos (show kI 240 ≤ nI i from nI_le (a := 240) (by omega) (by omega))]
    exact ⟨Or.inr rfl, hs.1, hs.2.2.1.bd, rfl, hs⟩
  | succ m ih =>
    intro i s u hi his hs
    have h2 := hs.2.1
    have hle := h2.le
    have hpn := h2.2.2.2.1
    have hn := hs.2.2.2.2.2
    refine t70_79_at8 u _ _ _ ?_
    rw [if_neg (lt_240 i (by omega)), if_neg (show ¬ kI 1 = 0 by decide), h2.sg, k1]
    refine ⟨h2.ix, ?_⟩
    unfold exL
    by_cases ho : osg (ch s.1) = 2 ∨ osg (ch s.1) = 3
    · rw [if_neg (show ¬ F_73 (enC (ch s.1)) u = 0 from fun e => (osg_sum (ch s.1) (by omega)).mp e ho), if_pos ho]
      obtain ⟨z1, z2, z3⟩ := osg_sign (ch s.1) (by omega) (by omega)
      refine ⟨h2.ix, ?_⟩
      refine CI.mono (hC _ _ (hs.step z1)) ?_
      intro x u2 hx
      cases er : g (s.1 + 1, s.2) with
      | inl e =>
        rw [er] at hx
        refine ⟨hx.2.1.ix, ?_⟩
        have hp := (hx.add (enC (ch s.1)) (kI 0))
        refine t70_79_at8 _ _ _ _ ?_
        rw [hp.2.2.1]
        have g0 : ((kI 0 = 0 ∨ kI 0 = 1) ∧ PoC w ch n (kI 0) (G_78_29 (enC (ch s.1)) (kI 0) u2) (.inl e)) := ⟨Or.inl rfl, hp.1, hp.2.1, rfl, hp.2.2.2⟩
        by_cases h240 : kI 240 ≤ nI (i + 1)
        · rw [if_pos h240]; exact g0
        · rw [if_neg h240, if_pos (show kI 0 = 0 from rfl)]; exact g0
      | inr t =>
        rw [er] at hx
        obtain ⟨b1, b2, b3, b4⟩ := hg (s.1 + 1, s.2) t (by have := h2.c256.lt z1; show s.1 + 1 ≤ n; omega) er
        dsimp only at b1 b3 b4
        have hst := hx.2.2.2
        have h5 := hs.2.2.2.2.1
        have em := hst.emit (o := osg (ch s.1)) (v := 0) (by omega)
        rw [hx.2.2.1, z3]
        exact ⟨hst.2.2.1.bd.ix, ih (i + 1) _ _ (by omega) (by show i + 1 ≤ t.1; omega) em⟩
    · rw [if_pos (show F_73 (enC (ch s.1)) u = 0 from (osg_sum (ch s.1) (by omega)).mpr ho), if_neg ho]
      exact ⟨Or.inr rfl, hs.1, hs.2.2.1.bd, rfl, hs⟩
theorem c_70 {X : Scr} {d n : Nat} {w : Wd} {ch : Nat → Nat} {v : Int32} {g : PSs → PRs} (hg : GRW g n) (hC : CK X (d + 2) 71 w ch n v g) : CK X (d + 3) 70 w ch n v (expF ch g) := by
  intro u s hs
  refine CI.of rfl (t70_79_at0 (d := d) u _ ?_)
  refine CI.mono (hC u s hs) ?_
  intro x u2 hx
  unfold expF
  cases er : g s with
  | inl e =>
    rw [er] at hx
    rw [hx.2.2.1]
    refine t70_79_at8 _ _ _ _ ?_
    rw [if_neg (show ¬ kI 240 ≤ kI 0 by decide), if_pos (show kI 0 = 0 from rfl)]
    exact ⟨Or.inl rfl, hx.1, hx.2.1, rfl, hx.2.2.2⟩
  | inr t =>
    rw [er] at hx
    rw [hx.2.2.1]
    exact l_70 hg hC 240 0 t u2 rfl (Nat.zero_le _) hx.2.2.2
theorem c_E {X : Scr} {d n : Nat} {w : Wd} {ch : Nat → Nat} (hc : CHn256 ch n) : ∀ k, k ≤ 6 → CK X (d + 9 + 3 * k) 70 w ch n (nI (6 - k)) (eF ch k)
  | 0, _ => by
    rw [eF_eq]
    exact c_70 (d := d + 6) (trm_grw hc (faE_grw hc 0)) (c_71 (d := d + 5) (faE_grw hc 0) (c_72 (d := d) (by omega) (fun k2 e => by omega)))
  | k + 1, hk => by
    have ih := c_E (X := X) (d := d) (w := w) hc k (by omega)
    have e1 : d + 9 + 3 * (k + 1) = d + 9 + 3 * k + 3 := by omega
    rw [eF_eq, e1]
    refine c_70 (d := d + 9 + 3 * k) (trm_grw hc (faE_grw hc (k + 1))) ?_
    have e2 : d + 9 + 3 * k + 2 = (d + 8 + 3 * k) + 3 := by omega
    rw [e2]
    refine c_71 (d := d + 8 + 3 * k) (faE_grw hc (k + 1)) ?_
    have e3 : d + 8 + 3 * k + 2 = (d + 3 + 3 * k) + 7 := by omega
    rw [e3]
    refine c_72 (d := d + 3 + 3 * k) (by omega) (fun k2 e => ?_)
    have : k2 = k := by omega
    subst this
    rw [show d + 3 + 3 * k2 + 6 = d + 9 + 3 * k2 by omega]
    exact ih
end PARS2
