/-! parsers, part 3: the class's conditions -/
section PARS3
theorem f78 {u : Wd} {L : Nat} (a b : Int32) (h : u 29 6 = nI L) : F_78_29 a b u = nI L := by
  unfold F_78_29
  rw [h, Int32.add_sub_cancel, ite_self]
theorem g79_gp (a : Int32) (u : Wd) : GPc u (G_79_29 a u) ∧ (G_79_29 a u) 1 = u 1 ∧ (G_79_29 a u) 29 = u 29 := by
  unfold G_79_29
  split
  · exact ⟨GPc.refl u, rfl, rfl⟩
  · exact ⟨⟨fun x h1 h2 h3 h4 => by rw [up2_ne h4], fun j _ _ => by rw [up2_ne (by decide)], fun j hj => by rw [up2_ne (by decide)]⟩, by rw [up2_ne (by decide)], by rw [up2_ne (by decide)]⟩
theorem STc.land {w u : Wd} {ch : Nat → Nat} {n j : Nat} {s : PSs} (h : STc w u ch n s) (hj : j < s.2.2.2) : STc w (G_79_29 (nI j) u) ch n (s.1, land s.2 j) := by
  obtain ⟨h1, h2, h3, h4, h5, h6⟩ := h
  obtain ⟨g1, g2, g3⟩ := g79_gp (nI j) u
  refine ⟨h1.trans g1, h2.gp g2 (g1.1 2 (by decide) (by decide) (by decide) (by decide)), ⟨by rw [g3]; exact h3.1, h3.2.1, fun k hk => ?_⟩, by rw [g2]; exact h4, h5, h6⟩
  have hk2 : k < s.2.2.2 := hk
  have hL := h3.2.1
  have e1 : nI s.2.2.2 - kI 1 = nI (s.2.2.2 - 1) := pk_sub (b := 1) (by omega)
  have ew : ¬ F_153 (nI j) (kI 0) (nI (s.2.2.2 - 1)) u = 0 := by
    have := within_nI (n := j) (a := 0) (b := s.2.2.2 - 1) (w := u) (by omega) (by decide) (by omega)
    rw [if_pos (by omega)] at this
    intro e
    rw [show F_153 (nI j) (kI 0) (nI (s.2.2.2 - 1)) u = 1 from this] at e
    exact absurd e (by decide)
  unfold G_79_29
  rw [h3.1, e1, if_neg ew, nI_clamp (by omega), up2_ne (by decide), up2_at]
  refine ⟨(h3.2.2 k hk2).1, ?_⟩
  show _ = nI (updN s.2.2.1 j s.2.2.2 k)
  unfold updN
  by_cases e : k = j
  · rw [if_pos e, if_pos e]
  · rw [if_neg e, if_neg e]; exact (h3.2.2 k hk2).2
theorem PoC.lnd {w u : Wd} {ch : Nat → Nat} {n : Nat} {x e : Int32} (h : PoC w ch n x u (.inl e)) (a : Int32) : PoC w ch n x (G_79_29 a u) (.inl e) := by
  obtain ⟨g1, g2, g3⟩ := g79_gp a u
  obtain ⟨L, l1, l2⟩ := h.2.1
  exact ⟨h.1.trans g1, ⟨L, l1, by rw [g3]; exact l2⟩, h.2.2.1, by rw [g2]; exact h.2.2.2⟩
theorem l_67 {X : Scr} {d n : Nat} {w : Wd} {ch : Nat → Nat} {v : Int32} {g : PSs → PRs} (hg : GRW g n) (hC : CK X (d + 2) 68 w ch n v g) : ∀ (m i : Nat) (s : PSs) (u : Wd), i + m = 240 → i ≤ s.1 → STc w u ch n s → EI X (d + 2) 67 (8, [some (.ref 79), some (.int v), some (.int (kI 1)), some (.int (nI i)), none], [], SH, u) (fun x u2 => PoC w ch n x u2 (jmL ch 38 11 g m s)) := by
  intro m
  induction m with
  | zero =>
    intro i s u hi his hs
    refine t67_79_at8 u _ _ _ ?_
    rw [if_pos (show kI 240 ≤ nI i from nI_le (a := 240) (by omega) (by omega))]
    exact ⟨Or.inr rfl, hs.1, hs.2.2.1.bd, rfl, hs⟩
  | succ m ih =>
    intro i s u hi his hs
    have h2 := hs.2.1
    have hle := h2.le
    have hpn := h2.2.2.2.1
    have hn := hs.2.2.2.2.2
    have h5 := hs.2.2.2.2.1
    refine t67_79_at8 u _ _ _ ?_
    rw [if_neg (lt_240 i (by omega)), if_neg (show ¬ kI 1 = 0 by decide), h2.sg, k1]
    refine ⟨h2.ix, ?_⟩
    unfold jmL
    by_cases ho : ch s.1 = 38
    · have hlt := h2.c256.lt (show ch s.1 < 256 by omega)
      have hst := hs.step (show ch s.1 < 256 by omega)
      have em := hst.emit (o := 11) (v := 0) (by show s.2.2.2 < s.1 + 1; omega)
      rw [if_pos (show enC (ch s.1) = kI 38 from (enC_eq (k := 38) (by decide)).mpr ho), if_pos ho, f78 (kI 38) (kI 0) hst.2.2.1.1]
      refine ⟨hst.2.2.1.bd.ix, ?_⟩
      refine CI.mono (hC _ _ em) ?_
      intro x u2 hx
      refine ⟨fun _ => inB_nI (show s.2.2.2 < 240 by omega) (by decide), ?_⟩
      show EI X (d + 2) 67 (8, [some (.ref 79), some (.int v), some (.int x), some (.int (nI (i + 1))), none], [], SH, G_79_29 (nI s.2.2.2) u2) _
      cases er : g (s.1 + 1, emit s.2 11 0) with
      | inl e =>
        rw [er] at hx
        have hp := hx.lnd (nI s.2.2.2)
        refine t67_79_at8 _ _ _ _ ?_
        rw [hp.2.2.1]
        have g0 : ((kI 0 = 0 ∨ kI 0 = 1) ∧ PoC w ch n (kI 0) (G_79_29 (nI s.2.2.2) u2) (.inl e)) := ⟨Or.inl rfl, hp.1, hp.2.1, rfl, hp.2.2.2⟩
        by_cases h240 : kI 240 ≤ nI (i + 1)
        · rw [if_pos h240]; exact g0
        · rw [if_neg h240, if_pos (show kI 0 = 0 from rfl)]; exact g0
      | inr t =>
        rw [er] at hx
        obtain ⟨b1, b2, b3, b4⟩ := hg (s.1 + 1, emit s.2 11 0) t (by show s.1 + 1 ≤ n; omega) er
        dsimp only [emit] at b1 b3 b4
        rw [hx.2.2.1]
        exact ih (i + 1) (t.1, land t.2 s.2.2.2) _ (by omega) (by show i + 1 ≤ t.1; omega) (hx.2.2.2.land (by omega))
    · rw [if_neg (show ¬ enC (ch s.1) = kI 38 from fun e => ho ((enC_eq (k := 38) (by decide)).mp e)), if_neg ho]
      exact ⟨Or.inr rfl, hs.1, hs.2.2.1.bd, rfl, hs⟩
theorem c_67 {X : Scr} {d n : Nat} {w : Wd} {ch : Nat → Nat} {v : Int32} {g : PSs → PRs} (hg : GRW g n) (hC : CK X (d + 2) 68 w ch n v g) : CK X (d + 3) 67 w ch n v (jmF ch 38 11 g) := by
  intro u s hs
  refine CI.of rfl (t67_79_at0 (d := d) u _ ?_)
  refine CI.mono (hC u s hs) ?_
  intro x u2 hx
  unfold jmF
  cases er : g s with
  | inl e =>
    rw [er] at hx
    rw [hx.2.2.1]
    refine t67_79_at8 _ _ _ _ ?_
    rw [if_neg (show ¬ kI 240 ≤ kI 0 by decide), if_pos (show kI 0 = 0 from rfl)]
    exact ⟨Or.inl rfl, hx.1, hx.2.1, rfl, hx.2.2.2⟩
  | inr t =>
    rw [er] at hx
    rw [hx.2.2.1]
    exact l_67 hg hC 240 0 t u2 rfl (Nat.zero_le _) hx.2.2.2
theorem l_66 {X : Scr} {d n : Nat} {w : Wd} {ch : Nat → Nat} {v : Int32} {g : PSs → PRs} (hg : GRW g n) (hC : CK X (d + 2) 67 w ch n v g) : ∀ (m i : Nat) (s : PSs) (u : Wd), i + m = 240 → i ≤ s.1 → STc w u ch n s → EI X (d + 2) 66 (8, [some (.ref 79), some (.int v), some (.int (kI 1)), some (.int (nI i)), none], [], SH, u) (fun x u2 => PoC w ch n x u2 (jmL ch 124 12 g m s)) := by
  intro m
  induction m with
  | zero =>
    intro i s u hi his hs
    refine t66_79_at8 u _ _ _ ?_
    rw [if_pos (show kI 240 ≤ nI i from nI_le (a := 240) (by omega) (by omega))]
    exact ⟨Or.inr rfl, hs.1, hs.2.2.1.bd, rfl, hs⟩
  | succ m ih =>
    intro i s u hi his hs
    have h2 := hs.2.1
    have hle := h2.le
    have hpn := h2.2.2.2.1
    have hn := hs.2.2.2.2.2
    have h5 := hs.2.2.2.2.1
    refine t66_79_at8 u _ _ _ ?_
    rw [if_neg (lt_240 i (by omega)), if_neg (show ¬ kI 1 = 0 by decide), h2.sg, k1]
    refine ⟨h2.ix, ?_⟩
    unfold jmL
    by_cases ho : ch s.1 = 124
    · have hlt := h2.c256.lt (show ch s.1 < 256 by omega)
      have hst := hs.step (show ch s.1 < 256 by omega)
      have em := hst.emit (o := 12) (v := 0) (by show s.2.2.2 < s.1 + 1; omega)
      rw [if_pos (show enC (ch s.1) = kI 124 from (enC_eq (k := 124) (by decide)).mpr ho), if_pos ho, f78 (kI 124) (kI 0) hst.2.2.1.1]
      refine ⟨hst.2.2.1.bd.ix, ?_⟩
      refine CI.mono (hC _ _ em) ?_
      intro x u2 hx
      refine ⟨fun _ => inB_nI (show s.2.2.2 < 240 by omega) (by decide), ?_⟩
      show EI X (d + 2) 66 (8, [some (.ref 79), some (.int v), some (.int x), some (.int (nI (i + 1))), none], [], SH, G_79_29 (nI s.2.2.2) u2) _
      cases er : g (s.1 + 1, emit s.2 12 0) with
      | inl e =>
        rw [er] at hx
        have hp := hx.lnd (nI s.2.2.2)
        refine t66_79_at8 _ _ _ _ ?_
        rw [hp.2.2.1]
        have g0 : ((kI 0 = 0 ∨ kI 0 = 1) ∧ PoC w ch n (kI 0) (G_79_29 (nI s.2.2.2) u2) (.inl e)) := ⟨Or.inl rfl, hp.1, hp.2.1, rfl, hp.2.2.2⟩
        by_cases h240 : kI 240 ≤ nI (i + 1)
        · rw [if_pos h240]; exact g0
        · rw [if_neg h240, if_pos (show kI 0 = 0 from rfl)]; exact g0
      | inr t =>
        rw [er] at hx
        obtain ⟨b1, b2, b3, b4⟩ := hg (s.1 + 1, emit s.2 12 0) t (by show s.1 + 1 ≤ n; omega) er
        dsimp only [emit] at b1 b3 b4
        rw [hx.2.2.1]
        exact ih (i + 1) (t.1, land t.2 s.2.2.2) _ (by omega) (by show i + 1 ≤ t.1; omega) (hx.2.2.2.land (by omega))
    · rw [if_neg (show ¬ enC (ch s.1) = kI 124 from fun e => ho ((enC_eq (k := 124) (by decide)).mp e)), if_neg ho]
      exact ⟨Or.inr rfl, hs.1, hs.2.2.1.bd, rfl, hs⟩
theorem c_66 {X : Scr} {d n : Nat} {w : Wd} {ch : Nat → Nat} {v : Int32} {g : PSs → PRs} (hg : GRW g n) (hC : CK X (d + 2) 67 w ch n v g) : CK X (d + 3) 66 w ch n v (jmF ch 124 12 g) := by
  intro u s hs
  refine CI.of rfl (t66_79_at0 (d := d) u _ ?_)
  refine CI.mono (hC u s hs) ?_
  intro x u2 hx
  unfold jmF
  cases er : g s with
  | inl e =>
    rw [er] at hx
    rw [hx.2.2.1]
    refine t66_79_at8 _ _ _ _ ?_
    rw [if_neg (show ¬ kI 240 ≤ kI 0 by decide), if_pos (show kI 0 = 0 from rfl)]
    exact ⟨Or.inl rfl, hx.1, hx.2.1, rfl, hx.2.2.2⟩
  | inr t =>
    rw [er] at hx
    rw [hx.2.2.1]
    exact l_66 hg hC 240 0 t u2 rfl (Nat.zero_le _) hx.2.2.2
def brT (ch : Nat → Nat) : Nat → PSs → PRs
  | 0 => deep
  | k + 1 => inF ch (cdF ch (tF ch k)) 41
def nnT (ch : Nat → Nat) : Nat → PSs → PRs
  | 0 => deep
  | k + 1 => ntF (tF ch k)
theorem tF_eq (ch : Nat → Nat) (k : Nat) : tF ch k = teF ch (brT ch k) (nnT ch k) (eF ch k) := by
  cases k <;> rfl
/-- a condition in brackets -/
def bkF (ch : Nat → Nat) (k : Nat) (s : PSs) : PRs := if ch s.1 = 40 then brT ch k s else .inl (flt (kI 1) s.1)
theorem c_65 {X : Scr} {d n k : Nat} {w : Wd} {ch : Nat → Nat} (hk : k ≤ 6) (hT : ∀ k2, k = k2 + 1 → CK X (d + 2) 68 w ch n (nI (6 - k2)) (tF ch k2)) : CK X (d + 5) 65 w ch n (nI (6 - k)) (bkF ch k) := by
  intro u s hs
  have h2 := hs.2.1
  refine CI.of rfl (t65_79_at0 (d := d + 1) u _ ⟨h2.ix, ?_⟩)
  rw [h2.sg]
  unfold bkF
  by_cases h40 : ch s.1 = 40
  · rw [if_pos (show enC (ch s.1) = kI 40 from (enC_eq (k := 40) (by decide)).mpr h40), if_pos h40]
    cases k with
    | zero =>
      rw [if_neg (show ¬ nI (6 - 0) < kI 6 by decide)]
      exact hs.fail _
    | succ k =>
      have hg := tF_grw h2.c256 k
      have c66 : CK X (d + 4) 66 w ch n (nI (6 - k)) (cdF ch (tF ch k)) := by
        exact c_66 (d := d + 1) (jm_grw h2.c256 (by decide) hg) (c_67 (d := d) hg (hT k rfl))
      rw [if_pos (show nI (6 - (k + 1)) < kI 6 from nI_lt (b := 6) (by omega) (by decide)), k1, show 6 - (k + 1) + 1 = 6 - k by omega]
      refine CI.mono (c66 _ _ (hs.step (by omega))) ?_
      intro x u2 hx
      rw [show brT ch (k + 1) = inF ch (cdF ch (tF ch k)) 41 from rfl]
      unfold inF
      cases er : cdF ch (tF ch k) (s.1 + 1, s.2) with
      | inl e =>
        rw [er] at hx
        rw [if_pos (show x = 0 from hx.2.2.1)]
        exact ⟨hx.1, hx.2.1, rfl, hx.2.2.2⟩
      | inr t =>
        rw [er] at hx
        rw [if_neg (show ¬ x = 0 by rw [hx.2.2.1]; decide)]
        have hst := hx.2.2.2
        refine ⟨hst.2.1.ix, ?_⟩
        dsimp only
        by_cases hz : ch t.1 = 41
        · obtain ⟨q1, q2⟩ := f113_y hst (z := 41) (by decide) hz
          rw [show F_113_1 (kI 41) u2 = kI 1 from q1, if_neg (show ¬ kI 1 = 0 by decide), if_pos hz]
          exact ⟨q2.1, q2.2.2.1.bd, rfl, q2⟩
        · obtain ⟨q1, q2⟩ := f113_n hst (z := 41) (by decide) hz
          rw [show F_113_1 (kI 41) u2 = kI 0 from q1, if_pos (show kI 0 = 0 from rfl), if_neg hz]
          exact q2
  · rw [if_neg (show ¬ enC (ch s.1) = kI 40 from fun e => h40 ((enC_eq (k := 40) (by decide)).mp e)), if_neg h40]
    exact hs.fail _
theorem c_69 {X : Scr} {d n k : Nat} {w u : Wd} {ch : Nat → Nat} {s : PSs} (hk : k ≤ 6) (hT : ∀ k2, k = k2 + 1 → CK X (d + 1) 68 w ch n (nI (6 - k2)) (tF ch k2)) (hs : STc w u ch n s) (h33 : ch s.1 = 33) : CI X (d + 2) 69 [.ref 79, .int (nI (6 - k))] u (fun x u2 => PoC w ch n x u2 (nnT ch k s)) := by
  refine CI.of rfl (t69_79_at0 (d := d) u _ ?_)
  cases k with
  | zero =>
    rw [if_neg (show ¬ nI (6 - 0) < kI 6 by decide)]
    exact hs.fail _
  | succ k =>
    have hg := tF_grw hs.2.1.c256 k
    have hlt := hs.2.1.c256.lt (show ch s.1 < 256 by omega)
    have h5 := hs.2.2.2.2.1
    rw [if_pos (show nI (6 - (k + 1)) < kI 6 from nI_lt (b := 6) (by omega) (by decide)), k1, show 6 - (k + 1) + 1 = 6 - k by omega]
    refine CI.mono (hT k rfl _ _ (hs.step (by omega))) ?_
    intro x u2 hx
    rw [show nnT ch (k + 1) = ntF (tF ch k) from rfl]
    unfold ntF
    cases er : tF ch k (s.1 + 1, s.2) with
    | inl e =>
      rw [er] at hx
      rw [if_pos (show x = 0 from hx.2.2.1)]
      exact ⟨hx.1, hx.2.1, rfl, hx.2.2.2⟩
    | inr t =>
      rw [er] at hx
      obtain ⟨b1, b2, b3, b4⟩ := hg (s.1 + 1, s.2) t hlt er
      dsimp only at b1 b3 b4
      rw [if_neg (show ¬ x = 0 by rw [hx.2.2.1]; decide)]
      have em := hx.2.2.2.emit (o := 10) (v := 0) (by omega)
      exact ⟨hx.2.2.2.2.2.1.bd.ix, em.1, em.2.2.1.bd, rfl, em⟩
theorem c_68 {X : Scr} {d n k : Nat} {w : Wd} {ch : Nat → Nat} (hB : CK X (d + 2) 65 w ch n (nI (6 - k)) (bkF ch k)) (hN : ∀ u s, STc w u ch n s → ch s.1 = 33 → CI X (d + 2) 69 [.ref 79, .int (nI (6 - k))] u (fun x u2 => PoC w ch n x u2 (nnT ch k s))) (hE : CK X (d + 2) 70 w ch n (nI (6 - k)) (eF ch k)) : CK X (d + 3) 68 w ch n (nI (6 - k)) (tF ch k) := by
  intro u s hs
  have h2 := hs.2.1
  have hg := eF_grw h2.c256 k
  have bool : ∀ (x : Int32) (u2 : Wd) (r : PRs), PoC w ch n x u2 r → (x = 0 ∨ x = 1) := by
    intro x u2 r h
    cases r with
    | inl e => exact Or.inl h.2.2.1
    | inr t => exact Or.inr h.2.2.1
  refine CI.of rfl (t68_79_at0 (d := d) u _ ⟨h2.ix, ?_⟩)
  rw [h2.sg, tF_eq]
  unfold teF
  by_cases h40 : ch s.1 = 40
  · rw [if_pos (show enC (ch s.1) = kI 40 from (enC_eq (k := 40) (by decide)).mpr h40), if_pos h40]
    refine CI.mono (hB u s hs) ?_
    intro x u2 hx
    unfold bkF at hx
    rw [if_pos h40] at hx
    exact ⟨bool _ _ _ hx, hx⟩
  · rw [if_neg (show ¬ enC (ch s.1) = kI 40 from fun e => h40 ((enC_eq (k := 40) (by decide)).mp e)), if_neg h40]
    refine ⟨h2.ix, ?_⟩
    by_cases h33 : ch s.1 = 33
    · rw [if_pos (show enC (ch s.1) = kI 33 from (enC_eq (k := 33) (by decide)).mpr h33), if_pos h33]
      refine CI.mono (hN u s hs h33) ?_
      intro x u2 hx
      exact ⟨bool _ _ _ hx, hx⟩
    · rw [if_neg (show ¬ enC (ch s.1) = kI 33 from fun e => h33 ((enC_eq (k := 33) (by decide)).mp e)), if_neg h33]
      refine CI.mono (hE u s hs) ?_
      intro x u2 hx
      unfold cmF
      cases er : eF ch k s with
      | inl e =>
        rw [er] at hx
        rw [if_pos (show x = 0 from hx.2.2.1)]
        exact ⟨hx.1, hx.2.1, rfl, hx.2.2.2⟩
      | inr t =>
        rw [er] at hx
        have hst := hx.2.2.2
        have t2 := hst.2.1
        have hle := t2.le
        obtain ⟨a1, a2, a3, a4⟩ := hg s t h2.2.2.2.1 er
        rw [if_neg (show ¬ x = 0 by rw [hx.2.2.1]; decide), t2.sg]
        refine ⟨t2.ix, ?_⟩
        dsimp only
        have cmp : csg (ch t.1) ≠ 0 → CI X (d + 2) 70 [.ref 79, .int (nI (6 - k))] (G_112_1 u2) (fun x2 w2 => (if x2 = 0 then PoC w ch n (kI 0) w2 (match eF ch k (t.1 + 1, t.2) with
            | .inl x => .inl x
            | .inr q => .inr (q.1, emit q.2 (csg (ch t.1)) 0)) else (((w2 29 6) < (Int32.ofNat 240) → (inB (w2 29 6) 240 = true)) ∧ PoC w ch n (kI 1) (G_78_29 (enC (ch t.1)) (kI 0) w2) (match eF ch k (t.1 + 1, t.2) with
            | .inl x => .inl x
            | .inr q => .inr (q.1, emit q.2 (csg (ch t.1)) 0))))) := by
          intro hc
          obtain ⟨z1, z2, z3, z4⟩ := csg_sign (ch t.1) (by omega) hc
          refine CI.mono (hE _ _ (hst.step z1)) ?_
          intro x2 w2 hx2
          cases er2 : eF ch k (t.1 + 1, t.2) with
          | inl e =>
            rw [er2] at hx2
            rw [if_pos (show x2 = 0 from hx2.2.2.1)]
            exact ⟨hx2.1, hx2.2.1, rfl, hx2.2.2.2⟩
          | inr q =>
            rw [er2] at hx2
            obtain ⟨b1, b2, b3, b4⟩ := hg (t.1 + 1, t.2) q (t2.c256.lt z1) er2
            dsimp only at b1 b3 b4
            have h5 := hst.2.2.2.2.1
            rw [if_neg (show ¬ x2 = 0 by rw [hx2.2.2.1]; decide), z4]
            have em := hx2.2.2.2.emit (o := csg (ch t.1)) (v := 0) (by omega)
            exact ⟨hx2.2.2.2.2.2.1.bd.ix, em.1, em.2.2.1.bd, rfl, em⟩
        by_cases c60 : ch t.1 = 60
        · have hc : csg (ch t.1) ≠ 0 := by rw [c60]; decide
          rw [if_pos (show enC (ch t.1) = kI 60 from (enC_eq (k := 60) (by decide)).mpr c60), if_neg hc]
          exact cmp hc
        rw [if_neg (show ¬ enC (ch t.1) = kI 60 from fun e => c60 ((enC_eq (k := 60) (by decide)).mp e))]
        by_cases c62 : ch t.1 = 62
        · have hc : csg (ch t.1) ≠ 0 := by rw [c62]; decide
          rw [if_pos (show enC (ch t.1) = kI 62 from (enC_eq (k := 62) (by decide)).mpr c62), if_neg hc]
          exact cmp hc
        rw [if_neg (show ¬ enC (ch t.1) = kI 62 from fun e => c62 ((enC_eq (k := 62) (by decide)).mp e))]
        by_cases c61 : ch t.1 = 61
        · have hc : csg (ch t.1) ≠ 0 := by rw [c61]; decide
          rw [if_pos (show enC (ch t.1) = kI 61 from (enC_eq (k := 61) (by decide)).mpr c61), if_neg hc]
          exact cmp hc
        rw [if_neg (show ¬ enC (ch t.1) = kI 61 from fun e => c61 ((enC_eq (k := 61) (by decide)).mp e)), if_pos (show csg (ch t.1) = 0 by unfold csg; rw [if_neg c60, if_neg c62, if_neg c61])]
        exact hst.fail _
theorem c_T {X : Scr} {d n : Nat} {w : Wd} {ch : Nat → Nat} (hc : CHn256 ch n) : ∀ k, k ≤ 6 → CK X (d + 12 + 4 * k) 68 w ch n (nI (6 - k)) (tF ch k)
  | 0, _ => c_68 (d := d + 9) (k := 0) ((c_65 (d := d + 6) (k := 0) (by omega) (fun k2 e => by omega))) (fun u s hs h33 => ((c_69 (d := d + 9) (k := 0) (by omega) (fun k2 e => by omega) hs h33))) ((c_E (d := d) hc 0 (by omega)).up 2)
  | k + 1, hk => by
    have ih := c_T (X := X) (d := d) (w := w) hc k (by omega)
    have hE := (c_E (X := X) (d := d) (w := w) hc (k + 1) hk).up (k + 3)
    rw [show d + 9 + 3 * (k + 1) + (k + 3) = d + 13 + 4 * k + 2 by omega] at hE
    rw [show d + 12 + 4 * (k + 1) = d + 13 + 4 * k + 3 by omega]
    refine c_68 (d := d + 13 + 4 * k) (k := k + 1) ?_ (fun u s hs h33 => ?_) hE
    · have := c_65 (X := X) (d := d + 10 + 4 * k) (n := n) (k := k + 1) (w := w) (ch := ch) hk (fun k2 e => by
        have e2 : k2 = k := by omega
        subst e2
        have h := ih
        rw [show d + 12 + 4 * k2 = d + 10 + 4 * k2 + 2 by omega] at h
        exact h)
      rw [show d + 10 + 4 * k + 5 = d + 13 + 4 * k + 2 by omega] at this
      exact this
    · exact c_69 (d := d + 13 + 4 * k) (k := k + 1) hk (fun k2 e => by
        have e2 : k2 = k := by omega
        subst e2
        have h := ih.up 2
        rw [show d + 12 + 4 * k2 + 2 = d + 13 + 4 * k2 + 1 by omega] at h
        exact h) hs h33
end PARS3
