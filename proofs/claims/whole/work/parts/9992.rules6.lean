/-! rules, part 6: faults are below 0; the rules are well formed -/
section RULES6
def NGf (f : PSs → PRs) (n : Nat) : Prop := ∀ s r, s.1 ≤ n → f s = .inl r → r < 0
theorem ng {k p n : Nat} {r : Int32} (hk : 1 ≤ k) (hk7 : k ≤ 7) (hp : p ≤ n + 5) (hn : n ≤ 240) (h : (Sum.inl (flt (kI k) p) : PRs) = .inl r) : r < 0 := by
  rw [← Sum.inl.inj h]
  exact flt_neg hk hk7 (by omega)
theorem deep_n {n : Nat} (hn : n ≤ 240) : NGf deep n := fun s r hs e => ng (k := 5) (p := s.1) (n := n) (by omega) (by omega) (by omega) hn e
theorem fac_n {ch : Nat → Nat} {br : PSs → PRs} {n : Nat} (hn : n ≤ 240) (hb : NGf br n) : NGf (facF ch br) n := by
  intro s r hs e
  unfold facF at e
  by_cases h1 : ch s.1 = 91
  · rw [if_pos h1] at e; exact hb s r hs e
  · rw [if_neg h1] at e
    cases hd : isD (ch s.1) with
    | true =>
      rw [hd, if_pos rfl] at e
      cases er : rdN ch 5 s.1 0 with
      | inl q =>
        rw [er] at e
        have := rdN_inl 5 s.1 0 q er
        exact ng (k := 2) (p := q) (n := n) (by omega) (by omega) (by omega) hn e
      | inr x => rw [er] at e; cases e
    | false =>
      rw [hd, if_neg (by decide)] at e
      by_cases h2 : lix (ch s.1) = 12
      · rw [if_pos h2] at e; exact ng (k := 1) (p := s.1) (n := n) (by omega) (by omega) (by omega) hn e
      · rw [if_neg h2] at e; cases e
theorem trL_n {ch : Nat → Nat} {fac : PSs → PRs} {n : Nat} (h : CHn256 ch n) (hg : GRW fac n) (hf : NGf fac n) : ∀ m, NGf (trL ch fac m) n
  | 0, s, r, hs, e => by cases e
  | m + 1, s, r, hs, e => by
    unfold trL at e
    by_cases h1 : 4 ≤ osg (ch s.1)
    · rw [if_pos h1] at e
      have hlt := h.lt (osg_sign (ch s.1) (by have := h.1 s.1; omega) (by omega)).1
      cases er : fac (s.1 + 1, s.2) with
      | inl x => rw [er] at e; rw [← Sum.inl.inj e]; exact hf (s.1 + 1, s.2) x hlt er
      | inr q =>
        rw [er] at e
        exact trL_n h hg hf m (q.1, emit q.2 (osg (ch s.1)) 0) r (hg (s.1 + 1, s.2) q hlt er).2.1 e
    · rw [if_neg h1] at e; cases e
theorem trm_n {ch : Nat → Nat} {fac : PSs → PRs} {n : Nat} (h : CHn256 ch n) (hg : GRW fac n) (hf : NGf fac n) : NGf (trmF ch fac) n := by
  intro s r hs e
  unfold trmF at e
  cases er : fac s with
  | inl x => rw [er] at e; rw [← Sum.inl.inj e]; exact hf _ x hs er
  | inr q => rw [er] at e; exact trL_n h hg hf 240 q r (hg s q hs er).2.1 e
theorem exL_n {ch : Nat → Nat} {trm : PSs → PRs} {n : Nat} (h : CHn256 ch n) (hg : GRW trm n) (hf : NGf trm n) : ∀ m, NGf (exL ch trm m) n
  | 0, s, r, hs, e => by cases e
  | m + 1, s, r, hs, e => by
    unfold exL at e
    by_cases h1 : osg (ch s.1) = 2 ∨ osg (ch s.1) = 3
    · rw [if_pos h1] at e
      have hlt := h.lt (osg_sign (ch s.1) (by have := h.1 s.1; omega) (by omega)).1
      cases er : trm (s.1 + 1, s.2) with
      | inl x => rw [er] at e; rw [← Sum.inl.inj e]; exact hf (s.1 + 1, s.2) x hlt er
      | inr q =>
        rw [er] at e
        exact exL_n h hg hf m (q.1, emit q.2 (osg (ch s.1)) 0) r (hg (s.1 + 1, s.2) q hlt er).2.1 e
    · rw [if_neg h1] at e; cases e
theorem exp_n {ch : Nat → Nat} {trm : PSs → PRs} {n : Nat} (h : CHn256 ch n) (hg : GRW trm n) (hf : NGf trm n) : NGf (expF ch trm) n := by
  intro s r hs e
  unfold expF at e
  cases er : trm s with
  | inl x => rw [er] at e; rw [← Sum.inl.inj e]; exact hf _ x hs er
  | inr q => rw [er] at e; exact exL_n h hg hf 240 q r (hg s q hs er).2.1 e
/-- within brackets: only where the opening sign stands -/
theorem in_n {ch : Nat → Nat} {f : PSs → PRs} {n z : Nat} (hn : n ≤ 240) (hg : GRW f n) (hf : NGf f n) {s : PSs} {r : Int32} (hs : s.1 < n) (e : inF ch f z s = .inl r) : r < 0 := by
  unfold inF at e
  cases er : f (s.1 + 1, s.2) with
  | inl x => rw [er] at e; rw [← Sum.inl.inj e]; exact hf (s.1 + 1, s.2) x hs er
  | inr q =>
    rw [er] at e
    dsimp only at e
    have a2 := (hg (s.1 + 1, s.2) q hs er).2.1
    by_cases h1 : ch q.1 = z
    · rw [if_pos h1] at e; cases e
    · rw [if_neg h1] at e
      exact ng (k := 1) (p := q.1) (n := n) (by omega) (by omega) (by omega) hn e
theorem fac_n2 {ch : Nat → Nat} {f : PSs → PRs} {n : Nat} (h : CHn256 ch n) (hn : n ≤ 240) (hg : GRW f n) (hf : NGf f n) : NGf (facF ch (inF ch f 93)) n := by
  intro s r hs e
  by_cases h1 : ch s.1 = 91
  · unfold facF at e
    rw [if_pos h1] at e
    exact in_n hn hg hf (h.lt (by omega)) e
  · refine fac_n (ch := ch) hn (deep_n hn) s r hs ?_
    unfold facF at e ⊢
    rw [if_neg h1] at e ⊢
    exact e
theorem eF_n {ch : Nat → Nat} {n : Nat} (h : CHn256 ch n) (hn : n ≤ 240) : ∀ k, NGf (eF ch k) n
  | 0 => exp_n h (trm_grw h (fac_grw h deep_grb)) (trm_n h (fac_grw h deep_grb) (fac_n hn (deep_n hn)))
  | k + 1 => exp_n h (trm_grw h (fac_grw h (in_grw h (by decide) (eF_grw h k)))) (trm_n h (fac_grw h (in_grw h (by decide) (eF_grw h k))) (fac_n2 h hn (eF_grw h k) (eF_n h hn k)))
theorem cm_n {ch : Nat → Nat} {f : PSs → PRs} {n : Nat} (h : CHn256 ch n) (hn : n ≤ 240) (hg : GRW f n) (hf : NGf f n) : NGf (cmF ch f) n := by
  intro s r hs e
  unfold cmF at e
  cases er : f s with
  | inl x => rw [er] at e; rw [← Sum.inl.inj e]; exact hf _ x hs er
  | inr q =>
    rw [er] at e
    dsimp only at e
    have a2 := (hg s q hs er).2.1
    by_cases h1 : csg (ch q.1) = 0
    · rw [if_pos h1] at e
      exact ng (k := 1) (p := q.1) (n := n) (by omega) (by omega) (by omega) hn e
    · rw [if_neg h1] at e
      have hz := csg_sign (ch q.1) (by have := h.1 q.1; omega) h1
      cases er2 : f (q.1 + 1, q.2) with
      | inl x => rw [er2] at e; rw [← Sum.inl.inj e]; exact hf (q.1 + 1, q.2) x (h.lt hz.1) er2
      | inr v => rw [er2] at e; cases e
theorem jmL_n {ch : Nat → Nat} {z o : Nat} {f : PSs → PRs} {n : Nat} (h : CHn256 ch n) (hz : z < 256) (hg : GRW f n) (hf : NGf f n) : ∀ m, NGf (jmL ch z o f m) n
  | 0, s, r, hs, e => by cases e
  | m + 1, s, r, hs, e => by
    unfold jmL at e
    by_cases h1 : ch s.1 = z
    · rw [if_pos h1] at e
      have hlt := h.lt (show ch s.1 < 256 by omega)
      cases er : f (s.1 + 1, emit s.2 o 0) with
      | inl x => rw [er] at e; rw [← Sum.inl.inj e]; exact hf (s.1 + 1, emit s.2 o 0) x hlt er
      | inr q =>
        rw [er] at e
        exact jmL_n (o := o) h hz hg hf m (q.1, land q.2 s.2.2.2) r (hg (s.1 + 1, emit s.2 o 0) q hlt er).2.1 e
    · rw [if_neg h1] at e; cases e
theorem jm_n {ch : Nat → Nat} {z o : Nat} {f : PSs → PRs} {n : Nat} (h : CHn256 ch n) (hz : z < 256) (hg : GRW f n) (hf : NGf f n) : NGf (jmF ch z o f) n := by
  intro s r hs e
  unfold jmF at e
  cases er : f s with
  | inl x => rw [er] at e; rw [← Sum.inl.inj e]; exact hf _ x hs er
  | inr q => rw [er] at e; exact jmL_n h hz hg hf 240 q r (hg s q hs er).2.1 e
theorem cd_n {ch : Nat → Nat} {f : PSs → PRs} {n : Nat} (h : CHn256 ch n) (hg : GRW f n) (hf : NGf f n) : NGf (cdF ch f) n := jm_n h (by decide) (jm_grw h (by decide) hg) (jm_n h (by decide) hg hf)
theorem tF_n {ch : Nat → Nat} {n : Nat} (h : CHn256 ch n) (hn : n ≤ 240) : ∀ k, NGf (tF ch k) n
  | 0, s, r, hs, e => by
    rw [tF_eq] at e
    unfold teF at e
    by_cases h1 : ch s.1 = 40
    · rw [if_pos h1] at e; exact deep_n hn s r hs e
    · rw [if_neg h1] at e
      by_cases h2 : ch s.1 = 33
      · rw [if_pos h2] at e; exact deep_n hn s r hs e
      · rw [if_neg h2] at e; exact cm_n h hn (eF_grw h 0) (eF_n h hn 0) s r hs e
  | k + 1, s, r, hs, e => by
    rw [tF_eq] at e
    unfold teF at e
    by_cases h1 : ch s.1 = 40
    · rw [if_pos h1] at e
      exact in_n (ch := ch) (z := 41) hn (cd_grw h (tF_grw h k)) (cd_n h (tF_grw h k) (tF_n h hn k)) (h.lt (by omega)) e
    · rw [if_neg h1] at e
      by_cases h2 : ch s.1 = 33
      · rw [if_pos h2] at e
        have e2 : ntF (tF ch k) s = .inl r := e
        unfold ntF at e2
        cases er : tF ch k (s.1 + 1, s.2) with
        | inl x => rw [er] at e2; rw [← Sum.inl.inj e2]; exact tF_n h hn k (s.1 + 1, s.2) x (h.lt (show ch s.1 < 256 by omega)) er
        | inr q => rw [er] at e2; cases e2
      · rw [if_neg h2] at e; exact cm_n h hn (eF_grw h (k + 1)) (eF_n h hn (k + 1)) s r hs e
theorem bk_n {ch : Nat → Nat} {n : Nat} (h : CHn256 ch n) (hn : n ≤ 240) : NGf (bkF ch 6) n := by
  intro s r hs e
  unfold bkF at e
  by_cases h1 : ch s.1 = 40
  · rw [if_pos h1] at e
    exact in_n (ch := ch) (z := 41) hn (cd_grw h (tF_grw h 5)) (cd_n h (tF_grw h 5) (tF_n h hn 5)) (h.lt (by omega)) e
  · rw [if_neg h1] at e
    exact ng (k := 1) (p := s.1) (n := n) (by omega) (by omega) (by omega) hn e
end RULES6
