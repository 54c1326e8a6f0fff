/-! rules, part 5: bounds of codes; rules are well formed -/
section RULES5
def CDB (c : Cd) : Prop := ∀ k, k < c.2.2 → c.1 k ≤ 12 ∧ c.2.1 k < 100000
theorem emit_b {c : Cd} {o v : Nat} (h : CDB c) (ho : o ≤ 12) (hv : v < 100000) : CDB (emit c o v) := by
  intro k hk
  have hk2 : k < c.2.2 + 1 := hk
  show updN c.1 c.2.2 o k ≤ 12 ∧ updN c.2.1 c.2.2 v k < 100000
  unfold updN
  by_cases e : k = c.2.2
  · rw [if_pos e, if_pos e]; exact ⟨ho, hv⟩
  · rw [if_neg e, if_neg e]; exact h k (by omega)
theorem land_b {c : Cd} {j : Nat} (h : CDB c) (hl : c.2.2 < 100000) : CDB (land c j) := by
  intro k hk
  have hk2 : k < c.2.2 := hk
  show c.1 k ≤ 12 ∧ updN c.2.1 j c.2.2 k < 100000
  unfold updN
  by_cases e : k = j
  · rw [if_pos e]; exact ⟨(h k hk2).1, hl⟩
  · rw [if_neg e]; exact h k hk2
def BDf (f : PSs → PRs) (n : Nat) : Prop := ∀ s t, s.1 ≤ n → s.2.2.2 ≤ s.1 → CDB s.2 → f s = .inr t → CDB t.2
def BDb (f : PSs → PRs) (n : Nat) : Prop := ∀ s t, s.1 < n → s.2.2.2 ≤ s.1 → CDB s.2 → f s = .inr t → CDB t.2
theorem fac_b {ch : Nat → Nat} {br : PSs → PRs} {n : Nat} (h : CHn256 ch n) (hb : BDb br n) : BDf (facF ch br) n := by
  intro s t hs hl hc e
  unfold facF at e
  by_cases h1 : ch s.1 = 91
  · rw [if_pos h1] at e; exact hb s t (h.lt (by omega)) hl hc e
  · rw [if_neg h1] at e
    cases hd : isD (ch s.1) with
    | true =>
      rw [hd, if_pos rfl] at e
      cases er : rdN ch 5 s.1 0 with
      | inl q => rw [er] at e; cases e
      | inr x =>
        rw [er] at e
        have a3 := (rdN_le 5 s.1 0 x.1 x.2 er).2.2
        cases e
        exact emit_b hc (by omega) (by omega)
    | false =>
      rw [hd, if_neg (by decide)] at e
      by_cases h2 : lix (ch s.1) = 12
      · rw [if_pos h2] at e; cases e
      · rw [if_neg h2] at e
        have hl2 := (lix_lt (ch s.1) (by have := h.1 s.1; omega)).1
        cases e
        exact emit_b hc (by omega) (by omega)
theorem trL_b {ch : Nat → Nat} {fac : PSs → PRs} {n : Nat} (h : CHn256 ch n) (hg : GRW fac n) (hf : BDf fac n) : ∀ m, BDf (trL ch fac m) n
  | 0, s, t, hs, hl, hc, e => by cases e; exact hc
  | m + 1, s, t, hs, hl, hc, e => by
    unfold trL at e
    by_cases h1 : 4 ≤ osg (ch s.1)
    · rw [if_pos h1] at e
      have hlt := h.lt (osg_sign (ch s.1) (by have := h.1 s.1; omega) (by omega)).1
      have h6 := osg_le (ch s.1)
      cases er : fac (s.1 + 1, s.2) with
      | inl x => rw [er] at e; cases e
      | inr q =>
        rw [er] at e
        obtain ⟨a1, a2, a3, a4⟩ := hg (s.1 + 1, s.2) q hlt er
        have b := hf (s.1 + 1, s.2) q hlt (by show s.2.2.2 ≤ s.1 + 1; omega) hc er
        dsimp only at a1 a3 a4
        exact trL_b h hg hf m (q.1, emit q.2 (osg (ch s.1)) 0) t a2 (by show q.2.2.2 + 1 ≤ q.1; omega) (emit_b b (by omega) (by omega)) e
    · rw [if_neg h1] at e; cases e; exact hc
theorem trm_b {ch : Nat → Nat} {fac : PSs → PRs} {n : Nat} (h : CHn256 ch n) (hg : GRW fac n) (hf : BDf fac n) : BDf (trmF ch fac) n := by
  intro s t hs hl hc e
  unfold trmF at e
  cases er : fac s with
  | inl x => rw [er] at e; cases e
  | inr q =>
    rw [er] at e
    obtain ⟨a1, a2, a3, a4⟩ := hg s q hs er
    exact trL_b h hg hf 240 q t a2 (by omega) (hf s q hs hl hc er) e
theorem exL_b {ch : Nat → Nat} {trm : PSs → PRs} {n : Nat} (h : CHn256 ch n) (hg : GRW trm n) (hf : BDf trm n) : ∀ m, BDf (exL ch trm m) n
  | 0, s, t, hs, hl, hc, e => by cases e; exact hc
  | m + 1, s, t, hs, hl, hc, e => by
    unfold exL at e
    by_cases h1 : osg (ch s.1) = 2 ∨ osg (ch s.1) = 3
    · rw [if_pos h1] at e
      have hlt := h.lt (osg_sign (ch s.1) (by have := h.1 s.1; omega) (by omega)).1
      cases er : trm (s.1 + 1, s.2) with
      | inl x => rw [er] at e; cases e
      | inr q =>
        rw [er] at e
        obtain ⟨a1, a2, a3, a4⟩ := hg (s.1 + 1, s.2) q hlt er
        have b := hf (s.1 + 1, s.2) q hlt (by show s.2.2.2 ≤ s.1 + 1; omega) hc er
        dsimp only at a1 a3 a4
        exact exL_b h hg hf m (q.1, emit q.2 (osg (ch s.1)) 0) t a2 (by show q.2.2.2 + 1 ≤ q.1; omega) (emit_b b (by omega) (by omega)) e
    · rw [if_neg h1] at e; cases e; exact hc
theorem exp_b {ch : Nat → Nat} {trm : PSs → PRs} {n : Nat} (h : CHn256 ch n) (hg : GRW trm n) (hf : BDf trm n) : BDf (expF ch trm) n := by
  intro s t hs hl hc e
  unfold expF at e
  cases er : trm s with
  | inl x => rw [er] at e; cases e
  | inr q =>
    rw [er] at e
    obtain ⟨a1, a2, a3, a4⟩ := hg s q hs er
    exact exL_b h hg hf 240 q t a2 (by omega) (hf s q hs hl hc er) e
theorem in_b {ch : Nat → Nat} {f : PSs → PRs} {n z : Nat} (hf : BDf f n) : BDb (inF ch f z) n := by
  intro s t hs hl hc e
  unfold inF at e
  cases er : f (s.1 + 1, s.2) with
  | inl x => rw [er] at e; cases e
  | inr q =>
    rw [er] at e
    have b := hf (s.1 + 1, s.2) q hs (by show s.2.2.2 ≤ s.1 + 1; omega) hc er
    dsimp only at e
    by_cases h1 : ch q.1 = z
    · rw [if_pos h1] at e; cases e; exact b
    · rw [if_neg h1] at e; cases e
theorem deep_b {n : Nat} : BDb deep n := fun s t _ _ _ e => by cases e
theorem eF_b {ch : Nat → Nat} {n : Nat} (h : CHn256 ch n) : ∀ k, BDf (eF ch k) n
  | 0 => exp_b h (trm_grw h (fac_grw h deep_grb)) (trm_b h (fac_grw h deep_grb) (fac_b h deep_b))
  | k + 1 => exp_b h (trm_grw h (fac_grw h (in_grw h (by decide) (eF_grw h k)))) (trm_b h (fac_grw h (in_grw h (by decide) (eF_grw h k))) (fac_b h (in_b (eF_b h k))))
theorem cm_b {ch : Nat → Nat} {f : PSs → PRs} {n : Nat} (h : CHn256 ch n) (hg : GRW f n) (hf : BDf f n) : BDf (cmF ch f) n := by
  intro s t hs hl hc e
  unfold cmF at e
  cases er : f s with
  | inl x => rw [er] at e; cases e
  | inr q =>
    rw [er] at e
    dsimp only at e
    obtain ⟨a1, a2, a3, a4⟩ := hg s q hs er
    by_cases h1 : csg (ch q.1) = 0
    · rw [if_pos h1] at e; cases e
    · rw [if_neg h1] at e
      have hz := csg_sign (ch q.1) (by have := h.1 q.1; omega) h1
      cases er2 : f (q.1 + 1, q.2) with
      | inl x => rw [er2] at e; cases e
      | inr v =>
        rw [er2] at e
        have b := hf (q.1 + 1, q.2) v (h.lt hz.1) (by show q.2.2.2 ≤ q.1 + 1; omega) (hf s q hs hl hc er) er2
        cases e
        exact emit_b b (by omega) (by omega)
theorem nt_b {f : PSs → PRs} {n : Nat} (hf : BDf f n) : BDb (ntF f) n := by
  intro s t hs hl hc e
  unfold ntF at e
  cases er : f (s.1 + 1, s.2) with
  | inl x => rw [er] at e; cases e
  | inr q =>
    rw [er] at e
    have b := hf (s.1 + 1, s.2) q hs (by show s.2.2.2 ≤ s.1 + 1; omega) hc er
    cases e
    exact emit_b b (by omega) (by omega)
theorem te_b {ch : Nat → Nat} {br nt f : PSs → PRs} {n : Nat} (h : CHn256 ch n) (hb : BDb br n) (hn : BDb nt n) (hg : GRW f n) (hf : BDf f n) : BDf (teF ch br nt f) n := by
  intro s t hs hl hc e
  unfold teF at e
  by_cases h1 : ch s.1 = 40
  · rw [if_pos h1] at e; exact hb s t (h.lt (by omega)) hl hc e
  · rw [if_neg h1] at e
    by_cases h2 : ch s.1 = 33
    · rw [if_pos h2] at e; exact hn s t (h.lt (by omega)) hl hc e
    · rw [if_neg h2] at e; exact cm_b h hg hf s t hs hl hc e
theorem jmL_b {ch : Nat → Nat} {z o : Nat} {f : PSs → PRs} {n : Nat} (h : CHn256 ch n) (hn : n ≤ 240) (hz : z < 256) (ho : o ≤ 12) (hg : GRW f n) (hf : BDf f n) : ∀ m, BDf (jmL ch z o f m) n
  | 0, s, t, hs, hl, hc, e => by cases e; exact hc
  | m + 1, s, t, hs, hl, hc, e => by
    unfold jmL at e
    by_cases h1 : ch s.1 = z
    · rw [if_pos h1] at e
      have hlt := h.lt (show ch s.1 < 256 by omega)
      cases er : f (s.1 + 1, emit s.2 o 0) with
      | inl x => rw [er] at e; cases e
      | inr q =>
        rw [er] at e
        obtain ⟨a1, a2, a3, a4⟩ := hg (s.1 + 1, emit s.2 o 0) q hlt er
        have b := hf (s.1 + 1, emit s.2 o 0) q hlt (by show s.2.2.2 + 1 ≤ s.1 + 1; omega) (emit_b hc ho (by omega)) er
        dsimp only [emit] at a1 a3 a4
        exact jmL_b h hn hz ho hg hf m (q.1, land q.2 s.2.2.2) t a2 (by show q.2.2.2 ≤ q.1; omega) (land_b b (by omega)) e
    · rw [if_neg h1] at e; cases e; exact hc
theorem jm_b {ch : Nat → Nat} {z o : Nat} {f : PSs → PRs} {n : Nat} (h : CHn256 ch n) (hn : n ≤ 240) (hz : z < 256) (ho : o ≤ 12) (hg : GRW f n) (hf : BDf f n) : BDf (jmF ch z o f) n := by
  intro s t hs hl hc e
  unfold jmF at e
  cases er : f s with
  | inl x => rw [er] at e; cases e
  | inr q =>
    rw [er] at e
    obtain ⟨a1, a2, a3, a4⟩ := hg s q hs er
    exact jmL_b h hn hz ho hg hf 240 q t a2 (by omega) (hf s q hs hl hc er) e
theorem cd_b {ch : Nat → Nat} {f : PSs → PRs} {n : Nat} (h : CHn256 ch n) (hn : n ≤ 240) (hg : GRW f n) (hf : BDf f n) : BDf (cdF ch f) n := jm_b h hn (by decide) (by decide) (jm_grw h (by decide) hg) (jm_b h hn (by decide) (by decide) hg hf)
theorem tF_b {ch : Nat → Nat} {n : Nat} (h : CHn256 ch n) (hn : n ≤ 240) : ∀ k, BDf (tF ch k) n
  | 0 => te_b h deep_b deep_b (eF_grw h 0) (eF_b h 0)
  | k + 1 => te_b h (in_b (cd_b h hn (tF_grw h k) (tF_b h hn k))) (nt_b (tF_b h hn k)) (eF_grw h (k + 1)) (eF_b h (k + 1))
theorem bk_b {ch : Nat → Nat} {n : Nat} (h : CHn256 ch n) (hn : n ≤ 240) : BDf (bkF ch 6) n := by
  intro s t hs hl hc e
  unfold bkF at e
  by_cases h1 : ch s.1 = 40
  · rw [if_pos h1] at e
    exact in_b (cd_b h hn (tF_grw h 5) (tF_b h hn 5)) s t (h.lt (by omega)) hl hc e
  · rw [if_neg h1] at e; cases e
end RULES5
