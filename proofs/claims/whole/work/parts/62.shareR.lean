/-! shares, by the reference -/
section SHARER
def PRf (w : Wd) (P : Nat → Nat) : Prop := ∀ c, c < 6 → w 114 c = nI (P c) ∧ P c ≤ 9999 ∧ (F_164_110 (nI c) w = 0 → P c = 0)
theorem PRf.cg {w u : Wd} {P : Nat → Nat} (h : PRf w P) (e : u 114 = w 114) (e2 : u 110 6 = w 110 6) : PRf u P := fun c hc => by
  have h1 : F_164_110 (nI c) u = F_164_110 (nI c) w := by unfold F_164_110; rw [e2]; rfl
  rw [e, h1]; exact h c hc
theorem all_PRf {w : Wd} {P : Nat → Nat} (h : PRf w P) : F_168_110 w = nI (pS P) := by
  have step : ∀ n a, n < 6 → (if F_164_110 (nI n) w = 0 then nI a + nI 0 else nI a + w 114 n) = nI (a + P n) := by
    intro n a hn
    obtain ⟨h1, h2, h3⟩ := h n hn
    by_cases hz : F_164_110 (nI n) w = 0
    · rw [if_pos hz, h3 hz, nI_add]
    · rw [if_neg hz, h1, nI_add]
  unfold F_168_110
  simp only [foldF]
  rw [show kI 0 = nI 0 from rfl]
  rw [step 0 _ (by omega), step 1 _ (by omega), step 2 _ (by omega), step 3 _ (by omega), step 4 _ (by omega), step 5 _ (by omega), Nat.zero_add]
  rfl
theorem PRf.pS_le {w : Wd} {P : Nat → Nat} (h : PRf w P) : pS P ≤ 59994 := by
  have h0 := (h 0 (by omega)).2.1; have h1 := (h 1 (by omega)).2.1; have h2 := (h 2 (by omega)).2.1; have h3 := (h 3 (by omega)).2.1; have h4 := (h 4 (by omega)).2.1; have h5 := (h 5 (by omega)).2.1
  unfold pS
  omega
def L1R (w u : Wd) (s : Nat → Nat) (n : Nat) : Prop := (∀ c, c < n → u 133 c = nI (s c)) ∧ ∀ b, b ≠ 133 → u b = w b
theorem L1R.up {w u : Wd} {s : Nat → Nat} {n : Nat} (h : L1R w u s n) : L1R w (up2 u 133 n (nI (s n))) s (n + 1) := by
  refine ⟨fun c hc => ?_, fun b hb => by rw [up2_ne hb]; exact h.2 b hb⟩
  rw [up2_at]
  by_cases e : c = n
  · subst e; rw [if_pos rfl]
  · rw [if_neg e]; exact h.1 c (by omega)
theorem l1_218 {X : Scr} {d many : Nat} {w : Wd} {P : Nat → Nat} {Q : Wd → Prop} {v4 : Int32} (hP : PRf w P) (hm : many ≤ 9999) (kk : ∀ u v5, L1R w u (fun c => P c * many / pS P) 6 → EU X (d + 3) 218 (71, [some (.ref 110), some (.int (nI many)), some (.int (nI (pS P))), some (.int (nI (many - qS P many 6))), some (.int v4), some (.int v5), none], [], SH, u) Q) : ∀ (m n : Nat) (u : Wd), n + m = 6 → L1R w u (fun c => P c * many / pS P) n → EU X (d + 3) 218 (13, [some (.ref 110), some (.int (nI many)), some (.int (nI (pS P))), some (.int (nI (many - qS P many n))), some (.int v4), some (.int (nI n)), none], [], SH, u) Q := by
  intro m
  induction m with
  | zero =>
    intro n u h hI
    have hn : n = 6 := by omega
    subst hn
    refine t218_110_at13 u _ _ _ _ _ ?_
    rw [if_pos (by decide)]
    exact kk u _ hI
  | succ m ih =>
    intro n u h hI
    have hn : n < 6 := by omega
    have hs := hP.pS_le
    have hib : inB (nI n) 6 = true := inB_nI hn (by decide)
    have hPu : PRf u P := hP.cg (hI.2 114 (by decide)) (by rw [hI.2 110 (by decide)])
    have hq : qS P many (n + 1) = qS P many n + P n * many / pS P := rfl
    have nx := ih (n + 1) _ (by omega) (L1R.up hI)
    refine t218_110_at13 u _ _ _ _ _ ?_
    rw [if_neg (lt_6 n hn), nI_clamp (by omega), k1, up2_at, if_pos rfl, up2_at, if_pos rfl]
    by_cases ha : pS P = 0
    · rw [ha, if_pos (by decide)]
      rw [hq] at nx
      simp only [ha, Nat.div_zero, Nat.add_zero] at nx ⊢
      refine ⟨hib, hib, ?_⟩
      rw [show nI (many - qS P many n) - kI 0 = nI (many - qS P many n) from Int32.sub_zero _]
      exact nx
    · rw [if_neg (nI_nle (by omega) (by omega))]
      have hne : ¬ nI (pS P) = 0 := nI_ne0 (by omega) (by omega)
      have hq6 : qS P many (n + 1) ≤ many := by
        have h1 := qS_mono (P := P) (many := many) m (n + 1)
        rw [show n + 1 + m = 6 by omega] at h1
        exact Nat.le_trans h1 (qS_le (by omega)).1
      have key : nI (many - qS P many n) - nI (P n * many / pS P) = nI (many - qS P many (n + 1)) := by
        rw [pk_sub (by omega), show many - qS P many n - P n * many / pS P = many - qS P many (n + 1) by omega]
      by_cases hz : F_164_110 (nI n) u = 0
      · rw [if_pos hz]
        have hp0 : P n * many / pS P = 0 := by rw [(hPu n hn).2.2 hz, Nat.zero_mul, Nat.zero_div]
        rw [hp0] at key nx
        refine ⟨hib, hib, ?_⟩
        rw [show kI 0 = nI 0 from rfl, key]
        exact nx
      · rw [if_neg hz, (hPu n hn).1, pk_mul, pk_div (pm_lt (hP n hn).2.1 hm) (by omega) (by omega), key]
        exact ⟨hib, hne, hib, hib, nx⟩
def elg (P : Nat → Nat) (T : Nat → Bool) (c : Nat) : Prop := P c ≠ 0 ∧ T c = false
def IB2 (P : Nat → Nat) (many : Nat) (T : Nat → Bool) (n : Nat) (o : Option Nat) : Prop := match o with
  | none => ∀ c, c < n → ¬ elg P T c
  | some b => b < n ∧ elg P T b ∧ (∀ c, c < n → elg P T c → P c * many % pS P ≤ P b * many % pS P) ∧ ∀ c, c < b → elg P T c → P c * many % pS P < P b * many % pS P
theorem IB2.skip {P : Nat → Nat} {many n : Nat} {T : Nat → Bool} {o : Option Nat} (h : IB2 P many T n o) (hn : ¬ elg P T n) : IB2 P many T (n + 1) o := by
  cases o with
  | none =>
    intro c hc
    by_cases e : c = n
    · subst e; exact hn
    · exact h c (by omega)
  | some b =>
    obtain ⟨h1, h2, h3, h4⟩ := h
    refine ⟨by omega, h2, fun c hc he => ?_, h4⟩
    by_cases e : c = n
    · subst e; exact absurd he hn
    · exact h3 c (by omega) he
theorem in_218 {X : Scr} {d many G : Nat} {v3 : Int32} {u : Wd} {P : Nat → Nat} {T : Nat → Bool} {Q : Wd → Prop} (hP : PRf u P) (ha : 0 < pS P) (hm : many ≤ 9999) (hG : G < 64) (hT : ∀ c, c < 6 → G.testBit c = T c) (kk : ∀ o, IB2 P many T 6 o → EU X (d + 3) 218 (85, [some (.ref 110), some (.int (nI many)), some (.int (nI (pS P))), some (.int v3), some (.int (nI G)), some (.int (enO o)), some (.int (nI 6))], [], SH, u) Q) : ∀ (m n : Nat) (o : Option Nat), n + m = 6 → IB2 P many T n o → EU X (d + 3) 218 (85, [some (.ref 110), some (.int (nI many)), some (.int (nI (pS P))), some (.int v3), some (.int (nI G)), some (.int (enO o)), some (.int (nI n))], [], SH, u) Q := by
  intro m
  induction m with
  | zero =>
    intro n o h hI
    have hn : n = 6 := by omega
    subst hn
    exact kk o hI
  | succ m ih =>
    intro n o h hI
    have hn : n < 6 := by omega
    have hs := hP.pS_le
    have hib : inB (nI n) 6 = true := inB_nI hn (by decide)
    have hne : ¬ nI (pS P) = 0 := nI_ne0 (by omega) (by omega)
    have skip : ¬ elg P T n → EU X (d + 3) 218 (85, [some (.ref 110), some (.int (nI many)), some (.int (nI (pS P))), some (.int v3), some (.int (nI G)), some (.int (enO o)), some (.int (nI (n + 1)))], [], SH, u) Q := fun hx => ih (n + 1) o (by omega) (hI.skip hx)
    refine t218_110_at85 u _ _ _ _ _ _ ?_
    rw [if_neg (lt_6 n hn), nI_clamp (by omega), k1, (hP n hn).1]
    by_cases hz : F_164_110 (nI n) u = 0
    · rw [if_pos hz]
      exact skip (fun e => e.1 ((hP n hn).2.2 hz))
    · rw [if_neg hz]
      refine ⟨hib, ?_⟩
      by_cases hp : P n = 0
      · rw [if_pos (by rw [hp]; rfl)]
        exact skip (fun e => e.1 hp)
      · rw [if_neg (show ¬ nI (P n) = 0 from nI_ne0 (by omega) (by have := (hP n hn).2.1; omega))]
        by_cases hg : T n = true
        · have hx : ¬ F_161 (nI G) (nI n) u = 0 := by rw [has_z u (by omega) (by omega), hT n hn, hg]; simp
          rw [if_neg hx]
          exact skip (fun e => by rw [e.2] at hg; cases hg)
        · have hgf : T n = false := by simpa using hg
          have hx : F_161 (nI G) (nI n) u = 0 := by rw [has_z u (by omega) (by omega), hT n hn, hgf]; simp
          rw [if_pos hx]
          cases o with
          | none =>
            rw [if_pos (show enO none = kI (-1) from rfl)]
            refine ih (n + 1) (some n) (by omega) ⟨by omega, ⟨hp, hgf⟩, fun c hc he => ?_, fun c hc he => absurd he (hI c hc)⟩
            by_cases e : c = n
            · subst e; exact Nat.le_refl _
            · exact absurd he (hI c (by omega))
          | some b =>
            obtain ⟨h1, h2, h3, h4⟩ := hI
            have hib2 : inB (nI b) 6 = true := inB_nI (by omega) (by decide)
            rw [if_neg (show ¬ enO (some b) = kI (-1) from nI_m1 (by omega)), show enO (some b) = nI b from rfl, nI_clamp (by omega), (hP b (by omega)).1, pk_mul, pk_mul, pk_rem (pm_lt (hP n hn).2.1 hm) (by omega) (by omega), pk_rem (pm_lt (hP b (by omega)).2.1 hm) (by omega) (by omega)]
            refine ⟨hib, hne, hib2, hne, ?_⟩
            have m1 := Nat.mod_lt (P n * many) ha
            have m2 := Nat.mod_lt (P b * many) ha
            by_cases hc : P n * many % pS P ≤ P b * many % pS P
            · rw [if_pos (by rw [nI_leI (by omega) (by omega)]; exact hc)]
              refine ih (n + 1) (some b) (by omega) ⟨by omega, h2, fun c hc2 he => ?_, h4⟩
              by_cases e : c = n
              · subst e; exact hc
              · exact h3 c (by omega) he
            · rw [if_neg (by rw [nI_leI (by omega) (by omega)]; exact hc)]
              refine ih (n + 1) (some n) (by omega) ⟨by omega, ⟨hp, hgf⟩, fun c hc2 he => ?_, fun c hc2 he => ?_⟩
              · by_cases e : c = n
                · subst e; exact Nat.le_refl _
                · have := h3 c (by omega) he; omega
              · have := h3 c hc2 he; omega
theorem IB2.best {P : Nat → Nat} {many : Nat} {T : Nat → Bool} {o : Option Nat} (h : IB2 P many T 6 o) (hx : ∃ c, c < 6 ∧ T c = false ∧ 0 < P c * many % pS P) : o = some (bstF (rst P many T) 5) := by
  obtain ⟨c, hc, hT, hr⟩ := hx
  have hPc : P c ≠ 0 := fun e => by rw [e, Nat.zero_mul, Nat.zero_mod] at hr; omega
  cases o with
  | none => exact absurd ⟨hPc, hT⟩ (h c hc)
  | some b =>
    obtain ⟨h1, h2, h3, h4⟩ := h
    have hb := h3 c hc ⟨hPc, hT⟩
    have hrb : rst P many T b = ((P b * many % pS P : Nat) : Int) := by unfold rst; rw [h2.2]; rfl
    have hz : ∀ e, ¬ elg P T e → rst P many T e ≤ 0 := by
      intro e he
      unfold rst
      cases hTe : T e with
      | true => simp
      | false =>
        have : P e = 0 := Classical.byContradiction fun hp => he ⟨hp, hTe⟩
        rw [this]; simp
    have hel : ∀ e, elg P T e → rst P many T e = ((P e * many % pS P : Nat) : Int) := fun e he => by unfold rst; rw [he.2]; rfl
    have : isBest (rst P many T) 5 b := by
      refine ⟨by omega, fun e he => ?_, fun e he => ?_⟩
      · by_cases hE : elg P T e
        · rw [hel e hE, hrb]; have := h3 e (by omega) hE; omega
        · have := hz e hE; omega
      · by_cases hE : elg P T e
        · rw [hel e hE, hrb]; have := h4 e he hE; omega
        · have := hz e hE; omega
    rw [best_uniq this (bstF_is _ 5)]
theorem l2_218 {X : Scr} {d many : Nat} {w : Wd} {P : Nat → Nat} {Q : Wd → Prop} (hP : PRf w P) (ha : 0 < pS P) (hm : many ≤ 9999) (kk : ∀ u, L1R w u (fun c => shR P many c) 6 → Q u) : ∀ (m j G : Nat) (v5 : Int32) (u : Wd), j + m = many - qS P many 6 → G < 64 → (∀ c, c < 6 → G.testBit c = tk P many j c) → L1R w u (fun c => P c * many / pS P + (tk P many j c).toNat) 6 → EU X (d + 3) 218 (71, [some (.ref 110), some (.int (nI many)), some (.int (nI (pS P))), some (.int (nI m)), some (.int (nI G)), some (.int v5), none], [], SH, u) Q := by
  intro m
  have hs := hP.pS_le
  have h6 := left_lt6 (P := P) (many := many) ha
  induction m with
  | zero =>
    intro j G v5 u h hG hT hI
    have hj : j = many - qS P many 6 := by omega
    subst hj
    refine t218_110_at71 u _ _ _ _ _ ?_
    rw [if_pos (by decide)]
    refine kk u ⟨fun c hc => ?_, hI.2⟩
    rw [hI.1 c hc]
    simp only [shR, if_neg (show ¬ pS P = 0 by omega)]
  | succ m ih =>
    intro j G v5 u h hG hT hI
    refine t218_110_at71 u _ _ _ _ _ ?_
    rw [if_neg (nI_nle (by omega) (by omega)), if_neg (nI_nle (by omega) (by omega))]
    have hml := more_left (P := P) (many := many) (T := tk P many j) ha (by rw [tk_tc ha j (by omega)]; omega)
    obtain ⟨b1, b2, b3⟩ := bst_pos hml
    refine in_218 (T := tk P many j) (hP.cg (hI.2 114 (by decide)) (by rw [hI.2 110 (by decide)])) ha hm hG hT ?_ 6 0 none rfl (fun c hc => by omega)
    intro o ho
    rw [ho.best hml]
    generalize hb : bstF (rst P many (tk P many j)) 5 = b at b1 b2 b3
    refine t218_110_at85 u _ _ _ _ _ _ ?_
    have hib : inB (nI b) 6 = true := inB_nI b1 (by decide)
    rw [if_pos (by decide), show enO (some b) = nI b from rfl, nI_clamp (by omega), shl1_nI (by omega), or_nI, show nI (m + 1) - kI 1 = nI m from nI_pred m]
    have e : ∀ c, tk P many (j + 1) c = (tk P many j c || c == b) := fun c => by rw [← hb]; rfl
    refine ⟨hib, hib, ih (j + 1) _ _ _ (by omega) ?_ (fun c hc => ?_) ⟨fun c hc => ?_, fun a h1 => by rw [up2_ne h1]; exact hI.2 a h1⟩⟩
    · have h2 : (2 : Nat) ^ b < 2 ^ 6 := Nat.pow_lt_pow_right (by decide) b1
      exact Nat.or_lt_two_pow (n := 6) hG h2
    · rw [Nat.testBit_or, hT c hc, e c, Nat.testBit_two_pow]
      by_cases hcb : c = b
      · subst hcb; simp
      · have : (c == b) = false := by simpa using hcb
        rw [this]
        simp only [decide_eq_false (show ¬ b = c from fun x => hcb x.symm)]
    · show _ = nI (P c * many / pS P + (tk P many (j + 1) c).toNat)
      have hc1 : u 133 c = nI (P c * many / pS P + (tk P many j c).toNat) := hI.1 c hc
      rw [up2_at, e c]
      by_cases hcb : c = b
      · subst hcb
        rw [if_pos rfl, hc1, b2, k1]
        simp
      · rw [if_neg hcb]
        have e2 : (c == b) = false := by simpa using hcb
        rw [e2, Bool.or_false]
        exact hc1
theorem c_218 {X : Scr} {d many : Nat} {w : Wd} {P : Nat → Nat} (hP : PRf w P) (hm : many ≤ 9999) : CU X (d + 4) 218 [.ref 110, .int (nI many)] w (fun u => L1R w u (fun c => shR P many c) 6) := by
  refine CU.of rfl (t218_110_at0 w _ ?_)
  rw [all_PRf hP]
  have hs := hP.pS_le
  have := l1_218 (X := X) (d := d) (v4 := kI 0) (Q := fun u => L1R w u (fun c => shR P many c) 6) hP hm ?_ 6 0 w rfl ⟨fun c hc => by omega, fun _ _ => rfl⟩
  · exact this
  · intro u v5 hu
    by_cases ha : pS P = 0
    · refine t218_110_at71 u _ _ _ _ _ ?_
      have hQ : L1R w u (fun c => shR P many c) 6 := by
        refine ⟨fun c hc => ?_, hu.2⟩
        rw [hu.1 c hc]
        simp only [shR, ha, if_true, Nat.div_zero]
      rw [ha]
      split
      · exact hQ
      · rw [if_pos (by decide)]; exact hQ
    · refine l2_218 hP (by omega) hm (fun u h => h) (many - qS P many 6) 0 0 v5 u (Nat.zero_add _) (by decide) (fun c hc => by rw [Nat.zero_testBit]; rfl) ⟨fun c hc => ?_, hu.2⟩
      rw [hu.1 c hc]
      rfl
/-! one by one -/
theorem dv_R {s way c : Nat} {u : Wd} (hw : way ≤ 3) (hc : c < 6) (hs : u 133 c = nI s) : F_219_110 (nI c) (nI way) u = nI (dvS way s) := by
  have := dv_nI (s := s) hw u
  unfold F_95 at this
  unfold F_219_110
  rw [nI_clamp (by omega), hs]
  exact this
theorem in_221 {X : Scr} {d way : Nat} {v1 v3 : Int32} {u : Wd} {P s : Nat → Nat} {Q : Wd → Prop} (hP : PRf u P) (hw : way ≤ 3) (hs : ∀ c, c < 6 → u 133 c = nI (s c) ∧ s c ≤ 999) (kk : EU X (d + 3) 221 (41, [some (.ref 110), some (.int v1), some (.int (nI way)), some (.int v3), some (.int (enO (pkW P s way 6))), some (.int (nI 6))], [], SH, u) Q) : ∀ (m n : Nat), n + m = 6 → EU X (d + 3) 221 (41, [some (.ref 110), some (.int v1), some (.int (nI way)), some (.int v3), some (.int (enO (pkW P s way n))), some (.int (nI n))], [], SH, u) Q := by
  intro m
  induction m with
  | zero =>
    intro n h
    have hn : n = 6 := by omega
    subst hn
    exact kk
  | succ m ih =>
    intro n h
    have hn : n < 6 := by omega
    have ihn := ih (n + 1) (by omega)
    have hib : inB (nI n) 6 = true := inB_nI hn (by decide)
    refine t221_110_at41 u _ _ _ _ _ ?_
    rw [if_neg (lt_6 n hn), nI_clamp (by omega), (hP n hn).1, k1]
    have e : pkW P s way (n + 1) = if P n = 0 then pkW P s way n else match pkW P s way n with
      | none => some n
      | some b => if P b * dvS way (s n) < P n * dvS way (s b) then some n else some b := rfl
    have hpn := (hP n hn).2.1
    have zero : P n = 0 → EU X (d + 3) 221 (41, [some (.ref 110), some (.int v1), some (.int (nI way)), some (.int v3), some (.int (enO (pkW P s way n))), some (.int (nI (n + 1)))], [], SH, u) Q := fun hp => by
      rw [if_pos hp] at e
      rw [e] at ihn
      exact ihn
    by_cases hz : F_164_110 (nI n) u = 0
    · rw [if_pos hz]; exact zero ((hP n hn).2.2 hz)
    · rw [if_neg hz]
      refine ⟨hib, ?_⟩
      by_cases hp : P n = 0
      · rw [if_pos (by rw [hp]; rfl)]; exact zero hp
      · rw [if_neg (show ¬ nI (P n) = 0 from nI_ne0 (by omega) (by omega))]
        rw [if_neg hp] at e
        cases hb : pkW P s way n with
        | none =>
          rw [hb] at e
          rw [e] at ihn
          rw [if_pos (show enO none = kI (-1) from rfl)]
          exact ihn
        | some b =>
          have hbn := pkW_lt n b hb
          rw [hb] at e
          dsimp only at e
          have hib2 : inB (nI b) 6 = true := inB_nI (by omega) (by decide)
          rw [if_neg (show ¬ enO (some b) = kI (-1) from nI_m1 (by omega)), show enO (some b) = nI b from rfl]
          refine ⟨fun _ _ => hib, fun _ _ => hib, fun _ => hib, fun _ _ => hib2, fun _ _ => hib2, fun _ => hib2, fun _ _ => hib, fun _ _ => hib2, ?_⟩
          have ef : F_220_110 (nI n) (nI b) (nI way) u = if P b * dvS way (s n) < P n * dvS way (s b) then kI 1 else kI 0 := by
            unfold F_220_110
            rw [dv_R hw hn (hs n hn).1, dv_R hw (by omega) (hs b (by omega)).1, nI_clamp (by omega), nI_clamp (by omega), (hP n hn).1, (hP b (by omega)).1, pk_mul, pk_mul]
            have d1 := dvS_le (way := way) (hs n hn).2
            have d2 := dvS_le (way := way) (hs b (by omega)).2
            have z1 := pd_lt hpn d2
            have z2 := pd_lt (hP b (by omega)).2.1 d1
            generalize dvS way (s n) = x at *
            generalize dvS way (s b) = y at *
            by_cases hx : x = 0
            · subst hx
              rw [if_pos (show nI 0 = 0 from rfl), Nat.mul_zero]
              by_cases hy : y = 0
              · subst hy
                rw [if_pos (by decide), Nat.mul_zero, if_neg (by omega)]
              · rw [if_neg (nI_nle (by omega) (by omega)), if_pos (Nat.mul_pos (by omega) (by omega))]
            · rw [if_neg (nI_ne0 (by omega) (by omega))]
              by_cases hy : y = 0
              · subst hy
                rw [if_pos (show nI 0 = 0 from rfl), Nat.mul_zero, if_neg (by omega)]
              · rw [if_neg (nI_ne0 (by omega) (by omega))]
                by_cases hc : P b * x < P n * y
                · rw [if_pos hc, if_neg (by rw [nI_leI z1 z2]; omega)]
                · rw [if_neg hc, if_pos (by rw [nI_leI z1 z2]; omega)]
          rw [ef]
          by_cases hc : P b * dvS way (s n) < P n * dvS way (s b)
          · rw [if_pos hc] at e
            rw [e] at ihn
            rw [if_pos hc, if_neg (by decide)]
            exact ihn
          · rw [if_neg hc] at e
            rw [e] at ihn
            rw [if_neg hc, if_pos (show kI 0 = 0 from rfl)]
            exact ihn
theorem l_221 {X : Scr} {d way many : Nat} {w : Wd} {P : Nat → Nat} {Q : Wd → Prop} (hP : PRf w P) (ha : 0 < pS P) (hw : way ≤ 3) (hm : many ≤ 999) (kk : ∀ u, L1R w u (shW P way many) 6 → Q u) : ∀ (m i : Nat) (u : Wd), i + m = many → L1R w u (shW P way i) 6 → EU X (d + 3) 221 (23, [some (.ref 110), some (.int (nI many)), some (.int (nI way)), some (.int (nI i)), none, none], [], SH, u) Q := by
  intro m
  induction m with
  | zero =>
    intro i u h hI
    have hi : i = many := by omega
    subst hi
    refine t221_110_at23 u _ _ _ ?_
    rw [if_pos (Int32.le_refl _)]
    exact kk u hI
  | succ m ih =>
    intro i u h hI
    have hPu : PRf u P := hP.cg (hI.2 114 (by decide)) (by rw [hI.2 110 (by decide)])
    have hs0 := hP.pS_le
    refine t221_110_at23 u _ _ _ ?_
    rw [if_neg (nI_ge (by omega) (by omega)), all_PRf hPu, if_neg (nI_nle ha (by omega))]
    have hs : ∀ c, c < 6 → u 133 c = nI (shW P way i c) ∧ shW P way i c ≤ 999 := fun c hc => ⟨hI.1 c hc, by have := shW_le (P := P) (way := way) i c; omega⟩
    refine in_221 hPu hw hs ?_ 6 0 rfl
    refine t221_110_at41 u _ _ _ _ _ ?_
    rw [if_pos (by decide), k1]
    have e : shW P way (i + 1) = stW P way (shW P way i) := rfl
    cases hb : pkW P (shW P way i) way 6 with
    | none =>
      obtain ⟨c, hc, hp⟩ := pS_pos ha
      exact absurd hb (pkW_some 6 c hc hp)
    | some b =>
      have hb6 := (pkW_lt 6 b hb).1
      have hib : inB (nI b) 6 = true := inB_nI hb6 (by decide)
      rw [show enO (some b) = nI b from rfl, nI_clamp (by omega)]
      refine ⟨hib, hib, ih (i + 1) _ (by omega) ⟨fun c hc => ?_, fun a h1 => ?_⟩⟩
      · rw [e]
        unfold stW
        rw [hb, up2_at]
        dsimp only
        by_cases hcb : c = b
        · subst hcb; rw [if_pos rfl, if_pos rfl, hI.1 c hc, k1]
        · rw [if_neg hcb, if_neg hcb]; exact hI.1 c hc
      · rw [up2_ne h1]; exact hI.2 a h1
theorem z_221 {X : Scr} {d : Nat} {w : Wd} {v1 v2 : Int32} {Q : Wd → Prop} (kk : ∀ u, L1R w u (fun _ => 0) 6 → EU X (d + 3) 221 (23, [some (.ref 110), some (.int v1), some (.int v2), some (.int (nI 0)), none, none], [], SH, u) Q) : ∀ (m n : Nat) (u : Wd), n + m = 6 → L1R w u (fun _ => 0) n → EU X (d + 3) 221 (2, [some (.ref 110), some (.int v1), some (.int v2), some (.int (nI n)), none, none], [], SH, u) Q := by
  intro m
  induction m with
  | zero =>
    intro n u h hI
    have hn : n = 6 := by omega
    subst hn
    refine t221_110_at2 u _ _ _ ?_
    rw [if_pos (by decide)]
    exact kk u hI
  | succ m ih =>
    intro n u h hI
    refine t221_110_at2 u _ _ _ ?_
    rw [if_neg (lt_6 n (by omega)), nI_clamp (by omega), k1]
    exact ⟨inB_nI (by omega) (by decide), ih (n + 1) _ (by omega) (L1R.up hI)⟩
theorem c_221 {X : Scr} {d way many : Nat} {w : Wd} {P : Nat → Nat} (hP : PRf w P) (hw : way ≤ 3) (hw0 : way ≠ 0) (hm : many ≤ 999) : CU X (d + 4) 221 [.ref 110, .int (nI many), .int (nI way)] w (fun u => L1R w u (fun c => shN P many way c) 6) := by
  refine CU.of rfl (t221_110_at0 w _ _ ?_)
  refine z_221 (w := w) ?_ 6 0 w rfl ⟨fun c hc => by omega, fun _ _ => rfl⟩
  intro u hu
  have hPu : PRf u P := hP.cg (hu.2 114 (by decide)) (by rw [hu.2 110 (by decide)])
  by_cases ha : pS P = 0
  · have hQ : L1R w u (fun c => shN P many way c) 6 := by
      refine ⟨fun c hc => ?_, hu.2⟩
      rw [hu.1 c hc]
      simp only [shN, ha, if_true, if_neg hw0]
    refine t221_110_at23 u _ _ _ ?_
    split
    · exact hQ
    · rw [all_PRf hPu, ha, if_pos (by decide)]; exact hQ
  · refine l_221 hP (by omega) hw hm (fun u2 h2 => ⟨fun c hc => ?_, h2.2⟩) many 0 u (Nat.zero_add _) hu
    rw [h2.1 c hc]
    simp only [shN, if_neg ha, if_neg hw0]
/-- laysShares -/
theorem c_222 {X : Scr} {d way many : Nat} {w : Wd} {P : Nat → Nat} (hP : PRf w P) (hw : way ≤ 3) (hm : many ≤ 9999) (hm2 : way ≠ 0 → many ≤ 999) : CU X (d + 5) 222 [.ref 110, .int (nI many), .int (nI way)] w (fun u => L1R w u (fun c => shN P many way c) 6) := by
  refine CU.of rfl (t222_110_at0 (d := d + 3) w _ _ ?_)
  by_cases h0 : way = 0
  · subst h0
    rw [if_pos (show nI 0 = 0 from rfl)]
    exact CU.mono (c_218 (d := d) hP hm) (fun u hu => hu)
  · rw [if_neg (show ¬ nI way = 0 from nI_ne0 (by omega) (by omega))]
    exact CU.mono (c_221 (d := d) hP hw h0 (hm2 h0)) (fun u hu => hu)
end SHARER
