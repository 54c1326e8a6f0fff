/-! halves, part 4: the search of the reference, the two calls -/
section MATCHJ
theorem f246_cg {w u : Wd} (e1 : u 110 56 = w 110 56) (e3 : u 140 = w 140) (e4 : u 141 = w 141) (e5 : u 142 = w 142) (e6 : u 143 = w 143) (p q : Int32) : F_246_110 p q u = F_246_110 p q w := by
  unfold F_246_110
  rw [e1, e3, e4, e5, e6]
  rfl
theorem cnS_orle {S e : Nat} (n : Nat) (he : e < n) : cnS (S ||| 2 ^ e) n ≤ cnS S n + 1 := by
  cases h : S.testBit e with
  | false => rw [cnS_or h n he]; exact Nat.le_refl _
  | true =>
    have e1 : S ||| 2 ^ e = S := by
      apply Nat.eq_of_testBit_eq
      intro i
      rw [Nat.testBit_or, Nat.testBit_two_pow]
      by_cases e2 : e = i
      · rw [← e2, h]; rfl
      · rw [decide_eq_false e2, Bool.or_false]
    rw [e1]
    omega
def MA (T : Nat → Option Nat) (r S a : Nat) : Prop := a = r ∨ ∃ e, e < 20 ∧ S.testBit e = true ∧ T e = some a
theorem MA.mono {T : Nat → Option Nat} {r S S2 a : Nat} (h : MA T r S a) (hs : ∀ e, S.testBit e = true → S2.testBit e = true) : MA T r S2 a := by
  rcases h with h | ⟨e, h1, h2, h3⟩
  · exact Or.inl h
  · exact Or.inr ⟨e, h1, hs e h2, h3⟩
def BFI (adj : Nat → Nat → Bool) (ev : Nat → Bool) (r : Nat) (T : Nat → Option Nat) (S F : Nat) (B : Nat → Option Nat) (rk : Nat → Nat) : Prop := S < 2 ^ 20 ∧ F < 2 ^ 20 ∧ CHn adj ev r (fun e => S.testBit e) rk B T ∧ (∀ e, e < 20 → S.testBit e = true → (∃ l, T e = some l) ∧ rk e < cnS S 20) ∧ ∀ a, F.testBit a = true → a < 20 ∧ ev a = true ∧ MA T r S a
def XP (adj : Nat → Nat → Bool) (T : Nat → Option Nat) (r S F : Nat) (ok : Nat → Prop) : Prop := ∀ a, a < 20 → MA T r S a → ok a → F.testBit a = true ∨ ∀ f, f < 20 → adj a f = true → S.testBit f = true
def P247 (w : Wd) (r : Nat) (T : Nat → Option Nat) (L : Nat → Bool) (x : Int32) (u2 : Wd) : Prop := (x = kI 1 ∧ ∃ T2 B2, PRm w u2 T2 B2 ∧ TM (adF w) (evF2 w) T2 (addL L r)) ∨ (x = kI 0 ∧ ∃ B2 S2, PRm w u2 T B2 ∧ (∀ e, e < 20 → adF w r e = true → Nat.testBit S2 e = true) ∧ ∀ e, e < 20 → Nat.testBit S2 e = true → ∃ l, PRt (evF2 w) T e = some l ∧ ∀ f, f < 20 → adF w l f = true → Nat.testBit S2 f = true)
theorem l_247e {X : Scr} {d r a M : Nat} {w : Wd} {T : Nat → Option Nat} {L : Nat → Bool} (hR : IR w) (hr : r < 20) (hvr : evF2 w r = true) (hL : L r = false) (hTM : TM (adF w) (evF2 w) T L) (ha : a < 20) (hva : evF2 w a = true)
    (kk : ∀ (S F : Nat) (B : Nat → Option Nat) (rk : Nat → Nat) (u : Wd), BFI (adF w) (evF2 w) r T S F B rk → XP (adF w) T r S F (fun _ => True) → 2 * (20 - cnS S 20) + cnS F 20 ≤ M → PRm w u T B → EI X (d + 2) 247 (30, [some (.ref 110), some (.int (nI r)), some (.int (nI S)), some (.int (nI F)), some (.int (nI a)), none], [], SH, u) (P247 w r T L)) :
    ∀ (k o S F : Nat) (B : Nat → Option Nat) (rk : Nat → Nat) (u : Wd), o + k = 20 → BFI (adF w) (evF2 w) r T S F B rk → MA T r S a → XP (adF w) T r S F (fun b => b ≠ a) → (∀ e, e < o → adF w a e = true → S.testBit e = true) → 2 * (20 - cnS S 20) + cnS F 20 ≤ M → PRm w u T B → EI X (d + 2) 247 (67, [some (.ref 110), some (.int (nI r)), some (.int (nI S)), some (.int (nI F)), some (.int (nI a)), some (.int (nI o))], [], SH, u) (P247 w r T L) := by
  intro k
  induction k with
  | zero =>
    intro o S F B rk u ho hI hA hX hx hM hP
    have e : o = 20 := by omega
    subst e
    refine t247_110_at67 u _ _ _ _ _ ?_
    rw [if_pos (by decide)]
    refine kk S F B rk u hI (fun b hb hm _ => ?_) hM hP
    by_cases e2 : b = a
    · rw [e2]; exact Or.inr hx
    · exact hX b hb hm e2
  | succ k ih =>
    intro o S F B rk u ho hI hA hX hx hM hP
    have ho2 : o < 20 := by omega
    obtain ⟨hS, hF, hCH, hm, hFa⟩ := hI
    have h110 : u 110 = w 110 := hP.1 110 (by decide) (by decide)
    have e246 : F_246_110 (nI a) (nI o) u = 0 ↔ adF w a o = false := by
      rw [f246_cg (w := w) (by rw [h110]) (hP.1 140 (by decide) (by decide)) (hP.1 141 (by decide) (by decide)) (hP.1 142 (by decide) (by decide)) (hP.1 143 (by decide) (by decide)), ad_eq hR ha ho2]
      unfold adF
      simp
    refine t247_110_at67 u _ _ _ _ _ ?_
    rw [if_neg (lt_20 o ho2)]
    have iba : inB (nI a) 20 = true := inB_nI ha (by decide)
    have ibo : inB (nI o) 20 = true := inB_nI ho2 (by decide)
    refine ⟨fun _ _ => iba, fun _ _ => ibo, fun _ _ _ => iba, fun _ _ _ => ibo, fun _ _ _ _ => iba, fun _ _ _ _ => ibo, fun _ _ _ _ _ => iba, fun _ _ _ _ _ => ibo, ?_⟩
    have skip : (adF w a o = true → S.testBit o = true) → EI X (d + 2) 247 (67, [some (.ref 110), some (.int (nI r)), some (.int (nI S)), some (.int (nI F)), some (.int (nI a)), some (.int (nI o + kI 1))], [], SH, u) (P247 w r T L) := by
      intro hs
      rw [k1]
      refine ih (o + 1) S F B rk u (by omega) ⟨hS, hF, hCH, hm, hFa⟩ hA hX (fun e he had => ?_) hM hP
      by_cases e2 : e = o
      · rw [e2]; rw [e2] at had; exact hs had
      · exact hx e (by omega) had
    cases had : adF w a o with
    | false =>
      rw [if_pos (e246.mpr had)]
      exact skip (fun e => by rw [had] at e; cases e)
    | true =>
      rw [if_neg (fun e => by rw [e246, had] at e; cases e)]
      cases hb : S.testBit o with
      | true =>
        rw [if_neg (by rw [has_z u (by omega) (by omega)]; exact fun z => z hb)]
        exact skip (fun _ => hb)
      | false =>
        rw [if_pos (by rw [has_z u (by omega) (by omega), hb]; decide), nI_clamp (by omega), hP.2.1 o ho2]
        refine ⟨ibo, ibo, ?_⟩
        have hvo : evF2 w o = false := by
          have := ad_par hR ha ho2 had
          rw [hva] at this
          cases h : evF2 w o with
          | false => rfl
          | true => rw [h] at this; cases this
        have hP1 : PRm w (up2 u 149 o (nI a)) T (upO B o (some a)) := by
          refine ⟨fun b h1 h2 => by rw [up2_ne h2]; exact hP.1 b h1 h2, fun i hi => by rw [up2_ne (by decide)]; exact hP.2.1 i hi, fun i hi => ?_⟩
          rw [up2_at]
          unfold upO
          by_cases e2 : i = o
          · rw [if_pos e2, if_pos e2]; rfl
          · rw [if_neg e2, if_neg e2]; exact hP.2.2 i hi
        have rk1 : ∀ e, e ≠ o → (fun i => if i = o then cnS S 20 else rk i) e = rk e := fun e he => if_neg he
        have rko : (fun i => if i = o then cnS S 20 else rk i) o = cnS S 20 := if_pos rfl
        have sne : ∀ e, S.testBit e = true → e ≠ o := fun e h1 h2 => by rw [h2, hb] at h1; cases h1
        have hCH1 : CHn (adF w) (evF2 w) r (fun e => (S ||| 2 ^ o).testBit e) (fun i => if i = o then cnS S 20 else rk i) (upO B o (some a)) T := by
          intro e he hs
          rcases or_bit.mp hs with h1 | h1
          · obtain ⟨c1, b, c2, c3, c4, c5, c6⟩ := hCH e he h1
            refine ⟨c1, b, by rw [upO_ne (sne e h1)]; exact c2, c3, c4, c5, ?_⟩
            rcases c6 with c6 | ⟨f, f1, f2, f3, f4⟩
            · exact Or.inl c6
            · exact Or.inr ⟨f, f1, or_bit.mpr (Or.inl f2), by rw [rk1 f (sne f f2), rk1 e (sne e h1)]; exact f3, f4⟩
          · subst h1
            refine ⟨hvo, a, upO_at, ha, hva, had, ?_⟩
            rcases hA with c6 | ⟨f, f1, f2, f4⟩
            · exact Or.inl c6
            · exact Or.inr ⟨f, f1, or_bit.mpr (Or.inl f2), by rw [rk1 f (sne f f2), rko]; exact (hm f f1 f2).2, f4⟩
        cases eT : T o with
        | none =>
          rw [if_pos (show enO none = kI (-1) from rfl)]
          have eU : upO T o none = T := by
            funext i
            unfold upO
            by_cases e2 : i = o
            · rw [if_pos e2, e2, eT]
            · rw [if_neg e2]
          refine CU.mono (CU.of (d := d + 1) rfl (t248_110_at0 (d := d) _ _ (l_248 (d := d) (w := w) hr hvr hL hCH1 hTM (cnS S 20 + 1) o T _ (by rw [if_pos rfl]; omega) ho2 (or_bit.mpr (Or.inr rfl)) hP1 (by rw [eU]; exact hTM) (fun f hf hs hrk l hl => ?_)))) ?_
          · have hvf := (hCH1 f hf hs).1
            exact ⟨hl, (hTM.1 f l hf hvf hl).2.2.2⟩
          · intro u2 hu
            obtain ⟨T2, q1, q2⟩ := hu
            exact Or.inl ⟨rfl, T2, _, q1, q2⟩
        | some l =>
          obtain ⟨l1, l2, l3, l4⟩ := hTM.1 o l ho2 hvo eT
          rw [if_neg (show ¬ enO (some l) = kI (-1) from nI_m1 (by omega)), show enO (some l) = nI l from rfl, shl1_nI (by omega), shl1_nI (by omega), or_nI, or_nI, k1]
          refine ⟨ibo, ?_⟩
          have hcn := cnS_or hb 20 ho2
          have hfn := cnS_orle (S := F) 20 l1
          have hle := cnS_le (S ||| 2 ^ o) 20
          refine ih (o + 1) (S ||| 2 ^ o) (F ||| 2 ^ l) (upO B o (some a)) _ _ (by omega) ⟨Nat.or_lt_two_pow hS (Nat.pow_lt_pow_right (by decide) ho2), Nat.or_lt_two_pow hF (Nat.pow_lt_pow_right (by decide) l1), hCH1, fun e he hs => ?_, fun b hb2 => ?_⟩ (hA.mono (fun e h => or_bit.mpr (Or.inl h))) (fun b hb2 hmb hne => ?_) (fun e he ha2 => ?_) (by omega) hP1
          · rcases or_bit.mp hs with h1 | h1
            · obtain ⟨g1, g2⟩ := hm e he h1
              exact ⟨g1, by rw [if_neg (sne e h1)]; omega⟩
            · subst h1
              exact ⟨⟨l, eT⟩, by rw [if_pos rfl]; omega⟩
          · rcases or_bit.mp hb2 with h1 | h1
            · obtain ⟨g1, g2, g3⟩ := hFa b h1
              exact ⟨g1, g2, g3.mono (fun e h => or_bit.mpr (Or.inl h))⟩
            · subst h1
              exact ⟨l1, l2, Or.inr ⟨o, ho2, or_bit.mpr (Or.inr rfl), eT⟩⟩
          · have old : MA T r S b → (F ||| 2 ^ l).testBit b = true ∨ ∀ f, f < 20 → adF w b f = true → (S ||| 2 ^ o).testBit f = true := by
              intro h
              rcases hX b hb2 h hne with h1 | h1
              · exact Or.inl (or_bit.mpr (Or.inl h1))
              · exact Or.inr (fun f hf h2 => or_bit.mpr (Or.inl (h1 f hf h2)))
            rcases hmb with h | ⟨e, h1, h2, h3⟩
            · exact old (Or.inl h)
            · rcases or_bit.mp h2 with h4 | h4
              · exact old (Or.inr ⟨e, h1, h4, h3⟩)
              · rw [← h4, eT] at h3
                exact Or.inl (or_bit.mpr (Or.inr (Option.some.inj h3)))
          · by_cases e2 : e = o
            · exact or_bit.mpr (Or.inr e2.symm)
            · exact or_bit.mpr (Or.inl (hx e (by omega) ha2))
theorem l_247a {X : Scr} {d F : Nat} {v1 v2 : Int32} {u : Wd} {Q : Int32 → Wd → Prop} (hF : F < 2 ^ 20) (kk : ∀ a, a < 20 → F.testBit a = true → EI X (d + 2) 247 (67, [some (.ref 110), some (.int v1), some (.int v2), some (.int (nI (F &&& (2 ^ a ^^^ 4294967295)))), some (.int (nI a)), some (.int (kI 0))], [], SH, u) Q) : ∀ (k a : Nat), a + k = 20 → (∃ b, a ≤ b ∧ b < 20 ∧ F.testBit b = true) → EI X (d + 2) 247 (37, [some (.ref 110), some (.int v1), some (.int v2), some (.int (nI F)), some (.int (nI a)), none], [], SH, u) Q := by
  intro k
  induction k with
  | zero =>
    intro a h hb
    obtain ⟨b, b1, b2, -⟩ := hb
    omega
  | succ k ih =>
    intro a h hb
    refine t247_110_at37 u _ _ _ _ ?_
    cases e : F.testBit a with
    | true =>
      rw [if_neg (by rw [has_z u (by omega) (by omega)]; exact fun z => z e), shl1_nI (by omega), andn_nI F (2 ^ a) (by omega)]
      exact kk a (by omega) e
    | false =>
      rw [if_pos (by rw [has_z u (by omega) (by omega), e]; decide), k1]
      obtain ⟨b, b1, b2, b3⟩ := hb
      refine ih (a + 1) (by omega) ⟨b, ?_, b2, b3⟩
      have : b ≠ a := fun z => by rw [z, e] at b3; cases b3
      omega
theorem clr_or {F a : Nat} (hF : F < 2 ^ 20) (h : F.testBit a = true) : (F &&& (2 ^ a ^^^ 4294967295)) ||| 2 ^ a = F ∧ (F &&& (2 ^ a ^^^ 4294967295)).testBit a = false ∧ ∀ b, b ≠ a → (F &&& (2 ^ a ^^^ 4294967295)).testBit b = F.testBit b := by
  have g : ∀ b, (F &&& (2 ^ a ^^^ 4294967295)).testBit b = (F.testBit b && !decide (a = b)) := fun b => by rw [tb_andn (by omega), Nat.testBit_two_pow]
  refine ⟨?_, ?_, fun b hb => ?_⟩
  · apply Nat.eq_of_testBit_eq
    intro b
    rw [Nat.testBit_or, g, Nat.testBit_two_pow]
    by_cases e : a = b
    · rw [← e, h, decide_eq_true rfl]; rfl
    · rw [decide_eq_false e]; simp
  · rw [g, decide_eq_true rfl]; simp
  · rw [g, decide_eq_false (fun z => hb z.symm)]; simp
theorem l_247 {X : Scr} {d r : Nat} {w : Wd} {T : Nat → Option Nat} {L : Nat → Bool} (hR : IR w) (hr : r < 20) (hvr : evF2 w r = true) (hL : L r = false) (hTM : TM (adF w) (evF2 w) T L) : ∀ (m S F : Nat) (B : Nat → Option Nat) (rk : Nat → Nat) (v4 : Int32) (u : Wd), BFI (adF w) (evF2 w) r T S F B rk → XP (adF w) T r S F (fun _ => True) → 2 * (20 - cnS S 20) + cnS F 20 ≤ m → PRm w u T B → EI X (d + 2) 247 (30, [some (.ref 110), some (.int (nI r)), some (.int (nI S)), some (.int (nI F)), some (.int v4), none], [], SH, u) (P247 w r T L) := by
  intro m
  have fin : ∀ (S : Nat) (B : Nat → Option Nat) (rk : Nat → Nat) (u : Wd), BFI (adF w) (evF2 w) r T S 0 B rk → XP (adF w) T r S 0 (fun _ => True) → PRm w u T B → P247 w r T L (kI 0) u := by
    intro S B rk u hI hX hP
    have ex : ∀ a, a < 20 → MA T r S a → ∀ f, f < 20 → adF w a f = true → S.testBit f = true := by
      intro a ha hm
      rcases hX a ha hm trivial with h | h
      · rw [Nat.zero_testBit] at h; cases h
      · exact h
    refine Or.inr ⟨rfl, B, S, hP, ex r hr (Or.inl rfl), fun e he hs => ?_⟩
    obtain ⟨⟨l, hl⟩, -⟩ := hI.2.2.2.1 e he hs
    have hv := (hI.2.2.1 e he hs).1
    refine ⟨l, by unfold PRt; rw [hv]; exact hl, ex l (hTM.1 e l he hv hl).1 (Or.inr ⟨e, he, hs, hl⟩)⟩
  induction m with
  | zero =>
    intro S F B rk v4 u hI hX hm hP
    have hF0 : F = 0 := by
      apply Nat.eq_of_testBit_eq
      intro i
      rw [Nat.zero_testBit]
      cases e : F.testBit i with
      | false => rfl
      | true =>
        have hi := (hI.2.2.2.2 i e).1
        have := cnS_lt (S := F) hi e
        omega
    refine t247_110_at30 u _ _ _ _ ?_
    rw [hF0, if_pos (show nI 0 = 0 from rfl)]
    rw [hF0] at hI hX
    exact fin S B rk u hI hX hP
  | succ m ih =>
    intro S F B rk v4 u hI hX hm hP
    refine t247_110_at30 u _ _ _ _ ?_
    by_cases hF0 : F = 0
    · rw [hF0, if_pos (show nI 0 = 0 from rfl)]
      rw [hF0] at hI hX
      exact fin S B rk u hI hX hP
    · have hF := hI.2.1
      rw [if_neg (nI_ne0 (by omega) (by omega))]
      have hex : ∃ b, 0 ≤ b ∧ b < 20 ∧ F.testBit b = true := by
        refine Classical.byContradiction (fun hn => hF0 ?_)
        apply Nat.eq_of_testBit_eq
        intro i
        rw [Nat.zero_testBit]
        cases e : F.testBit i with
        | false => rfl
        | true => exact absurd ⟨i, Nat.zero_le _, (hI.2.2.2.2 i e).1, e⟩ hn
      refine l_247a hF (fun a ha hb => ?_) 20 0 rfl hex
      obtain ⟨c1, c2, c3⟩ := clr_or hF hb
      have hcn := cnS_or c2 20 ha
      rw [c1] at hcn
      obtain ⟨a1, a2, a3⟩ := hI.2.2.2.2 a hb
      refine l_247e (d := d) (M := m) hR hr hvr hL hTM ha a2 (fun S2 F2 B2 rk2 u2 q1 q2 q3 q4 => ih S2 F2 B2 rk2 _ u2 q1 q2 q3 q4) 20 0 S _ B rk u rfl ⟨hI.1, Nat.lt_of_le_of_lt Nat.and_le_left hF, hI.2.2.1, hI.2.2.2.1, fun b hb2 => ?_⟩ a3 (fun b hb2 hmb hne => ?_) (fun e he => by omega) (by omega) hP
      · by_cases e : b = a
        · rw [e, c2] at hb2; cases hb2
        · rw [c3 b e] at hb2; exact hI.2.2.2.2 b hb2
      · rcases hX b hb2 hmb trivial with h | h
        · exact Or.inl (by rw [c3 b hne]; exact h)
        · exact Or.inr h
theorem c_247 {X : Scr} {d r : Nat} {w u : Wd} {T : Nat → Option Nat} {L : Nat → Bool} (hR : IR w) (hr : r < 20) (hvr : evF2 w r = true) (hL : L r = false) (hTM : TM (adF w) (evF2 w) T L) (hF : ∀ a, a ≠ 148 → a ≠ 149 → u a = w a) (hT : ∀ i, i < 20 → u 148 i = enO (T i)) : CI X (d + 3) 247 [.ref 110, .int (nI r)] u (P247 w r T L) := by
  refine CI.of rfl (t247_110_at0 (d := d) u _ ?_)
  rw [shl1_nI (by omega)]
  have z : ∀ (k i : Nat) (v : Wd), i + k = 20 → (∀ a, a ≠ 148 → a ≠ 149 → v a = w a) → (∀ j, j < 20 → v 148 j = enO (T j)) → (∀ j, j < i → v 149 j = kI (-1)) → EI X (d + 2) 247 (9, [some (.ref 110), some (.int (nI r)), some (.int (nI 0)), some (.int (nI (2 ^ r))), some (.int (nI i)), none], [], SH, v) (P247 w r T L) := by
    intro k
    induction k with
    | zero =>
      intro i v h hv h148 h149
      have e : i = 20 := by omega
      subst e
      refine t247_110_at9 v _ _ _ _ ?_
      rw [if_pos (by decide)]
      have b0 : ∀ e, (0 : Nat).testBit e = true → False := fun e h => by rw [Nat.zero_testBit] at h; cases h
      have br : ∀ a, (2 ^ r).testBit a = true → a = r := fun a h => by rw [Nat.testBit_two_pow, decide_eq_true_iff] at h; exact h.symm
      refine l_247 (d := d) hR hr hvr hL hTM 100 0 (2 ^ r) (fun _ => none) (fun _ => 0) _ v ⟨by decide, Nat.pow_lt_pow_right (by decide) hr, fun e he hs => (b0 e hs).elim, fun e he hs => (b0 e hs).elim, fun a hb => ?_⟩ (fun a ha hm _ => ?_) ?_ ⟨hv, h148, fun j hj => h149 j hj⟩
      · rw [br a hb]; exact ⟨hr, hvr, Or.inl rfl⟩
      · rcases hm with hm | ⟨e, h1, h2, h3⟩
        · rw [hm]; exact Or.inl (by rw [Nat.testBit_two_pow_self])
        · exact (b0 e h2).elim
      · have q1 := cnS_le 0 20
        have q2 := cnS_le (2 ^ r) 20
        omega
    | succ k ih =>
      intro i v h hv h148 h149
      refine t247_110_at9 v _ _ _ _ ?_
      rw [if_neg (lt_20 i (by omega)), k1, nI_clamp (by omega)]
      refine ⟨inB_nI (by omega) (by decide), ih (i + 1) _ (by omega) (fun a a1 a2 => by rw [up2_ne a2]; exact hv a a1 a2) (fun j hj => by rw [up2_ne (by decide)]; exact h148 j hj) (fun j hj => ?_)⟩
      rw [up2_at]
      by_cases e : j = i
      · rw [if_pos e]
      · rw [if_neg e]; exact h149 j (by omega)
  exact z 20 0 u rfl hF hT (fun j hj => by omega)
theorem l_249i {X : Scr} {d r a : Nat} {v1 v3 : Int32} {w u : Wd} {Q : Int32 → Wd → Prop} (hR : IR w) (hr : r < 20) (hF : ∀ b, b ≠ 148 → b ≠ 149 → u b = w b) (kk : EI X (d + 2) 249 (18, [some (.ref 110), some (.int v1), some (.int (nI (twF (adF w) r r a))), some (.int v3), some (.int (nI (r + 1))), none], [], SH, u) Q) : ∀ (m n : Nat), n + m = r → EI X (d + 2) 249 (36, [some (.ref 110), some (.int v1), some (.int (nI (twF (adF w) r n a))), some (.int v3), some (.int (nI r)), some (.int (nI n))], [], SH, u) Q := by
  intro m
  induction m with
  | zero =>
    intro n h
    have e : n = r := by omega
    subst e
    refine t249_110_at36 u _ _ _ _ _ ?_
    rw [if_pos (nI_le (Nat.le_refl _) (by omega)), k1]
    exact kk
  | succ m ih =>
    intro n h
    have g := ih (n + 1) (by omega)
    have e : twF (adF w) r (n + 1) a = twF (adF w) r n a + (adF w r n).toNat := rfl
    have iba : inB (nI r) 20 = true := inB_nI hr (by decide)
    have ibo : inB (nI n) 20 = true := inB_nI (by omega) (by decide)
    refine t249_110_at36 u _ _ _ _ _ ?_
    rw [if_neg (nI_ge (by omega) (by omega)), k1, k1]
    refine ⟨fun _ _ => iba, fun _ _ => ibo, fun _ _ _ => iba, fun _ _ _ => ibo, fun _ _ _ _ => iba, fun _ _ _ _ => ibo, fun _ _ _ _ _ => iba, fun _ _ _ _ _ => ibo, ?_⟩
    have h110 : u 110 = w 110 := hF 110 (by decide) (by decide)
    have had : F_246_110 (nI r) (nI n) u = 0 ↔ adF w r n = false := by
      rw [f246_cg (w := w) (by rw [h110]) (hF 140 (by decide) (by decide)) (hF 141 (by decide) (by decide)) (hF 142 (by decide) (by decide)) (hF 143 (by decide) (by decide)), ad_eq hR hr (by omega)]
      unfold adF
      simp
    cases h1 : adF w r n with
    | false =>
      rw [if_pos (had.mpr h1)]
      rw [h1] at e
      rw [e] at g
      exact g
    | true =>
      rw [if_neg (fun e2 => by rw [had, h1] at e2; cases e2)]
      rw [h1] at e
      rw [e] at g
      exact g
theorem l_249 {X : Scr} {d : Nat} {v1 v3 : Int32} {w : Wd} {Q : Int32 → Wd → Prop} (hR : IR w) (q0 : v1 = 0 → ∀ u : Wd, (∀ b, b ≠ 148 → b ≠ 149 → u b = w b) → Q (nI (twA (adF w) 20)) u) (q1 : ¬ v1 = 0 → ∀ u : Wd, (∀ b, b ≠ 148 → b ≠ 149 → u b = w b) → (∀ i, i < 20 → u 148 i = kI (-1)) → EI X (d + 2) 249 (79, [some (.ref 110), some (.int v1), some (.int (nI (twA (adF w) 20))), some (.int v3), some (.int (kI 0)), none], [], SH, u) Q) : ∀ (m r : Nat) (u : Wd), r + m = 20 → (∀ b, b ≠ 148 → b ≠ 149 → u b = w b) → (∀ i, i < r → u 148 i = kI (-1)) → EI X (d + 2) 249 (18, [some (.ref 110), some (.int v1), some (.int (nI (twA (adF w) r))), some (.int v3), some (.int (nI r)), none], [], SH, u) Q := by
  intro m
  induction m with
  | zero =>
    intro r u h hF h1
    have e : r = 20 := by omega
    subst e
    refine t249_110_at18 u _ _ _ _ ?_
    rw [if_pos (by decide)]
    by_cases hv : v1 = 0
    · rw [if_pos hv]; exact q0 hv u hF
    · rw [if_neg hv]; exact q1 hv u hF h1
  | succ m ih =>
    intro r u h hF h1
    refine t249_110_at18 u _ _ _ _ ?_
    rw [if_neg (lt_20 r (by omega)), nI_clamp (by omega)]
    have hF2 : ∀ b, b ≠ 148 → b ≠ 149 → (up2 u 148 r (kI (-1))) b = w b := fun b b1 b2 => by rw [up2_ne b1]; exact hF b b1 b2
    refine ⟨inB_nI (by omega) (by decide), l_249i hR (by omega) hF2 (ih (r + 1) _ (by omega) hF2 (fun i hi => ?_)) r 0 (Nat.zero_add _)⟩
    rw [up2_at]
    by_cases e : i = r
    · rw [if_pos e]
    · rw [if_neg e]; exact h1 i (by omega)
theorem l_249b {X : Scr} {d : Nat} {v1 v2 : Int32} {w : Wd} (hR : IR w) : ∀ (m r : Nat) (T : Nat → Option Nat) (u : Wd), r + m = 20 → TM (adF w) (evF2 w) T (gdL (adF w) (evF2 w) r) → (∀ b, b ≠ 148 → b ≠ 149 → u b = w b) → (∀ i, i < 20 → u 148 i = enO (T i)) → EI X (d + 5) 249 (79, [some (.ref 110), some (.int v1), some (.int v2), some (.int (nI (ctL (adF w) (evF2 w) r))), some (.int (nI r)), none], [], SH, u) (fun x u2 => x = nI (ctL (adF w) (evF2 w) 20) ∧ ∀ b, b ≠ 148 → b ≠ 149 → u2 b = w b) := by
  intro m
  have tmcg : ∀ (T : Nat → Option Nat) (L M : Nat → Bool), TM (adF w) (evF2 w) T L → (∀ l, M l = L l) → TM (adF w) (evF2 w) T M := fun T L M h e => ⟨h.1, h.2.1, h.2.2.cg e⟩
  induction m with
  | zero =>
    intro r T u h hM hF hT
    have e : r = 20 := by omega
    subst e
    refine t249_110_at79 (d := d + 3) u _ _ _ _ ?_
    rw [if_pos (by decide)]
    exact ⟨rfl, hF⟩
  | succ m ih =>
    intro r T u h hM hF hT
    have hr : r < 20 := by omega
    obtain ⟨b1, b2, b3, b4, -⟩ := hR.2.2 r hr
    refine t249_110_at79 (d := d + 3) u _ _ _ _ ?_
    rw [if_neg (lt_20 r hr), nI_clamp (by omega), hF 142 (by decide) (by decide), b3, hF 110 (by decide) (by decide), k1, k1]
    refine ⟨inB_nI hr (by decide), ?_⟩
    by_cases hev : (w 105 r - w 105 r / (kI 2) * (kI 2)) = 0
    · rw [if_pos hev]
      have ev1 : evF2 w r = true := decide_eq_true hev
      by_cases ht : F_161 (w 110 56) (nI r) w = 0
      · rw [if_pos (show F_161 (w 110 56) (nI r) u = 0 from ht)]
        have nm : ¬ Mt (adF w) (addL (gdL (adF w) (evF2 w) r) r) := by
          rintro ⟨g, g1, -⟩
          have := (g1 r hr (by unfold addL; simp)).2
          have h2 : F_8_102 (nI r) (nI (g r)) w = 0 := by
            unfold F_8_102
            rw [hR.1] at ht
            rw [if_neg (in19 hr), if_neg (in19 (g1 r hr (by unfold addL; simp)).1), if_pos (show F_154 (w 102 6) (nI r) w = 0 from ht)]
            rfl
          unfold adF at this
          rw [h2] at this
          simp at this
        obtain ⟨y1, y2⟩ := gd_no (Or.inr nm)
        rw [← y2]
        exact ih (r + 1) T u (by omega) (tmcg _ _ _ hM y1) hF hT
      · rw [if_neg (show ¬ F_161 (w 110 56) (nI r) u = 0 from ht)]
        refine CI.mono (c_247 (d := d + 2) hR hr ev1 (gd_r r) hM hF hT) ?_
        intro x u2 hx
        rcases hx with ⟨x1, T2, B2, p1, p2⟩ | ⟨x1, B2, S2, p1, p2, p3⟩
        · rw [x1, if_neg (by decide)]
          obtain ⟨y1, y2⟩ := gd_yes ev1 (mt_of p2.2.2 p2.vm)
          rw [← y2]
          exact ih (r + 1) T2 u2 (by omega) (tmcg _ _ _ p2 y1) p1.1 p1.2.1
        · rw [x1, if_pos (show kI 0 = 0 from rfl)]
          have nm := no_mt (S := fun e => S2.testBit e) hr (gd_r r) hM.2.2 hM.vm p2 p3
          obtain ⟨y1, y2⟩ := gd_no (Or.inr nm)
          rw [← y2]
          exact ih (r + 1) T u2 (by omega) (tmcg _ _ _ hM y1) p1.1 p1.2.1
    · rw [if_neg hev]
      obtain ⟨y1, y2⟩ := gd_no (adj := adF w) (r := r) (Or.inl (show evF2 w r = false from decide_eq_false hev))
      rw [← y2]
      exact ih (r + 1) T u (by omega) (tmcg _ _ _ hM y1) hF hT
theorem J_halves {X : Scr} {w : Wd} (h : II w) (p : Int32) : JJ X 143 249 [.int p] w := by
  have hR := h.2.2.2.2.2.2
  unfold JJ
  refine CI.of (d := 59) rfl (t143_0_at0 (d := 58) w p ?_)
  have t : ∀ (u : Wd) (Q : Int32 → Wd → Prop), _ → CI X 60 249 [.ref 110, .int p] u Q := fun u Q H => CI.of (d := 59) rfl (t249_110_at0 (d := 57) u p H)
  by_cases h1 : F_153 p (kI 0) (kI 1) w = 0
  · rw [if_pos h1]
    refine t w _ ?_
    rw [if_pos (show F_157 p (kI 0) (kI 1) w = 0 from h1)]
    exact ⟨rfl, h⟩
  rw [if_neg h1]
  have hIIu : ∀ v u : Wd, (∀ a, a ≠ 102 → a ≠ 108 → v a = w a) → (∀ j, j ≠ 10 → v 102 j = w 102 j) → (∀ b, b ≠ 148 → b ≠ 149 → u b = v b) → II u := by
    intro v u v1 v2 hu
    have q : ∀ a, a ≠ 102 → a ≠ 108 → a ≠ 148 → a ≠ 149 → u a = w a := fun a a1 a2 a3 a4 => by rw [hu a a3 a4]; exact v1 a a1 a2
    refine h.ss ⟨fun a ha => q a (fun e => by rw [e] at ha; cases ha) (fun e => by rw [e] at ha; cases ha) (fun e => by rw [e] at ha; cases ha) (fun e => by rw [e] at ha; cases ha), ?_, ?_, ?_, ?_, ?_, ?_, ?_, ?_, ?_, ?_, ?_, ?_⟩
    all_goals first | rw [q 0 (by decide) (by decide) (by decide) (by decide)] | rw [q 1 (by decide) (by decide) (by decide) (by decide)] | rw [q 110 (by decide) (by decide) (by decide) (by decide)] | (rw [hu 102 (by decide) (by decide)]; exact v2 6 (by decide))
  by_cases h0 : p = 0
  · rw [if_pos h0]
    refine CI.of (d := 58) rfl (t5_102_at0 (d := 56) w ?_)
    refine EI.mono (l_5 (d := 56) (w := w) 20 0 rfl) ?_
    intro x u hx
    obtain ⟨hx, hu⟩ := hx
    have hu2 := hu.symm
    subst hu2
    refine t w _ ?_
    rw [if_neg (show ¬ F_157 p (kI 0) (kI 1) w = 0 from h1)]
    exact l_249 (d := 57) hR (fun _ u2 f2 => ⟨hx.symm, hIIu w u2 (fun _ _ _ => rfl) (fun _ _ => rfl) f2⟩) (fun hv => absurd h0 hv) 20 0 w rfl (fun _ _ _ => rfl) (fun i hi => by omega)
  · rw [if_neg h0]
    refine CI.mono ((c_6 (X := X) (w := w)).up 1) ?_
    intro x v hx
    obtain ⟨hx, v1, v2⟩ := hx
    refine t v _ ?_
    rw [if_neg (show ¬ F_157 p (kI 0) (kI 1) v = 0 from h1)]
    have hRv : IR v := hR.cg (v1 103 (by decide) (by decide)) (v1 104 (by decide) (by decide)) (v1 105 (by decide) (by decide)) (v1 106 (by decide) (by decide)) (v1 140 (by decide) (by decide)) (v1 141 (by decide) (by decide)) (v1 142 (by decide) (by decide)) (v1 143 (by decide) (by decide)) (v2 6 (by decide)) (by rw [v1 110 (by decide) (by decide)])
    have ea : adF v = adF w := by
      funext r e
      unfold adF
      rw [f8_cg (v2 6 (by decide)) (v1 103 (by decide) (by decide)) (v1 104 (by decide) (by decide)) (v1 105 (by decide) (by decide)) (v1 106 (by decide) (by decide))]
    have ee : evF2 v = evF2 w := by
      funext r
      unfold evF2
      rw [v1 105 (by decide) (by decide)]
    refine l_249 (d := 57) (w := v) hRv (fun hv => absurd hv h0) (fun _ u2 f2 z2 => ?_) 20 0 v rfl (fun _ _ _ => rfl) (fun i hi => by omega)
    have z : ∀ l n, cnP (PRt (evF2 v) (fun _ => none)) l n = 0 := by
      intro l n
      induction n with
      | zero => rfl
      | succ n ih =>
        show cnP (PRt (evF2 v) (fun _ => none)) l n + (if PRt (evF2 v) (fun _ => none) n = some l then 1 else 0) = 0
        rw [ih, if_neg (by unfold PRt; cases evF2 v n <;> (intro e; cases e))]
    refine EI.mono (l_249b (d := 54) (w := v) hRv 20 0 (fun _ => none) u2 rfl ⟨fun e l _ _ h => (by cases h), fun l e _ _ h => (by cases h), fun l => ?_⟩ f2 (fun i hi => z2 i hi)) ?_
    · rw [z]; rfl
    · intro y u3 hy
      obtain ⟨hy, f3⟩ := hy
      rw [ea, ee] at hy
      exact ⟨by rw [hy, hx], hIIu v u3 v1 v2 f3⟩
end MATCHJ
