/-! joined -/
section JOINED
theorem nbR_lt20 {N : Nat → Nat} {A : Nat} (hN : ∀ c, c < 6 → N c < 2 ^ 20) : ∀ n, n ≤ 6 → nbR N A n < 2 ^ 20
  | 0, _ => by show (0 : Nat) < 2 ^ 20; decide
  | n + 1, h => by
    have ih := nbR_lt20 (A := A) hN n (by omega)
    unfold nbR
    split
    · exact Nat.or_lt_two_pow ih (hN n (by omega))
    · exact ih
def jnS (T : Nat) (FU : Nat → Nat) (many S : Nat) (o : Option Nat) : Option Nat := if nI S &&& (nI T ^^^ kI (-1)) = 0 then (if pcn (nbR FU S 6) = many then (match o with
  | none => some S
  | some b => if bcN b ≤ bcN S then some b else some S) else o) else o
def jnF (T : Nat) (FU : Nat → Nat) (many : Nat) : Nat → Nat → Option Nat → Option Nat
  | 0, _, o => o
  | m + 1, S, o => jnF T FU many m (S + 1) (jnS T FU many S o)
theorem jnS_lt {T : Nat} {FU : Nat → Nat} {many S : Nat} {o : Option Nat} (hS : S < 64) (ho : ∀ b, o = some b → b < 64) : ∀ b, jnS T FU many S o = some b → b < 64 := by
  intro b hb
  unfold jnS at hb
  split at hb
  · split at hb
    · cases o with
      | none => cases hb; exact hS
      | some c =>
        dsimp only at hb
        split at hb
        · cases hb; exact ho _ rfl
        · cases hb; exact hS
    · exact ho b hb
  · exact ho b hb
theorem jnF_lt {T : Nat} {FU : Nat → Nat} {many : Nat} : ∀ (m S : Nat) (o : Option Nat), S + m = 64 → (∀ b, o = some b → b < 64) → ∀ b, jnF T FU many m S o = some b → b < 64
  | 0, _, _, _, ho => ho
  | m + 1, S, o, h, ho => jnF_lt m (S + 1) _ (by omega) (jnS_lt (by omega) ho)
theorem l_152 {X : Scr} {d S : Nat} {w : Wd} {FU : Nat → Nat} (hS : S < 64) (h109 : ∀ g, g < 6 → w 109 g = nI (FU g)) : ∀ (m n : Nat), n + m = 6 → EI X (d + 1) 152 (4, [some (.ref 0), some (.int (nI S)), some (.int (nI (nbR FU S n))), some (.int (nI n))], [], SH, w) (fun x u => x = nI (nbR FU S 6) ∧ u = w) := by
  intro m
  induction m with
  | zero =>
    intro n h
    have e : n = 6 := by omega
    subst e
    refine t152_0_at4 w _ _ _ ?_
    rw [if_pos (by decide)]
    exact ⟨rfl, rfl⟩
  | succ m ih =>
    intro n h
    have hn : n < 6 := by omega
    have g := ih (n + 1) (by omega)
    have e : nbR FU S (n + 1) = if S.testBit n then nbR FU S n ||| FU n else nbR FU S n := rfl
    refine t152_0_at4 w _ _ _ ?_
    rw [if_neg (lt_6 n hn), k1, nI_clamp (by omega), h109 n hn, or_nI]
    by_cases hb : S.testBit n = true
    · rw [if_neg (by rw [isin_z w (by omega) (by omega)]; exact fun x => x hb)]
      rw [if_pos hb] at e
      rw [e] at g
      exact ⟨inB_nI hn (by decide), g⟩
    · rw [if_pos (by rw [isin_z w (by omega) (by omega)]; exact hb)]
      rw [if_neg hb] at e
      rw [e] at g
      exact g
theorem neg_enN (v : Nat) (h : v < 2 ^ 31) : ¬ enN (some v) < 0 := nI_pos h
theorem l_138b {X : Scr} {d T many : Nat} {v2 : Int32} {w : Wd} {FU : Nat → Nat} {Q : Int32 → Wd → Prop} (hm : many ≤ 20) (hF : ∀ g, g < 6 → FU g < 2 ^ 20) (h109 : ∀ g, g < 6 → w 109 g = nI (FU g)) (hT : w 0 16 = nI T) : ∀ (m S : Nat) (o : Option Nat), S + m = 64 → (∀ b, o = some b → b < 64) → (Q (match jnF T FU many m S o with
    | none => kI (-2)
    | some b => if v2 = 0 then nI (bcN b) else nI b) w) → EI X (d + 2) 138 (67, [some (.ref 0), some (.int (nI many)), some (.int v2), some (.int (enN o)), some (.int (nI S)), none], [], SH, w) Q := by
  intro m
  induction m with
  | zero =>
    intro S o h ho hQ
    have e : S = 64 := by omega
    subst e
    refine t138_0_at67 (d := d + 1) w _ _ _ _ ?_
    rw [if_pos (by decide)]
    cases o with
    | none =>
      rw [if_neg (show ¬ 0 ≤ enN none by decide)]
      exact hQ
    | some b =>
      have hb := ho b rfl
      have hQ2 : Q (if v2 = 0 then nI (bcN b) else nI b) w := hQ
      rw [if_pos (show 0 ≤ enN (some b) from nI_pos' (by omega)), show enN (some b) = nI b from rfl, bc259 w b hb]
      by_cases hv : v2 = 0
      · rw [if_pos hv]
        rw [if_pos hv] at hQ2
        exact hQ2
      · rw [if_neg hv]
        rw [if_neg hv] at hQ2
        exact hQ2
  | succ m ih =>
    intro S o h ho hQ
    have hS : S < 64 := by omega
    have hlt := nbR_lt20 (A := S) hF 6 (Nat.le_refl _)
    have hple := pcn_le hlt
    refine t138_0_at67 (d := d + 1) w _ _ _ _ ?_
    unfold jnF at hQ
    rw [if_neg (lt_64 S hS), hT, k1]
    have hn := jnS_lt (T := T) (FU := FU) (many := many) hS ho
    unfold jnS at hQ hn
    by_cases h1 : nI S &&& (nI T ^^^ kI (-1)) = 0
    · rw [if_pos h1]
      rw [if_pos h1] at hQ hn
      refine CI.mono (CI.of (d := d + 1) rfl (t152_0_at0 (d := d) w _ (l_152 hS h109 6 0 rfl))) ?_
      intro x w1 hx
      obtain ⟨hx, hu⟩ := hx
      have hu2 := hu.symm
      subst hu2
      rw [hx, F259_pcn w hlt]
      by_cases h2 : pcn (nbR FU S 6) = many
      · rw [if_pos (by rw [h2])]
        rw [if_pos h2] at hQ hn
        cases o with
        | none =>
          rw [if_pos (show enN none < 0 by decide)]
          exact ih (S + 1) (some S) (by omega) hn hQ
        | some b =>
          have hb := ho b rfl
          have b1 := bcN_le b
          have b2 := bcN_le S
          rw [if_neg (neg_enN b (by omega)), show enN (some b) = nI b from rfl, bc259 w b hb, bc259 w S hS]
          dsimp only at hQ hn
          by_cases h3 : bcN b ≤ bcN S
          · rw [if_pos (nI_le h3 (by omega))]
            rw [if_pos h3] at hQ hn
            exact ih (S + 1) (some b) (by omega) hn hQ
          · rw [if_neg (nI_ge (by omega) (by omega))]
            rw [if_neg h3] at hQ hn
            exact ih (S + 1) (some S) (by omega) hn hQ
      · rw [if_neg (by rw [nI_eq (by omega) (by omega)]; exact h2)]
        rw [if_neg h2] at hQ hn
        exact ih (S + 1) o (by omega) hn hQ
    · rw [if_neg h1]
      rw [if_neg h1] at hQ hn
      exact ih (S + 1) o (by omega) hn hQ
theorem l_240c {X : Scr} {d S : Nat} {v1 v2 v3 : Int32} {w : Wd} {FU : Nat → Nat} {Q : Int32 → Wd → Prop} (hS : S < 64) (h147 : ∀ g, g < 6 → w 147 g = nI (FU g)) (kk : EI X (d + 2) 240 (113, [some (.ref 110), some (.int v1), some (.int v2), some (.int v3), some (.int (nI S)), some (.int (nI (nbR FU S 6))), some (.int (nI 6))], [], SH, w) Q) : ∀ (m n : Nat), n + m = 6 → EI X (d + 2) 240 (113, [some (.ref 110), some (.int v1), some (.int v2), some (.int v3), some (.int (nI S)), some (.int (nI (nbR FU S n))), some (.int (nI n))], [], SH, w) Q := by
  intro m
  induction m with
  | zero =>
    intro n h
    have e : n = 6 := by omega
    subst e
    exact kk
  | succ m ih =>
    intro n h
    have hn : n < 6 := by omega
    have g := ih (n + 1) (by omega)
    have e : nbR FU S (n + 1) = if S.testBit n then nbR FU S n ||| FU n else nbR FU S n := rfl
    refine t240_110_at113 w _ _ _ _ _ _ ?_
    rw [if_neg (lt_6 n hn), k1, nI_clamp (by omega), h147 n hn, or_nI]
    by_cases hb : S.testBit n = true
    · rw [if_neg (by rw [has_z w (by omega) (by omega)]; exact fun x => x hb)]
      rw [if_pos hb] at e
      rw [e] at g
      exact ⟨inB_nI hn (by decide), g⟩
    · rw [if_pos (by rw [has_z w (by omega) (by omega)]; exact hb)]
      rw [if_neg hb] at e
      rw [e] at g
      exact g
theorem l_240b {X : Scr} {d T many : Nat} {v2 : Int32} {w : Wd} {FU : Nat → Nat} {Q : Int32 → Wd → Prop} (hm : many ≤ 20) (hF : ∀ g, g < 6 → FU g < 2 ^ 20) (h147 : ∀ g, g < 6 → w 147 g = nI (FU g)) (hT : w 110 57 = nI T) : ∀ (m S : Nat) (o : Option Nat), S + m = 64 → (∀ b, o = some b → b < 64) → (Q (match jnF T FU many m S o with
    | none => kI (-2)
    | some b => if v2 = kI 1 then nI b else nI (bcN b)) w) → EI X (d + 2) 240 (67, [some (.ref 110), some (.int (nI many)), some (.int v2), some (.int (enN o)), some (.int (nI S)), none, none], [], SH, w) Q := by
  intro m
  induction m with
  | zero =>
    intro S o h ho hQ
    have e : S = 64 := by omega
    subst e
    refine t240_110_at67 w _ _ _ _ ?_
    rw [if_pos (by decide)]
    cases o with
    | none =>
      have hQ2 : Q (kI (-2)) w := hQ
      rw [show enN none = kI (-2) from rfl]
      by_cases hv : v2 = kI 1
      · rw [if_pos hv]; exact hQ2
      · rw [if_neg hv, if_pos rfl]; exact hQ2
    | some b =>
      have hb := ho b rfl
      have hQ2 : Q (if v2 = kI 1 then nI b else nI (bcN b)) w := hQ
      rw [if_neg (show ¬ enN (some b) = kI (-2) from enN_ne b (by omega)), show enN (some b) = nI b from rfl, bc162 w b hb]
      by_cases hv : v2 = kI 1
      · rw [if_pos hv]
        rw [if_pos hv] at hQ2
        exact hQ2
      · rw [if_neg hv]
        rw [if_neg hv] at hQ2
        exact hQ2
  | succ m ih =>
    intro S o h ho hQ
    have hS : S < 64 := by omega
    have hlt := nbR_lt20 (A := S) hF 6 (Nat.le_refl _)
    have hple := pcn_le hlt
    refine t240_110_at67 w _ _ _ _ ?_
    unfold jnF at hQ
    rw [if_neg (lt_64 S hS), hT, k1]
    have hn := jnS_lt (T := T) (FU := FU) (many := many) hS ho
    unfold jnS at hQ hn
    by_cases h1 : nI S &&& (nI T ^^^ kI (-1)) = 0
    · rw [if_pos h1]
      rw [if_pos h1] at hQ hn
      have un : ∀ (z : EI X (d + 2) 240 (67, [some (.ref 110), some (.int (nI many)), some (.int v2), some (.int (if pcn (nbR FU S 6) = many then nI S else enN o)), some (.int (nI (S + 1))), none, none], [], SH, w) Q), EI X (d + 2) 240 (113, [some (.ref 110), some (.int (nI many)), some (.int v2), some (.int (enN o)), some (.int (nI S)), some (.int (kI 0)), some (.int (kI 0))], [], SH, w) Q := by
        intro z
        refine l_240c (FU := FU) hS h147 ?_ 6 0 rfl
        refine t240_110_at113 w _ _ _ _ _ _ ?_
        rw [if_pos (show kI 6 ≤ nI 6 by decide), F162_pcn w hlt, k1]
        by_cases h2 : pcn (nbR FU S 6) = many
        · rw [if_pos (by rw [h2])]
          rw [if_pos h2] at z
          exact z
        · rw [if_neg (by rw [nI_eq (by omega) (by omega)]; exact h2)]
          rw [if_neg h2] at z
          exact z
      cases o with
      | none =>
        rw [if_pos (show enN none = kI (-2) from rfl)]
        refine un ?_
        by_cases h2 : pcn (nbR FU S 6) = many
        · rw [if_pos h2]
          rw [if_pos h2] at hQ hn
          exact ih (S + 1) (some S) (by omega) hn hQ
        · rw [if_neg h2]
          rw [if_neg h2] at hQ hn
          exact ih (S + 1) none (by omega) hn hQ
      | some b =>
        have hb := ho b rfl
        have b1 := bcN_le b
        have b2 := bcN_le S
        rw [if_neg (show ¬ enN (some b) = kI (-2) from enN_ne b (by omega)), show F_162 (enN (some b)) w = nI (bcN b) from bc162 w b hb, bc162 w S hS]
        dsimp only at hQ hn
        by_cases h3 : bcN b ≤ bcN S
        · rw [if_neg (nI_nlt h3 (by omega))]
          rw [if_pos h3] at hQ hn
          simp only [ite_self] at hQ hn
          exact ih (S + 1) (some b) (by omega) hn hQ
        · rw [if_pos (nI_lt (by omega) (by omega))]
          rw [if_neg h3] at hQ hn
          refine un ?_
          by_cases h2 : pcn (nbR FU S 6) = many
          · rw [if_pos h2]
            rw [if_pos h2] at hQ hn
            exact ih (S + 1) (some S) (by omega) hn hQ
          · rw [if_neg h2]
            rw [if_neg h2] at hQ hn
            exact ih (S + 1) (some b) (by omega) hn hQ
    · rw [if_neg h1]
      rw [if_neg h1] at hQ hn
      exact ih (S + 1) o (by omega) hn hQ
theorem l_138a {X : Scr} {d T : Nat} {v1 v2 : Int32} {w : Wd} {FU : Nat → Nat} {Q : Int32 → Wd → Prop} (hT : w 0 16 = nI T) (hT2 : T < 64)
    (hz : ∀ g, g < 6 → T.testBit g = false → FU g = 0)
    (hc : ∀ (g : Nat) (u : Wd), g < 6 → T.testBit g = true → (∀ a, a ≠ 85 → a ≠ 86 → a ≠ 109 → u a = w a) → CI X (d + 1) 151 [.ref 0, .int (nI g)] u (fun x u2 => x = nI (FU g) ∧ ∀ a, a ≠ 85 → a ≠ 86 → u2 a = u a))
    (kk : ∀ u : Wd, (∀ a, a ≠ 85 → a ≠ 86 → a ≠ 109 → u a = w a) → (∀ g, g < 6 → u 109 g = nI (FU g)) → EI X (d + 1) 138 (67, [some (.ref 0), some (.int v1), some (.int v2), some (.int (kI (-2))), some (.int (kI 0)), none], [], SH, u) Q) :
    ∀ (m f : Nat) (u : Wd), f + m = 6 → (∀ a, a ≠ 85 → a ≠ 86 → a ≠ 109 → u a = w a) → (∀ g, g < f → u 109 g = nI (FU g)) → EI X (d + 1) 138 (23, [some (.ref 0), some (.int v1), some (.int v2), some (.int (nI f)), none, none], [], SH, u) Q := by
  intro m
  induction m with
  | zero =>
    intro f u h hF h9
    have e : f = 6 := by omega
    subst e
    refine t138_0_at23 u _ _ _ ?_
    rw [if_pos (by decide)]
    exact kk u hF h9
  | succ m ih =>
    intro f u h hF h9
    have hf : f < 6 := by omega
    have step : ∀ (u2 : Wd) (x : Int32), (∀ a, a ≠ 85 → a ≠ 86 → u2 a = u a) → x = nI (FU f) → (inB (nI f) 6 = true ∧ EI X (d + 1) 138 (23, [some (.ref 0), some (.int v1), some (.int v2), some (.int (nI (f + 1))), none, none], [], SH, (up2 u2 109 f x)) Q) := by
      intro u2 x h2 hx
      refine ⟨inB_nI hf (by decide), ih (f + 1) _ (by omega) (fun a a1 a2 a3 => by rw [up2_ne a3, h2 a a1 a2]; exact hF a a1 a2 a3) (fun g hg => ?_)⟩
      rw [up2_at, h2 109 (by decide) (by decide)]
      by_cases e : g = f
      · rw [if_pos e, e, hx]
      · rw [if_neg e]; exact h9 g (by omega)
    refine t138_0_at23 u _ _ _ ?_
    rw [if_neg (lt_6 f hf), hF 0 (by decide) (by decide) (by decide), hT, k1, nI_clamp (by omega)]
    by_cases hb : T.testBit f = true
    · rw [if_neg (by rw [isin_z u (by omega) (by omega)]; exact fun x => x hb)]
      refine CI.mono (hc f u hf hb hF) ?_
      intro x u1 hx
      exact step u1 x hx.2 hx.1
    · rw [if_pos (by rw [isin_z u (by omega) (by omega)]; exact hb)]
      refine step u _ (fun _ _ _ => rfl) ?_
      rw [hz f hf (by simpa using hb)]
      rfl
theorem l_240a {X : Scr} {d T : Nat} {v1 v2 : Int32} {w : Wd} {FU : Nat → Nat} {Q : Int32 → Wd → Prop} (hT : w 110 57 = nI T) (hT2 : T < 64)
    (hz : ∀ g, g < 6 → T.testBit g = false → FU g = 0)
    (hc : ∀ (g : Nat) (u : Wd), g < 6 → T.testBit g = true → (∀ a, a ≠ 129 → a ≠ 130 → a ≠ 146 → a ≠ 147 → u a = w a) → CI X (d + 2) 237 [.ref 110, .int (nI g)] u (fun x u2 => x = nI (FU g) ∧ ∀ a, a ≠ 129 → a ≠ 130 → a ≠ 146 → u2 a = u a))
    (kk : ∀ u : Wd, (∀ a, a ≠ 129 → a ≠ 130 → a ≠ 146 → a ≠ 147 → u a = w a) → (∀ g, g < 6 → u 147 g = nI (FU g)) → EI X (d + 2) 240 (67, [some (.ref 110), some (.int v1), some (.int v2), some (.int (kI (-2))), some (.int (kI 0)), none, none], [], SH, u) Q) :
    ∀ (m f : Nat) (u : Wd), f + m = 6 → (∀ a, a ≠ 129 → a ≠ 130 → a ≠ 146 → a ≠ 147 → u a = w a) → (∀ g, g < f → u 147 g = nI (FU g)) → EI X (d + 2) 240 (23, [some (.ref 110), some (.int v1), some (.int v2), some (.int (nI f)), none, none, none], [], SH, u) Q := by
  intro m
  induction m with
  | zero =>
    intro f u h hF h9
    have e : f = 6 := by omega
    subst e
    refine t240_110_at23 u _ _ _ ?_
    rw [if_pos (by decide)]
    exact kk u hF h9
  | succ m ih =>
    intro f u h hF h9
    have hf : f < 6 := by omega
    have step : ∀ (u2 : Wd) (x : Int32), (∀ a, a ≠ 129 → a ≠ 130 → a ≠ 146 → u2 a = u a) → x = nI (FU f) → (inB (nI f) 6 = true ∧ EI X (d + 2) 240 (23, [some (.ref 110), some (.int v1), some (.int v2), some (.int (nI (f + 1))), none, none, none], [], SH, (up2 u2 147 f x)) Q) := by
      intro u2 x h2 hx
      refine ⟨inB_nI hf (by decide), ih (f + 1) _ (by omega) (fun a a1 a2 a3 a4 => by rw [up2_ne a4, h2 a a1 a2 a3]; exact hF a a1 a2 a3 a4) (fun g hg => ?_)⟩
      rw [up2_at, h2 147 (by decide) (by decide) (by decide)]
      by_cases e : g = f
      · rw [if_pos e, e, hx]
      · rw [if_neg e]; exact h9 g (by omega)
    refine t240_110_at23 u _ _ _ ?_
    rw [if_neg (lt_6 f hf), hF 110 (by decide) (by decide) (by decide) (by decide), hT, k1, nI_clamp (by omega)]
    by_cases hb : T.testBit f = true
    · rw [if_neg (by rw [has_z u (by omega) (by omega)]; exact fun x => x hb)]
      refine CI.mono (hc f u hf hb hF) ?_
      intro x u1 hx
      exact step u1 x hx.2 hx.1
    · rw [if_pos (by rw [has_z u (by omega) (by omega)]; exact hb)]
      refine step u _ (fun _ _ _ _ => rfl) ?_
      rw [hz f hf (by simpa using hb)]
      rfl
theorem J_joined {X : Scr} {w : Wd} (h : II w) (p q : Int32) : JJ X 138 240 [.int p, .int q] w := by
  obtain ⟨R, hR, e1, e2⟩ := h.2.2.2.2.2.2.rec
  obtain ⟨d1, ⟨T, hT, eT⟩, d3⟩ := h.2.2.2.2.2.1
  unfold JJ
  refine CI.of (d := 59) rfl (t138_0_at0 (d := 58) w p q ?_)
  have t : ∀ (u : Wd) (Q : Int32 → Wd → Prop), _ → CI X 60 240 [.ref 110, .int p, .int q] u Q := fun u Q H => CI.of (d := 59) rfl (t240_110_at0 (d := 57) u p q H)
  by_cases h1 : F_153 p (kI 0) (kI 20) w = 0
  · rw [if_pos h1]
    refine t w _ ?_
    rw [if_pos (show F_157 p (kI 0) (kI 20) w = 0 from h1)]
    exact ⟨rfl, h⟩
  rw [if_neg h1]
  by_cases h2 : F_153 q (kI 0) (kI 1) w = 0
  · rw [if_pos h2]
    refine t w _ ?_
    rw [if_neg (show ¬ F_157 p (kI 0) (kI 20) w = 0 from h1), if_pos (show F_157 q (kI 0) (kI 1) w = 0 from h2)]
    exact ⟨rfl, h⟩
  rw [if_neg h2]
  obtain ⟨many, -, hm, rfl⟩ := within_z (a := 0) (b := 20) (by decide) (by decide) h1
  have hx : ∀ g, ∃ F : Nat, F < 2 ^ 20 ∧ (g < 6 → (T.testBit g = false → F = 0) ∧ (T.testBit g = true → ∃ op ar len, DFC w g op ar len ∧ DFR w g op ar len ∧ F = mkS (fuB R op ar len (w 103) (w 104) (w 105) (w 106)) 20)) := by
    intro g
    by_cases hg : g < 6
    · cases hb : T.testBit g with
      | false => exact ⟨0, by decide, fun _ => ⟨fun _ => rfl, fun e => by cases e⟩⟩
      | true =>
        obtain ⟨op, ar, len, hC, hRf⟩ := def_of (d3 g hg (by rw [eT, isin_z w (by omega) (by omega)]; exact fun x => x hb))
        exact ⟨mkS (fuB R op ar len (w 103) (w 104) (w 105) (w 106)) 20, mkS_lt _ 20, fun _ => ⟨fun e => (by cases e), fun _ => ⟨op, ar, len, hC, hRf, rfl⟩⟩⟩
    · exact ⟨0, by decide, fun e => absurd e hg⟩
  have hFU : ∃ FU : Nat → Nat, ∀ g, FU g < 2 ^ 20 ∧ (g < 6 → (T.testBit g = false → FU g = 0) ∧ (T.testBit g = true → ∃ op ar len, DFC w g op ar len ∧ DFR w g op ar len ∧ FU g = mkS (fuB R op ar len (w 103) (w 104) (w 105) (w 106)) 20)) := ⟨fun g => Classical.choose (hx g), fun g => Classical.choose_spec (hx g)⟩
  obtain ⟨FU, hU⟩ := hFU
  refine l_138a (d := 58) (FU := FU) eT (by omega) (fun g hg hz => ((hU g).2 hg).1 hz) (fun g u hg hb hF => ?_) ?_ 6 0 w rfl (fun _ _ _ _ => rfl) (fun g hg => by omega)
  · obtain ⟨op, ar, len, hC, hRf, eF⟩ := ((hU g).2 hg).2 hb
    have c := c_151 (X := X) (d := 55) hg (hC.cg (u := u) hg (fun a a1 a2 => hF a (by omega) (by omega) (by omega))) (by rw [hF 102 (by decide) (by decide) (by decide)]; exact e1) hR
    rw [hF 103 (by decide) (by decide) (by decide), hF 104 (by decide) (by decide) (by decide), hF 105 (by decide) (by decide) (by decide), hF 106 (by decide) (by decide) (by decide), ← eF] at c
    exact c
  intro ua hA hA9
  refine l_138b (d := 57) (T := T) (FU := FU) hm (fun g _ => (hU g).1) hA9 (by rw [hA 0 (by decide) (by decide) (by decide)]; exact eT) 64 0 none rfl (fun b e => by cases e) ?_
  refine t ua _ ?_
  rw [if_neg (show ¬ F_157 (nI many) (kI 0) (kI 20) ua = 0 from h1), if_neg (show ¬ F_157 q (kI 0) (kI 1) ua = 0 from h2)]
  refine l_240a (d := 57) (w := ua) (FU := FU) (by rw [hA 110 (by decide) (by decide) (by decide), d1]; exact eT) (by omega) (fun g hg hz => ((hU g).2 hg).1 hz) (fun g u hg hb hF => ?_) ?_ 6 0 ua rfl (fun _ _ _ _ _ => rfl) (fun g hg => by omega)
  · obtain ⟨op, ar, len, hC, hRf, eF⟩ := ((hU g).2 hg).2 hb
    have ff : ∀ a, 110 ≤ a → a ≠ 129 → a ≠ 130 → a ≠ 146 → a ≠ 147 → u a = w a := fun a a0 a1 a2 a3 a4 => by rw [hF a a1 a2 a3 a4]; exact hA a (by omega) (by omega) (by omega)
    have c := c_237 (X := X) (d := 54) hg (hRf.cg (u := u) (ff 144 (by decide) (by decide) (by decide) (by decide) (by decide)) (ff 145 (by decide) (by decide) (by decide) (by decide) (by decide))) (by rw [ff 110 (by decide) (by decide) (by decide) (by decide) (by decide)]; exact e2) hR
    rw [ff 140 (by decide) (by decide) (by decide) (by decide) (by decide), ff 141 (by decide) (by decide) (by decide) (by decide) (by decide), ff 142 (by decide) (by decide) (by decide) (by decide) (by decide), ff 143 (by decide) (by decide) (by decide) (by decide) (by decide), fu_eq h.2.2.2.2.2.2, ← eF] at c
    exact c
  intro ub hB hB7
  have hII : II ub := h.ss (SS.of [85, 86, 109, 129, 130, 146, 147] (fun a ha => by
    simp only [List.mem_cons, List.not_mem_nil, or_false, not_or] at ha
    rw [hB a ha.2.2.2.1 ha.2.2.2.2.1 ha.2.2.2.2.2.1 ha.2.2.2.2.2.2, hA a ha.1 ha.2.1 ha.2.2.1]) (by decide))
  refine l_240b (d := 57) (T := T) (FU := FU) hm (fun g _ => (hU g).1) hB7 (by rw [hB 110 (by decide) (by decide) (by decide) (by decide), hA 110 (by decide) (by decide) (by decide), d1]; exact eT) 64 0 none rfl (fun b e => by cases e) ⟨?_, hII⟩
  cases jnF T FU many 64 0 none with
  | none => rfl
  | some b =>
    dsimp only
    obtain ⟨k, -, hk, rfl⟩ := within_z (a := 0) (b := 1) (by decide) (by decide) h2
    by_cases k0 : k = 0
    · subst k0
      rw [if_neg (show ¬ nI 0 = kI 1 by decide), if_pos (show nI 0 = 0 from rfl)]
    · have k1 : k = 1 := by omega
      subst k1
      rw [if_pos (show nI 1 = kI 1 from rfl), if_neg (show ¬ nI 1 = 0 by decide)]
end JOINED
