/-! loses -/
section LOSES
def fcF (f : Nat → Bool) : Nat → Nat → Option Nat
  | 0, _ => none
  | m + 1, k => if f k then some k else fcF f m (k + 1)
def lsF (g : Nat → Nat → Bool) : Nat → Nat → Option (Nat × Nat)
  | 0, _ => none
  | m + 1, n => match fcF (g n) 6 0 with
    | some c => some (n, c)
    | none => lsF g m (n + 1)
theorem fcF_none {f : Nat → Bool} : ∀ (m k : Nat), (∀ i, k ≤ i → i < k + m → f i = false) → fcF f m k = none
  | 0, _, _ => rfl
  | m + 1, k, h => by
    unfold fcF
    rw [h k (by omega) (by omega)]
    exact fcF_none m (k + 1) (fun i h1 h2 => h i (by omega) (by omega))
theorem lsF_none {g : Nat → Nat → Bool} (h : ∀ n c, c < 6 → g n c = false) : ∀ m n, lsF g m n = none
  | 0, _ => rfl
  | m + 1, n => by
    unfold lsF
    rw [fcF_none 6 0 (fun i _ hi => h n i (by omega))]
    exact lsF_none h m (n + 1)
def lgF (P : Nat → Nat) (way n c : Nat) : Bool := decide (shN P (n + 1) way c < shN P n way c)
theorem lg_way {P : Nat → Nat} {way : Nat} (hw : way ≠ 0) (n c : Nat) (_ : c < 6) : lgF P way n c = false := by
  unfold lgF shN
  rw [if_neg hw, if_neg hw]
  by_cases ha : pS P = 0
  · rw [if_pos ha, if_pos ha]; rfl
  · rw [if_neg ha, if_neg ha]
    have := (stW_le (P := P) (way := way) (s := shW P way n) c).1
    have e : shW P way (n + 1) c = stW P way (shW P way n) c := rfl
    rw [e]
    simp only [decide_eq_false_iff_not]
    omega
/-- what findLoss answers, and where it has written -/
def ansC (w : Wd) (o : Option (Nat × Nat)) (x : Int32) (u : Wd) : Prop := (∀ b, b ≠ 89 → b ≠ 90 → b ≠ 91 → b ≠ 92 → u b = w b) ∧ match o with
  | none => x = 0
  | some (n, c) => x = 1 ∧ u 89 6 = nI n ∧ u 89 7 = nI c
theorem in_96 {X : Scr} {d many : Nat} {v1 : Int32} {w u : Wd} {s t : Nat → Nat} {o2 : Option (Nat × Nat)} (hm : many ≤ 60) (hs : ∀ c, c < 6 → u 91 c = nI (s c) ∧ u 90 c = nI (t c) ∧ s c ≤ 1000 ∧ t c ≤ 1000) (hf : ∀ b, b ≠ 89 → b ≠ 90 → b ≠ 91 → b ≠ 92 → u b = w b) (kk : fcF (fun c => decide (t c < s c)) 6 0 = none → EI X (d + 1) 96 (2, [some (.ref 89), some (.int v1), some (.int (nI (many + 1))), none], [], SH, u) (ansC w o2)) (ko : ∀ c, fcF (fun c => decide (t c < s c)) 6 0 = some c → o2 = some (many, c)) : ∀ (m k : Nat), k + m = 6 → fcF (fun c => decide (t c < s c)) m k = fcF (fun c => decide (t c < s c)) 6 0 → EI X (d + 1) 96 (43, [some (.ref 89), some (.int v1), some (.int (nI many)), some (.int (nI k))], [], SH, u) (ansC w o2) := by
  intro m
  induction m with
  | zero =>
    intro k h he
    have hk : k = 6 := by omega
    subst hk
    refine t96_89_at43 u _ _ _ ?_
    rw [if_pos (by decide), k1]
    exact kk he.symm
  | succ m ih =>
    intro k h he
    obtain ⟨a1, a2, a3, a4⟩ := hs k (by omega)
    refine t96_89_at43 u _ _ _ ?_
    rw [if_neg (lt_6 k (by omega)), nI_clamp (by omega), a1, a2, k1]
    have hib : inB (nI k) 6 = true := inB_nI (by omega) (by decide)
    refine ⟨hib, hib, ?_⟩
    unfold fcF at he
    by_cases hc : t k < s k
    · rw [if_neg (by rw [nI_leI (by omega) (by omega)]; omega)]
      rw [if_pos (decide_eq_true hc)] at he
      rw [ko k he.symm]
      refine ⟨fun b h1 h2 h3 h4 => ?_, rfl, ?_, ?_⟩
      · rw [up2_ne h1, up2_ne h1]; exact hf b h1 h2 h3 h4
      · rw [up2_at, if_neg (by decide), up2_at, if_pos rfl]
      · rw [up2_at, if_pos rfl]
    · rw [if_pos (by rw [nI_leI (by omega) (by omega)]; omega)]
      rw [if_neg (by simpa using hc)] at he
      exact ih (k + 1) (by omega) he
theorem l_96 {X : Scr} {d : Nat} {w : Wd} {P : Nat → Nat} (hP : PO w P) : ∀ (m n : Nat) (u : Wd), n + m = 61 → (∀ b, b ≠ 89 → b ≠ 90 → b ≠ 91 → b ≠ 92 → u b = w b) → EI X (d + 6) 96 (2, [some (.ref 89), some (.int (nI 0)), some (.int (nI n)), none], [], SH, u) (ansC w (lsF (lgF P 0) m n)) := by
  intro m
  induction m with
  | zero =>
    intro n u h hf
    have hn : n = 61 := by omega
    subst hn
    refine t96_89_at2 (d := d + 5) u _ _ ?_
    rw [if_pos (by decide)]
    exact ⟨hf, rfl⟩
  | succ m ih =>
    intro n u h hf
    refine t96_89_at2 (d := d + 5) u _ _ ?_
    rw [if_neg (show ¬ kI 60 < nI n from nI_nlt (b := n) (a := 60) (by omega) (by decide)), if_pos (show nI 0 = 0 from rfl), k1]
    refine CU.mono (c_91 (d := d + 1) (way := 0) (hP.cg (hf 4 (by decide) (by decide) (by decide) (by decide))) (by decide) (by omega) (fun e => absurd rfl e)) ?_
    intro w1 e1
    have f2 : ∀ b, b ≠ 89 → b ≠ 90 → b ≠ 91 → b ≠ 92 → (cp2 w1 90 91 (kI 0).toNatClampNeg (kI 0).toNatClampNeg (kI 6).toNatClampNeg) b = w b := fun b h1 h2 h3 h4 => by
      show (if b = 91 then _ else w1 b) = w b
      rw [if_neg h3, e1.2 b h2 h4, hf b h1 h2 h3 h4]
    have g2 : ∀ c, c < 6 → (cp2 w1 90 91 (kI 0).toNatClampNeg (kI 0).toNatClampNeg (kI 6).toNatClampNeg) 91 c = nI (shN P n 0 c) := fun c hc => by
      show (if 0 ≤ c ∧ c < 0 + 6 then w1 90 (0 + (c - 0)) else w1 91 c) = _
      rw [if_pos (by omega), show 0 + (c - 0) = c by omega]
      exact e1.1 c hc
    refine CU.mono (c_91 (d := d + 1) (way := 0) (hP.cg (f2 4 (by decide) (by decide) (by decide) (by decide))) (by decide) (by omega) (fun e => absurd rfl e)) ?_
    intro w2 e2
    have f3 : ∀ b, b ≠ 89 → b ≠ 90 → b ≠ 91 → b ≠ 92 → w2 b = w b := fun b h1 h2 h3 h4 => by rw [e2.2 b h2 h4, f2 b h1 h2 h3 h4]
    refine in_96 (s := fun c => shN P n 0 c) (t := fun c => shN P (n + 1) 0 c) (by omega) (fun c hc => ⟨?_, e2.1 c hc, ?_, ?_⟩) f3 (fun hn => ?_) (fun c hc => ?_) 6 0 rfl rfl
    · rw [e2.2 91 (by decide) (by decide)]; exact g2 c hc
    · have := shN_le (P := P) (many := n) (way := 0) hc; omega
    · have := shN_le (P := P) (many := n + 1) (way := 0) hc; omega
    · have : lsF (lgF P 0) (m + 1) n = lsF (lgF P 0) m (n + 1) := by
        show (match fcF (lgF P 0 n) 6 0 with | some c => some (n, c) | none => lsF (lgF P 0) m (n + 1)) = _
        rw [show fcF (lgF P 0 n) 6 0 = none from hn]
      rw [this]
      exact ih (n + 1) w2 (by omega) f3
    · show (match fcF (lgF P 0 n) 6 0 with | some c => some (n, c) | none => lsF (lgF P 0) m (n + 1)) = _
      rw [show fcF (lgF P 0 n) 6 0 = some c from hc]
theorem c_96 {X : Scr} {d way : Nat} {w : Wd} {P : Nat → Nat} (hP : PO w P) (hw : way ≤ 3) : CI X (d + 7) 96 [.ref 89, .int (nI way)] w (ansC w (lsF (lgF P way) 61 0)) := by
  refine CI.of rfl (t96_89_at0 (d := d + 5) w _ ?_)
  by_cases h0 : way = 0
  · subst h0
    exact l_96 hP 61 0 w rfl (fun _ _ _ _ _ => rfl)
  · refine t96_89_at2 (d := d + 5) w _ _ ?_
    rw [if_neg (by decide), if_neg (show ¬ nI way = 0 from nI_ne0 (by omega) (by omega)), lsF_none (lg_way h0)]
    exact ⟨fun _ _ _ _ _ => rfl, rfl⟩
/-! the reference's -/
def ansR (w : Wd) (o : Option (Nat × Nat)) (v2 : Int32) (x : Int32) (u : Wd) : Prop := (∀ b, b ≠ 133 → b ≠ 134 → u b = w b) ∧ x = match o with
  | none => kI (-2)
  | some (n, c) => if v2 = 0 then nI n else nI c
theorem in_224 {X : Scr} {d many : Nat} {v1 v2 : Int32} {w u : Wd} {s t : Nat → Nat} {o2 : Option (Nat × Nat)} (hm : many ≤ 60) (hs : ∀ c, c < 6 → u 134 c = nI (s c) ∧ u 133 c = nI (t c) ∧ s c ≤ 1000 ∧ t c ≤ 1000) (hf : ∀ b, b ≠ 133 → b ≠ 134 → u b = w b) (kk : fcF (fun c => decide (t c < s c)) 6 0 = none → EI X (d + 1) 224 (22, [some (.ref 110), some (.int v1), some (.int v2), some (.int (nI (many + 1))), none], [], SH, u) (ansR w o2 v2)) (ko : ∀ c, fcF (fun c => decide (t c < s c)) 6 0 = some c → o2 = some (many, c)) : ∀ (m k : Nat), k + m = 6 → fcF (fun c => decide (t c < s c)) m k = fcF (fun c => decide (t c < s c)) 6 0 → EI X (d + 1) 224 (75, [some (.ref 110), some (.int v1), some (.int v2), some (.int (nI many)), some (.int (nI k))], [], SH, u) (ansR w o2 v2) := by
  intro m
  induction m with
  | zero =>
    intro k h he
    have hk : k = 6 := by omega
    subst hk
    refine t224_110_at75 u _ _ _ _ ?_
    rw [if_pos (by decide), k1]
    exact kk he.symm
  | succ m ih =>
    intro k h he
    obtain ⟨a1, a2, a3, a4⟩ := hs k (by omega)
    refine t224_110_at75 u _ _ _ _ ?_
    rw [if_neg (lt_6 k (by omega)), nI_clamp (by omega), a1, a2, k1]
    have hib : inB (nI k) 6 = true := inB_nI (by omega) (by decide)
    refine ⟨hib, hib, ?_⟩
    unfold fcF at he
    by_cases hc : t k < s k
    · rw [if_neg (by rw [nI_leI (by omega) (by omega)]; omega)]
      rw [if_pos (decide_eq_true hc)] at he
      rw [ko k he.symm]
      by_cases hv : v2 = 0
      · rw [if_pos hv]; exact ⟨hf, by simp only [if_pos hv]⟩
      · rw [if_neg hv]; exact ⟨hf, by simp only [if_neg hv]⟩
    · rw [if_pos (by rw [nI_leI (by omega) (by omega)]; omega)]
      rw [if_neg (by simpa using hc)] at he
      exact ih (k + 1) (by omega) he
theorem cp_224 {X : Scr} {d : Nat} {v1 v2 v3 : Int32} {w u0 : Wd} {s : Nat → Nat} {Q : Int32 → Wd → Prop} (hu0 : ∀ b, b ≠ 133 → b ≠ 134 → u0 b = w b) (h133 : ∀ c, c < 6 → u0 133 c = nI (s c)) (kk : ∀ u, (∀ c, c < 6 → u 134 c = nI (s c)) → (∀ b, b ≠ 133 → b ≠ 134 → u b = w b) → EI X (d + 1) 224 (37, [some (.ref 110), some (.int v1), some (.int v2), some (.int v3), some (.int (nI 6))], [], SH, u) Q) : ∀ (m n : Nat) (u : Wd), n + m = 6 → (∀ c, c < n → u 134 c = nI (s c)) → (∀ b, b ≠ 134 → u b = u0 b) → EI X (d + 1) 224 (37, [some (.ref 110), some (.int v1), some (.int v2), some (.int v3), some (.int (nI n))], [], SH, u) Q := by
  intro m
  induction m with
  | zero =>
    intro n u h h1 h2
    have hn : n = 6 := by omega
    subst hn
    exact kk u h1 (fun b a1 a2 => by rw [h2 b a2, hu0 b a1 a2])
  | succ m ih =>
    intro n u h h1 h2
    refine t224_110_at37 u _ _ _ _ ?_
    have hib : inB (nI n) 6 = true := inB_nI (by omega) (by decide)
    rw [if_neg (lt_6 n (by omega)), nI_clamp (by omega), k1]
    refine ⟨hib, hib, ih (n + 1) _ (by omega) (fun c hc => ?_) (fun b hb => by rw [up2_ne hb]; exact h2 b hb)⟩
    rw [up2_at]
    by_cases e : c = n
    · subst e; rw [if_pos rfl, h2 133 (by decide)]; exact h133 c (by omega)
    · rw [if_neg e]; exact h1 c (by omega)
theorem l_224 {X : Scr} {d way : Nat} {v2 : Int32} {w : Wd} {P : Nat → Nat} (hw : way ≤ 3) (hP : PRf w P) : ∀ (m n : Nat) (u : Wd), n + m = 61 → (∀ b, b ≠ 133 → b ≠ 134 → u b = w b) → EI X (d + 6) 224 (22, [some (.ref 110), some (.int (nI way)), some (.int v2), some (.int (nI n)), none], [], SH, u) (ansR w (lsF (lgF P way) m n) v2) := by
  intro m
  induction m with
  | zero =>
    intro n u h hf
    have hn : n = 61 := by omega
    subst hn
    refine t224_110_at22 (d := d + 5) u _ _ _ ?_
    rw [if_pos (by decide)]
    exact ⟨hf, rfl⟩
  | succ m ih =>
    intro n u h hf
    have cg : ∀ u : Wd, (∀ b, b ≠ 133 → b ≠ 134 → u b = w b) → PRf u P := fun u hu => hP.cg (hu 114 (by decide) (by decide)) (by rw [hu 110 (by decide) (by decide)])
    refine t224_110_at22 (d := d + 5) u _ _ _ ?_
    rw [if_neg (show ¬ kI 60 < nI n from nI_nlt (b := n) (a := 60) (by omega) (by decide))]
    refine CU.mono (c_222 (d := d + 1) (cg u hf) hw (by omega) (fun _ => by omega)) ?_
    intro w1 e1
    refine cp_224 (w := w) (u0 := w1) (s := fun c => shN P n way c) (fun b h1 h2 => by rw [e1.2 b h1, hf b h1 h2]) e1.1 ?_ 6 0 w1 rfl (fun c hc => by omega) (fun _ _ => rfl)
    intro w2 g2 f2
    refine t224_110_at37 (d := d + 5) w2 _ _ _ _ ?_
    rw [if_pos (by decide), k1]
    refine CU.mono (c_222 (d := d + 1) (cg w2 f2) hw (by omega) (fun _ => by omega)) ?_
    intro w3 e3
    have f3 : ∀ b, b ≠ 133 → b ≠ 134 → w3 b = w b := fun b h1 h2 => by rw [e3.2 b h1, f2 b h1 h2]
    refine in_224 (s := fun c => shN P n way c) (t := fun c => shN P (n + 1) way c) (by omega) (fun c hc => ⟨?_, e3.1 c hc, ?_, ?_⟩) f3 (fun hn => ?_) (fun c hc => ?_) 6 0 rfl rfl
    · rw [e3.2 134 (by decide)]; exact g2 c hc
    · have := shN_le (P := P) (many := n) (way := way) hc; omega
    · have := shN_le (P := P) (many := n + 1) (way := way) hc; omega
    · have : lsF (lgF P way) (m + 1) n = lsF (lgF P way) m (n + 1) := by
        show (match fcF (lgF P way n) 6 0 with | some c => some (n, c) | none => lsF (lgF P way) m (n + 1)) = _
        rw [show fcF (lgF P way n) 6 0 = none from hn]
      rw [this]
      exact ih (n + 1) w3 (by omega) f3
    · show (match fcF (lgF P way n) 6 0 with | some c => some (n, c) | none => lsF (lgF P way) m (n + 1)) = _
      rw [show fcF (lgF P way n) 6 0 = some c from hc]
theorem J_loses {X : Scr} {w : Wd} (h : II w) (q r : Int32) : JJ X 129 224 [.int q, .int r] w := by
  obtain ⟨P, hP, hR⟩ := office_P h.1
  unfold JJ
  refine CI.of (d := 59) rfl (t129_0_at0 (d := 58) w q r ?_)
  have t : ∀ (u : Wd) (Q : Int32 → Wd → Prop), _ → CI X 60 224 [.ref 110, .int q, .int r] u Q := fun u Q H => CI.of (d := 59) rfl (t224_110_at0 (d := 58) u q r H)
  by_cases h2 : F_153 q (kI 0) (kI 3) w = 0
  · rw [if_pos h2]
    refine t w _ ?_
    rw [if_pos (show F_157 q (kI 0) (kI 3) w = 0 from h2)]
    exact ⟨rfl, h⟩
  rw [if_neg h2]
  by_cases h3 : F_153 r (kI 0) (kI 1) w = 0
  · rw [if_pos h3]
    refine t w _ ?_
    rw [if_neg (show ¬ F_157 q (kI 0) (kI 3) w = 0 from h2), if_pos (show F_157 r (kI 0) (kI 1) w = 0 from h3)]
    exact ⟨rfl, h⟩
  rw [if_neg h3]
  obtain ⟨way, -, hw, rfl⟩ := within_z (a := 0) (b := 3) (by decide) (by decide) h2
  refine CI.mono (c_96 (d := 52) hP hw) ?_
  intro x w1 e1
  have fr := e1.1
  have hR1 : PRf w1 P := hR.cg (fr 114 (by decide) (by decide) (by decide) (by decide)) (by rw [fr 110 (by decide) (by decide) (by decide) (by decide)])
  have fin : ∀ z : Int32, (z = match lsF (lgF P way) 61 0 with | none => kI (-2) | some (n, c) => if r = 0 then nI n else nI c) → CI X 60 224 [.ref 110, .int (nI way), .int r] w1 (fun y w2 => y = z ∧ II w2) := by
    intro z hz
    refine t w1 _ ?_
    rw [if_neg (show ¬ F_157 (nI way) (kI 0) (kI 3) w1 = 0 from h2), if_neg (show ¬ F_157 r (kI 0) (kI 1) w1 = 0 from h3)]
    refine EI.mono (l_224 (d := 53) (v2 := r) hw hR1 61 0 w1 rfl (fun _ _ _ => rfl)) ?_
    intro y w2 e2
    refine ⟨by rw [e2.2, hz], h.ss (SS.of [89, 90, 91, 92, 133, 134] (fun a ha => ?_) (by decide))⟩
    simp only [List.mem_cons, List.not_mem_nil, or_false, not_or] at ha
    rw [e2.1 a ha.2.2.2.2.1 ha.2.2.2.2.2, fr a ha.1 ha.2.1 ha.2.2.1 ha.2.2.2.1]
  obtain ⟨-, e1⟩ := e1
  cases ho : lsF (lgF P way) 61 0 with
  | none =>
    rw [ho] at e1 fin
    rw [if_pos e1]
    exact fin _ rfl
  | some o =>
    obtain ⟨n, c⟩ := o
    rw [ho] at e1 fin
    obtain ⟨x1, x2, x3⟩ := e1
    rw [if_neg (by rw [x1]; decide)]
    by_cases hv : r = 0
    · rw [if_pos hv, x2]
      exact fin _ (by simp only [if_pos hv])
    · rw [if_neg hv, x3]
      exact fin _ (by simp only [if_neg hv])
end LOSES
