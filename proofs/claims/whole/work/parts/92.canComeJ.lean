/-! canComeOut: the two calls -/
section CANCOMEJ
theorem sum6_cgn {n n2 : Nat → Int32} {f : Nat} (hf : f < 6) (h : ∀ i, i < 162 → n2 i = n i) : sum6 n2 f = sum6 n f := by
  unfold sum6
  rw [h f (by omega), h (6 + f) (by omega), h (12 + f) (by omega), h (18 + f) (by omega), h (24 + f) (by omega), h (30 + f) (by omega)]
theorem Vof_cgn {n n2 : Nat → Int32} {T Pp : Nat → Int32} {c f : Nat} {mo : Int32} (hc : c < 6) (hf : f < 6) (h : ∀ i, i < 162 → n2 i = n i) : Vof n2 T Pp c f mo = Vof n T Pp c f mo := by
  unfold Vof
  rw [h (6 * c + f) (by omega), sum6_cgn hf h, h 158 (by decide)]
theorem ndF_cgn {fc : Nat → Bool} {AK : (Nat → Int32) → Int32} {T Pp : Nat → Int32} {f : Nat} (hf : f < 6) : ∀ (m : Nat) (n n2 : Nat → Int32) (s : Int32), (∀ i, i < 162 → n2 i = n i) → ndF fc AK T Pp f m n2 s = ndF fc AK T Pp f m n s := by
  intro m
  induction m with
  | zero => intro n n2 s _; simp only [ndF]
  | succ m ih =>
    intro n n2 s h
    have e : chF fc (fun c => AK (Vof n2 T Pp c f (kI 11))) 6 0 (none, 0) = chF fc (fun c => AK (Vof n T Pp c f (kI 11))) 6 0 (none, 0) := chF_cg (fun c hc => by rw [Vof_cgn hc hf h]) 6 0 _ rfl
    have hlt := chF_lt (fc := fc) (K := fun c => AK (Vof n T Pp c f (kI 11))) 6 0 (none, 0) (fun b hb => by cases hb)
    unfold ndF
    rw [e]
    generalize chF fc (fun c => AK (Vof n T Pp c f (kI 11))) 6 0 (none, 0) = R at hlt ⊢
    obtain ⟨o, k⟩ := R
    cases o with
    | none => rfl
    | some c =>
      have hc : c < 6 := by have := hlt c rfl; omega
      refine ih _ _ _ (fun i hi => ?_)
      unfold upd
      by_cases ei : i = 6 * c + f
      · rw [if_pos ei, if_pos ei, h _ (by omega)]
      · rw [if_neg ei, if_neg ei, h i hi]
theorem nedF_cgn {fc : Nat → Bool} {AK : (Nat → Int32) → Int32} {T Pp : Nat → Int32} {f t S : Nat} {n n2 : Nat → Int32} (hf : f < 6) (h : ∀ i, i < 162 → n2 i = n i) : nedF fc AK T Pp f n2 t S = nedF fc AK T Pp f n t S := by
  unfold nedF
  rw [ndF_cgn hf _ _ _ _ h]
def FRC (w u : Wd) : Prop := ∀ a, ¬ (17 ≤ a ∧ a ≤ 21) → a ≠ 85 → a ≠ 86 → a ≠ 87 → a ≠ 88 → u a = w a
def FRR (w u : Wd) : Prop := (∀ a, a ≠ 110 → a ≠ 111 → a ≠ 112 → a ≠ 129 → a ≠ 130 → a ≠ 139 → u a = w a) ∧ (∀ i, i < 162 → u 111 i = w 111 i) ∧ ∀ j, j ≠ 40 → u 110 j = w 110 j
/-- what a figure needs -/
def nedV (fc ft : Nat → Bool) (AK : (Nat → Int32) → Int32) (T Pp n : Nat → Int32) (f : Nat) : Int32 := if ft f then nedF fc AK T Pp f n (T f).toNatClampNeg (sum6 n f).toNatClampNeg else kI (-2)
variable {op ar : Nat → Nat} {lt : Nat → Int32} {la lm lb : Nat → Nat} {cnt len : Nat} {fc ft : Nat → Bool}
theorem l_134 {X : Scr} {d : Nat} {v1 : Int32} {w : Wd} {Q : Int32 → Wd → Prop} (hL : LAWC w op ar lt la lm lb cnt len) (hY : LWV op ar lt la lm lb cnt len) (hfc : ∀ c, c < 6 → (F_51_3 (nI c) w = 0 ↔ fc c = false)) (hft : ∀ f, f < 6 → (F_52_3 (nI f) w = 0 ↔ ft f = false)) (hB : BK 7 w (w 111)) (hC : CT (w 111)) (hT : ∀ f, f < 6 → nn (w 5 f) 9999)
    (kk : ∀ u : Wd, FRC w u → (∀ g, g < 6 → u 88 g = nedV fc ft (lawA op ar lt la lm lb cnt (kI 107) 99) (w 5) (w 4) (w 111) g) → EI X (d + 8) 134 (13, [some (.ref 0), some (.int v1), some (.int (nI 6))], [], SH, u) Q) :
    ∀ (m f : Nat) (u : Wd), f + m = 6 → FRC w u → (∀ g, g < f → u 88 g = nedV fc ft (lawA op ar lt la lm lb cnt (kI 107) 99) (w 5) (w 4) (w 111) g) → EI X (d + 8) 134 (13, [some (.ref 0), some (.int v1), some (.int (nI f))], [], SH, u) Q := by
  intro m
  induction m with
  | zero =>
    intro f u hf hF h88
    have e : f = 6 := by omega
    subst e
    exact kk u hF h88
  | succ m ih =>
    intro f u hf hF h88
    have hf6 : f < 6 := by omega
    have Bu : BK 7 u (w 111) := hB.congr (hF 7 (by omega) (by decide) (by decide) (by decide) (by decide)) (hF 8 (by omega) (by decide) (by decide) (by decide) (by decide)) (hF 9 (by omega) (by decide) (by decide) (by decide) (by decide)) (hF 10 (by omega) (by decide) (by decide) (by decide) (by decide)) (hF 11 (by omega) (by decide) (by decide) (by decide) (by decide))
    obtain ⟨t1, t2⟩ := to_17_7 Bu
    have tw : ∀ a, ¬ (17 ≤ a ∧ a ≤ 21) → a ≠ 85 → a ≠ 86 → a ≠ 87 → a ≠ 88 → G_10_17_7 u a = w a := fun a h1 h2 h3 h4 h5 => by rw [t2 a h1]; exact hF a h1 h2 h3 h4 h5
    have e3 : G_10_17_7 u 3 = w 3 := tw 3 (by omega) (by decide) (by decide) (by decide) (by decide)
    have e5 : G_10_17_7 u 5 = w 5 := tw 5 (by omega) (by decide) (by decide) (by decide) (by decide)
    have e4 : G_10_17_7 u 4 = w 4 := tw 4 (by omega) (by decide) (by decide) (by decide) (by decide)
    have step : ∀ (u2 : Wd) (x : Int32), (∀ a, ¬ (17 ≤ a ∧ a ≤ 21) → a ≠ 85 → a ≠ 86 → a ≠ 87 → a ≠ 88 → u2 a = w a) → u2 88 = u 88 → x = nedV fc ft (lawA op ar lt la lm lb cnt (kI 107) 99) (w 5) (w 4) (w 111) f → (inB (nI f) 6 = true ∧ EI X (d + 6 + 2) 134 (13, [some (.ref 0), some (.int v1), some (.int (nI (f + 1)))], [], SH, up2 u2 88 f x) Q) := by
      intro u2 x h2 h3 hx
      refine ⟨inB_nI hf6 (by decide), ih (f + 1) _ (by omega) (fun a a1 a2 a3 a4 a5 => by rw [up2_ne a5]; exact h2 a a1 a2 a3 a4 a5) (fun g hg => ?_)⟩
      rw [up2_at, h3]
      by_cases e : g = f
      · rw [if_pos e, e, hx]
      · rw [if_neg e]; exact h88 g (by omega)
    refine t134_0_at13 (d := d + 6) u _ _ ?_
    rw [if_neg (lt_6 f hf6), k1, nI_clamp (by omega), f52_cg e3]
    by_cases h0 : F_52_3 (nI f) w = 0
    · rw [if_pos h0]
      refine step (G_10_17_7 u) _ tw (t2 88 (by omega)) ?_
      unfold nedV
      rw [(hft f hf6).mp h0]
      rfl
    · rw [if_neg h0]
      have hft1 : ft f = true := by
        cases e : ft f with
        | true => rfl
        | false => exact absurd ((hft f hf6).mpr e) h0
      obtain ⟨tt, ht, et⟩ := hT f hf6
      obtain ⟨S, hS, eS⟩ := hC.sum hf6
      refine CI.mono (c_24 (d := d + 1) (fc := fc) (t := tt) (S := S) hf6 (hL.cg2 (fun c h1 h2 => tw c (by omega) (by omega) (by omega) (by omega) (by omega))) hY (fun c hc => by rw [f51_cg e3]; exact hfc c hc) t1 hC (by rw [e5]; exact et) ht eS hS) ?_
      intro x ua hx
      rw [e5, e4] at hx
      obtain ⟨hx, fr, -⟩ := hx
      refine step ua x (fun a h1 h2 h3 h4 h5 => by rw [fr a h1 h2 h3 h4]; exact tw a h1 h2 h3 h4 h5) (by rw [fr 88 (by omega) (by decide) (by decide) (by decide)]; exact t2 88 (by omega)) ?_
      unfold nedV
      rw [if_pos hft1, et, eS, nI_clamp (by omega), nI_clamp (by omega), hx]
theorem l_234a {X : Scr} {d : Nat} {v1 : Int32} {w : Wd} {Q : Int32 → Wd → Prop} {N : Nat → Option Nat} (hN : NB N) (hL : LWR w op ar lt la lm lb cnt len) (hY : LWV op ar lt la lm lb cnt len) (hfc : ∀ c, c < 6 → (F_164_110 (nI c) w = 0 ↔ fc c = false)) (hft : ∀ f, f < 6 → (F_165_110 (nI f) w = 0 ↔ ft f = false)) (hC : CT (w 111)) (hZ : ZR fc (w 111)) (hT : ∀ f, f < 6 → nn (w 116 f) 9999) (hv : ∀ g, g < 6 → nedV fc ft (lawA op ar lt la lm lb cnt (kI 107) 99) (w 116) (w 114) (w 111) g = enN (N g))
    (kk : ∀ (u : Wd) (C : Nat), FRR w u → (∀ g, g < 6 → u 139 g = enN (N g)) → (∀ g, g < 6 → (C.testBit g = true ↔ N g ≠ none)) → EI X (d + 8) 234 (74, [some (.ref 110), some (.int v1), some (.int (nI C)), some (.int (kI 0)), some (.int (kI 0)), some (.int (kI 1)), none, none], [], SH, u) Q) :
    ∀ (m f C : Nat) (u : Wd), f + m = 6 → FRR w u → (∀ g, g < f → u 139 g = enN (N g)) → (∀ g, g < 6 → (C.testBit g = true ↔ g < f ∧ N g ≠ none)) → EI X (d + 8) 234 (15, [some (.ref 110), some (.int v1), some (.int (nI C)), some (.int (nI f)), none, none, none, none], [], SH, u) Q := by
  intro m
  induction m with
  | zero =>
    intro f C u hf hF h139 hCb
    have e : f = 6 := by omega
    subst e
    refine t234_110_at15 (d := d + 6) u _ _ _ ?_
    rw [if_pos (by decide)]
    refine kk u C hF h139 (fun g hg => ?_)
    rw [hCb g hg]
    exact ⟨fun e => e.2, fun e => ⟨hg, e⟩⟩
  | succ m ih =>
    intro f C u hf hF h139 hCb
    have hf6 : f < 6 := by omega
    have step : ∀ (u2 : Wd) (x : Int32), FRR w u2 → u2 139 = u 139 → x = enN (N f) → (inB (nI f) 6 = true ∧ (inB (nI f) 6 = true ∧ (if (up2 u2 139 f x) 139 f < 0 then EI X (d + 6 + 2) 234 (15, [some (.ref 110), some (.int v1), some (.int (nI C)), some (.int (nI (f + 1))), none, none, none, none], [], SH, (up2 u2 139 f x)) Q else EI X (d + 6 + 2) 234 (15, [some (.ref 110), some (.int v1), some (.int (nI C ||| ((kI 1) <<< (nI f &&& 31)))), some (.int (nI (f + 1))), none, none, none, none], [], SH, (up2 u2 139 f x)) Q))) := by
      intro u2 x h2 h3 hx
      refine ⟨inB_nI hf6 (by decide), inB_nI hf6 (by decide), ?_⟩
      have F2 : FRR w (up2 u2 139 f x) := ⟨fun a a1 a2 a3 a4 a5 a6 => by rw [up2_ne a6]; exact h2.1 a a1 a2 a3 a4 a5 a6, fun i hi => by rw [up2_ne (by decide)]; exact h2.2.1 i hi, fun j hj => by rw [up2_ne (by decide)]; exact h2.2.2 j hj⟩
      have v2 : ∀ g, g < f + 1 → (up2 u2 139 f x) 139 g = enN (N g) := by
        intro g hg
        rw [up2_at, h3]
        by_cases e : g = f
        · rw [if_pos e, e, hx]
        · rw [if_neg e]; exact h139 g (by omega)
      rw [up2_at, if_pos rfl, hx]
      cases e : N f with
      | none =>
        rw [if_pos (show enN none < 0 by decide)]
        rw [hx, e] at F2 v2
        refine ih (f + 1) C _ (by omega) F2 v2 (fun g hg => ?_)
        rw [hCb g hg]
        constructor
        · rintro ⟨g1, g2⟩; exact ⟨by omega, g2⟩
        · rintro ⟨g1, g2⟩
          have : g ≠ f := fun e2 => by rw [e2, e] at g2; exact g2 rfl
          exact ⟨by omega, g2⟩
      | some v =>
        have hvb := hN f v hf6 e
        rw [if_neg (show ¬ enN (some v) < 0 from nI_pos (by omega)), shl1_nI (by omega), or_nI]
        rw [hx, e] at F2 v2
        refine ih (f + 1) (C ||| 2 ^ f) _ (by omega) F2 v2 (fun g hg => ?_)
        rw [Nat.testBit_or, Nat.testBit_two_pow, Bool.or_eq_true, hCb g hg, decide_eq_true_iff]
        constructor
        · rintro (⟨g1, g2⟩ | g1)
          · exact ⟨by omega, g2⟩
          · subst g1; exact ⟨by omega, by rw [e]; intro e2; cases e2⟩
        · rintro ⟨g1, g2⟩
          by_cases e2 : f = g
          · exact Or.inr e2
          · exact Or.inl ⟨by omega, g2⟩
    have e6 : u 110 6 = w 110 6 := hF.2.2 6 (by decide)
    have e7 : u 110 7 = w 110 7 := hF.2.2 7 (by decide)
    have e116 : u 116 = w 116 := hF.1 116 (by decide) (by decide) (by decide) (by decide) (by decide) (by decide)
    have e114 : u 114 = w 114 := hF.1 114 (by decide) (by decide) (by decide) (by decide) (by decide) (by decide)
    refine t234_110_at15 (d := d + 6) u _ _ _ ?_
    rw [if_neg (lt_6 f hf6), k1, nI_clamp (by omega), c165 e7]
    have hvf := hv f hf6
    unfold nedV at hvf
    by_cases h0 : F_165_110 (nI f) w = 0
    · rw [if_pos h0]
      rw [(hft f hf6).mp h0, if_neg (by decide)] at hvf
      exact step u _ hF rfl hvf
    · rw [if_neg h0]
      have hft1 : ft f = true := by
        cases e : ft f with
        | true => rfl
        | false => exact absurd ((hft f hf6).mpr e) h0
      obtain ⟨tt, ht, et⟩ := hT f hf6
      obtain ⟨S, hS, eS⟩ := hC.sum hf6
      have eS2 : sum6 (u 111) f = nI S := by rw [sum6_cgn hf6 hF.2.1]; exact eS
      rw [if_pos hft1, et, eS, nI_clamp (by omega), nI_clamp (by omega)] at hvf
      refine CI.mono (c_216 (d := d + 1) (fc := fc) (t := tt) (S := S) hf6 (hL.cg2 (hF.2.2 19 (by decide)) (fun a h1 h2 => hF.1 a (by omega) (by omega) (by omega) (by omega) (by omega) (by omega))) hY (fun c hc => by rw [c164 e6]; exact hfc c hc) (fun i hi => by rw [hF.2.1 i (by omega)]; exact hC i hi) (fun c g hc hg hz => by rw [hF.2.1 _ (by omega)]; exact hZ c g hc hg hz) (by rw [e116]; exact et) ht eS2 hS) ?_
      intro y ub hy
      rw [e116, e114, nedF_cgn hf6 hF.2.1, hvf] at hy
      obtain ⟨hy, r1, r2, r3⟩ := hy
      exact step ub y ⟨fun a a1 a2 a3 a4 a5 a6 => by rw [r2 a a1 a2 a3 a4 a5]; exact hF.1 a a1 a2 a3 a4 a5 a6, fun i hi => by rw [r1 i hi]; exact hF.2.1 i hi, fun j hj => by rw [r3 j hj]; exact hF.2.2 j hj⟩ (r2 139 (by decide) (by decide) (by decide) (by decide) (by decide)) hy
theorem J_canComeOut {X : Scr} {w : Wd} (h : II w) (p : Int32) : JJ X 134 234 [.int p] w := by
  have h0 := h
  obtain ⟨hO, hB, hK, hT, hL, hD, hR⟩ := h
  obtain ⟨o1, o2, o3, o4, o5, o6, o7⟩ := hO
  obtain ⟨fc, f1, f2⟩ := told_fc o1
  obtain ⟨ft, g1, g2⟩ := told_ft o2
  obtain ⟨op, ar, lt, la, lm, lb, cnt, len, LC, LR, LV⟩ := law_of hL
  obtain ⟨v1, v2⟩ := hB.2.split f1
  obtain ⟨D, hDl, eD⟩ := v1.2.2.2.2.1
  unfold JJ
  refine CI.of (d := 59) rfl (t134_0_at0 (d := 57) w p ?_)
  have t : ∀ (u : Wd) (Q : Int32 → Wd → Prop), _ → CI X 60 234 [.ref 110, .int p] u Q := fun u Q H => CI.of (d := 59) rfl (t234_110_at0 (d := 57) u p H)
  by_cases h1 : F_153 p (kI 0) (kI 2) w = 0
  · rw [if_pos h1]
    refine t w _ ?_
    rw [if_pos (show F_157 p (kI 0) (kI 2) w = 0 from h1)]
    exact ⟨rfl, h0⟩
  rw [if_neg h1]
  have hdec : ∃ N : Nat → Option Nat, NB N ∧ ∀ g, g < 6 → nedV fc ft (lawA op ar lt la lm lb cnt (kI 107) 99) (w 5) (w 4) (w 111) g = enN (N g) := by
    have hx : ∀ g, ∃ o : Option Nat, nedV fc ft (lawA op ar lt la lm lb cnt (kI 107) 99) (w 5) (w 4) (w 111) g = enN o ∧ ∀ v, o = some v → v ≤ 19800 := by
      intro g
      refine enN_of ?_
      unfold nedV
      split
      · exact nedF_nn (fun V => by unfold lawA; exact askF_nn (by decide) _ _)
      · exact Or.inl rfl
    exact ⟨fun g => Classical.choose (hx g), fun g v _ e => (Classical.choose_spec (hx g)).2 v e, fun g _ => (Classical.choose_spec (hx g)).1⟩
  obtain ⟨N, hN, hv⟩ := hdec
  refine l_134 (d := 51) (fc := fc) (ft := ft) LC LV f1 g1 hB.1 v1.1 (fun f hf => (o7 f hf).2.2.2.2.1) ?_ 6 0 w rfl (fun _ _ _ _ _ _ => rfl) (fun g hg => by omega)
  intro ua hF h88
  have b7 : ua 7 6 = nI D := by rw [hF 7 (by omega) (by decide) (by decide) (by decide) (by decide), hB.1.2.2.2.2.2.2.1]; exact eD
  refine t134_0_at13 (d := 57) ua _ _ ?_
  rw [if_pos (by decide), b7]
  refine CU.of (d := 58) rfl (t25_87_at0 (d := 57) ua _ ?_)
  refine EU.mono (l_25 (d := 56) (w := ua) (D := D) hN hDl (fun g hg => by rw [h88 g hg]; exact hv g hg) 63 1 (up2 (up2 ua 87 7 (kI 0)) 87 8 (kI 0)) (0, 0) rfl (by decide) (by decide) ⟨?_, ?_, fun a ha => ?_, fun j h7 h8 => ?_⟩) ?_
  · rw [up2_at, if_neg (by decide), up2_at, if_pos rfl]; rfl
  · rw [up2_at, if_pos rfl]; rfl
  · rw [up2_ne ha, up2_ne ha]
  · rw [up2_at, if_neg h8, up2_at, if_neg h7]
  intro ub hU
  obtain ⟨hP, hp1, hp2⟩ := hU
  have frb : ∀ a, ¬ (17 ≤ a ∧ a ≤ 21) → a ≠ 85 → a ≠ 86 → a ≠ 87 → a ≠ 88 → ub a = w a := fun a h1 h2 h3 h4 h5 => by rw [hP.2.2.1 a h4]; exact hF a h1 h2 h3 h4 h5
  have fz : ∀ a, 110 ≤ a → ub a = w a := fun a ha => frb a (by omega) (by omega) (by omega) (by omega) (by omega)
  rw [hP.1, hP.2.1, bc259 ub _ hp1]
  have fin : ∀ z : Int32, z = (if p = 0 then nI (bcN (plF N D 63 1 (0, 0)).1) else if p = kI 1 then nI (plF N D 63 1 (0, 0)).1 else nI (plF N D 63 1 (0, 0)).2) → CI X 60 234 [.ref 110, .int p] ub (fun y u3 => y = z ∧ II u3) := by
    intro z hz
    refine t ub _ ?_
    rw [if_neg (show ¬ F_157 p (kI 0) (kI 2) ub = 0 from h1)]
    refine l_234a (d := 51) (fc := fc) (ft := ft) (w := ub) (N := N) hN (LR.cg2 (by rw [fz 110 (by decide)]) (fun a h1 h2 => fz a (by omega))) LV (fun c hc => by rw [c164 (w := w) (by rw [fz 110 (by decide)])]; exact f2 c hc) (fun f hf => by rw [c165 (w := w) (by rw [fz 110 (by decide)])]; exact g2 f hf) (by rw [fz 111 (by decide)]; exact v1.1) (by rw [fz 111 (by decide)]; exact v2) (fun f hf => by rw [fz 116 (by decide), (o7 f hf).2.1]; exact (o7 f hf).2.2.2.2.1) (fun g hg => ?_) ?_ 6 0 0 ub rfl ⟨fun _ _ _ _ _ _ _ => rfl, fun _ _ => rfl, fun _ _ => rfl⟩ (fun g hg => by omega) (fun g hg => by simp)
    · rw [fz 116 (by decide), fz 114 (by decide), fz 111 (by decide), ← hv g hg]
      unfold nedV
      rw [(o7 g hg).2.1, nedF_cg (T := w 5) (Pp := w 4) (o7 g hg).2.1 (fun c hc => (o7 c hc).1)]
    · intro uc C hFc hc139 hCb
      have hII : II uc := h0.nd ⟨fun a a1 a2 a3 a4 a5 a6 a7 a8 a9 a10 a11 => by rw [hFc.1 a a6 a7 a8 a9 a10 a11]; exact frb a a1 a2 a3 a4 a5, fun i hi => by rw [hFc.2.1 i hi, fz 111 (by decide)], fun j hj => by rw [hFc.2.2 j hj, fz 110 (by decide)]⟩
      refine l_234b (d := 57) (D := D) (C := C) hN hDl hc139 hCb (by rw [hFc.2.1 159 (by decide), fz 111 (by decide)]; exact eD) 63 1 (0, 0) rfl (by decide) (by decide) (fun _ => ?_)
      by_cases p0 : p = 0
      · rw [if_pos p0]
        rw [if_pos p0] at hz
        exact ⟨hz.symm, hII⟩
      · rw [if_neg p0]
        rw [if_neg p0] at hz
        by_cases p1 : p = kI 1
        · rw [if_pos p1]
          rw [if_pos p1] at hz
          exact ⟨hz.symm, hII⟩
        · rw [if_neg p1]
          rw [if_neg p1] at hz
          exact ⟨hz.symm, hII⟩
  by_cases p0 : p = kI 0
  · rw [if_pos p0]
    exact fin _ (by rw [if_pos (show p = 0 from p0)])
  · rw [if_neg p0]
    by_cases p1 : p = kI 1
    · rw [if_pos p1]
      exact fin _ (by rw [if_neg (show ¬ p = 0 from p0), if_pos p1])
    · rw [if_neg p1]
      exact fin _ (by rw [if_neg (show ¬ p = 0 from p0), if_neg p1])
end CANCOMEJ
