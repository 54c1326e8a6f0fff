/-! window: of all windows with so many the narrowest, of those the lowest -/
section WINDOW
def WI (N : Nat → Nat → Nat) (many : Nat) (fo : Bool) (bf bt f t : Nat) : Prop := (∀ a b, a ≤ b → b < 100 → (a < f ∨ (a = f ∧ b < t)) → N a b = many → fo = true ∧ (bt - bf < b - a ∨ (bt - bf = b - a ∧ bf ≤ a))) ∧ (fo = true → bf ≤ bt ∧ bt < 100 ∧ N bf bt = many ∧ bf ≤ f)
def WC (w u : Wd) (fo : Bool) (bf bt : Nat) : Prop := (fo = true → u 102 8 = nI bf ∧ u 102 9 = nI bt) ∧ (∀ a, a ≠ 102 → u a = w a) ∧ ∀ j, j ≠ 8 → j ≠ 9 → u 102 j = w 102 j
theorem WC.put {w u : Wd} {fo : Bool} {bf bt f t : Nat} (h : WC w u fo bf bt) : WC w (up2 (up2 u 102 8 (nI f)) 102 9 (nI t)) true f t := by
  refine ⟨fun _ => ⟨?_, ?_⟩, fun a ha => ?_, fun j h8 h9 => ?_⟩
  · rw [up2_at, if_neg (by decide), up2_at, if_pos rfl]
  · rw [up2_at, if_pos rfl]
  · rw [up2_ne ha, up2_ne ha]; exact h.2.1 a ha
  · rw [up2_at, if_neg h9, up2_at, if_neg h8]; exact h.2.2 j h8 h9
/-- what is asked of the numbers: one more place adds its own; a wider one has no fewer -/
def NS (N : Nat → Nat → Nat) : Prop := (∀ lo hi, lo ≤ hi + 1 → N lo (hi + 1) = N lo hi + N (hi + 1) (hi + 1)) ∧ ∀ lo hi, N lo hi ≤ 20
theorem NS.mono {N : Nat → Nat → Nat} (h : NS N) {lo : Nat} : ∀ k hi, lo ≤ hi → N lo hi ≤ N lo (hi + k) := by
  intro k
  induction k with
  | zero => intro hi _; exact Nat.le_refl _
  | succ k ih =>
    intro hi hl
    have e := h.1 lo (hi + k) (by omega)
    have := ih hi hl
    rw [← Nat.add_assoc]
    omega
theorem l_4i {X : Scr} {d many f : Nat} {v1 : Int32} {w : Wd} {N : Nat → Nat → Nat} {Q : Int32 → Wd → Prop} (hN : NS N) (h107 : ∀ x, x < 100 → w 107 x = nI (N x x)) (h1 : 1 ≤ many) (h20 : many ≤ 20) (hf : f < 100)
    (k : ∀ (fo : Bool) (bf bt : Nat) (u : Wd), WC w u fo bf bt → WI N many fo bf bt (f + 1) 0 → EI X (d + 1) 4 (10, [some (.ref 102), some (.int v1), some (.int (nI many)), some (.int (nI fo.toNat)), some (.int (nI (f + 1))), none, none], [], SH, u) Q) :
    ∀ (m t : Nat) (fo : Bool) (bf bt : Nat) (u : Wd), t + m = 100 → f ≤ t → WC w u fo bf bt → WI N many fo bf bt f t → EI X (d + 1) 4 (24, [some (.ref 102), some (.int v1), some (.int (nI many)), some (.int (nI fo.toNat)), some (.int (nI f)), some (.int (nI (if t = f then 0 else N f (t - 1)))), some (.int (nI t))], [], SH, u) Q := by
  intro m
  induction m with
  | zero =>
    intro t fo bf bt u ht hft hC hW
    have e : t = 100 := by omega
    subst e
    refine t4_102_at24 u _ _ _ _ _ _ ?_
    rw [if_pos (by decide), k1]
    refine k fo bf bt u hC ⟨fun a b hab hb ho hn => hW.1 a b hab hb (by omega) hn, fun hfo => ?_⟩
    have := hW.2 hfo
    exact ⟨this.1, this.2.1, this.2.2.1, by omega⟩
  | succ m ih =>
    intro t fo bf bt u ht hft hC hW
    have ht1 : t < 100 := by omega
    have ec : (if t = f then 0 else N f (t - 1)) + N t t = N f t := by
      by_cases e : t = f
      · rw [if_pos e, e, Nat.zero_add]
      · rw [if_neg e]
        have := hN.1 f (t - 1) (by omega)
        rw [show t - 1 + 1 = t by omega] at this
        omega
    have e1 : (if t + 1 = f then 0 else N f (t + 1 - 1)) = N f t := by rw [if_neg (by omega), Nat.add_sub_cancel]
    have le1 := hN.2 f t
    have cle : (if t = f then 0 else N f (t - 1)) ≤ N f t := by omega
    refine t4_102_at24 u _ _ _ _ _ _ ?_
    rw [if_neg (lt_100 t ht1)]
    by_cases hm : many ≤ (if t = f then 0 else N f (t - 1))
    · rw [if_pos (nI_le hm (by omega)), k1]
      refine k fo bf bt u hC ⟨fun a b hab hb ho hn => ?_, fun hfo => ?_⟩
      · by_cases hd : a < f ∨ (a = f ∧ b < t)
        · exact hW.1 a b hab hb hd hn
        · have ha : a = f := by omega
          subst ha
          have tn : t ≠ a := fun e => by rw [if_pos e] at hm; omega
          rw [if_neg tn] at hm
          have mo := hN.mono (lo := a) (b - (t - 1)) (t - 1) (by omega)
          rw [show t - 1 + (b - (t - 1)) = b by omega] at mo
          have g := hW.1 a (t - 1) (by omega) (by omega) (by omega) (by omega)
          exact ⟨g.1, by omega⟩
      · have := hW.2 hfo
        exact ⟨this.1, this.2.1, this.2.2.1, by omega⟩
    · rw [if_neg (nI_ge (by omega) (by omega))]
      refine ⟨inB_nI ht1 (by decide), ?_⟩
      rw [nI_clamp (by omega), hC.2.1 107 (by decide), h107 t ht1, nI_add, ec, k1]
      have stay : (N f t = many → fo = true ∧ bt - bf ≤ t - f) → EI X (d + 1) 4 (24, [some (.ref 102), some (.int v1), some (.int (nI many)), some (.int (nI fo.toNat)), some (.int (nI f)), some (.int (nI (N f t))), some (.int (nI (t + 1)))], [], SH, u) Q := by
        intro hs
        have g := ih (t + 1) fo bf bt u (by omega) (by omega) hC ⟨fun a b hab hb ho hn => by
          by_cases hd : a < f ∨ (a = f ∧ b < t)
          · exact hW.1 a b hab hb hd hn
          · have ha : a = f := by omega
            have hb2 : b = t := by omega
            subst ha hb2
            have g2 := hs hn
            have g3 := hW.2 g2.1
            exact ⟨g2.1, by omega⟩, hW.2⟩
        rw [e1] at g
        exact g
      have take : N f t = many → (fo = true → t - f < bt - bf) → EI X (d + 1) 4 (24, [some (.ref 102), some (.int v1), some (.int (nI many)), some (.int (kI 1)), some (.int (nI f)), some (.int (nI (N f t))), some (.int (nI (t + 1)))], [], SH, up2 (up2 u 102 8 (nI f)) 102 9 (nI t)) Q := by
        intro he hs
        have g := ih (t + 1) true f t _ (by omega) (by omega) (WC.put (f := f) (t := t) hC) ⟨fun a b hab hb ho hn => by
          refine ⟨rfl, ?_⟩
          by_cases hd : a < f ∨ (a = f ∧ b < t)
          · have g2 := hW.1 a b hab hb hd hn
            have g3 := hs g2.1
            omega
          · omega, fun _ => ⟨hft, ht1, he, Nat.le_refl _⟩⟩
        rw [e1] at g
        exact g
      by_cases he : N f t = many
      · rw [if_pos (by rw [he])]
        cases fo with
        | false =>
          rw [if_pos (show nI false.toNat = 0 from rfl)]
          exact take he (fun e => by cases e)
        | true =>
          rw [if_neg (show ¬ nI true.toNat = 0 by decide)]
          have g := hW.2 rfl
          rw [(hC.1 rfl).1, (hC.1 rfl).2, pk_sub g.1, pk_sub hft]
          by_cases hw : bt - bf ≤ t - f
          · rw [if_pos (nI_le hw (by omega))]
            exact stay (fun _ => ⟨rfl, hw⟩)
          · rw [if_neg (nI_ge (by omega) (by omega))]
            exact take he (fun _ => by omega)
      · rw [if_neg (by rw [nI_eq (by omega) (by omega)]; exact he)]
        exact stay (fun e => absurd e he)
theorem l_4 {X : Scr} {d many : Nat} {v1 : Int32} {w : Wd} {N : Nat → Nat → Nat} (hN : NS N) (h107 : ∀ x, x < 100 → w 107 x = nI (N x x)) (h1 : 1 ≤ many) (h20 : many ≤ 20) :
    ∀ (m f : Nat) (fo : Bool) (bf bt : Nat) (u : Wd), f + m = 100 → WC w u fo bf bt → WI N many fo bf bt f 0 → EI X (d + 1) 4 (10, [some (.ref 102), some (.int v1), some (.int (nI many)), some (.int (nI fo.toNat)), some (.int (nI f)), none, none], [], SH, u) (fun x u2 => ∃ fo bf bt, x = nI fo.toNat ∧ WC w u2 fo bf bt ∧ WI N many fo bf bt 100 0) := by
  intro m
  induction m with
  | zero =>
    intro f fo bf bt u hf hC hW
    have e : f = 100 := by omega
    subst e
    refine t4_102_at10 u _ _ _ _ ?_
    rw [if_pos (by decide)]
    refine ⟨?_, fo, bf, bt, rfl, hC, hW⟩
    cases fo with
    | false => exact Or.inl rfl
    | true => exact Or.inr rfl
  | succ m ih =>
    intro f fo bf bt u hf hC hW
    refine t4_102_at10 u _ _ _ _ ?_
    rw [if_neg (lt_100 f (by omega))]
    have g := l_4i (X := X) (d := d) (v1 := v1) hN h107 h1 h20 (f := f) (by omega) (fun fo bf bt u hC hW => ih (f + 1) fo bf bt u (by omega) hC hW) (m + 1) f fo bf bt u hf (Nat.le_refl _) hC ⟨fun a b hab hb ho hn => hW.1 a b hab hb (by omega) hn, hW.2⟩
    rw [if_pos rfl] at g
    exact g
/-- the reference's two loops -/
theorem l_242i {X : Scr} {d kd R many wd bf bt : Nat} {fo : Bool} {v3 : Int32} {w : Wd} {A K : Nat → Nat} {Q : Int32 → Wd → Prop} (hR : ARR w R A K) (hk : kd ≤ 9) (h20 : many ≤ 20) (hwd : wd < 100)
    (hW : WI (fun lo hi => mbF R A K kd lo hi 20) many fo bf bt 100 0)
    (hQ : fo = true → Q (if v3 = 0 then nI bf else nI bt) w)
    (k : (fo = true → wd + 1 ≤ bt - bf) → EI X (d + 2) 242 (34, [some (.ref 110), some (.int (nI kd)), some (.int (nI many)), some (.int v3), some (.int (nI (wd + 1))), none], [], SH, w) Q) :
    ∀ (m a : Nat), a + m + wd = 100 → (fo = true → wd < bt - bf ∨ (wd = bt - bf ∧ a ≤ bf)) → EI X (d + 2) 242 (44, [some (.ref 110), some (.int (nI kd)), some (.int (nI many)), some (.int v3), some (.int (nI wd)), some (.int (nI a))], [], SH, w) Q := by
  intro m
  induction m with
  | zero =>
    intro a ha hp
    refine t242_110_at44 (d := d + 1) w _ _ _ _ _ ?_
    rw [nI_add, show a + wd = 100 by omega, if_pos (by decide), k1]
    refine k (fun hfo => ?_)
    have g := hW.2 hfo
    have := hp hfo
    omega
  | succ m ih =>
    intro a ha hp
    refine t242_110_at44 (d := d + 1) w _ _ _ _ _ ?_
    rw [nI_add, if_neg (lt_100 (a + wd) (by omega)), k1]
    refine CI.mono (c_241 (d := d) hR hk (lo := a) (hi := a + wd) (by omega) (by omega)) ?_
    intro x u2 hx
    obtain ⟨hx1, hu⟩ := hx
    subst hu
    rw [hx1]
    have le := mbF_le (R := R) (A := A) (K := K) (kd := kd) (lo := a) (hi := a + wd) 20
    by_cases he : mbF R A K kd a (a + wd) 20 = many
    · rw [if_pos (by rw [he])]
      have g := hW.1 a (a + wd) (by omega) (by omega) (by omega) he
      have g2 := hW.2 g.1
      have g3 := hp g.1
      have q := hQ g.1
      have ea : bf = a := by omega
      have eb : bt = a + wd := by omega
      rw [ea, eb] at q
      by_cases hv : v3 = 0
      · rw [if_pos hv]
        rw [if_pos hv] at q
        exact q
      · rw [if_neg hv]
        rw [if_neg hv] at q
        exact q
    · rw [if_neg (by rw [nI_eq (by omega) (by omega)]; exact he)]
      refine ih (a + 1) (by omega) (fun hfo => ?_)
      have g := hp hfo
      have g2 := hW.2 hfo
      by_cases e : a = bf
      · rcases g with g | g
        · exact Or.inl g
        · exfalso
          apply he
          rw [e, show bf + wd = bt by omega]
          exact g2.2.2.1
      · omega
theorem l_242 {X : Scr} {d kd R many bf bt : Nat} {fo : Bool} {v3 : Int32} {w : Wd} {A K : Nat → Nat} {Q : Int32 → Wd → Prop} (hR : ARR w R A K) (hk : kd ≤ 9) (h20 : many ≤ 20)
    (hW : WI (fun lo hi => mbF R A K kd lo hi 20) many fo bf bt 100 0)
    (hQ : fo = true → Q (if v3 = 0 then nI bf else nI bt) w) (hQ2 : fo = false → Q (kI (-2)) w) :
    ∀ (m wd : Nat), wd + m = 100 → (fo = true → wd ≤ bt - bf) → EI X (d + 2) 242 (34, [some (.ref 110), some (.int (nI kd)), some (.int (nI many)), some (.int v3), some (.int (nI wd)), none], [], SH, w) Q := by
  intro m
  induction m with
  | zero =>
    intro wd hwd hp
    refine t242_110_at34 (d := d + 1) w _ _ _ _ ?_
    rw [show wd = 100 by omega, if_pos (by decide)]
    cases fo with
    | false => exact hQ2 rfl
    | true =>
      have g := hW.2 rfl
      have := hp rfl
      omega
  | succ m ih =>
    intro wd hwd hp
    refine t242_110_at34 (d := d + 1) w _ _ _ _ ?_
    rw [if_neg (lt_100 wd (by omega))]
    refine l_242i hR hk h20 (by omega) hW hQ (fun h => ih (wd + 1) (by omega) h) (100 - wd) 0 (by omega) (fun hfo => ?_)
    have := hp hfo
    omega
theorem J_window {X : Scr} {w : Wd} (h : II w) (p q r : Int32) : JJ X 139 242 [.int p, .int q, .int r] w := by
  obtain ⟨R, A, K, hC, hR⟩ := arc_of h.2.2.2.2.2.2
  unfold JJ
  refine CI.of (d := 59) rfl (t139_0_at0 (d := 58) w p q r ?_)
  have t : ∀ (u : Wd) (Q : Int32 → Wd → Prop), _ → CI X 60 242 [.ref 110, .int p, .int q, .int r] u Q := fun u Q H => CI.of (d := 59) rfl (t242_110_at0 (d := 58) u p q r H)
  by_cases h1 : F_153 p (kI 0) (kI 9) w = 0
  · rw [if_pos h1]
    refine t w _ ?_
    rw [if_pos (show F_157 p (kI 0) (kI 9) w = 0 from h1)]
    exact ⟨rfl, h⟩
  rw [if_neg h1]
  by_cases h2 : F_153 q (kI 1) (kI 20) w = 0
  · rw [if_pos h2]
    refine t w _ ?_
    rw [if_neg (show ¬ F_157 p (kI 0) (kI 9) w = 0 from h1), if_pos (show F_157 q (kI 1) (kI 20) w = 0 from h2)]
    exact ⟨rfl, h⟩
  rw [if_neg h2]
  by_cases h3 : F_153 r (kI 0) (kI 1) w = 0
  · rw [if_pos h3]
    refine t w _ ?_
    rw [if_neg (show ¬ F_157 p (kI 0) (kI 9) w = 0 from h1), if_neg (show ¬ F_157 q (kI 1) (kI 20) w = 0 from h2), if_pos (show F_157 r (kI 0) (kI 1) w = 0 from h3)]
    exact ⟨rfl, h⟩
  rw [if_neg h3]
  obtain ⟨kd, -, hk, rfl⟩ := within_z (a := 0) (b := 9) (by decide) (by decide) h1
  obtain ⟨many, hm1, hm, rfl⟩ := within_z (a := 1) (b := 20) (by decide) (by decide) h2
  have hN : NS (fun lo hi => mbF R A K kd lo hi 20) := ⟨fun lo hi hl => mbF_step hl 20, fun lo hi => mbF_le 20⟩
  refine CI.of (d := 58) rfl (t4_102_at0 (d := 57) w _ _ ?_)
  refine CU.mono (c_2 (d := 55) hC hk) ?_
  intro ua ha
  refine EI.mono (l_4 (d := 57) (w := ua) hN ha.1 hm1 hm 100 0 false 0 0 ua rfl ⟨fun e => (by cases e), fun _ _ => rfl, fun _ _ _ => rfl⟩ ⟨fun a b hab hb ho hn => (by omega), fun e => (by cases e)⟩) ?_
  intro x u2 hx
  obtain ⟨fo, bf, bt, hx1, hU, hW⟩ := hx
  have fr : ∀ a, a ≠ 107 → a ≠ 102 → u2 a = w a := fun a a1 a2 => by rw [hU.2.1 a a2]; exact ha.2.2.1 a a1 a2
  have hR2 : ARR u2 R A K := by
    unfold ARR
    rw [fr 110 (by decide) (by decide), fr 141 (by decide) (by decide), fr 143 (by decide) (by decide)]
    exact hR
  have hII : II u2 := by
    refine h.ss ⟨fun a ha2 => fr a (fun e => by rw [e] at ha2; cases ha2) (fun e => by rw [e] at ha2; cases ha2), ?_, ?_, ?_, ?_, ?_, ?_, ?_, ?_, ?_, ?_, ?_, ?_⟩
    all_goals first | rw [fr 0 (by decide) (by decide)] | rw [fr 1 (by decide) (by decide)] | rw [fr 110 (by decide) (by decide)] | exact (hU.2.2 6 (by decide) (by decide)).trans (ha.2.2.2 6 (by decide))
  have fin : ∀ z : Int32, (fo = true → (if r = 0 then nI bf else nI bt) = z) → (fo = false → kI (-2) = z) → CI X 60 242 [.ref 110, .int (nI kd), .int (nI many), .int r] u2 (fun y u3 => y = z ∧ II u3) := by
    intro z hz1 hz2
    refine t u2 _ ?_
    rw [if_neg (show ¬ F_157 (nI kd) (kI 0) (kI 9) u2 = 0 from h1), if_neg (show ¬ F_157 (nI many) (kI 1) (kI 20) u2 = 0 from h2), if_neg (show ¬ F_157 r (kI 0) (kI 1) u2 = 0 from h3)]
    exact l_242 (d := 57) hR2 hk hm hW (fun e => ⟨hz1 e, hII⟩) (fun e => ⟨hz2 e, hII⟩) 100 0 rfl (fun _ => Nat.zero_le _)
  rw [hx1]
  cases fo with
  | false =>
    rw [if_pos (show nI false.toNat = 0 from rfl)]
    exact fin _ (fun e => by cases e) (fun _ => rfl)
  | true =>
    rw [if_neg (show ¬ nI true.toNat = 0 by decide), (hU.1 rfl).1, (hU.1 rfl).2]
    by_cases hr : r = 0
    · rw [if_pos hr]
      exact fin _ (fun _ => if_pos hr) (fun e => by cases e)
    · rw [if_neg hr]
      exact fin _ (fun _ => if_neg hr) (fun e => by cases e)
end WINDOW
