/-! parsers, part 5: the reference's reader: its state, notes, waiting ones, numbers -/
section PARS5
abbrev Sk : Type := List (Nat × Nat)
def SKR (u : Wd) : Sk → Prop
  | [] => True
  | x :: l => u 119 l.length = nI (1048576 * x.1 + x.2) ∧ x.1 ≤ 15 ∧ x.2 < 1000 ∧ SKR u l
def CDR (u : Wd) (c : Cd) : Prop := u 110 16 = nI c.2.2 ∧ ∀ k, k < c.2.2 → u 118 k = nI (1048576 * c.1 k + c.2.1 k)
def GPr (w u : Wd) : Prop := (∀ a, a ≠ 110 → a ≠ 118 → a ≠ 119 → u a = w a) ∧ ∀ j, (j < 11 ∨ j = 12 ∨ 17 < j) → u 110 j = w 110 j
def wtS : Sk → Nat
  | [] => 0
  | x :: l => (if x.1 ≤ 10 then 1 else 0) + wtS l
def STr (w u : Wd) (ch : Nat → Nat) (n p : Nat) (c : Cd) (l : Sk) (o : Nat) : Prop := GPr w u ∧ TXR u ch n p ∧ CDR u c ∧ u 110 17 = nI l.length ∧ SKR u l ∧ u 110 15 = nI o ∧ o ≤ 6 ∧ c.2.2 + wtS l ≤ p ∧ l.length ≤ p ∧ n ≤ 240
theorem GPr.refl (w : Wd) : GPr w w := ⟨fun _ _ _ _ => rfl, fun _ _ => rfl⟩
theorem GPr.trans {w u v : Wd} (h : GPr w u) (g : GPr u v) : GPr w v := ⟨fun a h1 h2 h3 => (g.1 a h1 h2 h3).trans (h.1 a h1 h2 h3), fun j hj => (g.2 j hj).trans (h.2 j hj)⟩
theorem GPr.p {w u : Wd} {k : Nat} {v : Int32} (h : GPr w u) (hk : ¬ (k < 11 ∨ k = 12 ∨ 17 < k)) : GPr w (up2 u 110 k v) := ⟨fun a h1 h2 h3 => by rw [up2_ne h1]; exact h.1 a h1 h2 h3, fun j hj => by rw [up2_at, if_neg (fun e => hk (by rw [← e]; exact hj))]; exact h.2 j hj⟩
theorem GPr.q {w u : Wd} {a k : Nat} {v : Int32} (h : GPr w u) (ha : a = 118 ∨ a = 119) : GPr w (up2 u a k v) := ⟨fun b h1 h2 h3 => by rw [up2_ne (by omega)]; exact h.1 b h1 h2 h3, fun j hj => by rw [up2_ne (by omega)]; exact h.2 j hj⟩
theorem SKR.cg {u v : Wd} : ∀ {l : Sk}, SKR u l → (∀ k, k < l.length → v 119 k = u 119 k) → SKR v l
  | [], _, _ => trivial
  | x :: l, h, e => ⟨by rw [e l.length (by simp)]; exact h.1, h.2.1, h.2.2.1, SKR.cg h.2.2.2 (fun k hk => e k (by simp; omega))⟩
theorem sk_div {o v : Nat} (ho : o ≤ 15) (hv : v < 1000) : nI (1048576 * o + v) / kI 1048576 = nI o := by
  have h1 := pk_div (a := 1048576 * o + v) (d := 1048576) (by omega) (by decide) (by decide)
  rw [show (1048576 * o + v) / 1048576 = o by omega] at h1
  exact h1
theorem STr.ix {w u : Wd} {ch : Nat → Nat} {n p o : Nat} {c : Cd} {l : Sk} (h : STr w u ch n p c l o) : ¬ (u 110 12) ≤ (u 110 11) → (inB (u 110 11) 260 = true) := h.2.1.ix
theorem STr.pn {w u : Wd} {ch : Nat → Nat} {n p o : Nat} {c : Cd} {l : Sk} (h : STr w u ch n p c l o) : p ≤ n ∧ n ≤ 240 := ⟨h.2.1.2.2.2.1, h.2.2.2.2.2.2.2.2.2⟩
theorem STr.ix16 {w u : Wd} {ch : Nat → Nat} {n p o : Nat} {c : Cd} {l : Sk} (h : STr w u ch n p c l o) : inB (u 110 16) 260 = true := by
  have hp := h.pn
  obtain ⟨-, -, h3, -, -, -, -, h8, -⟩ := h
  rw [h3.1]
  exact inB_nI (by omega) (by decide)
theorem STr.ix17 {w u : Wd} {ch : Nat → Nat} {n p o : Nat} {c : Cd} {l : Sk} (h : STr w u ch n p c l o) : inB (u 110 17) 260 = true := by
  have hp := h.pn
  obtain ⟨-, -, -, h4, -, -, -, h8, h9, -⟩ := h
  rw [h4]
  exact inB_nI (by omega) (by decide)
theorem STr.ixt {w u : Wd} {ch : Nat → Nat} {n p o : Nat} {c : Cd} {l : Sk} (h : STr w u ch n p c l o) : ¬ (u 110 17) = 0 → inB ((u 110 17) - (kI 1)) 260 = true := by
  have hp := h.pn
  obtain ⟨-, -, -, h4, -, -, -, h8, h9, -⟩ := h
  rw [h4]
  intro e
  have h0 : l.length ≠ 0 := fun e2 => e (by rw [e2]; rfl)
  rw [show nI l.length - kI 1 = nI (l.length - 1) from pk_sub (b := 1) (by omega)]
  exact inB_nI (by omega) (by decide)
theorem STr.top0 {w u : Wd} {ch : Nat → Nat} {n p o : Nat} {c : Cd} (h : STr w u ch n p c [] o) : F_182_110 u = kI (-1) := by
  unfold F_182_110
  rw [h.2.2.2.1]
  exact if_pos rfl
theorem STr.top {w u : Wd} {ch : Nat → Nat} {n p o : Nat} {c : Cd} {x : Nat × Nat} {l : Sk} (h : STr w u ch n p c (x :: l) o) : F_182_110 u = nI x.1 := by
  have hp := h.pn
  obtain ⟨-, -, -, h4, h5, -, -, h8, h9, -⟩ := h
  have e : (x :: l).length = l.length + 1 := rfl
  rw [e] at h4 h9
  unfold F_182_110
  rw [h4, if_neg (fun e2 => by rw [nI_z (by omega)] at e2; omega), show nI (l.length + 1) - kI 1 = nI l.length from pk_sub (b := 1) (by omega), nI_clamp (by omega), h5.1]
  exact sk_div h5.2.1 h5.2.2.1
theorem g180_c {u : Wd} {c : Cd} {o v : Nat} (h : CDR u c) (hl : c.2.2 < 2 ^ 31) : CDR (G_180_110 (nI o) (nI v) u) (emit c o v) := by
  unfold G_180_110
  rw [h.1, nI_clamp hl, k1, show kI 1048576 * nI o = nI (1048576 * o) from pk_mul 1048576 o, nI_add]
  refine ⟨by rw [up2_at, if_pos rfl]; rfl, fun k hk => ?_⟩
  have hk2 : k < c.2.2 + 1 := hk
  rw [up2_ne (by decide), up2_at]
  show _ = nI (1048576 * updN c.1 c.2.2 o k + updN c.2.1 c.2.2 v k)
  unfold updN
  by_cases e : k = c.2.2
  · rw [if_pos e, if_pos e, if_pos e]
  · rw [if_neg e, if_neg e, if_neg e]; exact h.2 k (by omega)
theorem g180_110 {u : Wd} {a b : Int32} {j : Nat} (hj : j ≠ 16) : G_180_110 a b u 110 j = u 110 j := by
  unfold G_180_110
  rw [up2_at, if_neg hj, up2_ne (by decide)]
theorem g180_ne {u : Wd} {a b : Int32} {x : Nat} (h1 : x ≠ 110) (h2 : x ≠ 118) : G_180_110 a b u x = u x := by
  unfold G_180_110
  rw [up2_ne h1, up2_ne h2]
theorem g180_gp {w u : Wd} {a b : Int32} (h : GPr w u) : GPr w (G_180_110 a b u) := GPr.p (GPr.q h (Or.inl rfl)) (by omega)
theorem CDR.cg {u v : Wd} {c : Cd} (h : CDR u c) (e6 : v 110 16 = u 110 16) (e : v 118 = u 118) : CDR v c := by
  unfold CDR at h ⊢
  rw [e6, e]
  exact h
/-- a note -/
theorem STr.note {w u : Wd} {ch : Nat → Nat} {n p o a v : Nat} {c : Cd} {l : Sk} (h : STr w u ch n p c l o) (hl : c.2.2 + wtS l < p) : STr w (G_180_110 (nI a) (nI v) u) ch n p (emit c a v) l o := by
  have hp := h.pn
  obtain ⟨h1, h2, h3, h4, h5, h6, h7, h8, h9, h10⟩ := h
  refine ⟨g180_gp h1, h2.cg (g180_110 (by decide)) (g180_110 (by decide)) (g180_ne (by decide) (by decide)), g180_c h3 (by omega), by rw [g180_110 (by decide)]; exact h4, h5.cg (fun k _ => by rw [g180_ne (by decide) (by decide)]), by rw [g180_110 (by decide)]; exact h6, h7, ?_, h9, h10⟩
  show c.2.2 + 1 + wtS l ≤ p
  omega
/-- the topmost one that waits is noted -/
theorem STr.pop {w u : Wd} {ch : Nat → Nat} {n p o : Nat} {c : Cd} {x : Nat × Nat} {l : Sk} (h : STr w u ch n p c (x :: l) o) (hx : x.1 ≤ 10) : STr w (up2 (G_180_110 (F_182_110 u) (kI 0) u) 110 17 (((G_180_110 (F_182_110 u) (kI 0) u) 110 17) - (kI 1))) ch n p (emit c x.1 0) l o := by
  have hp := h.pn
  have ht := h.top
  obtain ⟨h1, h2, h3, h4, h5, h6, h7, h8, h9, h10⟩ := h
  have e : (x :: l).length = l.length + 1 := rfl
  have ew : wtS (x :: l) = 1 + wtS l := by show (if x.1 ≤ 10 then 1 else 0) + wtS l = _; rw [if_pos hx]
  rw [e] at h4 h9
  rw [ew] at h8
  rw [ht, kI_0, g180_110 (by decide), h4, show nI (l.length + 1) - kI 1 = nI l.length from pk_sub (b := 1) (by omega)]
  refine ⟨(g180_gp h1).p (by omega), h2.cg (by rw [up2_at, if_neg (by decide), g180_110 (by decide)]) (by rw [up2_at, if_neg (by decide), g180_110 (by decide)]) (by rw [up2_ne (by decide), g180_ne (by decide) (by decide)]), (g180_c h3 (by omega)).cg (by rw [up2_at, if_neg (by decide)]) (up2_ne (by decide)), by rw [up2_at, if_pos rfl], h5.2.2.2.cg (fun k _ => by rw [up2_ne (by decide), g180_ne (by decide) (by decide)]), by rw [up2_at, if_neg (by decide), g180_110 (by decide)]; exact h6, h7, ?_, by omega, h10⟩
  show c.2.2 + 1 + wtS l ≤ p
  omega
theorem STr.step {w u : Wd} {ch : Nat → Nat} {n p o : Nat} {c : Cd} {l : Sk} (h : STr w u ch n p c l o) (hp : ch p < 256) : STr w (up2 u 110 11 ((u 110 11) + (kI 1))) ch n (p + 1) c l o := by
  obtain ⟨h1, h2, h3, h4, h5, h6, h7, h8, h9, h10⟩ := h
  exact ⟨h1.p (by omega), h2.step hp, h3.cg (by rw [up2_at, if_neg (by decide)]) (up2_ne (by decide)), by rw [up2_at, if_neg (by decide)]; exact h4, h5.cg (fun k _ => by rw [up2_ne (by decide)]), by rw [up2_at, if_neg (by decide)]; exact h6, h7, by omega, by omega, h10⟩
theorem STr.f14 {w u : Wd} {ch : Nat → Nat} {n p o : Nat} {c : Cd} {l : Sk} {v : Int32} (h : STr w u ch n p c l o) : STr w (up2 u 110 14 v) ch n p c l o := by
  obtain ⟨h1, h2, h3, h4, h5, h6, h7, h8, h9, h10⟩ := h
  exact ⟨h1.p (by omega), h2.cg (by rw [up2_at, if_neg (by decide)]) (by rw [up2_at, if_neg (by decide)]) (up2_ne (by decide)), h3.cg (by rw [up2_at, if_neg (by decide)]) (up2_ne (by decide)), by rw [up2_at, if_neg (by decide)]; exact h4, h5.cg (fun k _ => by rw [up2_ne (by decide)]), by rw [up2_at, if_neg (by decide)]; exact h6, h7, h8, h9, h10⟩
theorem STr.fail {w u : Wd} {ch : Nat → Nat} {n p o : Nat} {c : Cd} {l : Sk} (h : STr w u ch n p c l o) (k : Int32) : GPr w (G_177_110 k (u 110 11) u) ∧ (G_177_110 k (u 110 11) u) 110 13 = flt k p := by
  rw [h.2.1.fail]
  exact ⟨h.1.p (by omega), by rw [up2_at, if_pos rfl]⟩
/-- one more waits, behind one sign -/
theorem STr.push {w u : Wd} {ch : Nat → Nat} {n p o a : Nat} {c : Cd} {l : Sk} (h : STr w u ch n p c l o) (hp : ch p < 256) (ha : a ≤ 15) : STr w (up2 (up2 (up2 u 119 (u 110 17).toNatClampNeg ((kI 1048576) * nI a)) 110 17 ((u 110 17) + (kI 1))) 110 11 ((u 110 11) + (kI 1))) ch n (p + 1) c ((a, 0) :: l) o := by
  have hpn := h.pn
  obtain ⟨h1, h2, h3, h4, h5, h6, h7, h8, h9, h10⟩ := h
  rw [h4, nI_clamp (by omega), k1, show kI 1048576 * nI a = nI (1048576 * a) from pk_mul 1048576 a]
  have t2 : TXR (up2 (up2 u 119 l.length (nI (1048576 * a))) 110 17 (nI (l.length + 1))) ch n p := h2.cg (by rw [up2_at, if_neg (by decide), up2_ne (by decide)]) (by rw [up2_at, if_neg (by decide), up2_ne (by decide)]) (by rw [up2_ne (by decide), up2_ne (by decide)])
  have t3 := t2.step hp
  rw [up2_at, if_neg (by decide), up2_ne (by decide)] at t3
  refine ⟨((h1.q (Or.inr rfl)).p (by omega)).p (by omega), t3, h3.cg (by rw [up2_at, if_neg (by decide), up2_at, if_neg (by decide), up2_ne (by decide)]) (by rw [up2_ne (by decide), up2_ne (by decide), up2_ne (by decide)]), by rw [up2_at, if_neg (by decide), up2_at, if_pos rfl]; rfl, ⟨?_, ha, (by show 0 < 1000; decide), h5.cg (fun k hk => ?_)⟩, by rw [up2_at, if_neg (by decide), up2_at, if_neg (by decide), up2_ne (by decide)]; exact h6, h7, ?_, by show l.length + 1 ≤ p + 1; omega, h10⟩
  · rw [up2_ne (by decide), up2_ne (by decide), up2_at, if_pos rfl]
    rfl
  · rw [up2_ne (by decide), up2_ne (by decide), up2_at, if_neg (by omega)]
  · show c.2.2 + ((if a ≤ 10 then 1 else 0) + wtS l) ≤ p + 1
    have : (if a ≤ 10 then 1 else 0) ≤ 1 := by split <;> omega
    omega
/-! those that wait with products (and sums) are noted -/
def flu (b : Bool) : Sk → Cd → Cd × Sk
  | [], c => (c, [])
  | x :: l, c => if (4 ≤ x.1 ∨ (b = true ∧ 2 ≤ x.1)) ∧ x.1 ≤ 6 then flu b l (emit c x.1 0) else (c, x :: l)
theorem l_185 {X : Scr} {d n p o : Nat} {w : Wd} {ch : Nat → Nat} {Q : Wd → Prop} (b : Bool) : ∀ (l : Sk) (c : Cd) (u : Wd), STr w u ch n p c l o → (∀ u2, STr w u2 ch n p (flu b l c).1 (flu b l c).2 o → Q u2) → EU X (d + 1) 185 (0, [some (.ref 110), some (.int (if b then kI 1 else kI 0))], [], SH, u) Q := by
  intro l
  induction l with
  | nil =>
    intro c u h q
    refine t185_110_at0 u _ ⟨h.ixt, ?_⟩
    rw [h.top0, if_pos (by decide)]
    cases b with
    | false => rw [if_pos (by decide)]; exact q u h
    | true =>
      rw [if_neg (by decide)]
      refine ⟨h.ixt, ?_⟩
      rw [if_neg (by decide)]
      refine ⟨h.ixt, ?_⟩
      rw [if_neg (by decide)]
      exact q u h
  | cons x l ih =>
    intro c u h q
    have h15 : x.1 ≤ 15 := h.2.2.2.2.1.2.1
    have ht := h.top
    have hpop : (4 ≤ x.1 ∨ (b = true ∧ 2 ≤ x.1)) ∧ x.1 ≤ 6 → (¬ (u 110 17) = 0 → (inB ((u 110 17) - (kI 1)) 260 = true)) ∧ (((inB (u 110 16) 260 = true)) ∧ EU X (d + 1) 185 (0, [some (.ref 110), some (.int (if b then kI 1 else kI 0))], [], SH, (up2 (G_180_110 (F_182_110 u) (kI 0) u) 110 17 (((G_180_110 (F_182_110 u) (kI 0) u) 110 17) - (kI 1)))) Q) := by
      intro hx
      refine ⟨h.ixt, h.ix16, ih _ _ (h.pop (by omega)) ?_⟩
      unfold flu at q
      rw [if_pos hx] at q
      exact q
    have hend : ¬ ((4 ≤ x.1 ∨ (b = true ∧ 2 ≤ x.1)) ∧ x.1 ≤ 6) → Q u := by
      intro hx
      unfold flu at q
      rw [if_neg hx] at q
      exact q u h
    refine t185_110_at0 u _ ⟨h.ixt, ?_⟩
    by_cases h4 : x.1 < 4
    · rw [if_pos (by rw [ht]; exact nI_lt (b := 4) h4 (by decide))]
      cases b with
      | false => rw [if_pos (by decide)]; exact hend (by simp; omega)
      | true =>
        rw [if_neg (by decide)]
        refine ⟨h.ixt, ?_⟩
        by_cases h2 : x.1 = 2
        · rw [if_pos (by rw [ht, h2]; rfl)]; exact hpop ⟨Or.inr ⟨rfl, by omega⟩, by omega⟩
        · rw [if_neg (by rw [ht]; exact ne_nI (b := 2) (by omega) (by decide) h2)]
          refine ⟨h.ixt, ?_⟩
          by_cases h3 : x.1 = 3
          · rw [if_pos (by rw [ht, h3]; rfl)]; exact hpop ⟨Or.inr ⟨rfl, by omega⟩, by omega⟩
          · rw [if_neg (by rw [ht]; exact ne_nI (b := 3) (by omega) (by decide) h3)]
            exact hend (by omega)
    · rw [if_neg (by rw [ht]; exact nI_nlt (b := 4) (by omega) (by omega))]
      refine ⟨h.ixt, ?_⟩
      by_cases h6 : x.1 ≤ 6
      · rw [if_pos (by rw [ht]; exact nI_le (b := 6) h6 (by decide))]; exact hpop ⟨Or.inl (by omega), h6⟩
      · rw [if_neg (by rw [ht]; exact nI_ge (b := x.1) (a := 6) (by omega) (by omega))]
        cases b with
        | false => rw [if_pos (by decide)]; exact hend (by omega)
        | true =>
          rw [if_neg (by decide)]
          refine ⟨h.ixt, ?_⟩
          rw [if_neg (by rw [ht]; exact ne_nI (b := 2) (by omega) (by decide) (by omega))]
          refine ⟨h.ixt, ?_⟩
          rw [if_neg (by rw [ht]; exact ne_nI (b := 3) (by omega) (by decide) (by omega))]
          exact hend (by omega)
theorem c_185 {X : Scr} {d n p o : Nat} {w u : Wd} {ch : Nat → Nat} {Q : Wd → Prop} {b : Bool} {v1 : Int32} {l : Sk} {c : Cd} (hv : v1 = if b then kI 1 else kI 0) (h : STr w u ch n p c l o) (q : ∀ u2, STr w u2 ch n p (flu b l c).1 (flu b l c).2 o → Q u2) : CU X (d + 2) 185 [.ref 110, .int v1] u Q := by
  subst hv
  exact CU.of rfl (l_185 (d := d) b l c u h q)
/-! an open sum among those that wait -/
theorem l_187 {X : Scr} {d K B : Nat} {u : Wd} {Q : Int32 → Wd → Prop} (hK : u 110 17 = nI K) (hK2 : K ≤ 260) : ∀ (m i : Nat), i + m = K → ((∃ j, i ≤ j ∧ j < K ∧ (u 119 j) / (kI 1048576) = kI 14) → Q (kI 1) u) → ((∀ j, i ≤ j → j < K → ¬ (u 119 j) / (kI 1048576) = kI 14) → Q (kI 0) u) → EI X (d + 1) 187 (2, [some (.ref 110), some (.int (nI B)), some (.int (nI i))], [], SH, u) Q := by
  intro m
  induction m with
  | zero =>
    intro i hi q1 q0
    refine t187_110_at2 u _ _ ?_
    rw [hK, if_pos (nI_le (by omega) (by omega))]
    exact q0 (fun j h1 h2 => by omega)
  | succ m ih =>
    intro i hi q1 q0
    refine t187_110_at2 u _ _ ?_
    rw [hK, if_neg (nI_ge (by omega) (by omega))]
    refine ⟨inB_nI (by omega) (by decide), ?_⟩
    rw [nI_clamp (by omega), k1]
    by_cases h14 : (u 119 i) / (kI 1048576) = kI 14
    · rw [if_pos h14]; exact q1 ⟨i, Nat.le_refl _, by omega, h14⟩
    · rw [if_neg h14]
      refine ih (i + 1) (by omega) (fun e => ?_) (fun e => q0 (fun j h1 h2 => ?_))
      · obtain ⟨j, h1, h2, h3⟩ := e; exact q1 ⟨j, by omega, h2, h3⟩
      · by_cases e2 : j = i
        · rw [e2]; exact h14
        · exact e j (by omega) h2
theorem c_187 {X : Scr} {d K B : Nat} {u : Wd} {Q : Int32 → Wd → Prop} (hK : u 110 17 = nI K) (hK2 : K ≤ 260) (hB : B ≤ K) (q1 : (∃ j, B ≤ j ∧ j < K ∧ (u 119 j) / (kI 1048576) = kI 14) → Q (kI 1) u) (q0 : (∀ j, B ≤ j → j < K → ¬ (u 119 j) / (kI 1048576) = kI 14) → Q (kI 0) u) : CI X (d + 2) 187 [.ref 110, .int (nI B)] u Q :=
  CI.of rfl (t187_110_at0 (d := d) u _ (l_187 hK hK2 (K - B) B (by omega) q1 q0))
/-! numbers -/
theorem l_179 {X : Scr} {d n p0 o : Nat} {w : Wd} {ch : Nat → Nat} {c : Cd} {l : Sk} {Q : Int32 → Wd → Prop} :
    ∀ (m p k v : Nat) (u : Wd), k + m = 5 → p = p0 + k → v < 10 ^ k → STr w u ch n p c l o → u 110 14 = nI v → (∀ x q, rdN ch m p v = .inr (x, q) → ∀ u2 : Wd, STr w u2 ch n q c l o → u2 110 14 = nI x → Q (kI 1) u2) → (∀ q, rdN ch m p v = .inl q → ∀ u2 : Wd, GPr w u2 → u2 110 13 = flt (kI 2) q → Q (kI 0) u2) → EI X (d + 2) 179 (10, [some (.ref 110), some (.int (nI p0))], [], SH, u) Q := by
  intro m
  induction m with
  | zero =>
    intro p k v u hk hpk hv hT h4 q1 q2
    refine t179_110_at10 u _ ⟨hT.ix, fun _ => hT.ix, ?_⟩
    unfold rdN at q1 q2
    have hpn := hT.pn
    by_cases hd : isD (ch p) = true
    · rw [if_neg (by rw [hT.2.1.dg, hd]; decide), if_pos (by rw [hT.2.1.2.1, hpk, show k = 5 by omega]; exact (nI_add p0 5).symm)]
      rw [if_pos hd] at q2
      exact q2 p rfl _ (hT.fail _).1 (hT.fail _).2
    · have hd2 : isD (ch p) = false := by simpa using hd
      rw [if_pos (hT.2.1.dg.mpr hd2)]
      rw [if_neg hd] at q1
      exact q1 v p rfl u hT h4
  | succ m ih =>
    intro p k v u hk hpk hv hT h4 q1 q2
    have hpk4 : 10 ^ k ≤ 10 ^ 4 := Nat.pow_le_pow_right (by decide) (by omega)
    refine t179_110_at10 u _ ⟨hT.ix, fun _ => hT.ix, ?_⟩
    unfold rdN at q1 q2
    have hpn := hT.pn
    by_cases hd : isD (ch p) = true
    · have hd2 := isD_iff.mp hd
      rw [if_neg (by rw [hT.2.1.dg, hd]; decide), if_neg (by rw [hT.2.1.2.1, show nI p0 + kI 5 = nI (p0 + 5) from nI_add p0 5]; exact ne_nI (by omega) (by omega) (by omega))]
      rw [if_pos hd] at q1 q2
      refine ⟨hT.ix, ?_⟩
      have e : ((kI 10 * (u 110 14)) + F_175_110 u) - (kI 48) = nI (v * 10 + (ch p - 48)) := by
        rw [h4, hT.2.1.sg, enC_lt (by omega), show kI 10 * nI v = nI (10 * v) from pk_mul 10 v, nI_add, show nI (10 * v + ch p) - kI 48 = nI (10 * v + ch p - 48) from pk_sub (b := 48) (by omega)]
        congr 1
        omega
      rw [e]
      have s2 := (hT.f14 (v := nI (v * 10 + (ch p - 48)))).step (by omega)
      rw [up2_at, if_neg (by decide)] at s2
      refine ih (p + 1) (k + 1) _ _ (by omega) (by omega) ?_ s2 (by rw [up2_at, if_neg (by decide), up2_at, if_pos rfl]) q1 q2
      rw [Nat.pow_succ]
      omega
    · have hd2 : isD (ch p) = false := by simpa using hd
      rw [if_pos (hT.2.1.dg.mpr hd2)]
      rw [if_neg hd] at q1
      exact q1 v p rfl u hT h4
theorem c_179 {X : Scr} {d n p o : Nat} {w u : Wd} {ch : Nat → Nat} {c : Cd} {l : Sk} {Q : Int32 → Wd → Prop} (h : STr w u ch n p c l o) (q1 : ∀ x q, rdN ch 5 p 0 = .inr (x, q) → ∀ u2 : Wd, STr w u2 ch n q c l o → u2 110 14 = nI x → Q (kI 1) u2) (q2 : ∀ q, rdN ch 5 p 0 = .inl q → ∀ u2 : Wd, GPr w u2 → u2 110 13 = flt (kI 2) q → Q (kI 0) u2) : CI X (d + 3) 179 [.ref 110] u Q := by
  refine CI.of rfl (t179_110_at0 (d := d) u ?_)
  rw [h.2.1.2.1]
  exact l_179 (d := d) 5 p 0 0 _ (by decide) rfl (by decide) h.f14 (by rw [up2_at, if_pos rfl]; rfl) q1 q2
end PARS5
