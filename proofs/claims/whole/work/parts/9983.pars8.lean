/-! parsers, part 8: the reference's nots, jumps and landings -/
section PARS8
def LNs (l : Sk) : Prop := ∀ x t, l = x :: t → 10 < x.1
def LAs (l : Sk) : Prop := ∀ x t, l = x :: t → 11 < x.1
def LJs (l : Sk) : Prop := ∀ x t, l = x :: t → 12 < x.1
theorem LNs.t {l : Sk} (h : LNs l) : LTs l := fun x t e => by have := h x t e; omega
theorem LAs.n {l : Sk} (h : LAs l) : LNs l := fun x t e => by have := h x t e; omega
theorem LJs.a {l : Sk} (h : LJs l) : LAs l := fun x t e => by have := h x t e; omega
def NTs : Nat → Sk → Sk
  | 0, l => l
  | j + 1, l => (10, 0) :: NTs j l
def nts : Nat → Cd → Cd
  | 0, c => c
  | j + 1, c => nts j (emit c 10 0)
theorem NTs.t {l : Sk} (h : LNs l) : ∀ j, LTs (NTs j l)
  | 0 => h.t
  | j + 1 => fun x t e => by cases e; decide
theorem NTs.s {l : Sk} : ∀ j, NTs j ((10, 0) :: l) = NTs (j + 1) l
  | 0 => rfl
  | j + 1 => by show (10, 0) :: NTs j ((10, 0) :: l) = (10, 0) :: NTs (j + 1) l; rw [NTs.s j]
theorem STr.popN {w u : Wd} {ch : Nat → Nat} {n p o : Nat} {c : Cd} {l : Sk} (h : STr w u ch n p c ((10, 0) :: l) (o + 1)) : STr w (up2 (up2 (G_180_110 (kI 10) (kI 0) u) 110 17 (((G_180_110 (kI 10) (kI 0) u) 110 17) - (kI 1))) 110 15 (((G_180_110 (kI 10) (kI 0) u) 110 15) - (kI 1))) ch n p (emit c 10 0) l o := by
  have h6 := h.2.2.2.2.2.1
  have h7 := h.2.2.2.2.2.2.1
  have s := h.pop (by decide)
  rw [h.top] at s
  have s2 := s.f15 (o2 := o) (by omega)
  have e : ((G_180_110 (kI 10) (kI 0) u) 110 15) - (kI 1) = nI o := by
    rw [g180_110 (by decide), h6]
    exact pk_sub (b := 1) (by omega)
  rw [e]
  exact s2
theorem l_189 {X : Scr} {d n p o : Nat} {w : Wd} {ch : Nat → Nat} {l : Sk} {Q : Wd → Prop} (hL : LNs l) : ∀ (j : Nat) (c : Cd) (u : Wd), STr w u ch n p c (NTs j l) (o + j) → (∀ u2, STr w u2 ch n p (nts j c) l o → Q u2) → EU X (d + 1) 189 (0, [some (.ref 110)], [], SH, u) Q := by
  intro j
  induction j with
  | zero =>
    intro c u h q
    refine t189_110_at0 u ⟨h.ixt, ?_⟩
    have e : ¬ F_182_110 u = kI 10 := by
      cases l with
      | nil => rw [STr.top0 h]; decide
      | cons x t =>
        have h1 := hL x t rfl
        have h15 : x.1 ≤ 15 := h.2.2.2.2.1.2.1
        rw [STr.top h]
        exact ne_nI (b := 10) (by omega) (by decide) (by omega)
    rw [if_neg e]
    exact q u h
  | succ j ih =>
    intro c u h q
    refine t189_110_at0 u ⟨h.ixt, ?_⟩
    have h2 : STr w u ch n p c ((10, 0) :: NTs j l) (o + j + 1) := h
    rw [if_pos (by rw [h2.top]; rfl)]
    exact ⟨h.ix16, ih _ _ h2.popN q⟩
theorem c_189 {X : Scr} {d n p o j : Nat} {w u : Wd} {ch : Nat → Nat} {l : Sk} {c : Cd} {Q : Wd → Prop} (hL : LNs l) (h : STr w u ch n p c (NTs j l) (o + j)) (q : ∀ u2, STr w u2 ch n p (nts j c) l o → Q u2) : CU X (d + 2) 189 [.ref 110] u Q :=
  CU.of rfl (l_189 (d := d) hL j c u h q)
/-! landings -/
def fll (b : Bool) : Sk → Cd → Cd × Sk
  | [], c => (c, [])
  | x :: l, c => if x.1 = 11 ∨ (b = true ∧ x.1 = 12) then fll b l (land c x.2) else (c, x :: l)
def JOk (b : Bool) : Sk → Cd → Prop
  | [], _ => True
  | x :: l, c => if x.1 = 11 ∨ (b = true ∧ x.1 = 12) then (x.2 < c.2.2 ∧ c.1 x.2 ≤ 15 ∧ c.2.1 x.2 < 1000) ∧ JOk b l (land c x.2) else True
theorem sk_rem {o v : Nat} (ho : o ≤ 15) (hv : v < 1000) : nI (1048576 * o + v) - nI (1048576 * o + v) / kI 1048576 * kI 1048576 = nI v := by
  have h2 := pk_rem (a := 1048576 * o + v) (d := 1048576) (by omega) (by decide) (by decide)
  rw [show (1048576 * o + v) % 1048576 = v by omega] at h2
  exact h2
theorem STr.at {w u : Wd} {ch : Nat → Nat} {n p o : Nat} {c : Cd} {x : Nat × Nat} {l : Sk} (h : STr w u ch n p c (x :: l) o) : (u 119 ((u 110 17) - (kI 1)).toNatClampNeg) - (u 119 ((u 110 17) - (kI 1)).toNatClampNeg) / (kI 1048576) * (kI 1048576) = nI x.2 ∧ (u 110 17) - (kI 1) = nI l.length := by
  have hp := h.pn
  obtain ⟨-, -, -, h4, h5, -, -, h8, h9, -⟩ := h
  have e : (x :: l).length = l.length + 1 := rfl
  rw [e] at h4 h9
  rw [h4, show nI (l.length + 1) - kI 1 = nI l.length from pk_sub (b := 1) (by omega), nI_clamp (by omega), h5.1]
  exact ⟨sk_rem h5.2.1 h5.2.2.1, rfl⟩
theorem STr.land {w u : Wd} {ch : Nat → Nat} {n p o : Nat} {c : Cd} {x : Nat × Nat} {l : Sk} (h : STr w u ch n p c (x :: l) o) (hj : x.2 < c.2.2 ∧ c.1 x.2 ≤ 15 ∧ c.2.1 x.2 < 1000) : STr w (up2 (up2 u 118 (nI x.2).toNatClampNeg (((kI 1048576) * ((u 118 (nI x.2).toNatClampNeg) / (kI 1048576))) + (u 110 16))) 110 17 (nI l.length)) ch n p (land c x.2) l o := by
  have hp := h.pn
  obtain ⟨h1, h2, h3, h4, h5, h6, h7, h8, h9, h10⟩ := h
  have e : (x :: l).length = l.length + 1 := rfl
  have ew : wtS (x :: l) = (if x.1 ≤ 10 then 1 else 0) + wtS l := rfl
  rw [e] at h9
  rw [nI_clamp (by omega), h3.2 x.2 hj.1, sk_div hj.2.1 hj.2.2, h3.1, show kI 1048576 * nI (c.1 x.2) = nI (1048576 * c.1 x.2) from pk_mul 1048576 _, nI_add]
  refine ⟨(h1.q (Or.inl rfl)).p (by omega), h2.cg (by rw [up2_at, if_neg (by decide), up2_ne (by decide)]) (by rw [up2_at, if_neg (by decide), up2_ne (by decide)]) (by rw [up2_ne (by decide), up2_ne (by decide)]), ⟨by rw [up2_at, if_neg (by decide), up2_ne (by decide)]; exact h3.1, fun k hk => ?_⟩, by rw [up2_at, if_pos rfl], h5.2.2.2.cg (fun k _ => by rw [up2_ne (by decide), up2_ne (by decide)]), by rw [up2_at, if_neg (by decide), up2_ne (by decide)]; exact h6, h7, by show c.2.2 + wtS l ≤ p; omega, by omega, h10⟩
  rw [up2_ne (by decide), up2_at]
  show _ = nI (1048576 * c.1 k + updN c.2.1 x.2 c.2.2 k)
  unfold updN
  by_cases ek : k = x.2
  · rw [if_pos ek, if_pos ek, ek]
  · rw [if_neg ek, if_neg ek]; exact h3.2 k hk
theorem l_190 {X : Scr} {d n p o : Nat} {w : Wd} {ch : Nat → Nat} {Q : Wd → Prop} (b : Bool) : ∀ (l : Sk) (c : Cd) (u : Wd), STr w u ch n p c l o → JOk b l c → (∀ u2, STr w u2 ch n p (fll b l c).1 (fll b l c).2 o → Q u2) → EU X (d + 1) 190 (0, [some (.ref 110), some (.int (if b then kI 1 else kI 0)), none], [], SH, u) Q := by
  intro l
  induction l with
  | nil =>
    intro c u h _ q
    refine t190_110_at0 u _ ⟨h.ixt, ?_⟩
    rw [h.top0, if_neg (by decide)]
    cases b with
    | false => rw [if_pos (by decide)]; exact q u h
    | true =>
      rw [if_neg (by decide)]
      refine ⟨h.ixt, ?_⟩
      rw [if_neg (by decide)]
      exact q u h
  | cons x l ih =>
    intro c u h hJ q
    have hp := h.pn
    have h15 : x.1 ≤ 15 := h.2.2.2.2.1.2.1
    have h8 := h.2.2.2.2.2.2.2.1
    have ht := h.top
    have ha := h.at
    have hl9 : l.length + 1 ≤ p := h.2.2.2.2.2.2.2.2.1
    refine t190_110_at0 u _ ⟨h.ixt, ?_⟩
    rw [ha.1, ha.2]
    have hend : ¬ (x.1 = 11 ∨ (b = true ∧ x.1 = 12)) → Q u := by
      intro hx
      unfold fll at q
      rw [if_neg hx] at q
      exact q u h
    have hpop : (x.1 = 11 ∨ (b = true ∧ x.1 = 12)) → (inB (nI l.length) 260 = true ∧ (inB (nI x.2) 260 = true ∧ (inB (nI x.2) 260 = true ∧ EU X (d + 1) 190 (0, [some (.ref 110), some (.int (if b then kI 1 else kI 0)), none], [], SH, (up2 (up2 u 118 (nI x.2).toNatClampNeg (((kI 1048576) * ((u 118 (nI x.2).toNatClampNeg) / (kI 1048576))) + (u 110 16))) 110 17 (nI l.length))) Q))) := by
      intro hx
      unfold JOk at hJ
      rw [if_pos hx] at hJ
      unfold fll at q
      rw [if_pos hx] at q
      have hi : inB (nI x.2) 260 = true := inB_nI (by omega) (by decide)
      exact ⟨inB_nI (by omega) (by decide), hi, hi, ih _ _ (h.land hJ.1) hJ.2 q⟩
    by_cases h11 : x.1 = 11
    · rw [if_pos (by rw [ht, h11]; rfl)]
      exact hpop (Or.inl h11)
    · rw [if_neg (by rw [ht]; exact ne_nI (b := 11) (by omega) (by decide) h11)]
      cases b with
      | false => rw [if_pos (by decide)]; exact hend (by simp; omega)
      | true =>
        rw [if_neg (by decide)]
        refine ⟨fun _ => inB_nI (by omega) (by decide), ?_⟩
        by_cases h12 : x.1 = 12
        · rw [if_pos (by rw [ht, h12]; rfl)]
          exact hpop (Or.inr ⟨rfl, h12⟩)
        · rw [if_neg (by rw [ht]; exact ne_nI (b := 12) (by omega) (by decide) h12)]
          exact hend (by omega)
theorem c_190 {X : Scr} {d n p o : Nat} {w u : Wd} {ch : Nat → Nat} {Q : Wd → Prop} {b : Bool} {v1 : Int32} {l : Sk} {c : Cd} (hv : v1 = if b then kI 1 else kI 0) (h : STr w u ch n p c l o) (hJ : JOk b l c) (q : ∀ u2, STr w u2 ch n p (fll b l c).1 (fll b l c).2 o → Q u2) : CU X (d + 2) 190 [.ref 110, .int v1] u Q := by
  subst hv
  exact CU.of rfl (l_190 (d := d) b l c u h hJ q)
/-- a jump, behind one sign -/
theorem STr.jmp {w u : Wd} {ch : Nat → Nat} {n p o a : Nat} {c : Cd} {l : Sk} (h : STr w u ch n p c l o) (hz : ch p < 256) (ha : 10 < a) (ha2 : a ≤ 15) : STr w (G_191_110 (nI a) u) ch n (p + 1) (emit c a 0) ((a, c.2.2) :: l) o := by
  have hp := h.pn
  obtain ⟨h1, h2, h3, h4, h5, h6, h7, h8, h9, h10⟩ := h
  unfold G_191_110
  rw [h4, h3.1, nI_clamp (by omega), k1, show kI 1048576 * nI a = nI (1048576 * a) from pk_mul 1048576 a, nI_add, kI_0]
  have t2 : TXR (up2 (up2 u 119 l.length (nI (1048576 * a + c.2.2))) 110 17 (nI (l.length + 1))) ch n p := h2.cg (by rw [up2_at, if_neg (by decide), up2_ne (by decide)]) (by rw [up2_at, if_neg (by decide), up2_ne (by decide)]) (by rw [up2_ne (by decide), up2_ne (by decide)])
  have c2 : CDR (up2 (up2 u 119 l.length (nI (1048576 * a + c.2.2))) 110 17 (nI (l.length + 1))) c := h3.cg (by rw [up2_at, if_neg (by decide), up2_ne (by decide)]) (by rw [up2_ne (by decide), up2_ne (by decide)])
  have t3 : TXR (G_180_110 (nI a) (nI 0) (up2 (up2 u 119 l.length (nI (1048576 * a + c.2.2))) 110 17 (nI (l.length + 1)))) ch n p := t2.cg (g180_110 (by decide)) (g180_110 (by decide)) (g180_ne (by decide) (by decide))
  refine ⟨(g180_gp ((h1.q (Or.inr rfl)).p (by omega))).p (by omega), t3.step hz, (g180_c c2 (by omega)).cg (by rw [up2_at, if_neg (by decide)]) (up2_ne (by decide)), by rw [up2_at, if_neg (by decide), g180_110 (by decide), up2_at, if_pos rfl]; rfl, ⟨?_, ha2, by show c.2.2 < 1000; omega, h5.cg (fun k hk => ?_)⟩, by rw [up2_at, if_neg (by decide), g180_110 (by decide), up2_at, if_neg (by decide), up2_ne (by decide)]; exact h6, h7, ?_, by show l.length + 1 ≤ p + 1; omega, h10⟩
  · rw [up2_ne (by decide), g180_ne (by decide) (by decide), up2_ne (by decide), up2_at, if_pos rfl]
  · rw [up2_ne (by decide), g180_ne (by decide) (by decide), up2_ne (by decide), up2_at, if_neg (by omega)]
  · show c.2.2 + 1 + ((if a ≤ 10 then 1 else 0) + wtS l) ≤ p + 1
    rw [if_neg (by omega)]
    omega
/-! jumps that wait -/
def PAs (P : Sk) (c1 c : Cd) : Prop := ∀ l, LAs l → fll false (P ++ l) c1 = (c, l) ∧ JOk false (P ++ l) c1 ∧ fll true (P ++ l) c1 = fll true l c ∧ (JOk true l c → JOk true (P ++ l) c1)
def PJs (P : Sk) (c1 c : Cd) : Prop := ∀ l, LJs l → fll true (P ++ l) c1 = (c, l) ∧ JOk true (P ++ l) c1
theorem fll_t {b : Bool} {l : Sk} {c : Cd} (h : LJs l) : fll b l c = (c, l) ∧ JOk b l c := by
  cases l with
  | nil => exact ⟨rfl, trivial⟩
  | cons x t =>
    have := h x t rfl
    unfold fll JOk
    rw [if_neg (by omega), if_neg (by omega)]
    exact ⟨rfl, trivial⟩
theorem fll_a {l : Sk} {c : Cd} (h : LAs l) : fll false l c = (c, l) ∧ JOk false l c := by
  cases l with
  | nil => exact ⟨rfl, trivial⟩
  | cons x t =>
    have := h x t rfl
    unfold fll JOk
    rw [if_neg (by simp; omega), if_neg (by simp; omega)]
    exact ⟨rfl, trivial⟩
theorem PAs.nil (c : Cd) : PAs [] c c := fun _ h => ⟨(fll_a h).1, (fll_a h).2, rfl, id⟩
theorem PAs.one {c : Cd} {j : Nat} (hj : j < c.2.2 ∧ c.1 j ≤ 15 ∧ c.2.1 j < 1000) : PAs [(11, j)] c (land c j) := by
  intro l h
  have e : ∀ b, fll b ([(11, j)] ++ l) c = fll b l (land c j) := by
    intro b
    show (if (11 : Nat) = 11 ∨ (b = true ∧ (11 : Nat) = 12) then fll b l (land c j) else _) = _
    rw [if_pos (Or.inl rfl)]
  have e2 : ∀ b, JOk b l (land c j) → JOk b ([(11, j)] ++ l) c := by
    intro b hb
    show (if (11 : Nat) = 11 ∨ (b = true ∧ (11 : Nat) = 12) then (j < c.2.2 ∧ c.1 j ≤ 15 ∧ c.2.1 j < 1000) ∧ JOk b l (land c j) else True)
    rw [if_pos (Or.inl rfl)]
    exact ⟨hj, hb⟩
  exact ⟨by rw [e]; exact (fll_a h).1, e2 _ (fll_a h).2, e _, e2 _⟩
theorem PAs.j {P : Sk} {c1 c : Cd} (h : PAs P c1 c) : PJs P c1 c := fun l hl => ⟨by rw [(h l hl.a).2.2.1]; exact (fll_t hl).1, (h l hl.a).2.2.2 (fll_t hl).2⟩
theorem PAs.app {P : Sk} {c1 c : Cd} {j : Nat} (h : PAs P c1 c) (hj : j < c.2.2 ∧ c.1 j ≤ 15 ∧ c.2.1 j < 1000) : PJs (P ++ [(12, j)]) c1 (land c j) := by
  intro l hl
  rw [List.append_assoc]
  have hh := h ([(12, j)] ++ l) (fun x t e => by cases e; exact (show 11 < 12 by decide))
  have e : fll true ([(12, j)] ++ l) c = fll true l (land c j) := by
    show (if (12 : Nat) = 11 ∨ (true = true ∧ (12 : Nat) = 12) then fll true l (land c j) else _) = _
    rw [if_pos (Or.inr ⟨rfl, rfl⟩)]
  refine ⟨by rw [hh.2.2.1, e]; exact (fll_t hl).1, hh.2.2.2 ?_⟩
  show (if (12 : Nat) = 11 ∨ (true = true ∧ (12 : Nat) = 12) then (j < c.2.2 ∧ c.1 j ≤ 15 ∧ c.2.1 j < 1000) ∧ JOk true l (land c j) else True)
  rw [if_pos (Or.inr ⟨rfl, rfl⟩)]
  exact ⟨hj, (fll_t hl).2⟩
end PARS8
