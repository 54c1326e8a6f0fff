/-! parsers, part 6: the reference's sums come to the functions -/
section PARS6
def LTs (l : Sk) : Prop := ∀ x t, l = x :: t → 6 < x.1
def LMs (l : Sk) : Prop := ∀ x t, l = x :: t → x.1 < 4 ∨ 6 < x.1
theorem LTs.m {l : Sk} (h : LTs l) : LMs l := fun x t e => Or.inr (h x t e)
theorem flu_t {b : Bool} {l : Sk} {c : Cd} (h : LTs l) : flu b l c = (c, l) := by
  cases l with
  | nil => rfl
  | cons x t =>
    have := h x t rfl
    unfold flu
    rw [if_neg (by omega)]
theorem flu_m {l : Sk} {c : Cd} (h : LMs l) : flu false l c = (c, l) := by
  cases l with
  | nil => rfl
  | cons x t =>
    have := h x t rfl
    unfold flu
    rw [if_neg (by simp; omega)]
def PMs (M : Sk) (c1 c : Cd) : Prop := (∀ l, LMs l → flu false (M ++ l) c1 = (c, l) ∧ flu true (M ++ l) c1 = flu true l c) ∧ ∀ x, x ∈ M → x.1 ≤ 6
def PDs (M : Sk) (c1 c : Cd) : Prop := (∀ l, LTs l → flu true (M ++ l) c1 = (c, l)) ∧ ∀ x, x ∈ M → x.1 ≤ 6
theorem PMs.nil (c : Cd) : PMs [] c c := ⟨fun l h => ⟨flu_m h, rfl⟩, fun x hx => by cases hx⟩
theorem PMs.one {m : Nat} (c : Cd) (h4 : 4 ≤ m) (h6 : m ≤ 6) : PMs [(m, 0)] c (emit c m 0) := by
  refine ⟨fun l h => ?_, fun x hx => ?_⟩
  · have e : ∀ b, flu b ([(m, 0)] ++ l) c = flu b l (emit c m 0) := by
      intro b
      show (if (4 ≤ m ∨ (b = true ∧ 2 ≤ m)) ∧ m ≤ 6 then flu b l (emit c m 0) else _) = _
      rw [if_pos ⟨Or.inl h4, h6⟩]
    exact ⟨by rw [e]; exact flu_m h, e true⟩
  · rw [List.mem_singleton.mp hx]; exact h6
theorem PMs.d {M : Sk} {c1 c : Cd} (h : PMs M c1 c) : PDs M c1 c := ⟨fun l hl => by rw [(h.1 l hl.m).2]; exact flu_t hl, h.2⟩
theorem PMs.app {M : Sk} {c1 c : Cd} {a : Nat} (h : PMs M c1 c) (h2 : 2 ≤ a) (h4 : a < 4) : PDs (M ++ [(a, 0)]) c1 (emit c a 0) := by
  refine ⟨fun l hl => ?_, fun x hx => ?_⟩
  · rw [List.append_assoc, (h.1 ([(a, 0)] ++ l) (fun x t e => by cases e; exact Or.inl h4)).2]
    show (if (4 ≤ a ∨ (true = true ∧ 2 ≤ a)) ∧ a ≤ 6 then flu true l (emit c a 0) else _) = _
    rw [if_pos ⟨Or.inr ⟨rfl, h2⟩, by omega⟩]
    exact flu_t hl
  · rcases List.mem_append.mp hx with hx | hx
    · exact h.2 x hx
    · rw [List.mem_singleton.mp hx]; show a ≤ 6; omega
theorem SKR.mid {u : Wd} {x : Nat × Nat} {l : Sk} : ∀ {M : Sk}, SKR u (M ++ x :: l) → u 119 l.length = nI (1048576 * x.1 + x.2) ∧ x.1 ≤ 15 ∧ x.2 < 1000
  | [], h => ⟨h.1, h.2.1, h.2.2.1⟩
  | _ :: M, h => SKR.mid (M := M) h.2.2.2
theorem SKR.no {u : Wd} {l : Sk} : ∀ {M : Sk}, SKR u (M ++ l) → (∀ x, x ∈ M → x.1 ≤ 6) → ∀ j, l.length ≤ j → j < (M ++ l).length → ¬ (u 119 j) / (kI 1048576) = kI 14
  | [], h, _, j, h1, h2 => by have : j < l.length := h2; omega
  | x :: M, h, hx, j, h1, h2 => by
    have h3 : j < (M ++ l).length + 1 := h2
    by_cases e : j = (M ++ l).length
    · rw [e, show u 119 (M ++ l).length = nI (1048576 * x.1 + x.2) from h.1, sk_div h.2.1 h.2.2.1]
      have := hx x (List.mem_cons_self ..)
      exact ne_nI (b := 14) (by omega) (by decide) (by omega)
    · exact SKR.no (M := M) h.2.2.2 (fun y hy => hx y (List.mem_cons_of_mem _ hy)) j h1 (by omega)
theorem nI_mi1 : ∀ a, a < 20 → ¬ nI a = kI (-1) := by decide +kernel
theorem TXR.c256 {u : Wd} {ch : Nat → Nat} {n p : Nat} (h : TXR u ch n p) : CHn256 ch n := by
  obtain ⟨-, -, -, -, h6, h7⟩ := h
  refine ⟨fun i => ?_, h7, fun i hi => (h6 i hi).2⟩
  by_cases e : n ≤ i
  · rw [h7 i e]; omega
  · have := (h6 i (by omega)).2; omega
theorem STr.osg {w u : Wd} {ch : Nat → Nat} {n p o : Nat} {c : Cd} {l : Sk} (h : STr w u ch n p c l o) : F_184 (F_175_110 u) u = if osg (ch p) = 0 then kI (-1) else nI (osg (ch p)) := by
  rw [h.2.1.sg]
  exact osg_ref _ (by have := h.2.1.le; omega)
theorem STr.lix {w u : Wd} {ch : Nat → Nat} {n p o : Nat} {c : Cd} {l : Sk} (h : STr w u ch n p c l o) : F_183 (F_175_110 u) u = if lix (ch p) = 12 then kI (-1) else nI (lix (ch p)) := by
  rw [h.2.1.sg]
  exact lix_ref _ (by have := h.2.1.le; omega)
theorem STr.noteStep {w u : Wd} {ch : Nat → Nat} {n p o a v : Nat} {c : Cd} {l : Sk} (h : STr w u ch n p c l o) (hz : ch p < 256) : STr w (up2 (G_180_110 (nI a) (nI v) u) 110 11 (((G_180_110 (nI a) (nI v) u) 110 11) + (kI 1))) ch n (p + 1) (emit c a v) l o := by
  have hp := h.pn
  obtain ⟨h1, h2, h3, h4, h5, h6, h7, h8, h9, h10⟩ := h
  have t2 : TXR (G_180_110 (nI a) (nI v) u) ch n p := h2.cg (g180_110 (by decide)) (g180_110 (by decide)) (g180_ne (by decide) (by decide))
  refine ⟨(g180_gp h1).p (by omega), t2.step hz, (g180_c h3 (by omega)).cg (by rw [up2_at, if_neg (by decide)]) (up2_ne (by decide)), by rw [up2_at, if_neg (by decide), g180_110 (by decide)]; exact h4, h5.cg (fun k _ => by rw [up2_ne (by decide), g180_ne (by decide) (by decide)]), by rw [up2_at, if_neg (by decide), g180_110 (by decide)]; exact h6, h7, ?_, by omega, h10⟩
  show c.2.2 + 1 + wtS l ≤ p + 1
  omega
theorem STr.f15 {w u : Wd} {ch : Nat → Nat} {n p o o2 : Nat} {c : Cd} {l : Sk} (h : STr w u ch n p c l o) (h2 : o2 ≤ 6) : STr w (up2 u 110 15 (nI o2)) ch n p c l o2 := by
  obtain ⟨h1, h2, h3, h4, h5, h6, h7, h8, h9, h10⟩ := h
  exact ⟨h1.p (by omega), h2.cg (by rw [up2_at, if_neg (by decide)]) (by rw [up2_at, if_neg (by decide)]) (up2_ne (by decide)), h3.cg (by rw [up2_at, if_neg (by decide)]) (up2_ne (by decide)), by rw [up2_at, if_neg (by decide)]; exact h4, h5.cg (fun k _ => by rw [up2_ne (by decide)]), by rw [up2_at, if_pos rfl], by assumption, h8, h9, h10⟩
/-- an opening sign -/
theorem STr.opn {w u : Wd} {ch : Nat → Nat} {n p o a : Nat} {c : Cd} {l : Sk} (h : STr w u ch n p c l o) (ho : o < 6) (hz : ch p < 256) (ha : a ≤ 15) : F_181_110 (nI a) u = kI 1 ∧ STr w (G_181_110 (nI a) u) ch n (p + 1) c ((a, 0) :: l) (o + 1) := by
  have e6 : ¬ u 110 15 = kI 6 := by
    rw [h.2.2.2.2.2.1]
    exact ne_nI (b := 6) (by omega) (by decide) (by omega)
  have s := (h.f15 (o2 := o + 1) (by omega)).push hz ha
  rw [up2_at, if_neg (by decide), up2_at, if_neg (by decide)] at s
  unfold F_181_110 G_181_110
  rw [if_neg e6, if_neg e6, h.2.2.2.2.2.1, k1]
  exact ⟨rfl, s⟩
theorem STr.deep {w u : Wd} {ch : Nat → Nat} {n p : Nat} {c : Cd} {l : Sk} (h : STr w u ch n p c l 6) (a : Int32) : F_181_110 a u = kI 0 ∧ GPr w (G_181_110 a u) ∧ (G_181_110 a u) 110 13 = flt (kI 5) p := by
  have e6 : u 110 15 = kI 6 := h.2.2.2.2.2.1
  unfold F_181_110 G_181_110
  rw [if_pos e6, if_pos e6]
  exact ⟨rfl, h.fail _⟩
/-- a closing sign -/
theorem STr.close {w u : Wd} {ch : Nat → Nat} {n p o : Nat} {c : Cd} {x : Nat × Nat} {l : Sk} (h : STr w u ch n p c (x :: l) (o + 1)) (hz : ch p < 256) : STr w (up2 (up2 (up2 u 110 17 ((u 110 17) - (kI 1))) 110 15 ((u 110 15) - (kI 1))) 110 11 ((u 110 11) + (kI 1))) ch n (p + 1) c l o := by
  have hp := h.pn
  obtain ⟨h1, h2, h3, h4, h5, h6, h7, h8, h9, h10⟩ := h
  have e : (x :: l).length = l.length + 1 := rfl
  have ew : wtS (x :: l) = (if x.1 ≤ 10 then 1 else 0) + wtS l := rfl
  rw [e] at h4 h9
  rw [h4, h6, show nI (l.length + 1) - kI 1 = nI l.length from pk_sub (b := 1) (by omega), show nI (o + 1) - kI 1 = nI o from pk_sub (b := 1) (by omega)]
  have t2 : TXR (up2 (up2 u 110 17 (nI l.length)) 110 15 (nI o)) ch n p := h2.cg (by rw [up2_at, if_neg (by decide), up2_at, if_neg (by decide)]) (by rw [up2_at, if_neg (by decide), up2_at, if_neg (by decide)]) (by rw [up2_ne (by decide), up2_ne (by decide)])
  have t3 := t2.step hz
  rw [up2_at, if_neg (by decide), up2_at, if_neg (by decide)] at t3
  exact ⟨((h1.p (by omega)).p (by omega)).p (by omega), t3, h3.cg (by rw [up2_at, if_neg (by decide), up2_at, if_neg (by decide), up2_at, if_neg (by decide)]) (by rw [up2_ne (by decide), up2_ne (by decide), up2_ne (by decide)]), by rw [up2_at, if_neg (by decide), up2_at, if_neg (by decide), up2_at, if_pos rfl], h5.2.2.2.cg (fun k _ => by rw [up2_ne (by decide), up2_ne (by decide), up2_ne (by decide)]), by rw [up2_at, if_neg (by decide), up2_at, if_pos rfl], by omega, by omega, by omega, h10⟩
/-! heads, starts, faults -/
def HDr (X : Scr) (e B : Nat) (Q : Int32 → Wd → Prop) (w : Wd) (ch : Nat → Nat) (n p : Nat) (c : Cd) (l : Sk) (o : Nat) : Prop := ∀ u, STr w u ch n p c l o → EI X (e + 4) 188 (14, [some (.ref 110), some (.int (nI B)), none], [], SH, u) Q
def P1r (X : Scr) (e B : Nat) (Q : Int32 → Wd → Prop) : Int32 → Wd → Prop := fun x1 w1 => (if x1 = 0 then Q (kI 0) w1 else EI X (e + 4) 188 (14, [some (.ref 110), some (.int (nI B)), none], [], SH, w1) Q)
def FSr (X : Scr) (e B : Nat) (Q : Int32 → Wd → Prop) (w : Wd) (ch : Nat → Nat) (n p : Nat) (c : Cd) (l : Sk) (o : Nat) : Prop := ∀ u, STr w u ch n p c l o → EI X (e + 3) 186 (0, [some (.ref 110), none], [], SH, u) (P1r X e B Q)
def FLr (Q : Int32 → Wd → Prop) (w : Wd) (r : Int32) : Prop := ∀ u, GPr w u → u 110 13 = r → Q (kI 0) u
def EXr (X : Scr) (e B : Nat) (Q : Int32 → Wd → Prop) (w : Wd) (ch : Nat → Nat) (n k : Nat) : Prop := ∀ p c l, B ≤ l.length → LTs l → (∀ r, eF ch k (p, c) = .inl r → FLr Q w r) → (∀ t c1 M, eF ch k (p, c) = .inr t → osg (ch t.1) = 0 → PDs M c1 t.2 → HDr X e B Q w ch n t.1 c1 (M ++ l) (6 - k)) → FSr X e B Q w ch n p c l (6 - k)
def TMr (X : Scr) (e B : Nat) (Q : Int32 → Wd → Prop) (w : Wd) (ch : Nat → Nat) (n k : Nat) : Prop := ∀ p c l, B ≤ l.length → LMs l → (∀ r, trmF ch (faE ch k) (p, c) = .inl r → FLr Q w r) → (∀ t c1 M, trmF ch (faE ch k) (p, c) = .inr t → osg (ch t.1) < 4 → PMs M c1 t.2 → HDr X e B Q w ch n t.1 c1 (M ++ l) (6 - k)) → FSr X e B Q w ch n p c l (6 - k)
def FAr (X : Scr) (e B : Nat) (Q : Int32 → Wd → Prop) (w : Wd) (ch : Nat → Nat) (n k : Nat) : Prop := ∀ p c l, B ≤ l.length → (∀ r, faE ch k (p, c) = .inl r → FLr Q w r) → (∀ t, faE ch k (p, c) = .inr t → HDr X e B Q w ch n t.1 t.2 l (6 - k)) → FSr X e B Q w ch n p c l (6 - k)
theorem P1r.no {X : Scr} {e B : Nat} {Q : Int32 → Wd → Prop} {u : Wd} (h : Q (kI 0) u) : P1r X e B Q (kI 0) u := by
  show (if kI 0 = 0 then Q (kI 0) u else _)
  rw [if_pos (by decide)]
  exact h
theorem P1r.yes {X : Scr} {e B : Nat} {Q : Int32 → Wd → Prop} {u : Wd} (h : EI X (e + 4) 188 (14, [some (.ref 110), some (.int (nI B)), none], [], SH, u) Q) : P1r X e B Q (kI 1) u := by
  show (if kI 1 = 0 then Q (kI 0) u else _)
  rw [if_neg (by decide)]
  exact h
/-- behind a sum within brackets that has ended: the closing sign, or a fault -/
theorem clz_r {X : Scr} {e B n k p : Nat} {Q : Int32 → Wd → Prop} {w : Wd} {ch : Nat → Nat} {c1 c : Cd} {M l : Sk} (hk : k + 1 ≤ 6) (hB : B ≤ l.length) (ho : osg (ch p) = 0) (hP : PDs M c1 c) (q1 : ch p = 93 → HDr X e B Q w ch n (p + 1) c l (6 - (k + 1))) (q0 : ¬ ch p = 93 → FLr Q w (flt (kI 1) p)) : HDr X e B Q w ch n p c1 (M ++ (14, 0) :: l) (6 - k) := by
  intro u h
  have hp := h.pn
  have hsk := h.2.2.2.2.1.mid
  have hlen : l.length < (M ++ (14, 0) :: l).length := by rw [List.length_append]; show l.length < M.length + (l.length + 1); omega
  have hl9 := h.2.2.2.2.2.2.2.2.1
  have h14 : (u 119 l.length) / (kI 1048576) = kI 14 := by rw [hsk.1]; exact sk_div hsk.2.1 hsk.2.2
  refine t188_110_at14 (d := e + 3) u _ ⟨h.ix, ?_⟩
  rw [h.osg, if_pos ho, if_pos rfl]
  refine ⟨h.ix, ?_⟩
  have hle := h.2.1.le
  by_cases h93 : ch p = 93
  · rw [if_pos (by rw [h.2.1.sg]; exact (enC_eq (k := 93) (by decide)).mpr h93)]
    refine c_187 (d := e + 2) h.2.2.2.1 (by omega) (by omega) (fun _ => ?_) (fun hn => absurd h14 (hn l.length hB hlen))
    rw [if_neg (by decide)]
    refine c_185 (d := e + 2) (b := true) rfl h (fun u2 h2 => ?_)
    rw [hP.1 ((14, 0) :: l) (fun x t ee => by cases ee; decide)] at h2
    dsimp only at h2
    rw [show 6 - k = 6 - (k + 1) + 1 by omega] at h2
    exact q1 h93 _ (h2.close (by omega))
  · rw [if_neg (by rw [h.2.1.sg]; exact fun ee => h93 ((enC_eq (k := 93) (by decide)).mp ee))]
    refine c_187 (d := e + 2) h.2.2.2.1 (by omega) (by omega) (fun _ => ?_) (fun hn => absurd h14 (hn l.length hB hlen))
    rw [if_neg (by decide)]
    exact q0 h93 _ (h.fail _).1 (h.fail _).2
theorem fac_r {X : Scr} {e B n k : Nat} {Q : Int32 → Wd → Prop} {w : Wd} {ch : Nat → Nat} (hk : k ≤ 6) (hE : ∀ k2, k = k2 + 1 → EXr X e B Q w ch n k2) : FAr X e B Q w ch n k := by
  intro p c l hB q0 q1 u h
  have hp := h.pn
  have hle := h.2.1.le
  refine t186_110_at0 (d := e + 1) u ⟨h.ix, ?_⟩
  obtain ⟨br, hbr, hb0, hbs⟩ : ∃ br, faE ch k = facF ch br ∧ (k = 0 → br = deep) ∧ ∀ k2, k = k2 + 1 → br = inF ch (eF ch k2) 93 := by
    cases k with
    | zero => exact ⟨deep, rfl, fun _ => rfl, fun k2 e => by omega⟩
    | succ k => exact ⟨inF ch (eF ch k) 93, rfl, fun e => by omega, fun k2 e => by rw [show k2 = k by omega]⟩
  rw [hbr] at q0 q1
  unfold facF at q0 q1
  dsimp only at q0 q1
  by_cases h91 : ch p = 91
  · rw [if_pos h91] at q0 q1
    rw [if_pos (by rw [h.2.1.sg]; exact (enC_eq (k := 91) (by decide)).mpr h91)]
    refine ⟨fun _ => h.ix17, ?_⟩
    by_cases hk0 : k = 0
    · rw [hb0 hk0] at q0
      rw [hk0] at h
      have hd := h.deep (kI 14)
      rw [hd.1, if_pos (by decide)]
      exact P1r.no (q0 _ rfl _ hd.2.1 hd.2.2)
    · obtain ⟨k2, hk2⟩ : ∃ k2, k = k2 + 1 := ⟨k - 1, by omega⟩
      have hop := h.opn (a := 14) (by omega) (by omega) (by decide)
      rw [show (kI 14 : Int32) = nI 14 from rfl, hop.1, if_neg (by decide)]
      rw [hbs k2 hk2] at q0 q1
      unfold inF at q0 q1
      dsimp only at q0 q1
      have hs := hop.2
      rw [show 6 - k + 1 = 6 - k2 by omega] at hs
      refine hE k2 hk2 (p + 1) c ((14, 0) :: l) (by show B ≤ l.length + 1; omega) (fun x t ee => by cases ee; decide) (fun r er => ?_) (fun t c1 M er ho hP => ?_) _ hs
      · rw [er] at q0
        exact q0 r rfl
      · rw [er] at q0 q1
        dsimp only at q0 q1
        refine clz_r (by omega) hB ho hP (fun h93 => ?_) (fun h93 => ?_)
        · rw [if_pos h93] at q1
          rw [← hk2]
          exact q1 _ rfl
        · rw [if_neg h93] at q0
          exact q0 _ rfl
  · rw [if_neg h91] at q0 q1
    rw [if_neg (by rw [h.2.1.sg]; exact fun ee => h91 ((enC_eq (k := 91) (by decide)).mp ee))]
    refine ⟨h.ix, fun _ => h.ix, ?_⟩
    by_cases hd : isD (ch p) = true
    · rw [if_pos hd] at q0 q1
      rw [if_neg (by rw [h.2.1.dg, hd]; decide)]
      refine c_179 (d := e) h (fun x q er u2 h2 h14 => ?_) (fun q er u2 g1 g2 => ?_)
      · rw [if_neg (by decide)]
        refine ⟨h2.ix16, P1r.yes ?_⟩
        rw [er] at q1
        rw [h14, show kI 0 = nI 0 from rfl]
        refine q1 _ rfl _ (h2.note ?_)
        have h8 := h.2.2.2.2.2.2.2.1
        have e2 : rdN ch 5 p 0 = rdN ch 4 (p + 1) (0 * 10 + (ch p - 48)) := by
          show (if isD (ch p) then _ else _) = _
          rw [hd, if_pos rfl]
        rw [e2] at er
        have := (rdN_le 4 (p + 1) _ x q er).1
        show c.2.2 + wtS l < q
        omega
      · rw [if_pos (by decide)]
        rw [er] at q0
        exact P1r.no (q0 _ rfl u2 g1 g2)
    · rw [if_neg hd] at q0 q1
      have hd2 : isD (ch p) = false := by simpa using hd
      rw [if_pos (h.2.1.dg.mpr hd2)]
      refine ⟨h.ix, ?_⟩
      rw [h.lix]
      have hl := lix_lt (ch p) (by omega)
      by_cases h12 : lix (ch p) = 12
      · rw [if_pos h12] at q0
        rw [if_pos h12, if_pos rfl]
        exact P1r.no (q0 _ rfl _ (h.fail _).1 (h.fail _).2)
      · rw [if_neg h12] at q1
        rw [if_neg h12, if_neg (nI_mi1 _ (by omega))]
        refine ⟨h.ix16, P1r.yes ?_⟩
        exact q1 _ rfl _ (h.noteStep (hl.2 h12).1)
end PARS6
