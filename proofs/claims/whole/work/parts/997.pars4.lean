/-! parsers, part 4: the codes are well formed -/
section PARS4
theorem stOK_op {op ar op2 ar2 ht : Nat → Nat} {tb : Nat → Bool} {b k : Nat} (h : stOK op ar ht tb b k) (e1 : op2 k = op k) (e2 : ar2 k = ar k) : stOK op2 ar2 ht tb b k := by
  unfold stOK at h ⊢
  rw [e1, e2]
  exact h
theorem stOK_ht {op ar ht ht2 : Nat → Nat} {tb tb2 : Nat → Bool} {b b2 k : Nat} (h : stOK op ar ht tb b k) (hb : b ≤ b2) (e0 : ht2 k = ht k) (e1 : ht2 (k + 1) = ht (k + 1)) (t0 : tb2 k = tb k) (t1 : tb2 (k + 1) = tb (k + 1)) (ea : k < ar k → ar k ≤ b → ht2 (ar k) = ht (ar k)) : stOK op ar ht2 tb2 b2 k := by
  unfold stOK at h ⊢
  rw [e0, e1, t0, t1]
  by_cases c1 : op k ≤ 1
  · rw [if_pos c1] at h ⊢; exact h
  rw [if_neg c1] at h ⊢
  by_cases c2 : op k ≤ 6
  · rw [if_pos c2] at h ⊢; exact h
  rw [if_neg c2] at h ⊢
  by_cases c3 : op k ≤ 9
  · rw [if_pos c3] at h ⊢; exact h
  rw [if_neg c3] at h ⊢
  by_cases c4 : op k = 10
  · rw [if_pos c4] at h ⊢; exact h
  rw [if_neg c4] at h ⊢
  obtain ⟨h1, h2, h3, h4, h5, h6, h7⟩ := h
  exact ⟨h1, h2, h3, h4, h5, by omega, by rw [ea h5 h6]; exact h7⟩
def SEGX (op ar : Nat → Nat) (a b x y : Nat) (f g : Bool) : Prop := ∃ (ht : Nat → Nat) (tb : Nat → Bool), ht a = x ∧ ht b = y ∧ tb a = f ∧ tb b = g ∧ ∀ k, a ≤ k → k < b → stOK op ar ht tb b k
theorem SEGX.nil {op ar : Nat → Nat} {a x : Nat} {f : Bool} : SEGX op ar a a x x f f := ⟨fun _ => x, fun _ => f, rfl, rfl, rfl, rfl, fun k h1 h2 => by omega⟩
theorem SEGX.cat {op ar : Nat → Nat} {a b c x y z : Nat} {f g h : Bool} (h1 : SEGX op ar a b x y f g) (h2 : SEGX op ar b c y z g h) (hab : a ≤ b) (hbc : b ≤ c) : SEGX op ar a c x z f h := by
  obtain ⟨ht1, tb1, p1, p2, p3, p4, p5⟩ := h1
  obtain ⟨ht2, tb2, q1, q2, q3, q4, q5⟩ := h2
  refine ⟨fun k => if k ≤ b then ht1 k else ht2 k, fun k => if k ≤ b then tb1 k else tb2 k, ?_, ?_, ?_, ?_, fun k k1 k2 => ?_⟩
  · dsimp only; rw [if_pos hab]; exact p1
  · dsimp only
    by_cases e : c ≤ b
    · rw [if_pos e, show c = b by omega, p2, ← q1, ← q2, show c = b by omega]
    · rw [if_neg e]; exact q2
  · dsimp only; rw [if_pos hab]; exact p3
  · dsimp only
    by_cases e : c ≤ b
    · rw [if_pos e, show c = b by omega, p4, ← q3, ← q4, show c = b by omega]
    · rw [if_neg e]; exact q4
  · by_cases hk : k < b
    · exact stOK_ht (p5 k k1 hk) hbc (by rw [if_pos (by omega)]) (by rw [if_pos (by omega)]) (by rw [if_pos (by omega)]) (by rw [if_pos (by omega)]) (fun _ e => by rw [if_pos e])
    · have hk0 : ∀ (u v : Nat → Nat), u b = v b → (if k ≤ b then u k else v k) = v k := by
        intro u v e
        by_cases e2 : k ≤ b
        · rw [if_pos e2, show k = b by omega]; exact e
        · rw [if_neg e2]
      have hk1 : (if k ≤ b then tb1 k else tb2 k) = tb2 k := by
        by_cases e2 : k ≤ b
        · rw [if_pos e2, show k = b by omega, p4, q3]
        · rw [if_neg e2]
      exact stOK_ht (q5 k (by omega) k2) (Nat.le_refl _) (hk0 ht1 ht2 (by rw [p2, q1])) (by rw [if_neg (by omega)]) hk1 (by rw [if_neg (by omega)]) (fun e _ => by rw [if_neg (by omega)])
theorem SEGX.op {op ar op2 ar2 : Nat → Nat} {a b x y : Nat} {f g : Bool} (h : SEGX op ar a b x y f g) (e : ∀ k, a ≤ k → k < b → op2 k = op k ∧ ar2 k = ar k) : SEGX op2 ar2 a b x y f g := by
  obtain ⟨ht, tb, p1, p2, p3, p4, p5⟩ := h
  exact ⟨ht, tb, p1, p2, p3, p4, fun k k1 k2 => stOK_op (p5 k k1 k2) (e k k1 k2).1 (e k k1 k2).2⟩
/-- one step without a jump -/
theorem SEGX.one {op ar : Nat → Nat} {a x y : Nat} {f g : Bool} (h : if op a ≤ 1 then y = x + 1 ∧ x < 60 ∧ g = false ∧ (op a = 1 → ar a < 12) else if op a ≤ 6 then 2 ≤ x ∧ y + 1 = x ∧ g = false else if op a ≤ 9 then 2 ≤ x ∧ y + 1 = x else op a = 10 ∧ 1 ≤ x ∧ y = x ∧ f = true) : SEGX op ar a (a + 1) x y f g := by
  refine ⟨fun k => if k ≤ a then x else y, fun k => if k ≤ a then f else g, ?_, ?_, ?_, ?_, fun k k1 k2 => ?_⟩
  · dsimp only; rw [if_pos (Nat.le_refl _)]
  · dsimp only; rw [if_neg (by omega)]
  · dsimp only; rw [if_pos (Nat.le_refl _)]
  · dsimp only; rw [if_neg (by omega)]
  · have e : k = a := by omega
    subst e
    unfold stOK
    dsimp only
    rw [if_pos (Nat.le_refl _), if_neg (show ¬ k + 1 ≤ k by omega), if_pos (Nat.le_refl _), if_neg (show ¬ k + 1 ≤ k by omega)]
    by_cases c1 : op k ≤ 1
    · rw [if_pos c1] at h ⊢; exact h
    rw [if_neg c1] at h ⊢
    by_cases c2 : op k ≤ 6
    · rw [if_pos c2] at h ⊢; exact h
    rw [if_neg c2] at h ⊢
    by_cases c3 : op k ≤ 9
    · rw [if_pos c3] at h ⊢; exact h
    rw [if_neg c3] at h ⊢
    rw [if_pos h.1]
    exact ⟨h.2.1, h.2.2.1, h.2.2.2⟩
/-- a jump over a segment -/
theorem SEGX.jmp {op ar : Nat → Nat} {a b h : Nat} (hs : SEGX op ar (a + 1) b h (h + 1) false true) (ho : op a = 11 ∨ op a = 12) (ha : ar a = b) (hab : a < b) : SEGX op ar a b (h + 1) (h + 1) true true := by
  obtain ⟨ht, tb, p1, p2, p3, p4, p5⟩ := hs
  refine ⟨fun k => if k ≤ a then h + 1 else ht k, fun k => if k ≤ a then true else tb k, ?_, ?_, ?_, ?_, fun k k1 k2 => ?_⟩
  · dsimp only; rw [if_pos (Nat.le_refl _)]
  · dsimp only; rw [if_neg (by omega)]; exact p2
  · dsimp only; rw [if_pos (Nat.le_refl _)]
  · dsimp only; rw [if_neg (by omega)]; exact p4
  · by_cases e : k = a
    · subst e
      unfold stOK
      dsimp only
      rw [if_neg (show ¬ op k ≤ 1 by omega), if_neg (show ¬ op k ≤ 6 by omega), if_neg (show ¬ op k ≤ 9 by omega), if_neg (show ¬ op k = 10 by omega), if_pos (Nat.le_refl _), if_neg (show ¬ k + 1 ≤ k by omega), if_pos (Nat.le_refl _), if_neg (show ¬ k + 1 ≤ k by omega), ha, if_neg (show ¬ b ≤ k by omega)]
      exact ⟨by omega, by omega, rfl, p3, hab, Nat.le_refl _, p2⟩
    · exact stOK_ht (p5 k (by omega) k2) (Nat.le_refl _) (by rw [if_neg (by omega)]) (by rw [if_neg (by omega)]) (by rw [if_neg (by omega)]) (by rw [if_neg (by omega)]) (fun e2 _ => by rw [if_neg (by omega)])
/-- what f adds is well formed -/
def SG (f : PSs → PRs) (m : Nat) (g : Bool) : Prop := ∀ s t, f s = .inr t → (∀ i, i < s.2.2.2 → t.2.1 i = s.2.1 i ∧ t.2.2.1 i = s.2.2.1 i) ∧ s.2.2.2 < t.2.2.2 ∧ ∀ h, h + m < 60 → SEGX t.2.1 t.2.2.1 s.2.2.2 t.2.2.2 h (h + 1) false g
def SGl (f : PSs → PRs) (m : Nat) (g : Bool) : Prop := ∀ s t, f s = .inr t → (∀ i, i < s.2.2.2 → t.2.1 i = s.2.1 i ∧ t.2.2.1 i = s.2.2.1 i) ∧ s.2.2.2 ≤ t.2.2.2 ∧ ∀ h, h + m < 60 → SEGX t.2.1 t.2.2.1 s.2.2.2 t.2.2.2 (h + 1) (h + 1) g g
theorem updN_at {f : Nat → Nat} {k v : Nat} : updN f k v k = v := if_pos rfl
theorem updN_ne {f : Nat → Nat} {k v i : Nat} (h : i ≠ k) : updN f k v i = f i := if_neg h
theorem emit_op {c : Cd} {o v i : Nat} (h : i < c.2.2) : (emit c o v).1 i = c.1 i ∧ (emit c o v).2.1 i = c.2.1 i := ⟨updN_ne (by omega), updN_ne (by omega)⟩
theorem SG.mono {f : PSs → PRs} {m m2 : Nat} {g : Bool} (h : SG f m g) (hm : m ≤ m2) : SG f m2 g := fun s t e => ⟨(h s t e).1, (h s t e).2.1, fun x hx => (h s t e).2.2 x (by omega)⟩
theorem fac_sg {ch : Nat → Nat} {br : PSs → PRs} {m : Nat} (hb : SG br m false) : SG (facF ch br) m false := by
  intro s t e
  unfold facF at e
  have one : ∀ (q o v : Nat), o ≤ 1 → (o = 1 → v < 12) → t = (q, emit s.2 o v) → (∀ i, i < s.2.2.2 → t.2.1 i = s.2.1 i ∧ t.2.2.1 i = s.2.2.1 i) ∧ s.2.2.2 < t.2.2.2 ∧ ∀ h, h + m < 60 → SEGX t.2.1 t.2.2.1 s.2.2.2 t.2.2.2 h (h + 1) false false := by
    intro q o v ho hv et
    subst et
    refine ⟨fun i hi => emit_op hi, by show s.2.2.2 < s.2.2.2 + 1; omega, fun h hh => SEGX.one ?_⟩
    show (if updN s.2.1 s.2.2.2 o s.2.2.2 ≤ 1 then h + 1 = h + 1 ∧ h < 60 ∧ false = false ∧ (updN s.2.1 s.2.2.2 o s.2.2.2 = 1 → updN s.2.2.1 s.2.2.2 v s.2.2.2 < 12) else _)
    rw [updN_at, updN_at, if_pos ho]
    exact ⟨rfl, by omega, rfl, hv⟩
  by_cases h1 : ch s.1 = 91
  · rw [if_pos h1] at e; exact hb s t e
  · rw [if_neg h1] at e
    cases hd : isD (ch s.1) with
    | true =>
      rw [hd, if_pos rfl] at e
      cases er : rdN ch 5 s.1 0 with
      | inl q => rw [er] at e; cases e
      | inr x =>
        rw [er] at e
        exact one x.2 0 x.1 (by omega) (fun z => by omega) (Sum.inr.inj e).symm
    | false =>
      rw [hd, if_neg (by decide)] at e
      by_cases h2 : lix (ch s.1) = 12
      · rw [if_pos h2] at e; cases e
      · rw [if_neg h2] at e
        refine one (s.1 + 1) 1 (lix (ch s.1)) (by omega) (fun _ => ?_) (Sum.inr.inj e).symm
        have : lix (ch s.1) ≤ 12 := by
          unfold lix
          repeat (split; omega)
          omega
        omega
/-- a second value and an operator -/
theorem bin_sg {fac : PSs → PRs} {m o : Nat} {s t : PSs} (hf : SG fac m false) (ho : 2 ≤ o) (ho2 : o ≤ 6) (er : fac (s.1 + 1, s.2) = .inr t) : (∀ i, i < s.2.2.2 → (emit t.2 o 0).1 i = s.2.1 i ∧ (emit t.2 o 0).2.1 i = s.2.2.1 i) ∧ s.2.2.2 < (emit t.2 o 0).2.2 ∧ ∀ h, h + 1 + m < 60 → SEGX (emit t.2 o 0).1 (emit t.2 o 0).2.1 s.2.2.2 (emit t.2 o 0).2.2 (h + 1) (h + 1) false false := by
  obtain ⟨a1, a2, a3⟩ := hf (s.1 + 1, s.2) t er
  dsimp only at a1 a2 a3
  refine ⟨fun i hi => ?_, by show s.2.2.2 < t.2.2.2 + 1; omega, fun h hh => ?_⟩
  · obtain ⟨b1, b2⟩ := emit_op (c := t.2) (o := o) (v := 0) (i := i) (by omega)
    rw [b1, b2]
    exact a1 i hi
  · refine ((a3 (h + 1) hh).op (fun k k1 k2 => emit_op k2)).cat (SEGX.one (y := h + 1) ?_) (by omega) (by show t.2.2.2 ≤ t.2.2.2 + 1; omega)
    show (if updN t.2.1 t.2.2.2 o t.2.2.2 ≤ 1 then _ else if updN t.2.1 t.2.2.2 o t.2.2.2 ≤ 6 then 2 ≤ h + 1 + 1 ∧ h + 1 + 1 = h + 1 + 1 ∧ false = false else _)
    rw [updN_at, if_neg (by omega), if_pos ho2]
    exact ⟨by omega, rfl, rfl⟩
theorem osg_le (z : Nat) : osg z ≤ 6 := by
  unfold osg
  repeat' (first | omega | split)
theorem trL_sg {ch : Nat → Nat} {fac : PSs → PRs} {m : Nat} (hf : SG fac m false) : ∀ q, SGl (trL ch fac q) (m + 1) false
  | 0, s, t, e => by cases e; exact ⟨fun _ _ => ⟨rfl, rfl⟩, Nat.le_refl _, fun h _ => SEGX.nil⟩
  | q + 1, s, t, e => by
    unfold trL at e
    by_cases h1 : 4 ≤ osg (ch s.1)
    · rw [if_pos h1] at e
      cases er : fac (s.1 + 1, s.2) with
      | inl x => rw [er] at e; cases e
      | inr v =>
        rw [er] at e
        have h6 : osg (ch s.1) ≤ 6 := osg_le _
        obtain ⟨a1, a2, a3⟩ := bin_sg hf (o := osg (ch s.1)) (by omega) h6 er
        obtain ⟨b1, b2, b3⟩ := trL_sg hf q (v.1, emit v.2 (osg (ch s.1)) 0) t e
        dsimp only at b1 b2 b3
        refine ⟨fun i hi => ?_, by omega, fun h hh => ?_⟩
        · have c1 := b1 i (by omega)
          have c2 := a1 i hi
          exact ⟨c1.1.trans c2.1, c1.2.trans c2.2⟩
        · exact ((a3 h (by omega)).op (fun k k1 k2 => b1 k k2)).cat (b3 h hh) (by omega) b2
    · rw [if_neg h1] at e; cases e; exact ⟨fun _ _ => ⟨rfl, rfl⟩, Nat.le_refl _, fun h _ => SEGX.nil⟩
theorem seq_sg {f : PSs → PRs} {g : Nat → PSs → PRs} {r : PSs → PRs} {m : Nat} {b : Bool} {q : Nat} (hr : ∀ s t, r s = .inr t → ∃ v, f s = .inr v ∧ g q v = .inr t) (hf : SG f m b) (hg : SGl (g q) (m + 1) b) : SG r (m + 1) b := by
  intro s t e
  obtain ⟨v, e1, e2⟩ := hr s t e
  obtain ⟨a1, a2, a3⟩ := hf s v e1
  obtain ⟨b1, b2, b3⟩ := hg v t e2
  refine ⟨fun i hi => ?_, by omega, fun h hh => ?_⟩
  · have c1 := b1 i (by omega)
    have c2 := a1 i hi
    exact ⟨c1.1.trans c2.1, c1.2.trans c2.2⟩
  · exact ((a3 h (by omega)).op (fun k k1 k2 => b1 k k2)).cat (b3 h hh) (by omega) b2
theorem trm_sg {ch : Nat → Nat} {fac : PSs → PRs} {m : Nat} (hf : SG fac m false) : SG (trmF ch fac) (m + 1) false := by
  refine seq_sg (q := 240) (g := trL ch fac) (fun s t e => ?_) hf (trL_sg hf 240)
  unfold trmF at e
  cases er : fac s with
  | inl x => rw [er] at e; cases e
  | inr v => rw [er] at e; exact ⟨v, rfl, e⟩
theorem exL_sg {ch : Nat → Nat} {trm : PSs → PRs} {m : Nat} (hf : SG trm m false) : ∀ q, SGl (exL ch trm q) (m + 1) false
  | 0, s, t, e => by cases e; exact ⟨fun _ _ => ⟨rfl, rfl⟩, Nat.le_refl _, fun h _ => SEGX.nil⟩
  | q + 1, s, t, e => by
    unfold exL at e
    by_cases h1 : osg (ch s.1) = 2 ∨ osg (ch s.1) = 3
    · rw [if_pos h1] at e
      cases er : trm (s.1 + 1, s.2) with
      | inl x => rw [er] at e; cases e
      | inr v =>
        rw [er] at e
        obtain ⟨a1, a2, a3⟩ := bin_sg hf (o := osg (ch s.1)) (by omega) (by omega) er
        obtain ⟨b1, b2, b3⟩ := exL_sg hf q (v.1, emit v.2 (osg (ch s.1)) 0) t e
        dsimp only at b1 b2 b3
        refine ⟨fun i hi => ?_, by omega, fun h hh => ?_⟩
        · have c1 := b1 i (by omega)
          have c2 := a1 i hi
          exact ⟨c1.1.trans c2.1, c1.2.trans c2.2⟩
        · exact ((a3 h (by omega)).op (fun k k1 k2 => b1 k k2)).cat (b3 h hh) (by omega) b2
    · rw [if_neg h1] at e; cases e; exact ⟨fun _ _ => ⟨rfl, rfl⟩, Nat.le_refl _, fun h _ => SEGX.nil⟩
theorem exp_sg {ch : Nat → Nat} {trm : PSs → PRs} {m : Nat} (hf : SG trm m false) : SG (expF ch trm) (m + 1) false := by
  refine seq_sg (q := 240) (g := exL ch trm) (fun s t e => ?_) hf (exL_sg hf 240)
  unfold expF at e
  cases er : trm s with
  | inl x => rw [er] at e; cases e
  | inr v => rw [er] at e; exact ⟨v, rfl, e⟩
theorem in_sg {ch : Nat → Nat} {f : PSs → PRs} {m z : Nat} {b : Bool} (hf : SG f m b) : SG (inF ch f z) m b := by
  intro s t e
  unfold inF at e
  cases er : f (s.1 + 1, s.2) with
  | inl x => rw [er] at e; cases e
  | inr v =>
    rw [er] at e
    dsimp only at e
    by_cases h1 : ch v.1 = z
    · rw [if_pos h1] at e
      have et : t = (v.1 + 1, v.2) := (Sum.inr.inj e).symm
      subst et
      exact hf (s.1 + 1, s.2) v er
    · rw [if_neg h1] at e; cases e
theorem deep_sg {m : Nat} {b : Bool} : SG deep m b := fun s t e => by cases e
theorem eF_sg {ch : Nat → Nat} : ∀ k, SG (eF ch k) (2 * k + 2) false
  | 0 => exp_sg (trm_sg (fac_sg deep_sg))
  | k + 1 => exp_sg (trm_sg (fac_sg (in_sg (eF_sg k))))
theorem cm_sg {ch : Nat → Nat} {f : PSs → PRs} {m : Nat} (hf : SG f m false) : SG (cmF ch f) (m + 1) true := by
  intro s t e
  unfold cmF at e
  cases er : f s with
  | inl x => rw [er] at e; cases e
  | inr v =>
    rw [er] at e
    dsimp only at e
    by_cases h1 : csg (ch v.1) = 0
    · rw [if_pos h1] at e; cases e
    · rw [if_neg h1] at e
      have hc : 7 ≤ csg (ch v.1) ∧ csg (ch v.1) ≤ 9 := by
        unfold csg at h1 ⊢
        repeat (split; omega)
        rename_i z1 z2 z3
        rw [if_neg z1, if_neg z2, if_neg z3] at h1
        exact absurd rfl h1
      cases er2 : f (v.1 + 1, v.2) with
      | inl x => rw [er2] at e; cases e
      | inr q =>
        rw [er2] at e
        have et : t = (q.1, emit q.2 (csg (ch v.1)) 0) := (Sum.inr.inj e).symm
        subst et
        obtain ⟨a1, a2, a3⟩ := hf s v er
        obtain ⟨b1, b2, b3⟩ := hf (v.1 + 1, v.2) q er2
        dsimp only at b1 b2 b3
        have em := fun i (hi : i < q.2.2.2) => emit_op (c := q.2) (o := csg (ch v.1)) (v := 0) hi
        refine ⟨fun i hi => ?_, by show s.2.2.2 < q.2.2.2 + 1; omega, fun h hh => ?_⟩
        · have c0 := em i (by omega)
          have c1 := b1 i (by omega)
          have c2 := a1 i hi
          exact ⟨(c0.1.trans c1.1).trans c2.1, (c0.2.trans c1.2).trans c2.2⟩
        · refine (((a3 h (by omega)).op (fun k k1 k2 => ?_)).cat ((b3 (h + 1) (by omega)).op (fun k k1 k2 => em k k2)) (by omega) (by omega)).cat (SEGX.one (y := h + 1) ?_) (by omega) (by show q.2.2.2 ≤ q.2.2.2 + 1; omega)
          · have c0 := em k (by omega)
            have c1 := b1 k k2
            exact ⟨c0.1.trans c1.1, c0.2.trans c1.2⟩
          · show (if updN q.2.1 q.2.2.2 (csg (ch v.1)) q.2.2.2 ≤ 1 then _ else if updN q.2.1 q.2.2.2 (csg (ch v.1)) q.2.2.2 ≤ 6 then _ else if updN q.2.1 q.2.2.2 (csg (ch v.1)) q.2.2.2 ≤ 9 then 2 ≤ h + 1 + 1 ∧ h + 1 + 1 = h + 1 + 1 else _)
            rw [updN_at, if_neg (by omega), if_neg (by omega), if_pos (by omega)]
            exact ⟨by omega, rfl⟩
theorem nt_sg {f : PSs → PRs} {m : Nat} (hf : SG f m true) : SG (ntF f) m true := by
  intro s t e
  unfold ntF at e
  cases er : f (s.1 + 1, s.2) with
  | inl x => rw [er] at e; cases e
  | inr q =>
    rw [er] at e
    have et : t = (q.1, emit q.2 10 0) := (Sum.inr.inj e).symm
    subst et
    obtain ⟨a1, a2, a3⟩ := hf (s.1 + 1, s.2) q er
    dsimp only at a1 a2 a3
    have em := fun i (hi : i < q.2.2.2) => emit_op (c := q.2) (o := 10) (v := 0) hi
    refine ⟨fun i hi => ?_, by show s.2.2.2 < q.2.2.2 + 1; omega, fun h hh => ?_⟩
    · have c0 := em i (by omega)
      have c1 := a1 i hi
      exact ⟨c0.1.trans c1.1, c0.2.trans c1.2⟩
    · refine ((a3 h hh).op (fun k k1 k2 => em k k2)).cat (SEGX.one ?_) (by omega) (by show q.2.2.2 ≤ q.2.2.2 + 1; omega)
      show (if updN q.2.1 q.2.2.2 10 q.2.2.2 ≤ 1 then _ else if updN q.2.1 q.2.2.2 10 q.2.2.2 ≤ 6 then _ else if updN q.2.1 q.2.2.2 10 q.2.2.2 ≤ 9 then _ else updN q.2.1 q.2.2.2 10 q.2.2.2 = 10 ∧ 1 ≤ h + 1 ∧ h + 1 = h + 1 ∧ true = true)
      rw [updN_at, if_neg (by omega), if_neg (by omega), if_neg (by omega)]
      exact ⟨rfl, by omega, rfl, rfl⟩
theorem jmL_sg {ch : Nat → Nat} {z o : Nat} {f : PSs → PRs} {m : Nat} (ho : o = 11 ∨ o = 12) (hf : SG f m true) : ∀ q, SGl (jmL ch z o f q) (m + 1) true
  | 0, s, t, e => by cases e; exact ⟨fun _ _ => ⟨rfl, rfl⟩, Nat.le_refl _, fun h _ => SEGX.nil⟩
  | q + 1, s, t, e => by
    unfold jmL at e
    by_cases h1 : ch s.1 = z
    · rw [if_pos h1] at e
      cases er : f (s.1 + 1, emit s.2 o 0) with
      | inl x => rw [er] at e; cases e
      | inr v =>
        rw [er] at e
        obtain ⟨a1, a2, a3⟩ := hf (s.1 + 1, emit s.2 o 0) v er
        obtain ⟨b1, b2, b3⟩ := jmL_sg ho hf q (v.1, land v.2 s.2.2.2) t e
        have a2b : s.2.2.2 + 1 < v.2.2.2 := a2
        have b2b : v.2.2.2 ≤ t.2.2.2 := b2
        have ld : ∀ i, i ≠ s.2.2.2 → (land v.2 s.2.2.2).1 i = v.2.1 i ∧ (land v.2 s.2.2.2).2.1 i = v.2.2.1 i := fun i hi => ⟨rfl, updN_ne hi⟩
        refine ⟨fun i hi => ?_, by omega, fun h hh => ?_⟩
        · have c1 := b1 i (show i < v.2.2.2 by omega)
          have c2 := ld i (by omega)
          have c3 := a1 i (show i < s.2.2.2 + 1 by omega)
          have c4 := emit_op (c := s.2) (o := o) (v := 0) hi
          exact ⟨((c1.1.trans c2.1).trans c3.1).trans c4.1, ((c1.2.trans c2.2).trans c3.2).trans c4.2⟩
        · have seg := (a3 h (by omega)).op (op2 := t.2.1) (ar2 := t.2.2.1) (fun k k1 k2 => by
            have c1 := b1 k k2
            have c2 := ld k (by have : s.2.2.2 + 1 ≤ k := k1; omega)
            exact ⟨c1.1.trans c2.1, c1.2.trans c2.2⟩)
          have top : t.2.1 s.2.2.2 = o ∧ t.2.2.1 s.2.2.2 = v.2.2.2 := by
            have c1 := b1 s.2.2.2 (show s.2.2.2 < v.2.2.2 by omega)
            have c3 := a1 s.2.2.2 (show s.2.2.2 < s.2.2.2 + 1 by omega)
            refine ⟨?_, ?_⟩
            · have e1 : t.2.1 s.2.2.2 = v.2.1 s.2.2.2 := c1.1
              have e2 : v.2.1 s.2.2.2 = updN s.2.1 s.2.2.2 o s.2.2.2 := c3.1
              rw [e1, e2, updN_at]
            · have e1 : t.2.2.1 s.2.2.2 = updN v.2.2.1 s.2.2.2 v.2.2.2 s.2.2.2 := c1.2
              rw [e1, updN_at]
          exact (SEGX.jmp (b := v.2.2.2) seg (by rw [top.1]; exact ho) top.2 (by omega)).cat (b3 h hh) (by omega) b2
    · rw [if_neg h1] at e; cases e; exact ⟨fun _ _ => ⟨rfl, rfl⟩, Nat.le_refl _, fun h _ => SEGX.nil⟩
theorem jm_sg {ch : Nat → Nat} {z o : Nat} {f : PSs → PRs} {m : Nat} (ho : o = 11 ∨ o = 12) (hf : SG f m true) : SG (jmF ch z o f) (m + 1) true := by
  refine seq_sg (q := 240) (g := jmL ch z o f) (fun s t e => ?_) hf (jmL_sg ho hf 240)
  unfold jmF at e
  cases er : f s with
  | inl x => rw [er] at e; cases e
  | inr v => rw [er] at e; exact ⟨v, rfl, e⟩
theorem te_sg {ch : Nat → Nat} {br nt f : PSs → PRs} {m : Nat} (hb : SG br (m + 1) true) (hn : SG nt (m + 1) true) (hf : SG f m false) : SG (teF ch br nt f) (m + 1) true := by
  intro s t e
  unfold teF at e
  by_cases h1 : ch s.1 = 40
  · rw [if_pos h1] at e; exact hb s t e
  · rw [if_neg h1] at e
    by_cases h2 : ch s.1 = 33
    · rw [if_pos h2] at e; exact hn s t e
    · rw [if_neg h2] at e; exact cm_sg hf s t e
theorem tF_sg {ch : Nat → Nat} : ∀ k, SG (tF ch k) (4 * k + 3) true
  | 0 => te_sg (m := 2) deep_sg deep_sg (eF_sg 0)
  | k + 1 => te_sg (m := 4 * k + 6) (in_sg ((jm_sg (Or.inr rfl) (jm_sg (Or.inl rfl) (tF_sg k))).mono (by omega))) (nt_sg ((tF_sg k).mono (by omega))) ((eF_sg (k + 1)).mono (by omega))
theorem bk_sg {ch : Nat → Nat} : SG (bkF ch 6) 30 true := by
  intro s t e
  unfold bkF at e
  by_cases h1 : ch s.1 = 40
  · rw [if_pos h1] at e
    exact (in_sg ((jm_sg (Or.inr rfl) (jm_sg (Or.inl rfl) (tF_sg 5))).mono (by omega)) : SG (inF ch (cdF ch (tF ch 5)) 41) 30 true) s t e
  · rw [if_neg h1] at e; cases e
theorem SEGX.w {op ar : Nat → Nat} {a b : Nat} {g : Bool} (h : SEGX op ar a b 0 1 false g) : SEGW op ar a b g := by
  obtain ⟨ht, tb, p1, p2, p3, p4, p5⟩ := h
  exact ⟨ht, tb, p1, p2, fun e => by rw [p4]; exact e, p3, p5⟩
end PARS4
