/-! judgements with ints and worlds alone; locals that are not known may be forgotten -/
section JUDGE
def EI (X : Scr) (d k : Nat) (q : PSt) (Q : Int32 → Wd → Prop) : Prop := EV X d k q (fun r s1 w1 => ∃ x, r = some (.int x) ∧ s1 = SH ∧ Q x w1)
def EU (X : Scr) (d k : Nat) (q : PSt) (Q : Wd → Prop) : Prop := EV X d k q (fun r s1 w1 => r = none ∧ s1 = SH ∧ Q w1)
def CI (X : Scr) (d kc : Nat) (av : List Value) (w : Wd) (Q : Int32 → Wd → Prop) : Prop := CV X d kc av SH w (fun r s1 w1 => ∃ x, r = some (.int x) ∧ s1 = SH ∧ Q x w1)
def CU (X : Scr) (d kc : Nat) (av : List Value) (w : Wd) (Q : Wd → Prop) : Prop := CV X d kc av SH w (fun r s1 w1 => r = none ∧ s1 = SH ∧ Q w1)
def EL (X : Scr) (d k : Nat) (q : PSt) (Q : Int64 → Wd → Prop) : Prop := EV X d k q (fun r s1 w1 => ∃ x, r = some (.long x) ∧ s1 = SH ∧ Q x w1)
def CL (X : Scr) (d kc : Nat) (av : List Value) (w : Wd) (Q : Int64 → Wd → Prop) : Prop := CV X d kc av SH w (fun r s1 w1 => ∃ x, r = some (.long x) ∧ s1 = SH ∧ Q x w1)
theorem CL.of {X : Scr} {d kc : Nat} {av : List Value} {w : Wd} {Q : Int64 → Wd → Prop} (h : (decide (av.length ≤ MLN kc) && av.all (fun v => v.category == 1)) = true) (hq : EL X d kc (0, pentry kc av, [], SH, w) Q) : CL X (d + 1) kc av w Q := CV.of h hq
theorem CI.of {X : Scr} {d kc : Nat} {av : List Value} {w : Wd} {Q : Int32 → Wd → Prop} (h : (decide (av.length ≤ MLN kc) && av.all (fun v => v.category == 1)) = true) (hq : EI X d kc (0, pentry kc av, [], SH, w) Q) : CI X (d + 1) kc av w Q := CV.of h hq
theorem CU.of {X : Scr} {d kc : Nat} {av : List Value} {w : Wd} {Q : Wd → Prop} (h : (decide (av.length ≤ MLN kc) && av.all (fun v => v.category == 1)) = true) (hq : EU X d kc (0, pentry kc av, [], SH, w) Q) : CU X (d + 1) kc av w Q := CV.of h hq
theorem CI.mono {X : Scr} {d kc : Nat} {av : List Value} {w : Wd} {Q1 Q : Int32 → Wd → Prop} (h : CI X d kc av w Q1) (hq : ∀ x w1, Q1 x w1 → Q x w1) : CI X d kc av w Q := CV.mono h (fun _ _ _ e => by obtain ⟨x, a, b, c⟩ := e; exact ⟨x, a, b, hq _ _ c⟩)
theorem CU.mono {X : Scr} {d kc : Nat} {av : List Value} {w : Wd} {Q1 Q : Wd → Prop} (h : CU X d kc av w Q1) (hq : ∀ w1, Q1 w1 → Q w1) : CU X d kc av w Q := CV.mono h (fun _ _ _ e => by obtain ⟨a, b, c⟩ := e; exact ⟨a, b, hq _ c⟩)
theorem EI.mono {X : Scr} {d kc : Nat} {q : PSt} {Q1 Q : Int32 → Wd → Prop} (h : EI X d kc q Q1) (hq : ∀ x w1, Q1 x w1 → Q x w1) : EI X d kc q Q := EV.mono h (fun _ _ _ e => by obtain ⟨x, a, b, c⟩ := e; exact ⟨x, a, b, hq _ _ c⟩)
theorem EU.mono {X : Scr} {d kc : Nat} {q : PSt} {Q1 Q : Wd → Prop} (h : EU X d kc q Q1) (hq : ∀ w1, Q1 w1 → Q w1) : EU X d kc q Q := EV.mono h (fun _ _ _ e => by obtain ⟨a, b, c⟩ := e; exact ⟨a, b, hq _ c⟩)
theorem CI.up {X : Scr} {d kc : Nat} {av : List Value} {w : Wd} {Q : Int32 → Wd → Prop} (h : CI X d kc av w Q) (e : Nat) : CI X (d + e) kc av w Q := CV.lift h e
theorem CU.up {X : Scr} {d kc : Nat} {av : List Value} {w : Wd} {Q : Wd → Prop} (h : CU X d kc av w Q) (e : Nat) : CU X (d + e) kc av w Q := CV.lift h e
/-- a contract of the old form -/
theorem CI.ofF {X : Scr} {d kc : Nat} {av : List Value} {w w2 : Wd} {v : Int32} (h : CV X d kc av SH w (fun r s1 w1 => r = some (.int v) ∧ s1 = SH ∧ w1 = w2)) : CI X d kc av w (fun x w1 => x = v ∧ w1 = w2) := CV.mono h (fun _ _ _ e => ⟨v, e.1, e.2.1, rfl, e.2.2⟩)
theorem CU.ofF {X : Scr} {d kc : Nat} {av : List Value} {w w2 : Wd} (h : CV X d kc av SH w (fun r s1 w1 => r = none ∧ s1 = SH ∧ w1 = w2)) : CU X d kc av w (fun w1 => w1 = w2) := CV.mono h (fun _ _ _ e => ⟨e.1, e.2.1, e.2.2⟩)
def wkO : Option Value → Option Value → Prop
  | none, none => True
  | none, some y => y.category = 1
  | some x, o => o = some x
def wk : PLs → PLs → Prop
  | [], [] => True
  | a :: l, b :: m => wkO a b ∧ wk l m
  | _, _ => False
theorem wk_len : ∀ {l m : PLs}, wk l m → l.length = m.length
  | [], [], _ => rfl
  | a :: l, b :: m, h => by
    have := wk_len h.2
    simp [this]
  | [], _ :: _, h => h.elim
  | _ :: _, [], h => h.elim
theorem wk_get : ∀ {l m : PLs} {j : Nat} {v : Value}, wk l m → l[j]? = some (some v) → m[j]? = some (some v)
  | a :: l, b :: m, 0, v, h, e => by
    simp only [List.getElem?_cons_zero, Option.some.injEq] at e
    subst e
    have h1 : b = some v := h.1
    rw [h1]
    rfl
  | a :: l, b :: m, j + 1, v, h, e => wk_get (l := l) (m := m) (j := j) h.2 e
  | [], _, j, v, h, e => by simp at e
  | _ :: _, [], _, _, h, _ => h.elim
theorem wk_cat : ∀ {l m : PLs} {j : Nat} {v : Value}, wk l m → (∀ x, l[j]? ≠ some (some x)) → m[j]? = some (some v) → v.category = 1
  | a :: l, b :: m, 0, v, h, hn, e => by
    simp only [List.getElem?_cons_zero, Option.some.injEq] at e
    subst e
    cases a with
    | none => exact h.1
    | some x => exact absurd rfl (hn x)
  | a :: l, b :: m, j + 1, v, h, hn, e => wk_cat (l := l) (m := m) (j := j) h.2 hn e
  | [], [], j, v, h, hn, e => by simp at e
  | _ :: _, [], _, _, h, _, _ => h.elim
  | [], _ :: _, _, _, h, _, _ => h.elim
theorem wk_set {o : Option Value} (ho : wkO o o) : ∀ {l m : PLs} {j : Nat}, wk l m → wk (l.set j o) (m.set j o)
  | [], [], _, _ => trivial
  | a :: l, b :: m, 0, h => ⟨ho, h.2⟩
  | a :: l, b :: m, j + 1, h => ⟨h.1, wk_set ho (l := l) (m := m) (j := j) h.2⟩
  | [], _ :: _, _, h => h.elim
  | _ :: _, [], _, h => h.elim
theorem wk_setL {l m l2 : PLs} {j : Nat} {v : Value} (h : wk l m) (e : setL l j v = some l2) : ∃ m2, setL m j v = some m2 ∧ wk l2 m2 := by
  unfold setL at e ⊢
  by_cases hj : j < l.length
  · rw [if_pos hj] at e
    rw [if_pos (by rw [← wk_len h]; exact hj)]
    cases j with
    | zero =>
      cases e
      exact ⟨_, rfl, wk_set (o := some v) rfl h⟩
    | succ j =>
      dsimp only at e ⊢
      by_cases hx : ∃ x, l[j]? = some (some x)
      · obtain ⟨x, hx⟩ := hx
        rw [hx] at e
        rw [wk_get h hx]
        dsimp only at e ⊢
        by_cases hc : x.category = 2
        · rw [if_pos hc] at e; cases e
        · rw [if_neg hc] at e ⊢
          cases e
          exact ⟨_, rfl, wk_set (o := some v) rfl h⟩
      · have e2 : l2 = l.set (j + 1) (some v) := by
          split at e
          · rename_i x hx2
            exact absurd ⟨x, hx2⟩ hx
          · cases e; rfl
        subst e2
        have hn : ∀ x, l[j]? ≠ some (some x) := fun x hx2 => hx ⟨x, hx2⟩
        split
        · rename_i y hy
          rw [if_neg (by rw [wk_cat h hn hy]; decide)]
          exact ⟨_, rfl, wk_set (o := some v) rfl h⟩
        · exact ⟨_, rfl, wk_set (o := some v) rfl h⟩
  · rw [if_neg hj] at e; cases e
theorem wk_local {i : Instr} {l m l2 : PLs} {st st2 : List Value} (h : wk l m) (e : plocal i l st = some (l2, st2)) : ∃ m2, plocal i m st = some (m2, st2) ∧ wk l2 m2 := by
  unfold plocal at e ⊢
  split at e
  · split at e
    · rename_i hx
      cases e
      rw [wk_get h hx]
      exact ⟨_, rfl, h⟩
    · cases e
  · split at e
    · rename_i hx
      cases e
      rw [wk_get h hx]
      exact ⟨_, rfl, h⟩
    · cases e
  · split at e
    · rename_i hx
      cases e
      rw [wk_get h hx]
      exact ⟨_, rfl, h⟩
    · cases e
  · split at e
    · split at e
      · rename_i hx
        cases e
        obtain ⟨m2, h1, h2⟩ := wk_setL h hx
        try dsimp only
        rw [h1]
        exact ⟨_, rfl, h2⟩
      · cases e
    · cases e
  · split at e
    · split at e
      · rename_i hx
        cases e
        obtain ⟨m2, h1, h2⟩ := wk_setL h hx
        try dsimp only
        rw [h1]
        exact ⟨_, rfl, h2⟩
      · cases e
    · cases e
  · split at e
    · split at e
      · rename_i l3 hx
        cases e
        try dsimp only
        unfold setL2 at hx ⊢
        rw [← wk_len h]
        split at hx
        · rename_i hj
          rw [if_pos hj]
          split at hx
          · rename_i l4 h4
            cases hx
            obtain ⟨m2, h1, h2⟩ := wk_setL h h4
            rw [h1]
            exact ⟨_, rfl, wk_set (o := none) trivial h2⟩
          · cases hx
        · cases hx
      · cases e
    · cases e
  · split at e
    · rename_i hx
      split at e
      · rename_i hy
        cases e
        obtain ⟨m2, h1, h2⟩ := wk_setL h hy
        rw [wk_get h hx]
        try dsimp only
        rw [h1]
        exact ⟨_, rfl, h2⟩
      · cases e
    · cases e
  · cases e
theorem prun_wk {X : Scr} {d k : Nat} {call : Nat → List Value → Sh → Wd → Option PRes} : ∀ (n pc : Nat) (l m : PLs) (z : List Value × Sh × Wd) (r : PRes), wk l m → prun X d call k n (pc, l, z) = some r → prun X d call k n (pc, m, z) = some r := by
  intro n
  induction n with
  | zero => intro pc l m z r _ h; cases h
  | succ n ih =>
    intro pc l m z r hw h
    unfold prun at h ⊢
    try dsimp only at h ⊢
    cases hcd : codeAt k pc with
    | none => rw [hcd] at h; cases h
    | some x =>
      obtain ⟨i, len⟩ := x
      rw [hcd] at h
      try dsimp only at h ⊢
      split
      · rename_i hk
        rw [hk] at h
        try dsimp only at h
        cases hp : pcall i z.1 z.2.1 with
        | none => rw [hp] at h; cases h
        | some y =>
          obtain ⟨kc, av, r2⟩ := y
          rw [hp] at h
          try dsimp only at h ⊢
          cases hr : call kc av z.2.1 z.2.2 with
          | none => rw [hr] at h; cases h
          | some y =>
            obtain ⟨v, s1, w1⟩ := y
            rw [hr] at h
            exact ih _ _ _ _ _ hw h
      · rename_i hk
        rw [hk] at h
        exact h
      · rename_i hk5 hk6
        split at h
        · rename_i h5; exact absurd h5 hk5
        · rename_i h6; exact absurd h6 hk6
        · cases hp : pstep X d i len (pc, l, z) with
          | none => rw [hp] at h; cases h
          | some y =>
            rw [hp] at h
            try dsimp only at h
            unfold pstep at hp ⊢
            try dsimp only at hp ⊢
            split at hp
            · split at hp
              · rename_i l2 st2 h2
                cases hp
                obtain ⟨m2, h3, h4⟩ := wk_local hw h2
                rw [h3]
                exact ih _ _ _ _ _ h4 h
              · cases hp
            · split at hp
              · rename_i h2
                cases hp
                try rw [h2]
                exact ih _ _ _ _ _ hw h
              · cases hp
            · split at hp
              · rename_i h2
                cases hp
                try rw [h2]
                exact ih _ _ _ _ _ hw h
              · cases hp
            · split at hp
              · rename_i h2
                cases hp
                try rw [h2]
                exact ih _ _ _ _ _ hw h
              · cases hp
            · split at hp
              · rename_i h2
                cases hp
                try rw [h2]
                exact ih _ _ _ _ _ hw h
              · cases hp
            · cases hp
theorem EV.weak {X : Scr} {d k pc : Nat} {l m : PLs} {st : List Value} {sh : Sh} {w : Wd} {Q : Option Value → Sh → Wd → Prop} (hw : wk l m) (h : EV X d k (pc, l, st, sh, w) Q) : EV X d k (pc, m, st, sh, w) Q := by
  obtain ⟨N, n, r, s1, w1, h1, h2⟩ := h
  exact ⟨N, n, r, s1, w1, prun_wk n pc l m _ _ hw h1, h2⟩
theorem EV.ldiv {X : Scr} {d k pc : Nat} {ls : PLs} {r : List Value} {sh : Sh} {w : Wd} {cl : List (Option (Instr × Nat))} {x y : Int64} {Q : Option Value → Sh → Wd → Prop} (hl : RCT[k]? = some cl) (hc : cdI cl pc = some (.ldiv, 1)) (hne : ¬ y = 0) (kk : EV X d k (pc + 1, ls, .long (x / y) :: r, sh, w) Q) : EV X d k (pc, ls, .long y :: .long x :: r, sh, w) Q := by
  refine EV.stp1 hl (q2 := (pc + 1, ls, .long (x / y) :: r, sh, w)) ?_ kk
  unfold stp
  rw [hc]
  simp only [pstep, pkind, pstack, if_neg hne]
end JUDGE
