/-! A LOGIC for the pure machine: no fuel in it -/
section LOGIC
theorem prun_fuel {X : Scr} {d k : Nat} {c1 c2 : Nat → List Value → Sh → Wd → Option PRes} (hc : ∀ kc av sh w r, c1 kc av sh w = some r → c2 kc av sh w = some r) :
    ∀ (n n2 : Nat) (q : PSt) (r : PRes), n ≤ n2 → prun X d c1 k n q = some r → prun X d c2 k n2 q = some r := by
  intro n
  induction n with
  | zero => intro n2 q r _ h; cases h
  | succ n ih =>
    intro n2 q r hn h
    obtain ⟨n3, rfl⟩ : ∃ n3, n2 = n3 + 1 := ⟨n2 - 1, by omega⟩
    unfold prun at h ⊢
    cases hcd : codeAt k q.1 with
    | none => rw [hcd] at h; cases h
    | some x =>
      obtain ⟨i, len⟩ := x
      rw [hcd] at h
      try dsimp only at h ⊢
      split
      · rename_i hk
        rw [hk] at h
        try dsimp only at h
        cases hp : pcall i q.2.2.1 q.2.2.2.1 with
        | none => rw [hp] at h; cases h
        | some y =>
          obtain ⟨kc, av, r2⟩ := y
          rw [hp] at h
          try dsimp only at h ⊢
          cases hr : c1 kc av q.2.2.2.1 q.2.2.2.2 with
          | none => rw [hr] at h; cases h
          | some z =>
            obtain ⟨v, s1, w1⟩ := z
            rw [hr] at h
            rw [hc _ _ _ _ _ hr]
            exact ih n3 _ _ (by omega) h
      · rename_i hk
        rw [hk] at h
        exact h
      · rename_i hk5 hk6
        split at h
        · rename_i h5; exact absurd h5 hk5
        · rename_i h6; exact absurd h6 hk6
        · cases hp : pstep X d i len q with
          | none => rw [hp] at h; cases h
          | some y =>
            rw [hp] at h
            exact ih n3 _ _ (by omega) h
theorem pev_fuel {X : Scr} {N N2 : Nat} (hN : N ≤ N2) : ∀ (d kc : Nat) (av : List Value) (sh : Sh) (w : Wd) (r : PRes), pev X N d kc av sh w = some r → pev X N2 d kc av sh w = some r := by
  intro d
  induction d with
  | zero => intro kc av sh w r h; cases h
  | succ d ih =>
    intro kc av sh w r h
    unfold pev at h ⊢
    split at h
    · rename_i hav
      rw [if_pos hav]
      exact prun_fuel ih N N2 _ _ hN h
    · cases h
/-- from here the method returns, and Q holds of what it answers and of the world -/
def EV (X : Scr) (d k : Nat) (q : PSt) (Q : Option Value → Sh → Wd → Prop) : Prop := ∃ (N n : Nat) (r : Option Value) (s1 : Sh) (w1 : Wd), prun X d (pev X N d) k n q = some (r, s1, w1) ∧ Q r s1 w1
/-- the call returns, and Q holds -/
def CV (X : Scr) (d kc : Nat) (av : List Value) (sh : Sh) (w : Wd) (Q : Option Value → Sh → Wd → Prop) : Prop := ∃ (N : Nat) (r : Option Value) (s1 : Sh) (w1 : Wd), pev X N d kc av sh w = some (r, s1, w1) ∧ Q r s1 w1
variable {X : Scr} {d k kc pc len : Nat} {Q Q1 : Option Value → Sh → Wd → Prop} {q q2 : PSt} {i : Instr} {ls : PLs} {st : List Value} {sh : Sh} {w : Wd} {av r : List Value} {rv : Option Value}
/-- the code of one method: a list by bytes -/
def cdI (cl : List (Option (Instr × Nat))) (pc : Nat) : Option (Instr × Nat) := match cl[pc]? with
  | some o => o
  | none => none
theorem cdI_eq {cl : List (Option (Instr × Nat))} (h : RCT[k]? = some cl) (pc : Nat) : codeAt k pc = cdI cl pc := by
  unfold codeAt cdI
  rw [h]
  dsimp only
  cases cl[pc]? <;> rfl
def stp (X : Scr) (d : Nat) (cl : List (Option (Instr × Nat))) (q : PSt) : Option PSt := match cdI cl q.1 with
  | some (i, len) => pstep X d i len q
  | none => none
def stpN (X : Scr) (d : Nat) (cl : List (Option (Instr × Nat))) : Nat → PSt → Option PSt
  | 0, q => some q
  | n + 1, q => match stp X d cl q with
    | some q2 => stpN X d cl n q2
    | none => none
variable {cl : List (Option (Instr × Nat))}
theorem EV.stp1 (hl : RCT[k]? = some cl) (h : stp X d cl q = some q2) (hq : EV X d k q2 Q) : EV X d k q Q := by
  obtain ⟨N, n, r, s1, w1, h1, h2⟩ := hq
  refine ⟨N, n + 1, r, s1, w1, ?_, h2⟩
  unfold stp at h
  unfold prun
  rw [cdI_eq hl]
  cases hcd : cdI cl q.1 with
  | none => rw [hcd] at h; cases h
  | some x =>
    obtain ⟨i, len⟩ := x
    rw [hcd] at h
    try dsimp only at h ⊢
    split
    · rename_i hk
      unfold pstep at h
      rw [hk] at h
      cases h
    · rename_i hk
      unfold pstep at h
      rw [hk] at h
      cases h
    · rw [h]
      exact h1
theorem EV.steps (hl : RCT[k]? = some cl) : ∀ (n : Nat) {q q2 : PSt}, stpN X d cl n q = some q2 → EV X d k q2 Q → EV X d k q Q
  | 0, q, q2, h, hq => by
    cases h
    exact hq
  | n + 1, q, q2, h, hq => by
    unfold stpN at h
    cases hs : stp X d cl q with
    | none => rw [hs] at h; cases h
    | some q3 =>
      rw [hs] at h
      exact EV.stp1 hl hs (EV.steps hl n h hq)
theorem EV.ret (hl : RCT[k]? = some cl) (hc : cdI cl pc = some (i, len)) (hk : pkind i = 6) (hp : pret k i st = some rv) (hQ : Q rv sh w) : EV X d k (pc, ls, st, sh, w) Q := by
  refine ⟨0, 1, rv, sh, w, ?_, hQ⟩
  unfold prun
  rw [cdI_eq hl, hc]
  try dsimp only
  rw [hk]
  try dsimp only
  rw [hp]
  rfl
theorem EV.call (hl : RCT[k]? = some cl) (hc : cdI cl pc = some (i, len)) (hk : pkind i = 5) (hp : pcall i st sh = some (kc, av, r)) (h1 : CV X d kc av sh w Q1) (h2 : ∀ v s1 w1, Q1 v s1 w1 → EV X d k (pc + len, ls, v.toList ++ r, s1, w1) Q) : EV X d k (pc, ls, st, sh, w) Q := by
  obtain ⟨N, v, s1, w1, hr, hQ1⟩ := h1
  obtain ⟨N2, n, v2, s2, w2, hr2, hQ⟩ := h2 v s1 w1 hQ1
  refine ⟨max N N2, n + 1, v2, s2, w2, ?_, hQ⟩
  unfold prun
  try dsimp only
  rw [cdI_eq hl, hc]
  try dsimp only
  rw [hk]
  try dsimp only
  rw [hp]
  try dsimp only
  rw [pev_fuel (Nat.le_max_left N N2) _ _ _ _ _ _ hr]
  exact prun_fuel (pev_fuel (Nat.le_max_right N N2) d) n n _ _ (Nat.le_refl n) hr2
theorem CV.of (h : (decide (av.length ≤ MLN kc) && av.all (fun v => v.category == 1)) = true) (hq : EV X d kc (0, pentry kc av, [], sh, w) Q) : CV X (d + 1) kc av sh w Q := by
  obtain ⟨N, n, r, s1, w1, h1, h2⟩ := hq
  refine ⟨max N n, r, s1, w1, ?_, h2⟩
  simp only [Bool.and_eq_true, decide_eq_true_eq] at h
  unfold pev
  rw [if_pos h]
  exact prun_fuel (pev_fuel (Nat.le_max_left N n) d) n _ _ _ (Nat.le_max_right N n) h1
theorem EV.mono (h : EV X d k q Q1) (hq : ∀ v s1 w1, Q1 v s1 w1 → Q v s1 w1) : EV X d k q Q := by
  obtain ⟨N, n, r, s1, w1, h1, h2⟩ := h
  exact ⟨N, n, r, s1, w1, h1, hq _ _ _ h2⟩
theorem CV.mono (h : CV X d kc av sh w Q1) (hq : ∀ v s1 w1, Q1 v s1 w1 → Q v s1 w1) : CV X d kc av sh w Q := by
  obtain ⟨N, r, s1, w1, h1, h2⟩ := h
  exact ⟨N, r, s1, w1, h1, hq _ _ _ h2⟩
end LOGIC
