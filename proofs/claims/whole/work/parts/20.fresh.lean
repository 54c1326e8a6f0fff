section DEPTH
variable {X : Scr}
theorem pwrite_d {d : Nat} {i : Instr} {st : List Value} {sh : Sh} {w : Wd} {r : List Value × Sh × Wd} (h : pwrite d i st sh w = some r) : pwrite (d + 1) i st sh w = some r := by
  cases i <;> first | exact h | skip
  case invokespecial n =>
    by_cases hn : n = 99999
    · subst hn
      obtain ⟨d1, a, r0, rfl, rfl, hs, hx⟩ := pw_obj h
      rw [← hx]
      simp only [pwrite]
      rw [if_pos hs]
    · unfold pwrite at h
      split at h <;> first | (cases h; done) | (simp_all; done)
  case invokevirtual n =>
    by_cases hn : n = 99998
    · subst hn
      obtain ⟨d1, a, r0, rfl, rfl, hs, hx⟩ := pw_idx h
      rw [← hx]
      simp only [pwrite]
      rw [if_pos hs]
    · unfold pwrite at h
      split at h <;> first | (cases h; done) | (simp_all; done)
  case invokestatic n =>
    by_cases h1 : n = 99995
    · subst h1
      obtain ⟨d1, a, b, r0, rfl, rfl, hs, hx⟩ := pw_max h
      rw [← hx]
      simp only [pwrite]
      rw [if_pos hs]
    by_cases h2 : n = 99996
    · subst h2
      obtain ⟨d1, a, b, r0, rfl, rfl, hs, hx⟩ := pw_min h
      rw [← hx]
      simp only [pwrite]
      rw [if_pos hs]
    by_cases h3 : n = 99997
    · subst h3
      obtain ⟨d1, a, r0, rfl, rfl, hs, hx⟩ := pw_abs h
      rw [← hx]
      simp only [pwrite]
      rw [if_pos hs]
    by_cases h4 : n = 99999
    · subst h4
      obtain ⟨d1, n1, dp, sp, a1, a0, k0, k1, r0, rfl, rfl, hs1, hs2, hcon, hx⟩ := pw_cpy h
      rw [← hx]
      simp only [pwrite, hs1, hs2]
      rw [if_neg hcon]
    · unfold pwrite at h
      split at h <;> first | (cases h; done) | (simp_all; done)
theorem pstep_d {d len : Nat} {i : Instr} {q q2 : PSt} (h : pstep X d i len q = some q2) : pstep X (d + 1) i len q = some q2 := by
  unfold pstep at h ⊢
  split at h
  · exact h
  · exact h
  · exact h
  · cases hp : pwrite d i q.2.2.1 q.2.2.2.1 q.2.2.2.2 with
    | none => rw [hp] at h; cases h
    | some y => rw [hp] at h; rw [pwrite_d hp]; exact h
  · exact h
  · cases h
theorem prun_d {d k : Nat} {c1 c2 : Nat → List Value → Sh → Wd → Option PRes} (hc : ∀ kc av sh w r, c1 kc av sh w = some r → c2 kc av sh w = some r) :
    ∀ (n : Nat) (q : PSt) (r : PRes), prun X d c1 k n q = some r → prun X (d + 1) c2 k n q = some r := by
  intro n
  induction n with
  | zero => intro q r h; cases h
  | succ n ih =>
    intro q r h
    unfold prun at h ⊢
    cases hcd : codeAt k q.1 with
    | none => rw [hcd] at h; cases h
    | some x =>
      obtain ⟨i, len⟩ := x
      rw [hcd] at h
      try dsimp only at h ⊢
      split
      · rename_i hk
        rw [hk] at h
        try dsimp only at h
        cases hp : pcall i q.2.2.1 q.2.2.2.1 with
        | none => rw [hp] at h; cases h
        | some y =>
          obtain ⟨kc, av, r2⟩ := y
          rw [hp] at h
          try dsimp only at h ⊢
          cases hr : c1 kc av q.2.2.2.1 q.2.2.2.2 with
          | none => rw [hr] at h; cases h
          | some z =>
            obtain ⟨v, s1, w1⟩ := z
            rw [hr] at h
            rw [hc _ _ _ _ _ hr]
            exact ih _ _ h
      · rename_i hk
        rw [hk] at h
        exact h
      · rename_i hk5 hk6
        split at h
        · rename_i h5; exact absurd h5 hk5
        · rename_i h6; exact absurd h6 hk6
        · cases hp : pstep X d i len q with
          | none => rw [hp] at h; cases h
          | some y =>
            rw [hp] at h
            rw [pstep_d hp]
            exact ih _ _ h
theorem pev_d {N : Nat} : ∀ (d kc : Nat) (av : List Value) (sh : Sh) (w : Wd) (r : PRes), pev X N d kc av sh w = some r → pev X N (d + 1) kc av sh w = some r := by
  intro d
  induction d with
  | zero => intro kc av sh w r h; cases h
  | succ d ih =>
    intro kc av sh w r h
    unfold pev at h ⊢
    split at h
    · rename_i hav
      rw [if_pos hav]
      exact prun_d ih N _ _ h
    · cases h
theorem CV.lift {d kc : Nat} {av : List Value} {sh : Sh} {w : Wd} {Q : Option Value → Sh → Wd → Prop} (h : CV X d kc av sh w Q) : ∀ e : Nat, CV X (d + e) kc av sh w Q
  | 0 => h
  | e + 1 => by
    obtain ⟨N, r, s1, w1, h1, h2⟩ := CV.lift h e
    exact ⟨N, r, s1, w1, pev_d _ _ _ _ _ _ h1, h2⟩
end DEPTH
/-! A FRESH PAIR: both constructors, by computation; what is computed without the script holds with any -/
section LIFT
variable {X : Scr} {g0 : Nat → Int32}
theorem pread_X {i : Instr} {st r : List Value} {sh : Sh} {w : Wd} (h : pread (4000, g0) i st sh w = some r) : pread X i st sh w = some r := by
  cases i <;> first | exact h | skip
  case iaload =>
    simp only [pread] at h ⊢
    split at h
    · by_cases ha : (by assumption : Nat) = 100000
      · simp [ha] at h
      · simp only [if_neg ha] at h ⊢
        exact h
    · cases h
  case arraylength =>
    simp only [pread] at h ⊢
    split at h
    · by_cases ha : (by assumption : Nat) = 100000
      · simp [ha] at h
      · simp only [if_neg ha] at h ⊢
        exact h
    · cases h
theorem pstep_X {d len : Nat} {i : Instr} {q q2 : PSt} (h : pstep (4000, g0) d i len q = some q2) : pstep X d i len q = some q2 := by
  unfold pstep at h ⊢
  split at h
  · exact h
  · exact h
  · cases hp : pread (4000, g0) i q.2.2.1 q.2.2.2.1 q.2.2.2.2 with
    | none => rw [hp] at h; cases h
    | some y => rw [hp] at h; rw [pread_X hp]; exact h
  · exact h
  · exact h
  · cases h
theorem prun_X {d k : Nat} {c1 c2 : Nat → List Value → Sh → Wd → Option PRes} (hc : ∀ kc av sh w r, c1 kc av sh w = some r → c2 kc av sh w = some r) :
    ∀ (n : Nat) (q : PSt) (r : PRes), prun (4000, g0) d c1 k n q = some r → prun X d c2 k n q = some r := by
  intro n
  induction n with
  | zero => intro q r h; cases h
  | succ n ih =>
    intro q r h
    unfold prun at h ⊢
    cases hcd : codeAt k q.1 with
    | none => rw [hcd] at h; cases h
    | some x =>
      obtain ⟨i, len⟩ := x
      rw [hcd] at h
      try dsimp only at h ⊢
      split
      · rename_i hk
        rw [hk] at h
        try dsimp only at h
        cases hp : pcall i q.2.2.1 q.2.2.2.1 with
        | none => rw [hp] at h; cases h
        | some y =>
          obtain ⟨kc, av, r2⟩ := y
          rw [hp] at h
          try dsimp only at h ⊢
          cases hr : c1 kc av q.2.2.2.1 q.2.2.2.2 with
          | none => rw [hr] at h; cases h
          | some z =>
            obtain ⟨v, s1, w1⟩ := z
            rw [hr] at h
            rw [hc _ _ _ _ _ hr]
            exact ih _ _ h
      · rename_i hk
        rw [hk] at h
        exact h
      · rename_i hk5 hk6
        split at h
        · rename_i h5; exact absurd h5 hk5
        · rename_i h6; exact absurd h6 hk6
        · cases hp : pstep (4000, g0) d i len q with
          | none => rw [hp] at h; cases h
          | some y =>
            rw [hp] at h
            rw [pstep_X hp]
            exact ih _ _ h
theorem pev_X {N : Nat} : ∀ (d kc : Nat) (av : List Value) (sh : Sh) (w : Wd) (r : PRes), pev (4000, g0) N d kc av sh w = some r → pev X N d kc av sh w = some r := by
  intro d
  induction d with
  | zero => intro kc av sh w r h; cases h
  | succ d ih =>
    intro kc av sh w r h
    unfold pev at h ⊢
    split at h
    · rename_i hav
      rw [if_pos hav]
      exact prun_X ih N _ _ h
    · cases h
end LIFT
def sh0 : Sh := [.inr (11, List.replicate 18 none)]
def w0 : Wd := zr2 (fun _ _ => 0) 0
def frC : Option PRes := pev (4000, fun _ => 0) 2000 6 116 [.ref 0] sh0 w0
def wOf (o : Option PRes) : Wd := match o with
  | some x => x.2.2
  | none => fun _ _ => 0
def wC : Wd := wOf frC
def shC : Sh := SH.take 110
def okC (o : Option PRes) (s : Sh) : Bool := match o with
  | some x => decide (x.1 = none) && decide (x.2.1 = s)
  | none => false
set_option maxRecDepth 100000 in
theorem frC_ok : okC frC shC = true := by decide +kernel
def frM : Option PRes := pev (4000, fun _ => 0) 2000 6 156 [.ref 110] (shC ++ [.inr (12, List.replicate 65 none)]) (zr2 wC 110)
def wM : Wd := wOf frM
set_option maxRecDepth 100000 in
theorem frM_ok : okC frM SH = true := by decide +kernel
theorem okC_spec {o : Option PRes} {s : Sh} (h : okC o s = true) : o = some (none, s, wOf o) := by
  cases o with
  | none => cases h
  | some x =>
    obtain ⟨a, b, c⟩ := x
    simp only [okC, Bool.and_eq_true, decide_eq_true_eq] at h
    obtain ⟨h1, h2⟩ := h
    subst h1
    subst h2
    rfl
theorem frC_pev : pev (4000, fun _ => 0) 2000 6 116 [.ref 0] sh0 w0 = some (none, shC, wC) := by
  have h1 : pev (4000, fun _ => 0) 2000 6 116 [.ref 0] sh0 w0 = frC := by rw [frC]
  rw [h1, wC]
  exact okC_spec frC_ok
theorem frM_pev : pev (4000, fun _ => 0) 2000 6 156 [.ref 110] (shC ++ [.inr (12, List.replicate 65 none)]) (zr2 wC 110) = some (none, SH, wM) := by
  have h1 : pev (4000, fun _ => 0) 2000 6 156 [.ref 110] (shC ++ [.inr (12, List.replicate 65 none)]) (zr2 wC 110) = frM := by rw [frM]
  rw [h1, wM]
  exact okC_spec frM_ok
theorem m_116 {X : Scr} {d : Nat} : CV X (6 + d) 116 [.ref 0] sh0 w0 (fun r s1 w1 => r = none ∧ s1 = shC ∧ w1 = wC) := CV.lift ⟨2000, none, shC, wC, pev_X _ _ _ _ _ _ frC_pev, rfl, rfl, rfl⟩ d
theorem m_156 {X : Scr} {d : Nat} : CV X (6 + d) 156 [.ref 110] (shC ++ [.inr (12, List.replicate 65 none)]) (zr2 wC 110) (fun r s1 w1 => r = none ∧ s1 = SH ∧ w1 = wM) := CV.lift ⟨2000, none, SH, wM, pev_X _ _ _ _ _ _ frM_pev, rfl, rfl, rfl⟩ d
