/-! THE MACHINE IS SOUND, 6: whole methods -/
theorem chkL_at {k : Nat} : ∀ {l : List (Option (Instr × Nat))} {p0 j : Nat} {o : Option (Instr × Nat)}, chkL k p0 l = true → l[j]? = some o → chkI k (p0 + j) o = true
  | [], _, _, _, _, h2 => by simp at h2
  | x :: l, p0, 0, o, h, h2 => by
    simp only [chkL, Bool.and_eq_true] at h
    simp only [List.getElem?_cons_zero, Option.some.injEq] at h2
    subst h2
    exact h.1
  | x :: l, p0, j + 1, o, h, h2 => by
    simp only [chkL, Bool.and_eq_true] at h
    rw [List.getElem?_cons_succ] at h2
    have := chkL_at h.2 h2
    rw [show p0 + (j + 1) = p0 + 1 + j by omega]
    exact this
theorem code_RW {k pc len : Nat} {i : Instr} (hck : chkM k = true) (h : codeAt k pc = some (i, len)) : ∃ raw, RW k pc len raw i := by
  unfold codeAt at h
  unfold chkM at hck
  cases hl : RCT[k]? with
  | none => rw [hl] at h; cases h
  | some l =>
    rw [hl] at h hck
    dsimp only at h hck
    cases ho : l[pc]? with
    | none => rw [ho] at h; cases h
    | some o =>
      rw [ho] at h
      dsimp only at h
      subst h
      have h3 := chkL_at hck ho
      rw [Nat.zero_add] at h3
      unfold chkI at h3
      dsimp only at h3
      cases hd : decode (MBY k) pc with
      | error e => rw [hd] at h3; cases h3
      | ok x =>
        obtain ⟨raw, l2⟩ := x
        rw [hd] at h3
        simp only [Bool.and_eq_true, decide_eq_true_eq] at h3
        obtain ⟨rfl, h4, h5⟩ := h3
        exact ⟨raw, hd, h4, h5⟩
theorem pwrite_mono {d : Nat} {i : Instr} {st st' : List Value} {sh sh' : Sh} {w w' : Wd} (h : pwrite d i st sh w = some (st', sh', w')) : sh.length ≤ sh'.length ∧ shSz sh ≤ shSz sh' := by
  unfold pwrite at h
  (repeat' split at h) <;> first
    | (cases h; done)
    | (cases h; exact ⟨Nat.le_refl _, Nat.le_refl _⟩)
    | (cases h; refine ⟨by simp, ?_⟩; rw [shSz_push]; omega)
    | (cases h; refine ⟨by simp, ?_⟩; rw [shSz_set (by assumption) (by simp [cellSz])]; exact Nat.le_refl _)
theorem pstep_mono {X : Scr} {d len : Nat} {i : Instr} {q q2 : PSt} (h : pstep X d i len q = some q2) : q.2.2.2.1.length ≤ q2.2.2.2.1.length ∧ shSz q.2.2.2.1 ≤ shSz q2.2.2.2.1 := by
  unfold pstep at h
  split at h
  · split at h <;> first | (cases h; done) | (cases h; exact ⟨Nat.le_refl _, Nat.le_refl _⟩)
  · split at h <;> first | (cases h; done) | (cases h; exact ⟨Nat.le_refl _, Nat.le_refl _⟩)
  · split at h <;> first | (cases h; done) | (cases h; exact ⟨Nat.le_refl _, Nat.le_refl _⟩)
  · split at h
    · rename_i a b cc hw
      cases h
      exact pwrite_mono hw
    · cases h
  · split at h <;> first | (cases h; done) | (cases h; exact ⟨Nat.le_refl _, Nat.le_refl _⟩)
  · cases h
theorem prun_mono {X : Scr} {d k : Nat} {call : Nat → List Value → Sh → Wd → Option PRes} (hcall : ∀ kc av sh w rv s1 w1, call kc av sh w = some (rv, s1, w1) → sh.length ≤ s1.length ∧ shSz sh ≤ shSz s1) :
    ∀ (n : Nat) (q : PSt) (rv : Option Value) (sh' : Sh) (w' : Wd), prun X d call k n q = some (rv, sh', w') → q.2.2.2.1.length ≤ sh'.length ∧ shSz q.2.2.2.1 ≤ shSz sh' := by
  intro n
  induction n with
  | zero => intro q rv sh' w' h; cases h
  | succ n ih =>
    intro q rv sh' w' h
    unfold prun at h
    cases hc : codeAt k q.1 with
    | none => rw [hc] at h; cases h
    | some x =>
      obtain ⟨i, len⟩ := x
      rw [hc] at h
      dsimp only at h
      split at h
      · cases hp : pcall i q.2.2.1 q.2.2.2.1 with
        | none => rw [hp] at h; cases h
        | some y =>
          obtain ⟨kc, av, r⟩ := y
          rw [hp] at h
          dsimp only at h
          cases hr : call kc av q.2.2.2.1 q.2.2.2.2 with
          | none => rw [hr] at h; cases h
          | some z =>
            obtain ⟨v, s1, w1⟩ := z
            rw [hr] at h
            have h1 := hcall _ _ _ _ _ _ _ hr
            have h2 := ih _ _ _ _ h
            exact ⟨Nat.le_trans h1.1 h2.1, Nat.le_trans h1.2 h2.2⟩
      · cases hp : pret k i q.2.2.1 with
        | none => rw [hp] at h; cases h
        | some y =>
          rw [hp] at h
          cases h
          exact ⟨Nat.le_refl _, Nat.le_refl _⟩
      · cases hp : pstep X d i len q with
        | none => rw [hp] at h; cases h
        | some y =>
          rw [hp] at h
          have h1 := pstep_mono hp
          have h2 := ih _ _ _ _ h
          exact ⟨Nat.le_trans h1.1 h2.1, Nat.le_trans h1.2 h2.2⟩
theorem pev_mono {X : Scr} {N : Nat} : ∀ (d kc : Nat) (av : List Value) (sh : Sh) (w : Wd) (rv : Option Value) (s1 : Sh) (w1 : Wd), pev X N d kc av sh w = some (rv, s1, w1) → sh.length ≤ s1.length ∧ shSz sh ≤ shSz s1 := by
  intro d
  induction d with
  | zero => intro kc av sh w rv s1 w1 h; cases h
  | succ d ih =>
    intro kc av sh w rv s1 w1 h
    unfold pev at h
    split at h
    · exact prun_mono ih N _ _ _ _ h
    · cases h
section SND8
variable {p : Program} {l : Launch} {e : Env} {R : Room} {s : State} {m : MethodId} {args : Array Value} {below : List Frame} {meth : Method} {c : Code} {Q : State → Prop}
variable {ad adV : Nat → Nat} {k : Nat} {D : va_G} {cI cB cQ : ClassId} {base : Nat} {sh' : Sh} {w' : Wd} {X : Scr} {rv : Option Value}
set_option maxHeartbeats 4000000 in
/-- a walk of the pure machine is a walk of the machine -/
theorem prun_sound {n0 z0 d N : Nat} (hck : chkM k = true) (hStr : StrMet l (ENV D cI cB cQ ad adV X base) (ad 100001)) (hE : ENV D cI cB cQ ad adV X base s) (hb0 : ad 100000 < base) (had : ∀ a, a < 100000 → ad a = base + a) (hs0 : s.heap.size = base + n0)
    (IH : ∀ kc av sh w rv s1 w1, kc < 260 → pev X N d kc av sh w = some (rv, s1, w1) → MET l D cI cB cQ ad adV X base (d - 1) kc av sh w rv s1 w1) (hRc : sh'.length ≤ n0 + R.cells) (hRz : shSz sh' ≤ z0 + R.slots) (hRf : d ≤ R.frames) (hRl : 400 * d ≤ R.locals) (C0 : CX p s m args meth c k)
    (hfin : ∀ (pc len : Nat) (raw i : Instr) (st : List Value) (rs : Array Slot) (H : Heap) (locs : List Loc) (cells slots : Nat), RW k pc len raw i → pret k i st = some rv → WH D ad cI cB cQ base sh' w' H → va_S (fun q => base ≤ q) s.heap H locs → n0 + cells = sh'.length → z0 + slots = shSz sh' → W p l e R s m args below meth c H locs cells slots Q (F0 m pc rs (st.map (upv ad)))) :
    ∀ (n pc : Nat) (ls : PLs) (st : List Value) (sh : Sh) (w : Wd) (rs : Array Slot) (H : Heap) (locs : List Loc) (cells slots : Nat), prun X d (pev X N d) k n (pc, ls, st, sh, w) = some (rv, sh', w') → LR ad (MLN k) ls rs → WH D ad cI cB cQ base sh w H → va_S (fun q => base ≤ q) s.heap H locs → n0 + cells = sh.length → z0 + slots = shSz sh →
      W p l e R s m args below meth c H locs cells slots Q (F0 m pc rs (st.map (upv ad))) := by
  intro n
  induction n with
  | zero => intro pc ls st sh w rs H locs cells slots h; cases h
  | succ n ih =>
    intro pc ls st sh w rs H locs cells slots h hL hW hS hc hz
    have hrs : rs.size = MLN k := hL.2.1
    unfold prun at h
    dsimp only at h
    cases hcd : codeAt k pc with
    | none => rw [hcd] at h; cases h
    | some x =>
      obtain ⟨i, len⟩ := x
      obtain ⟨raw, hR⟩ := code_RW hck hcd
      rw [hcd] at h
      dsimp only at h
      split at h
      · rename_i hk
        cases hp : pcall i st sh with
        | none => rw [hp] at h; cases h
        | some y =>
          obtain ⟨kc, av, r⟩ := y
          rw [hp] at h
          dsimp only at h
          cases hr : pev X N d kc av sh w with
          | none => rw [hr] at h; cases h
          | some z =>
            obtain ⟨v, s1, w1⟩ := z
            rw [hr] at h
            dsimp only at h
            have m1 := pev_mono _ _ _ _ _ _ _ _ hr
            have m2 := prun_mono (fun kc av sh w rv s1 w1 => pev_mono d kc av sh w rv s1 w1) n _ _ _ _ h
            dsimp only at m2
            cases d with
            | zero => cases hr
            | succ d =>
              exact s_call (d := d) hE hb0 had hS hW hs0 hc hz m1.1 m1.2 (Nat.le_trans m2.1 hRc) (Nat.le_trans m2.2 hRz) hRf hRl C0 hrs hR hk hp (fun hkc => IH _ _ _ _ _ _ _ hkc hr) (fun H1 locs1 c1 z1 a1 a2 a3 a4 => ih _ _ _ _ _ _ _ _ _ _ h hL a3 a4 a1 a2)
      · rename_i hk
        cases hp : pret k i st with
        | none => rw [hp] at h; cases h
        | some y =>
          rw [hp] at h
          cases h
          exact hfin pc len raw i st rs H locs cells slots hR hp hW hS hc hz
      · rename_i hk5 hk6
        cases hp : pstep X d i len (pc, ls, st, sh, w) with
        | none => rw [hp] at h; cases h
        | some y =>
          obtain ⟨pc2, ls2, st2, sh2, w2⟩ := y
          rw [hp] at h
          dsimp only at h
          have m2 := prun_mono (fun kc av sh w rv s1 w1 => pev_mono d kc av sh w rv s1 w1) n _ _ _ _ h
          dsimp only at m2
          unfold pstep at hp
          dsimp only at hp
          split at hp
          · rename_i hk
            cases hq : plocal i ls st with
            | none => rw [hq] at hp; cases hp
            | some u =>
              obtain ⟨l3, st3⟩ := u
              rw [hq] at hp
              cases hp
              exact s_local C0 hR hk hq hL (fun rs2 hL2 => ih _ _ _ _ _ _ _ _ _ _ h hL2 hW hS hc hz)
          · rename_i hk
            cases hq : pjump i pc len st with
            | none => rw [hq] at hp; cases hp
            | some u =>
              obtain ⟨t3, st3⟩ := u
              rw [hq] at hp
              cases hp
              exact s_jump C0 hR hk hq (ih _ _ _ _ _ _ _ _ _ _ h hL hW hS hc hz)
          · rename_i hk
            cases hq : pread X i st sh w with
            | none => rw [hq] at hp; cases hp
            | some st3 =>
              rw [hq] at hp
              cases hp
              exact s_read had hE.1 hE.2.2.2.2.1 hb0 (by omega) hS hW C0 hR hk hq (ih _ _ _ _ _ _ _ _ _ _ h hL hW hS hc hz)
          · rename_i hk
            cases hq : pwrite d i st sh w with
            | none => rw [hq] at hp; cases hp
            | some u =>
              obtain ⟨st3, sh3, w3⟩ := u
              rw [hq] at hp
              cases hp
              rcases rsv_kind hR.2.2 with h7 | ⟨h7, -⟩
              · exact s_store had hE.1 hE.2.2.1 hS hW hs0 hc hz (Nat.le_trans m2.1 hRc) (Nat.le_trans m2.2 hRz) hRf hRl C0 hrs hR hk (h7.trans hk) hq (fun H1 locs1 c1 z1 a1 a2 a3 a4 => ih _ _ _ _ _ _ _ _ _ _ h hL a3 a4 a1 a2)
              · exact s_prim hStr hE hb0 had hS hW hs0 hc hz (Nat.le_trans m2.1 hRc) (Nat.le_trans m2.2 hRz) hRf hRl C0 hrs hR hk h7 hq (fun H1 locs1 c1 z1 a1 a2 a3 a4 => ih _ _ _ _ _ _ _ _ _ _ h hL a3 a4 a1 a2)
          · rename_i hk
            cases hq : pstack i st with
            | none => rw [hq] at hp; cases hp
            | some st3 =>
              rw [hq] at hp
              cases hp
              exact s_stack rfl hE.2.2.2.1 C0 hR hk hq (ih _ _ _ _ _ _ _ _ _ _ h hL hW hS hc hz)
          · cases hp
end SND8
