/-! THE CLAIM OUT OF ONE WALK OF THE LAW'S BODY. Your part is whole_start (and what it stands on); all else here is the same for every law, but numbers. -/
def R_law : String := "YearFiguresLaw"
def lw_P (b : Addr) (xs : List Int32) (args : Array Value) (s : State) : Prop := args = #[.ref b] ∧ s.IntsAt b xs ∧ xs.length ≤ 3072 ∧ (Jvm.Cond.and given_1 narrow_1).before args s = true
def lw_Q (_ : Array Value) (s : State) (o : Outcome) (t : State) : Prop := o = .returned (some (.int 1)) ∧ Framed s o t [] 600000 7302250
def lw_Z (below : List Frame) (a : Array Value) (s : State) : State → Prop := fun t => ∃ o, t.status = .running ∧ Ended t below o ∧ lw_Q a s o t
/-- the law's own end, with 1 on the stack, nothing written that was there before, its room as the claim has it -/
theorem lw_ret {p : Program} {l : Launch} {e : Env} {s : State} {m : MethodId} {below : List Frame} {meth : Method} {c : Code} {b : Nat} (hx : p.tables.exec = Jvm.exec) (hb : c.code = code) (hr : meth.sig.returnType = ret) (hlocks : meth.locks = false) {pc : Nat} {H : Heap} {ls : Array Slot} (hdg : decode code pc = .ok (.ireturn, 1)) : W p l e room_1 s m #[Value.ref b] below meth c H [] 600000 7302250 (lw_Z below #[Value.ref b] s) (F0 m pc ls [.int 1]) := by
  intro T hT X
  obtain ⟨fs, hret, hrun, hended, hW, hframe⟩ := X.leave (v := some (.int 1)) (hlocks := hlocks) (fun h => by rw [hr] at h; cases h)
  have hmeth' : T.vm.method? m = some meth := X.method'
  refine ⟨T.setFrames fs, ?_, .returned (some (.int 1)), hrun, hended, rfl, ⟨_, rfl⟩, hW, hframe⟩
  jvm_step X.here [X.here.top, hx, hb, hdg, hmeth', hr, ret, narrow_b1]
  (try refine ⟨rfl, ?_⟩); (try refine ⟨rfl, ?_⟩)
  first | (intro acts; rw [hret _ acts rfl rfl rfl]) | rw [hret _ _ rfl rfl rfl]
  exact Steps.refl _
/-- what holds at the law's entry: the machine, the code, the tables' words (any of lw_tbl by 'hts w (by decide +kernel)'), the script of L ints xs at the cell b, what the Statement gives of the start (any of its parts by flat_of_before) -/
def lw_At (p : Program) (s : State) (m : MethodId) (meth : Method) (c : Code) (b L : Nat) (xs : Nat → Int32) : Prop :=
  p.tables.exec = Jvm.exec ∧ c.code = code ∧ meth.sig.returnType = ret ∧ c.maxLocals = 4 ∧ s.vm.findClass R_law = some m.cls ∧ (∀ w ∈ lw_tbl, w.before #[Value.ref b] s = true) ∧ va_X b L xs s s.heap ∧ b < s.heap.size ∧ meth.locks = false ∧ (Jvm.Cond.and given_1 narrow_1).before #[Value.ref b] s = true

/-- WHAT IS LEFT: on every script of at most 3072 ints the pure machine answers 1 -/
def PURE (L : Nat) (xs : Nat → Int32) : Prop := ∃ (d N n : Nat) (s1 : Sh) (w1 : Wd), d ≤ 200 ∧ prun (L, xs) d (pev (L, xs) N d) 260 n (0, pentry 260 [.ref 100000], [], [], fun _ _ => 0) = some (some (.int 1), s1, w1) ∧ s1.length ≤ 600000 ∧ shSz s1 ≤ 7302250
theorem tb_sub {w : Cond} (h : w ∈ TB) : w ∈ lw_tbl := (List.mem_filter.mp h).1
theorem lw_kn {s : State} {args : Array Value} (hts : ∀ w ∈ lw_tbl, w.before args s = true) : ∃ (dC : Nat → ClassId) (dI : Nat → Nat → Nat), ∀ (ci : Nat) (r : vw_C), CLS[ci]? = some r → u_Kn s r.1 r.2.1 r.2.2 (dC ci) (dI ci) := by
  have h : ∀ ci : Nat, ∃ q : ClassId × (Nat → Nat), ∀ r : vw_C, CLS[ci]? = some r → u_Kn s r.1 r.2.1 r.2.2 q.1 q.2 := by
    intro ci
    cases hc : CLS[ci]? with
    | none => exact ⟨(0, fun _ => 0), fun r h => by cases h⟩
    | some r =>
      obtain ⟨q, -, i1, i2, i3⟩ := cls_part hc
      obtain ⟨cC, iS, hk⟩ := u_known (C := r.1) (T := r.2.1) (N := r.2.2) (n := r.2.2) hts (fun w hw => tb_sub (cls_ws hc w hw)) (hts _ (List.mem_of_getElem? i1))
      exact ⟨(cC, iS), fun r2 h2 => by cases h2; exact hk⟩
  obtain ⟨f, hf⟩ := Classical.axiomOfChoice h
  exact ⟨fun ci => (f ci).1, fun ci => (f ci).2, hf⟩
theorem lw_arr {s : State} {args : Array Value} (ty : FieldType) (hty : (∃ C, ty = .object C) → False) (h : (Cond.arrayClass ty).before args s = true) : ∃ c : ClassId, ArrOfT s c ty ∧ va_RA s c ty := by
  obtain ⟨c, k, comp, h1, h2, h3⟩ := Cond.arrayClass_spec h
  refine ⟨c, fun n z => ⟨fun q h => (by cases h), k, h2, comp, h3⟩, ?_⟩
  cases ty <;> first | exact h1 | exact (hty ⟨_, rfl⟩).elim
theorem lw_arq {s : State} {args : Array Value} {C : String} (h : (Cond.arrayOver (.object C)).before args s = true) : ∃ c : ClassId, ArrOfT s c (.object C) ∧ va_RA s c (.object C) := by
  obtain ⟨comp, c, k, h1, -, h2, h3, h4⟩ := Cond.arrayOver_spec h
  exact ⟨c, fun n z => ⟨fun q h => (by cases h), k, h2, comp, h3⟩, k, comp, h2, h3, h1, h4⟩
abbrev tmS : Nat → Term := fun _ => Term.string "YearFigures$Parser" 111
set_option maxRecDepth 100000 in
theorem lw_str {s : State} {b : Nat} (A : Nat → Prop) (hA : ∀ a : Nat, a < s.heap.size → ¬ A a) (hgv : (Jvm.Cond.and given_1 narrow_1).before #[Value.ref b] s = true) : ∃ adK adV : Nat → Nat, vk_S 1 [12] STB adK adV A s s.heap ∧ ∀ i : Nat, i < 1 → (tmS i).eval #[Value.ref b] s none [] s = some (.ref (adK i)) := by
  have hf := flat_of_before _ hgv
  have one : ∀ {P : Nat → Prop}, P 0 → ∀ i, i < 1 → P i := fun h i hi => by
    have : i = 0 := by omega
    subst this
    exact h
  refine vk_Sof (N := 1) (tm := tmS) (len := [12]) (byt := STB) (one (by decide)) (one (hf _ (by decide +kernel))) (one (hf _ (by decide +kernel))) (one (hf _ (by decide +kernel))) (one (hf _ (by decide +kernel))) (one ?_) (fun i j hi hj hne => by omega) hA
  intro j hj
  have hj : j < 12 := hj
  match j, hj with
  | 0, _ => exact hf _ (by decide +kernel)
  | 1, _ => exact hf _ (by decide +kernel)
  | 2, _ => exact hf _ (by decide +kernel)
  | 3, _ => exact hf _ (by decide +kernel)
  | 4, _ => exact hf _ (by decide +kernel)
  | 5, _ => exact hf _ (by decide +kernel)
  | 6, _ => exact hf _ (by decide +kernel)
  | 7, _ => exact hf _ (by decide +kernel)
  | 8, _ => exact hf _ (by decide +kernel)
  | 9, _ => exact hf _ (by decide +kernel)
  | 10, _ => exact hf _ (by decide +kernel)
  | 11, _ => exact hf _ (by decide +kernel)
  | j + 12, h => exact absurd h (by omega)
theorem law_facts : MBY 260 = code ∧ MLN 260 = 4 ∧ RTY (MRT 260) = ret ∧ CNO (MOW 260) = R_law ∧ MKD 260 = 0 := ⟨rfl, rfl, rfl, rfl, rfl⟩
set_option maxHeartbeats 4000000 in
set_option maxRecDepth 100000 in
theorem whole_from {p : Program} {e : Env} {s : State} {m : MethodId} {below : List Frame} {meth : Method} {c : Code} (l : Launch) {b L : Nat} {xs : Nat → Int32} (hpure : PURE L xs) (hck : ∀ k, k < 261 → chkM k = true) (hStr : ∀ (D : va_G) (cI cB cQ : ClassId) (ad adV : Nat → Nat) (X : Scr) (base : Nat), StrMet l (ENV D cI cB cQ ad adV X base) (ad 100001)) (C0 : lw_At p s m meth c b L xs) :
    W p l e room_1 s m #[Value.ref b] below meth c s.heap [] 0 0 (lw_Z below #[Value.ref b] s) (entryFrame m ([Value.ref b] : List Value).toArray 4) := by
  obtain ⟨hx, hb, hr, hml, hown, hts, hX, hbl, hlk, hgv⟩ := C0
  obtain ⟨d, N, n, s1, w1, hd, hrun, hc, hz⟩ := hpure
  obtain ⟨f1, f2, f3, f4, f5⟩ := law_facts
  obtain ⟨dC, dI, hKn⟩ := lw_kn hts
  obtain ⟨cI, hI1, hI2⟩ := lw_arr (s := s) .int (fun h => by obtain ⟨C, h⟩ := h; cases h) (hts _ (tb_sub wAC))
  obtain ⟨cB, hB1, hB2⟩ := lw_arr (s := s) .byte (fun h => by obtain ⟨C, h⟩ := h; cases h) (hts _ (tb_sub wAB))
  have hAO : (Cond.arrayOver (.object "YearFigures$Program")).before #[Value.ref b] s = true := hts _ (List.mem_of_getElem? (i := 263) (by decide +kernel))
  obtain ⟨cQ, hQ1, hQ2⟩ := lw_arq hAO
  obtain ⟨adK, adV, hS1, hS2⟩ := lw_str (fun q => s.heap.size ≤ q) (fun a h => by omega) hgv
  have hsr : (Cond.stringRef "YearFigures$Parser" 111 "cfastpmyrghq").before #[Value.ref b] s = true := hts _ (by decide +kernel)
  have e0 : adr s.heap.size b (adK 0) 100000 = b := rfl
  have e1 : adr s.heap.size b (adK 0) 100001 = adK 0 := rfl
  have hE : ENV (dC, dI) cI cB cQ (adr s.heap.size b (adK 0)) adV (L, xs) s.heap.size s := by
    refine ⟨⟨hKn, fun k q hk => ?_⟩, fun w hw => ?_, va_AO.of hAO, ?_, ?_, ?_, va_Zof (hts _ (by decide +kernel)) (hts _ (by decide +kernel)) (va_eqi (flat_of_before _ hgv _ (by decide +kernel))) (fun a h => by omega)⟩
    · match k, hk with
      | 0, hk => cases hk; exact ⟨hI1, hI2⟩
      | 1, hk => cases hk; exact ⟨hB1, hB2⟩
      | 2, hk => cases hk; exact ⟨hQ1, hQ2⟩
      | k + 3, hk => simp at hk
    · have h7 := List.mem_filter.mp hw
      have h8 := hts w h7.1
      cases w <;> first | (cases h7.2; done) | skip
      exact va_Nw.of rfl h8
    · rw [e1]
      exact vk_R.of hsr (hS2 0 (by decide))
    · rw [e0]
      exact hX
    · refine ⟨fun i hi => ?_, fun i j hi hj _ => by omega⟩
      have : i = 0 := by omega
      subst this
      exact hS1.1 0 hi
  have CX0 : CX p s m #[Value.ref b] meth c 260 := ⟨hx, by rw [f1]; exact hb, by rw [f2]; exact hml, by rw [f3]; exact hr, hlk, by rw [f4]; exact hown, fun w hw => hts w (tb_sub hw), fun h => by rw [f5] at h; cases h⟩
  have hb0 : adr s.heap.size b (adK 0) 100000 < s.heap.size := by rw [e0]; exact hbl
  have had : ∀ a, a < 100000 → adr s.heap.size b (adK 0) a = s.heap.size + a := fun a h => by simp [adr, h]
  have hent := pentry_LR (k := 260) (ad := adr s.heap.size b (adK 0)) (av := [.ref 100000]) (nL := 4) (by decide) rfl f2
  have hav : ([.ref 100000] : List Value).map (upv (adr s.heap.size b (adK 0))) = [.ref b] := rfl
  rw [hav] at hent
  rw [lg_entry_eq]
  refine prun_sound (n0 := 0) (z0 := 0) (d := d) (N := N) (rv := some (.int 1)) (hck 260 (by decide)) (hStr _ _ _ _ _ _ _ _) hE hb0 had (Nat.add_zero _).symm (ev_sound hck (hStr _ _ _ _ _ _ _ _) hb0 had d) ?_ ?_ ?_ ?_ CX0 (fun pc len raw i st rs H locs cells slots a1 a2 a3 a4 a5 a6 => ?_) n 0 (pentry 260 [.ref 100000]) [] [] (fun _ _ => 0) _ s.heap [] 0 0 hrun hent ⟨by decide, fun k q h => by simp [cellsOf] at h⟩ va_S.rf rfl rfl
  · show s1.length ≤ 0 + 600000
    omega
  · show shSz s1 ≤ 0 + 7302250
    omega
  · show d ≤ 2048
    omega
  · show 400 * d ≤ 84000
    omega
  · obtain ⟨b1, b2, b3⟩ := a1
    have hki : pkind i = 6 := by
      unfold pret at a2
      split at a2 <;> first | rfl | (cases a2)
    have hk2 : rkind raw = 6 := by rcases rsv_kind b3 with h | ⟨h, h2⟩ <;> omega
    have hst : i = .ireturn ∧ st = [.int 1] := by
      unfold pret at a2
      split at a2
      · split at a2
        · split at a2
          · cases a2; exact ⟨rfl, rfl⟩
          · split at a2
            · split at a2
              · cases a2; exact ⟨rfl, rfl⟩
              · cases a2
            · cases a2
        · cases a2
      · split at a2
        · split at a2 <;> cases a2
        · cases a2
      · split at a2
        · split at a2 <;> cases a2
        · cases a2
      · cases a2
    obtain ⟨rfl, rfl⟩ := hst
    have hraw : raw = .ireturn := by
      cases raw <;> first | rfl | (cases hk2; done) | (simp [rkind] at hk2; done) | (cases b3; done)
    subst hraw
    have hln : len = 1 := len_of b2 rfl
    subst hln
    rw [f1] at b1
    refine va_forget (fun q hq => a4.2.2 q hq) ?_
    refine W.widen (k := 600000) (n := 7302250) (by omega) (by omega) ?_
    exact lw_ret hx hb hr hlk b1
