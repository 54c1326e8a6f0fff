/-! THE MACHINE IS SOUND, 7: contracts of all methods at once -/
section SND9
variable {p : Program} {l : Launch} {e : Env} {R : Room} {s : State} {m : MethodId} {args : Array Value} {below : List Frame} {meth : Method} {c : Code}
variable {ad adV : Nat → Nat} {k : Nat} {D : va_G} {cI cB cQ : ClassId} {base : Nat} {sh' : Sh} {w' : Wd} {X : Scr} {rv : Option Value}
theorem s_ret {n0 z0 : Nat} (C0 : CX p s m args meth c k) {pc len : Nat} {raw i : Instr} {st : List Value} {rs : Array Slot} {H : Heap} {locs : List Loc} {cells slots : Nat} (hR : RW k pc len raw i) (hp : pret k i st = some rv) (hW : WH D ad cI cB cQ base sh' w' H) (hS : va_S (fun q => base ≤ q) s.heap H locs) (hc : n0 + cells = sh'.length) (hz : z0 + slots = shSz sh') :
    W p l e R s m args below meth c H locs cells slots (MQ below (QCT D cI cB cQ ad base rv sh' w') args s (sh'.length - n0) (shSz sh' - z0) (fun q => base ≤ q)) (F0 m pc rs (st.map (upv ad))) := by
  obtain ⟨hx, hb, hml, hrt, hlk, hown, hts, hin⟩ := C0
  obtain ⟨hd, hlen, hr⟩ := hR
  have ec : cells = sh'.length - n0 := by omega
  have es : slots = shSz sh' - z0 := by omega
  rw [← ec, ← es]
  have hki : pkind i = 6 := by
    unfold pret at hp
    split at hp <;> first | rfl | (cases hp)
  have hk2 : rkind raw = 6 := by rcases rsv_kind hr with h | ⟨h, h2⟩ <;> omega
  have hqq : ∀ t : State, t.heap = H → s.WarmedH t.vm → QCT D cI cB cQ ad base rv sh' w' args s (.returned (rv.map (upv ad))) t := fun t ht _ => ⟨⟨rfl, by rw [ht]; exact hW⟩, hS.F ht⟩
  cases raw <;> first | (cases hk2; done) | (simp [rkind] at hk2; done) | skip
  case ireturn =>
    cases hr
    have h1 : len = 1 := len_of hlen rfl
    subst h1
    dsimp only [pret] at hp
    split at hp
    · rename_i v
      split at hp
      · rename_i h1
        cases hp
        rw [h1] at hrt
        exact W.iret hx hb hrt hqq hS.2.2 hd hlk
      · split at hp
        · rename_i h2
          split at hp
          · rename_i h01
            cases hp
            rw [h2] at hrt
            exact W.zret (ty := .boolean) hx hb hrt (by rcases h01 with h | h <;> (subst h; rfl)) hqq hS.2.2 hd hlk
          · cases hp
        · cases hp
    · cases hp
  case lreturn =>
    cases hr
    have h1 : len = 1 := len_of hlen rfl
    subst h1
    dsimp only [pret] at hp
    split at hp
    · split at hp
      · rename_i h1
        cases hp
        rw [h1] at hrt
        exact W.lret hx hb hrt hqq hS.2.2 hd hlk
      · cases hp
    · cases hp
  case return_ =>
    cases hr
    have h1 : len = 1 := len_of hlen rfl
    subst h1
    dsimp only [pret] at hp
    split at hp
    · split at hp
      · rename_i h1
        cases hp
        rw [h1] at hrt
        exact W.vret hx hb hrt hqq hS.2.2 hd hlk
      · cases hp
    · cases hp
theorem lg_sl1 : ∀ (vs : List Value), vs.all (fun v => v.category == 1) = true → lg_sl vs = vs.map Slot.val
  | [], _ => rfl
  | v :: vs, h => by
    simp only [List.all_cons, Bool.and_eq_true, beq_iff_eq] at h
    have h2 := lg_sl1 vs h.2
    have h3 : ¬ v.category = 2 := by omega
    simp only [lg_sl, List.flatMap_cons, if_neg h3, List.map_cons] at h2 ⊢
    rw [h2]
    rfl
theorem lv_args1 : ∀ (vs : List Value) (n : Nat), vs.all (fun v => v.category == 1) = true → ∀ i v, vs[i]? = some v → (n + i, v) ∈ lv_args n vs := by
  intro vs
  induction vs with
  | nil => intro n _ i v h; simp at h
  | cons u vs ih =>
    intro n h i v hi
    simp only [List.all_cons, Bool.and_eq_true, beq_iff_eq] at h
    cases i with
    | zero =>
      rw [List.getElem?_cons_zero] at hi
      cases hi
      simp [lv_args]
    | succ i =>
      rw [List.getElem?_cons_succ] at hi
      have h4 := ih (n + 1) h.2 i v hi
      have h5 : n + (i + 1) = n + 1 + i := by omega
      rw [h5]
      simp only [lv_args, h.1]
      exact List.mem_cons_of_mem _ h4
theorem pentry_LR {av : List Value} {nL : Nat} (h1 : av.length ≤ nL) (h2 : av.all (fun v => v.category == 1) = true) (hn : MLN k = nL) : LR ad (MLN k) (pentry k av) ((lg_sl (av.map (upv ad)) ++ List.replicate (nL - (lg_sl (av.map (upv ad))).length) Slot.unset).toArray) := by
  subst hn
  have h3 : (av.map (upv ad)).all (fun v => v.category == 1) = true := by
    rw [List.all_map]
    rw [← h2]
    congr 1
    funext v
    simp [upv_cat]
  have h4 : (lg_sl (av.map (upv ad))).length = av.length := by rw [lg_sl1 _ h3]; simp
  have hl := lv_entry (av.map (upv ad)) (n := MLN k) (by rw [h4]; exact h1)
  refine ⟨by simp [pentry]; omega, hl.1, hl.2.1, fun q hq => ?_⟩
  obtain ⟨i, u⟩ := q
  obtain ⟨v, hv, rfl⟩ := lvs_mem.mp hq
  have h5 : av[i]? = some v := by
    unfold pentry at hv
    by_cases hi : i < av.length
    · rw [List.getElem?_append_left (by simpa using hi), List.getElem?_map] at hv
      cases h6 : av[i]? with
      | none => rw [h6] at hv; cases hv
      | some v2 => rw [h6] at hv; simpa using hv
    · rw [List.getElem?_append_right (by simpa using hi), List.getElem?_replicate] at hv
      split at hv <;> simp at hv
  have h6 := lv_args1 (av.map (upv ad)) 0 h3 i (upv ad v) (by rw [List.getElem?_map, h5]; rfl)
  rw [Nat.zero_add] at h6
  exact hl.2.2 _ h6
/-- EVERY METHOD's CONTRACT: what the pure machine says -/
theorem ev_sound {N : Nat} (hck : ∀ k, k < 261 → chkM k = true) (hStr : StrMet l (ENV D cI cB cQ ad adV X base) (ad 100001)) (hb0 : ad 100000 < base) (had : ∀ a, a < 100000 → ad a = base + a) :
    ∀ (d kc : Nat) (av : List Value) (sh : Sh) (w : Wd) (rv : Option Value) (s1 : Sh) (w1 : Wd), kc < 260 → pev X N d kc av sh w = some (rv, s1, w1) → MET l D cI cB cQ ad adV X base (d - 1) kc av sh w rv s1 w1 := by
  intro d
  induction d with
  | zero => intro kc av sh w rv s1 w1 _ h; cases h
  | succ d ih =>
    intro kc av sh w rv s1 w1 hkc h
    have hmono := pev_mono _ _ _ _ _ _ _ _ h
    unfold pev at h
    split at h
    · rename_i hav
      obtain ⟨o1, o2, o3, o4, o5, o6, o7, o8, o9, o10, o11⟩ := meth_ok hkc
      show Met l (MNM kc) (wsO kc) (rmO d (s1.length - sh.length) (shSz s1 - shSz sh)) (PCT D cI cB cQ ad adV X base av sh w) (QCT D cI cB cQ ad base rv s1 w1) (s1.length - sh.length) (shSz s1 - shSz sh) (fun q => base ≤ q)
      refine Met.ofW (cc := MBY kc) (maxL := MLN kc) (ret := RTY (MRT kc)) o8 rfl ?_
      intro p e s m args below meth c s₁ B hml hv
      obtain ⟨rfl, hsz, hW, hE⟩ := hv
      have hts := atoms_spec (ws := wsO kc) B.pre
      have hown : s.vm.findClass (MNM kc).cls = some m.cls := findClass_of_methodNamed B.named
      rw [o5] at hown
      have C0 : CX p s m ((av.map (upv ad)).toArray) meth c kc := ⟨B.exec, B.bytes, hml, B.returns, B.notSynchronized, hown, fun w hw => hts w (List.mem_cons_of_mem _ hw), fun h2 => by rw [(name_of_methodNamed B.named B.method).1]; exact (o6 h2).1⟩
      rw [lg_entry_eq]
      refine prun_sound (n0 := sh.length) (z0 := shSz sh) (hck kc (by omega)) hStr hE hb0 had hsz ih ?_ ?_ (Nat.le_refl d) (Nat.le_refl (400 * d)) C0 (fun pc len raw i st rs H locs cells slots a1 a2 a3 a4 a5 a6 => s_ret C0 a1 a2 a3 a4 a5 a6) N 0 (pentry kc av) [] sh w _ s.heap [] 0 0 h (pentry_LR hav.1 hav.2 rfl) hW va_S.rf rfl rfl
      · show s1.length ≤ sh.length + (s1.length - sh.length)
        omega
      · show shSz s1 ≤ shSz sh + (shSz s1 - shSz sh)
        omega
    · cases h
end SND9
