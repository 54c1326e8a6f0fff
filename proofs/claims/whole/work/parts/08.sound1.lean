/-! THE MACHINE IS SOUND, 1: locals, stack, jumps -/
def adr (base b kS i : Nat) : Nat := if i < 100000 then base + i else if i = 100000 then b else kS
def upv (ad : Nat → Nat) (v : Value) : Value := match v with
  | .ref a => .ref (ad a)
  | .int x => .int x
  | .long x => .long x
  | .float x => .float x
  | .double x => .double x
  | .null => .null
  | .retAddr x => .retAddr x
theorem upv_cat (ad : Nat → Nat) (v : Value) : (upv ad v).category = v.category := by cases v <;> rfl
def lvs (ad : Nat → Nat) (ls : PLs) : List (Nat × Value) := ls.zipIdx.filterMap fun q => q.1.map fun v => (q.2, upv ad v)
theorem lvs_mem {ad : Nat → Nat} {ls : PLs} {i : Nat} {u : Value} : (i, u) ∈ lvs ad ls ↔ ∃ v, ls[i]? = some (some v) ∧ u = upv ad v := by
  simp only [lvs, List.mem_filterMap, Option.map_eq_some_iff, Prod.mk.injEq]
  constructor
  · rintro ⟨⟨o, j⟩, h1, v, h2, h3, h4⟩
    have h5 := List.mem_zipIdx_iff_getElem?.mp h1
    simp only at h2 h3 h5
    subst h2; subst h3
    exact ⟨v, h5, h4.symm⟩
  · rintro ⟨v, h1, rfl⟩
    exact ⟨(some v, i), List.mem_zipIdx_iff_getElem?.mpr h1, v, rfl, rfl, rfl⟩
def LR (ad : Nat → Nat) (nL : Nat) (ls : PLs) (rs : Array Slot) : Prop := ls.length = nL ∧ lv_has rs nL (lvs ad ls)
theorem LR.at {ad : Nat → Nat} {nL : Nat} {ls : PLs} {rs : Array Slot} (h : LR ad nL ls rs) {i : Nat} {v : Value} (hi : ls[i]? = some (some v)) : rs[i]? = some (.val (upv ad v)) := h.2.2.2 (i, upv ad v) (lvs_mem.mpr ⟨v, hi, rfl⟩)
theorem setL_spec {ls l2 : PLs} {i : Nat} {v : Value} (h : setL ls i v = some l2) : i < ls.length ∧ l2 = ls.set i (some v) ∧ ∀ j x, j + 1 = i → ls[j]? = some (some x) → ¬ x.category = 2 := by
  unfold setL at h
  split at h
  · rename_i hl
    split at h
    · cases h
      exact ⟨hl, rfl, fun j x hj => by omega⟩
    · rename_i j
      split at h
      · rename_i x hx
        split at h
        · cases h
        · rename_i hc
          cases h
          refine ⟨hl, rfl, fun j2 x2 hj2 hx2 => ?_⟩
          have : j2 = j := by omega
          subst this
          rw [hx] at hx2
          cases hx2
          exact hc
      · rename_i hx
        cases h
        refine ⟨hl, rfl, fun j2 x2 hj2 hx2 => ?_⟩
        have : j2 = j := by omega
        subst this
        exact absurd hx2 (hx x2)
  · cases h
theorem LR.store {ad : Nat → Nat} {nL : Nat} {ls l2 : PLs} {i : Nat} {v : Value} {rs2 : Array Slot} (h0 : ls.length = nL) (h : setL ls i v = some l2)
    (h2 : lv_has rs2 nL ((i, upv ad v) :: (lvs ad ls).filter (fun q => !(q.1 == i) && !(q.1 + 1 == i && q.2.category == 2)))) : LR ad nL l2 rs2 := by
  obtain ⟨hi, rfl, hc⟩ := setL_spec h
  refine ⟨by rw [List.length_set]; exact h0, h2.1, h2.2.1, fun q hq => ?_⟩
  obtain ⟨j, u⟩ := q
  obtain ⟨x, hx, rfl⟩ := lvs_mem.mp hq
  by_cases hj : j = i
  · subst hj
    rw [List.getElem?_set_self hi] at hx
    cases hx
    exact h2.2.2 _ List.mem_cons_self
  · rw [List.getElem?_set_ne (Ne.symm hj)] at hx
    refine h2.2.2 _ (List.mem_cons_of_mem _ (List.mem_filter.mpr ⟨lvs_mem.mpr ⟨x, hx, rfl⟩, ?_⟩))
    simp only [Bool.and_eq_true, Bool.not_eq_true', beq_eq_false_iff_ne, ne_eq, Bool.and_eq_false_iff, upv_cat]
    refine ⟨hj, ?_⟩
    by_cases hj1 : j + 1 = i
    · exact Or.inr (hc j x hj1 hx)
    · exact Or.inl hj1
theorem LR.store2 {ad : Nat → Nat} {nL : Nat} {ls l2 : PLs} {i : Nat} {v : Value} {rs2 : Array Slot} (h0 : ls.length = nL) (h : setL2 ls i v = some l2)
    (h2 : lv_has rs2 nL ((i, upv ad v) :: (lvs ad ls).filter (fun q => !(q.1 == i) && (!(q.1 == i + 1) && !(q.1 + 1 == i && q.2.category == 2))))) : LR ad nL l2 rs2 := by
  unfold setL2 at h
  split at h
  · rename_i hl
    split at h
    · rename_i l1 h1
      cases h
      obtain ⟨hi, rfl, hc⟩ := setL_spec h1
      refine ⟨by rw [List.length_set, List.length_set]; exact h0, h2.1, h2.2.1, fun q hq => ?_⟩
      obtain ⟨j, u⟩ := q
      obtain ⟨x, hx, rfl⟩ := lvs_mem.mp hq
      by_cases hj1 : j = i + 1
      · subst hj1
        rw [List.getElem?_set_self (by rw [List.length_set]; exact hl)] at hx
        cases hx
      · rw [List.getElem?_set_ne (Ne.symm hj1)] at hx
        by_cases hj : j = i
        · subst hj
          rw [List.getElem?_set_self hi] at hx
          cases hx
          exact h2.2.2 _ List.mem_cons_self
        · rw [List.getElem?_set_ne (Ne.symm hj)] at hx
          refine h2.2.2 _ (List.mem_cons_of_mem _ (List.mem_filter.mpr ⟨lvs_mem.mpr ⟨x, hx, rfl⟩, ?_⟩))
          simp only [Bool.and_eq_true, Bool.not_eq_true', beq_eq_false_iff_ne, ne_eq, Bool.and_eq_false_iff, upv_cat]
          refine ⟨hj, hj1, ?_⟩
          by_cases hj2 : j + 1 = i
          · exact Or.inr (hc j x hj2 hx)
          · exact Or.inl hj2
    · cases h
  · cases h
def rkind (raw : Instr) : Nat := match raw with
  | .iload_n _ => 0
  | .aload_n _ => 0
  | .lload_n _ => 0
  | .istore_n _ => 0
  | .astore_n _ => 0
  | .lstore_n _ => 0
  | .iload _ => 0
  | .aload _ => 0
  | .lload _ => 0
  | .istore _ => 0
  | .astore _ => 0
  | .lstore _ => 0
  | .iinc _ _ => 0
  | .goto _ => 1
  | .ifCond _ _ => 1
  | .if_icmp _ _ => 1
  | .lookupswitch _ _ => 1
  | .tableswitch _ _ _ _ => 1
  | .getfield _ => 2
  | .iaload => 2
  | .baload => 2
  | .aaload => 2
  | .arraylength => 2
  | .putfield _ => 3
  | .iastore => 3
  | .bastore => 3
  | .aastore => 3
  | .new _ => 3
  | .newarray _ => 3
  | .anewarray _ => 3
  | .invokestatic _ => 35
  | .invokespecial _ => 35
  | .invokevirtual _ => 35
  | .ireturn => 6
  | .lreturn => 6
  | .return_ => 6
  | _ => 4
/-- the kind is seen in the raw instruction, calls aside -/
theorem rsv_kind {k pc : Nat} {raw i : Instr} (h : rsv k pc raw = some i) : rkind raw = pkind i ∨ (rkind raw = 35 ∧ (pkind i = 3 ∨ pkind i = 5)) := by
  cases raw <;> dsimp only [rsv] at h <;> first
    | (cases h; exact Or.inl rfl)
    | (cases h; done)
    | (obtain ⟨q, -, rfl⟩ := Option.map_eq_some_iff.mp h; exact Or.inl rfl)
    | (split at h <;> first | (cases h; exact Or.inl rfl) | (cases h; done) | (obtain ⟨q, -, rfl⟩ := Option.map_eq_some_iff.mp h; exact Or.inl rfl) | (split at h <;> first | (cases h; exact Or.inl rfl) | (cases h; done)))
    | (refine Or.inr ⟨rfl, ?_⟩; have h5 : ∃ n, i = .invokestatic n ∨ i = .invokespecial n ∨ i = .invokevirtual n := by
        (repeat' split at h) <;> first | (cases h; done) | (cases h; exact ⟨_, Or.inl rfl⟩) | (cases h; exact ⟨_, Or.inr (Or.inl rfl)⟩) | (cases h; exact ⟨_, Or.inr (Or.inr rfl)⟩)
       obtain ⟨n, rfl | rfl | rfl⟩ := h5 <;> (simp only [pkind]; split <;> simp))
theorem len_of {n len m : Nat} (h : n = 0 ∨ len = n) (hn : n = m + 1) : len = m + 1 := by omega
section SND
variable {p : Program} {l : Launch} {e : Env} {R : Room} {s : State} {m : MethodId} {args : Array Value} {below : List Frame} {meth : Method} {c : Code} {H : Heap} {locs : List Loc} {cells slots : Nat} {Q : State → Prop}
variable {ad : Nat → Nat} {k pc len : Nat} {raw i : Instr} {ls ls' : PLs} {st st' : List Value} {rs : Array Slot}
/-- a method's walk stands over its code and the tables' words -/
def CX (p : Program) (s : State) (m : MethodId) (args : Array Value) (meth : Method) (c : Code) (k : Nat) : Prop :=
  p.tables.exec = Jvm.exec ∧ c.code = MBY k ∧ c.maxLocals = MLN k ∧ meth.sig.returnType = RTY (MRT k) ∧ meth.locks = false ∧ s.vm.findClass (CNO (MOW k)) = some m.cls ∧ (∀ w ∈ TB, w.before args s = true) ∧ (MKD k = 2 → meth.name = "<init>")
/-- an instruction of the code, as it is decoded -/
def RW (k pc len : Nat) (raw i : Instr) : Prop := decode (MBY k) pc = .ok (raw, len) ∧ (rlen raw = 0 ∨ len = rlen raw) ∧ rsv k pc raw = some i
set_option maxHeartbeats 4000000 in
theorem s_local (C0 : CX p s m args meth c k) (hR : RW k pc len raw i) (hk : pkind i = 0) (hp : plocal i ls st = some (ls', st')) (hL : LR ad (MLN k) ls rs)
    (kk : ∀ rs', LR ad (MLN k) ls' rs' → W p l e R s m args below meth c H locs cells slots Q (F0 m (pc + len) rs' (st'.map (upv ad)))) : W p l e R s m args below meth c H locs cells slots Q (F0 m pc rs (st.map (upv ad))) := by
  obtain ⟨hx, hb, hml, hrt, hlk, hown, hts, hin⟩ := C0
  obtain ⟨hd, hlen, hr⟩ := hR
  have hk2 : rkind raw = 0 := by rcases rsv_kind hr with h | ⟨h, h2⟩ <;> omega
  cases raw <;> first | (cases hk2; done) | (simp [rkind] at hk2; done) | skip
  case iload_n n =>
    cases hr
    have h1 : len = 1 := len_of hlen rfl
    subst h1
    dsimp only [plocal] at hp
    split at hp
    · rename_i x hx1
      cases hp
      exact lv_iload_n (x := x) hx hb hd rfl (hL.at hx1) (kk rs hL)
    · cases hp
  case iload n =>
    cases hr
    have h1 : len = 2 := len_of hlen rfl
    subst h1
    dsimp only [plocal] at hp
    split at hp
    · rename_i x hx1
      cases hp
      exact lv_iload (x := x) hx hb hd (hL.at hx1) (kk rs hL)
    · cases hp
  case lload_n n =>
    cases hr
    have h1 : len = 1 := len_of hlen rfl
    subst h1
    dsimp only [plocal] at hp
    split at hp
    · rename_i x hx1
      cases hp
      exact lv_lload_n (x := x) hx hb hd rfl (hL.at hx1) (kk rs hL)
    · cases hp
  case lload n =>
    cases hr
    have h1 : len = 2 := len_of hlen rfl
    subst h1
    dsimp only [plocal] at hp
    split at hp
    · rename_i x hx1
      cases hp
      exact lv_lload (x := x) hx hb hd (hL.at hx1) (kk rs hL)
    · cases hp
  case aload_n n =>
    cases hr
    have h1 : len = 1 := len_of hlen rfl
    subst h1
    dsimp only [plocal] at hp
    split at hp
    · rename_i x hx1
      cases hp
      exact lv_aload_n (x := ad x) hx hb hd rfl (hL.at hx1) (kk rs hL)
    · cases hp
  case aload n =>
    cases hr
    have h1 : len = 2 := len_of hlen rfl
    subst h1
    dsimp only [plocal] at hp
    split at hp
    · rename_i x hx1
      cases hp
      exact lv_aload (x := ad x) hx hb hd (hL.at hx1) (kk rs hL)
    · cases hp
  case istore_n n =>
    cases hr
    have h1 : len = 1 := len_of hlen rfl
    subst h1
    dsimp only [plocal] at hp
    split at hp
    · rename_i x r
      split at hp
      · rename_i l2 h2
        cases hp
        exact lv_istore_n (x := x) hx hb hd rfl hL.2 (by rw [← hL.1]; exact (setL_spec h2).1) rfl (fun rs2 h3 => kk rs2 (LR.store hL.1 h2 h3))
      · cases hp
    · cases hp
  case istore n =>
    cases hr
    have h1 : len = 2 := len_of hlen rfl
    subst h1
    dsimp only [plocal] at hp
    split at hp
    · rename_i x r
      split at hp
      · rename_i l2 h2
        cases hp
        exact lv_istore (x := x) hx hb hd hL.2 (by rw [← hL.1]; exact (setL_spec h2).1) rfl (fun rs2 h3 => kk rs2 (LR.store hL.1 h2 h3))
      · cases hp
    · cases hp
  case astore_n n =>
    cases hr
    have h1 : len = 1 := len_of hlen rfl
    subst h1
    dsimp only [plocal] at hp
    split at hp
    · rename_i x r
      split at hp
      · rename_i l2 h2
        cases hp
        exact lv_astore_n (x := ad x) hx hb hd rfl hL.2 (by rw [← hL.1]; exact (setL_spec h2).1) rfl (fun rs2 h3 => kk rs2 (LR.store hL.1 h2 h3))
      · cases hp
    · cases hp
  case astore n =>
    cases hr
    have h1 : len = 2 := len_of hlen rfl
    subst h1
    dsimp only [plocal] at hp
    split at hp
    · rename_i x r
      split at hp
      · rename_i l2 h2
        cases hp
        exact lv_astore (x := ad x) hx hb hd hL.2 (by rw [← hL.1]; exact (setL_spec h2).1) rfl (fun rs2 h3 => kk rs2 (LR.store hL.1 h2 h3))
      · cases hp
    · cases hp
  case lstore_n n =>
    cases hr
    have h1 : len = 1 := len_of hlen rfl
    subst h1
    dsimp only [plocal] at hp
    split at hp
    · rename_i x r
      split at hp
      · rename_i l2 h2
        cases hp
        have h4 : n.val + 1 < ls.length := by
          unfold setL2 at h2
          split at h2
          · assumption
          · cases h2
        exact lv_lstore_n (x := x) hx hb hd rfl hL.2 (by rw [← hL.1]; exact h4) rfl (fun rs2 h3 => kk rs2 (LR.store2 hL.1 h2 h3))
      · cases hp
    · cases hp
  case lstore n =>
    cases hr
    have h1 : len = 2 := len_of hlen rfl
    subst h1
    dsimp only [plocal] at hp
    split at hp
    · rename_i x r
      split at hp
      · rename_i l2 h2
        cases hp
        have h4 : n + 1 < ls.length := by
          unfold setL2 at h2
          split at h2
          · assumption
          · cases h2
        exact lv_lstore (x := x) hx hb hd hL.2 (by rw [← hL.1]; exact h4) rfl (fun rs2 h3 => kk rs2 (LR.store2 hL.1 h2 h3))
      · cases hp
    · cases hp
  case iinc n v =>
    cases hr
    have h1 : len = 3 := len_of hlen rfl
    subst h1
    dsimp only [plocal] at hp
    split at hp
    · rename_i x hx1
      split at hp
      · rename_i l2 h2
        cases hp
        obtain ⟨q, hq⟩ := List.getElem?_of_mem (lvs_mem (ad := ad).mpr ⟨_, hx1, rfl⟩)
        exact lv_iinc (x := x) (k := q) hx hb hd hL.2 hq rfl (by rw [← hL.1]; exact (setL_spec h2).1) rfl (fun rs2 h3 => kk rs2 (LR.store hL.1 h2 h3))
      · cases hp
    · cases hp
theorem off_nn {pc : Nat} {df x : Int} : ∀ {ps : List (Int × Int)}, 0 ≤ (pc : Int) + df → ps.all (fun q => decide (0 ≤ (pc : Int) + q.2)) = true → 0 ≤ (pc : Int) + Op.lookupswitch.offset ps df x
  | [], h, _ => h
  | (a, o) :: r, h, h2 => by
    simp only [List.all_cons, Bool.and_eq_true, decide_eq_true_eq] at h2
    rw [Op.lookupswitch.offset_cons]
    split
    · exact h2.1
    · exact off_nn h h2.2
set_option maxHeartbeats 4000000 in
theorem s_jump {t : Nat} (C0 : CX p s m args meth c k) (hR : RW k pc len raw i) (hk : pkind i = 1) (hp : pjump i pc len st = some (t, st'))
    (kk : W p l e R s m args below meth c H locs cells slots Q (F0 m t rs (st'.map (upv ad)))) : W p l e R s m args below meth c H locs cells slots Q (F0 m pc rs (st.map (upv ad))) := by
  obtain ⟨hx, hb, hml, hrt, hlk, hown, hts, hin⟩ := C0
  obtain ⟨hd, hlen, hr⟩ := hR
  have hk2 : rkind raw = 1 := by rcases rsv_kind hr with h | ⟨h, h2⟩ <;> omega
  cases raw <;> first | (cases hk2; done) | (simp [rkind] at hk2; done) | skip
  case goto off =>
    dsimp only [rsv] at hr
    split at hr
    · rename_i h0
      cases hr
      have h1 : len = 3 := len_of hlen rfl
      subst h1
      cases hp
      exact lv_goto (tgt := ((pc : Int) + off).toNat) hx hb hd (by omega) kk
    · cases hr
  case ifCond cd off =>
    dsimp only [rsv] at hr
    split at hr
    · rename_i h0
      cases hr
      have h1 : len = 3 := len_of hlen rfl
      subst h1
      dsimp only [pjump] at hp
      split at hp
      · rename_i x r
        have ht : (pc : Int) + off = ((((pc : Int) + off).toNat : Nat) : Int) := by omega
        by_cases hc : pcmp cd x 0 = true
        · rw [if_pos hc] at hp
          cases hp
          cases cd
          · exact lv_if_eq hx hb hd ht (fun _ => kk) (fun h => absurd (of_decide_eq_true hc) h)
          · exact lv_if_ne hx hb hd ht (fun _ => kk) (fun h => absurd h (of_decide_eq_true hc))
          · exact lv_if_lt hx hb hd ht (fun _ => kk) (fun h => absurd (of_decide_eq_true hc) h)
          · exact lv_if_ge hx hb hd ht (fun _ => kk) (fun h => absurd (of_decide_eq_true hc) h)
          · exact lv_if_gt hx hb hd ht (fun _ => kk) (fun h => absurd (of_decide_eq_true hc) h)
          · exact lv_if_le hx hb hd ht (fun _ => kk) (fun h => absurd (of_decide_eq_true hc) h)
        · rw [if_neg hc] at hp
          cases hp
          cases cd
          · exact lv_if_eq hx hb hd ht (fun h => absurd (decide_eq_true h) hc) (fun _ => kk)
          · exact lv_if_ne hx hb hd ht (fun h => absurd (decide_eq_true h) hc) (fun _ => kk)
          · exact lv_if_lt hx hb hd ht (fun h => absurd (decide_eq_true h) hc) (fun _ => kk)
          · exact lv_if_ge hx hb hd ht (fun h => absurd (decide_eq_true h) hc) (fun _ => kk)
          · exact lv_if_gt hx hb hd ht (fun h => absurd (decide_eq_true h) hc) (fun _ => kk)
          · exact lv_if_le hx hb hd ht (fun h => absurd (decide_eq_true h) hc) (fun _ => kk)
      · cases hp
    · cases hr
  case if_icmp cd off =>
    dsimp only [rsv] at hr
    split at hr
    · rename_i h0
      cases hr
      have h1 : len = 3 := len_of hlen rfl
      subst h1
      dsimp only [pjump] at hp
      split at hp
      · rename_i y x r
        have ht : (pc : Int) + off = ((((pc : Int) + off).toNat : Nat) : Int) := by omega
        by_cases hc : pcmp cd x y = true
        · rw [if_pos hc] at hp
          cases hp
          cases cd
          · exact lv_icmp_eq hx hb hd ht (fun _ => kk) (fun h => absurd (of_decide_eq_true hc) h)
          · exact lv_icmp_ne hx hb hd ht (fun _ => kk) (fun h => absurd h (of_decide_eq_true hc))
          · exact lv_icmp_lt hx hb hd ht (fun _ => kk) (fun h => absurd (of_decide_eq_true hc) h)
          · exact lv_icmp_ge hx hb hd ht (fun _ => kk) (fun h => absurd (of_decide_eq_true hc) h)
          · exact lv_icmp_gt hx hb hd ht (fun _ => kk) (fun h => absurd (of_decide_eq_true hc) h)
          · exact lv_icmp_le hx hb hd ht (fun _ => kk) (fun h => absurd (of_decide_eq_true hc) h)
        · rw [if_neg hc] at hp
          cases hp
          cases cd
          · exact lv_icmp_eq hx hb hd ht (fun h => absurd (decide_eq_true h) hc) (fun _ => kk)
          · exact lv_icmp_ne hx hb hd ht (fun h => absurd (decide_eq_true h) hc) (fun _ => kk)
          · exact lv_icmp_lt hx hb hd ht (fun h => absurd (decide_eq_true h) hc) (fun _ => kk)
          · exact lv_icmp_ge hx hb hd ht (fun h => absurd (decide_eq_true h) hc) (fun _ => kk)
          · exact lv_icmp_gt hx hb hd ht (fun h => absurd (decide_eq_true h) hc) (fun _ => kk)
          · exact lv_icmp_le hx hb hd ht (fun h => absurd (decide_eq_true h) hc) (fun _ => kk)
      · cases hp
    · cases hr
  case lookupswitch df ps =>
    dsimp only [rsv] at hr
    split at hr
    · rename_i h0
      cases hr
      dsimp only [pjump] at hp
      split at hp
      · rename_i x r
        cases hp
        have h5 := off_nn (x := x.toInt) h0.2.1 h0.2.2
        exact lv_lookup hx hb hd h0.1 rfl (by omega) kk
      · cases hp
    · cases hr
  case tableswitch df lo hi offs =>
    dsimp only [rsv] at hr
    split at hr
    · rename_i h0
      cases hr
      dsimp only [pjump] at hp
      split at hp
      · rename_i x r
        split at hp
        · rename_i h1
          cases hp
          exact lv_tableOut hx hb hd h1 (by omega) kk
        · rename_i h1
          split at hp
          · rename_i o ho
            cases hp
            have h6 : 0 ≤ (pc : Int) + o := by
              have h7 := List.all_eq_true.mp h0.2 o (by rw [← Array.getElem?_toList] at ho; exact List.mem_of_getElem? ho)
              simpa using h7
            exact lv_tableIn hx hb hd (fun h => h1 (Or.inl h)) (fun h => h1 (Or.inr h)) ho (by omega) kk
          · cases hp
      · cases hp
    · cases hr
end SND
