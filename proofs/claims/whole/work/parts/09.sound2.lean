section SND2
variable {p : Program} {l : Launch} {e : Env} {R : Room} {s : State} {m : MethodId} {args : Array Value} {below : List Frame} {meth : Method} {c : Code} {H : Heap} {locs : List Loc} {cells slots : Nat} {Q : State → Prop}
variable {ad : Nat → Nat} {k pc len : Nat} {raw i : Instr} {ls ls' : PLs} {st st' : List Value} {rs : Array Slot}
theorem lnK_ok {k idx : Nat} {q : Nat × Nat × Int × Nat} (h : lnK (MOW k) idx = some q) : (Cond.constant (CNO (MOW k)) idx (Int32.ofInt q.2.2.1)) ∈ TB := by
  have h1 := List.all_eq_true.mp LNK_ok q (List.mem_of_find?_eq_some h)
  have h2 := List.find?_some h
  simp only [Bool.and_eq_true, beq_iff_eq] at h2
  have h3 := of_decide_eq_true h1
  rw [h2.1, h2.2] at h3
  exact tb_in h3 rfl
theorem lnL_ok {k idx : Nat} {q : Nat × Nat × Nat} (h : lnL (MOW k) idx = some q) : (Cond.constantLong (CNO (MOW k)) idx (-1)) ∈ TB := by
  have h1 := List.all_eq_true.mp LNL_ok q (List.mem_of_find?_eq_some h)
  have h2 := List.find?_some h
  simp only [Bool.and_eq_true, beq_iff_eq] at h2
  have h3 := of_decide_eq_true h1
  rw [h2.1, h2.2] at h3
  exact tb_in h3 rfl
set_option maxHeartbeats 4000000 in
theorem s_stack {kS : Nat} (hkS : ad 100001 = kS) (hstr : vk_R "YearFigures$Parser" 111 "cfastpmyrghq" kS s) (C0 : CX p s m args meth c k) (hR : RW k pc len raw i) (hk : pkind i = 4) (hp : pstack i st = some st')
    (kk : W p l e R s m args below meth c H locs cells slots Q (F0 m (pc + len) rs (st'.map (upv ad)))) : W p l e R s m args below meth c H locs cells slots Q (F0 m pc rs (st.map (upv ad))) := by
  obtain ⟨hx, hb, hml, hrt, hlk, hown, hts, hin⟩ := C0
  obtain ⟨hd, hlen, hr⟩ := hR
  have hk2 : rkind raw = 4 := by rcases rsv_kind hr with h | ⟨h, h2⟩ <;> omega
  cases raw <;> first | (cases hk2; done) | (simp [rkind] at hk2; done) | (cases hr; done) | skip
  case iconst n =>
    cases hr
    have h1 : len = 1 := len_of hlen rfl
    subst h1
    cases hp
    exact lv_iconst hx hb hd rfl kk
  case lconst n =>
    cases hr
    have h1 : len = 1 := len_of hlen rfl
    subst h1
    cases hp
    exact lv_lconst hx hb hd rfl kk
  case bipush n =>
    dsimp only [rsv] at hr
    split at hr
    · rename_i h0
      cases hr
      have h1 : len = 2 := len_of hlen rfl
      subst h1
      cases hp
      exact lv_bipush hx hb hd h0 kk
    · cases hr
  case sipush n =>
    dsimp only [rsv] at hr
    split at hr
    · rename_i h0
      cases hr
      have h1 : len = 3 := len_of hlen rfl
      subst h1
      cases hp
      exact lv_sipush hx hb hd h0 kk
    · cases hr
  case ldc n =>
    have h1 : len = 2 := len_of hlen rfl
    subst h1
    dsimp only [rsv] at hr
    split at hr
    · rename_i h0
      cases hr
      cases hp
      rw [h0.1] at hown
      rw [h0.2] at hd
      refine va_ldcS hx hb hown (q := kS) hstr hd ?_
      rw [← hkS]
      exact kk
    · obtain ⟨q, hq, rfl⟩ := Option.map_eq_some_iff.mp hr
      cases hp
      exact W.ldc (g := F0 m pc rs (st.map (upv ad))) hx hb hown (hts _ (lnK_ok hq)) rfl hd kk
  case ldc_w n =>
    have h1 : len = 3 := len_of hlen rfl
    subst h1
    obtain ⟨q, hq, rfl⟩ := Option.map_eq_some_iff.mp hr
    cases hp
    exact lv_ldcw hx hb hown (hts _ (lnK_ok hq)) hd kk
  case ldc2_w n =>
    have h1 : len = 3 := len_of hlen rfl
    subst h1
    obtain ⟨q, hq, rfl⟩ := Option.map_eq_some_iff.mp hr
    cases hp
    exact W.ldc2 (g := F0 m pc rs (st.map (upv ad))) hx hb hown (hts _ (lnL_ok hq)) rfl hd kk
  case ineg =>
    cases hr
    have h1 : len = 1 := len_of hlen rfl
    subst h1
    dsimp only [pstack] at hp
    split at hp <;> first | (cases hp; done) | skip
    cases hp
    exact lv_ineg hx hb hd kk
  case i2l =>
    cases hr
    have h1 : len = 1 := len_of hlen rfl
    subst h1
    dsimp only [pstack] at hp
    split at hp <;> first | (cases hp; done) | skip
    cases hp
    exact lv_i2l hx hb hd rfl kk
  case i2b =>
    cases hr
    have h1 : len = 1 := len_of hlen rfl
    subst h1
    dsimp only [pstack] at hp
    split at hp <;> first | (cases hp; done) | skip
    cases hp
    exact lv_i2b hx hb hd rfl kk
  case i2c =>
    cases hr
    have h1 : len = 1 := len_of hlen rfl
    subst h1
    dsimp only [pstack] at hp
    split at hp <;> first | (cases hp; done) | skip
    cases hp
    exact lv_i2c hx hb hd rfl kk
  case lmul =>
    cases hr
    have h1 : len = 1 := len_of hlen rfl
    subst h1
    dsimp only [pstack] at hp
    split at hp <;> first | (cases hp; done) | skip
    cases hp
    exact lv_lmul hx hb hd kk
  case lcmp =>
    cases hr
    have h1 : len = 1 := len_of hlen rfl
    subst h1
    dsimp only [pstack] at hp
    split at hp <;> first | (cases hp; done) | skip
    cases hp
    exact W.lcmp hx hb hd kk
  case ldiv =>
    cases hr
    have h1 : len = 1 := len_of hlen rfl
    subst h1
    dsimp only [pstack] at hp
    split at hp <;> first | (cases hp; done) | skip
    split at hp <;> first | (cases hp; done) | skip
    rename_i h0
    cases hp
    exact lv_ldiv hx hb hd h0 kk
  case dup =>
    cases hr
    have h1 : len = 1 := len_of hlen rfl
    subst h1
    dsimp only [pstack] at hp
    split at hp <;> first | (cases hp; done) | skip
    split at hp <;> first | (cases hp; done) | skip
    rename_i h0
    cases hp
    exact lv_dup hx hb hd (by rw [upv_cat]; exact h0) kk
  case pop =>
    cases hr
    have h1 : len = 1 := len_of hlen rfl
    subst h1
    dsimp only [pstack] at hp
    split at hp <;> first | (cases hp; done) | skip
    split at hp <;> first | (cases hp; done) | skip
    rename_i h0
    cases hp
    exact lv_pop hx hb hd (by rw [upv_cat]; exact h0) kk
  case dup2 =>
    cases hr
    have h1 : len = 1 := len_of hlen rfl
    subst h1
    dsimp only [pstack] at hp
    split at hp <;> first | (cases hp; done) | skip
    split at hp <;> first | (cases hp; done) | skip
    rename_i h0
    split at hp <;> first | (cases hp; done) | skip
    rename_i h3
    cases hp
    exact lv_dup2_11 hx hb hd (by rw [upv_cat]; exact h0) (by rw [upv_cat]; exact h3) kk
  case iadd =>
    cases hr
    have h1 : len = 1 := len_of hlen rfl
    subst h1
    dsimp only [pstack] at hp
    split at hp <;> first | (cases hp; done) | skip
    cases hp
    exact lv_iadd hx hb hd kk
  case isub =>
    cases hr
    have h1 : len = 1 := len_of hlen rfl
    subst h1
    dsimp only [pstack] at hp
    split at hp <;> first | (cases hp; done) | skip
    cases hp
    exact lv_isub hx hb hd kk
  case imul =>
    cases hr
    have h1 : len = 1 := len_of hlen rfl
    subst h1
    dsimp only [pstack] at hp
    split at hp <;> first | (cases hp; done) | skip
    cases hp
    exact lv_imul hx hb hd kk
  case iand =>
    cases hr
    have h1 : len = 1 := len_of hlen rfl
    subst h1
    dsimp only [pstack] at hp
    split at hp <;> first | (cases hp; done) | skip
    cases hp
    exact lv_iand hx hb hd kk
  case ior =>
    cases hr
    have h1 : len = 1 := len_of hlen rfl
    subst h1
    dsimp only [pstack] at hp
    split at hp <;> first | (cases hp; done) | skip
    cases hp
    exact lv_ior hx hb hd kk
  case ixor =>
    cases hr
    have h1 : len = 1 := len_of hlen rfl
    subst h1
    dsimp only [pstack] at hp
    split at hp <;> first | (cases hp; done) | skip
    cases hp
    exact lv_ixor hx hb hd kk
  case ishl =>
    cases hr
    have h1 : len = 1 := len_of hlen rfl
    subst h1
    dsimp only [pstack] at hp
    split at hp <;> first | (cases hp; done) | skip
    cases hp
    exact lv_ishl hx hb hd kk
  case ishr =>
    cases hr
    have h1 : len = 1 := len_of hlen rfl
    subst h1
    dsimp only [pstack] at hp
    split at hp <;> first | (cases hp; done) | skip
    cases hp
    exact lv_ishr hx hb hd kk
  case iushr =>
    cases hr
    have h1 : len = 1 := len_of hlen rfl
    subst h1
    dsimp only [pstack] at hp
    split at hp <;> first | (cases hp; done) | skip
    cases hp
    exact lv_iushr hx hb hd rfl kk
  case idiv =>
    cases hr
    have h1 : len = 1 := len_of hlen rfl
    subst h1
    dsimp only [pstack] at hp
    split at hp <;> first | (cases hp; done) | skip
    dsimp only [parith] at hp
    split at hp <;> first | (cases hp; done) | skip
    rename_i z h0
    split at h0 <;> first | (cases h0; done) | skip
    rename_i h3
    cases h0
    cases hp
    exact lv_idiv hx hb hd h3 kk
  case irem =>
    cases hr
    have h1 : len = 1 := len_of hlen rfl
    subst h1
    dsimp only [pstack] at hp
    split at hp <;> first | (cases hp; done) | skip
    dsimp only [parith] at hp
    split at hp <;> first | (cases hp; done) | skip
    rename_i z h0
    split at h0 <;> first | (cases h0; done) | skip
    rename_i h3
    cases h0
    cases hp
    exact lv_irem hx hb hd h3 kk
end SND2
