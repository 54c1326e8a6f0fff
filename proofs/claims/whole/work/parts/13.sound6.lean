/-! THE MACHINE IS SOUND, 4: what is called without a walk; calls -/
def isNest (w : Cond) : Bool := match w with
  | .methodLinkNest _ _ _ _ => true
  | _ => false
abbrev NW : List Cond := lw_tbl.filter isNest
def STB : List (List Int32) := [idxL]
/-- what holds of the state beside the world: the tables' facts, the script, the string of letters -/
def ENV (D : va_G) (cI cB cQ : ClassId) (ad adV : Nat → Nat) (X : Scr) (base : Nat) (U : State) : Prop :=
  va_K D CLS (TYS cI cB cQ) U ∧ (∀ w ∈ NW, va_Nw w U) ∧ va_AO "YearFigures$Program" U ∧ vk_R "YearFigures$Parser" 111 "cfastpmyrghq" (ad 100001) U ∧ va_X (ad 100000) X.1 X.2 U U.heap ∧ vk_S 1 [12] STB (fun _ => ad 100001) adV (fun q => base ≤ q) U U.heap ∧ va_Z "java/lang/String" "COMPACT_STRINGS" "Z" (.int 1) (fun q => base ≤ q) U U.heap
theorem good_TB {ws : List Cond} (h : ∀ w ∈ ws, w ∈ TB) : GoodIn TB ws := fun w hw => ⟨h w hw, good_of_word (List.mem_filter.mp (h w hw)).2⟩
theorem pw_obj {d : Nat} {st : List Value} {sh : Sh} {w : Wd} {x : List Value × Sh × Wd} (h : pwrite d (.invokespecial 99999) st sh w = some x) : ∃ (d1 a : Nat) (r0 : List Value), d = d1 + 1 ∧ st = .ref a :: r0 ∧ (r0.map fun v => v.category).sum ≤ 8 ∧ (r0, sh, w) = x := by
  simp only [pwrite] at h
  split at h
  · split at h
    · cases h
      exact ⟨_, _, _, rfl, rfl, by assumption, rfl⟩
    · cases h
  · cases h
theorem pw_idx {d : Nat} {st : List Value} {sh : Sh} {w : Wd} {x : List Value × Sh × Wd} (h : pwrite d (.invokevirtual 99998) st sh w = some x) : ∃ (d1 : Nat) (y : Int32) (r0 : List Value), d = d1 + 6 ∧ st = .int y :: .ref 100001 :: r0 ∧ (r0.map fun v => v.category).sum ≤ 8 ∧ (.int (idxOf y) :: r0, sh, w) = x := by
  simp only [pwrite] at h
  split at h
  · split at h
    · cases h
      exact ⟨_, _, _, rfl, rfl, by assumption, rfl⟩
    · cases h
  · cases h
theorem pw_max {d : Nat} {st : List Value} {sh : Sh} {w : Wd} {x : List Value × Sh × Wd} (h : pwrite d (.invokestatic 99995) st sh w = some x) : ∃ (d1 : Nat) (y z : Int32) (r0 : List Value), d = d1 + 1 ∧ st = .int y :: .int z :: r0 ∧ (r0.map fun v => v.category).sum ≤ 8 ∧ (.int (if z < y then y else z) :: r0, sh, w) = x := by
  simp only [pwrite] at h
  split at h
  · split at h
    · cases h
      exact ⟨_, _, _, _, rfl, rfl, by assumption, rfl⟩
    · cases h
  · cases h
theorem pw_min {d : Nat} {st : List Value} {sh : Sh} {w : Wd} {x : List Value × Sh × Wd} (h : pwrite d (.invokestatic 99996) st sh w = some x) : ∃ (d1 : Nat) (y z : Int32) (r0 : List Value), d = d1 + 1 ∧ st = .int y :: .int z :: r0 ∧ (r0.map fun v => v.category).sum ≤ 8 ∧ (.int (if y < z then y else z) :: r0, sh, w) = x := by
  simp only [pwrite] at h
  split at h
  · split at h
    · cases h
      exact ⟨_, _, _, _, rfl, rfl, by assumption, rfl⟩
    · cases h
  · cases h
theorem pw_abs {d : Nat} {st : List Value} {sh : Sh} {w : Wd} {x : List Value × Sh × Wd} (h : pwrite d (.invokestatic 99997) st sh w = some x) : ∃ (d1 : Nat) (y : Int32) (r0 : List Value), d = d1 + 1 ∧ st = .int y :: r0 ∧ (r0.map fun v => v.category).sum ≤ 8 ∧ (.int (if 0 ≤ y then y else 0 - y) :: r0, sh, w) = x := by
  simp only [pwrite] at h
  split at h
  · split at h
    · cases h
      exact ⟨_, _, _, rfl, rfl, by assumption, rfl⟩
    · cases h
  · cases h
theorem pw_cpy {d : Nat} {st : List Value} {sh : Sh} {w : Wd} {x : List Value × Sh × Wd} (h : pwrite d (.invokestatic 99999) st sh w = some x) : ∃ (d1 : Nat) (n dp sp : Int32) (a1 a0 k0 k1 : Nat) (r0 : List Value), d = d1 + 1 ∧ st = .int n :: .int dp :: .ref a1 :: .int sp :: .ref a0 :: r0 ∧ sh[a0]? = some (.inl (0, k0)) ∧ sh[a1]? = some (.inl (0, k1)) ∧
    ¬ (n < 0 ∨ sp < 0 ∨ dp < 0 ∨ k0 < sp.toNatClampNeg + n.toNatClampNeg ∨ k1 < dp.toNatClampNeg + n.toNatClampNeg ∨ 8 < (r0.map fun v => v.category).sum) ∧ (r0, sh, cp2 w a0 a1 sp.toNatClampNeg dp.toNatClampNeg n.toNatClampNeg) = x := by
  simp only [pwrite] at h
  split at h
  · split at h
    · split at h
      · cases h
      · cases h
        exact ⟨_, _, _, _, _, _, _, _, _, rfl, rfl, by assumption, by assumption, by assumption, rfl⟩
    · cases h
  · cases h
section SND6
variable {p : Program} {l : Launch} {e : Env} {R : Room} {s : State} {m : MethodId} {args : Array Value} {below : List Frame} {meth : Method} {c : Code} {H : Heap} {locs : List Loc} {cells slots : Nat} {Q : State → Prop}
variable {ad adV : Nat → Nat} {k pc len : Nat} {raw i : Instr} {ls ls' : PLs} {st st' : List Value} {rs : Array Slot} {D : va_G} {cI cB cQ : ClassId} {base : Nat} {sh sh' : Sh} {w w' : Wd} {X : Scr}
theorem ENV.to {U : State} (h : ENV D cI cB cQ ad adV X base s) (hb0 : ad 100000 < base) (hb1 : base ≤ s.heap.size) (hq : ∀ q : Nat, q < s.heap.size → ¬ base ≤ q → U.heap[q]? = s.heap[q]?) (hW : s.WarmedH U.vm) : ENV D cI cB cQ ad adV X base U := by
  obtain ⟨h1, h2, h3, h4, h5, h6, hz7⟩ := h
  refine ⟨va_K.moved hW.alike h1, fun w hw => ?_, va_AO.moved hW.alike h3, vk_R.warm hW h4, (h5.kept (hq _ (by omega) (by omega))).moved hW.alike, vk_S.moved hW.alike (h6.kept fun q a1 a2 => hq q a1 a2), va_Z.moved hW.alike (hz7.kept fun q a1 a2 => hq q a1 a2)⟩
  have h7 := (List.mem_filter.mp hw).2
  have h8 := h2 w hw
  cases w <;> first | (cases h7; done) | skip
  exact va_Nw.warmM hW h8
theorem ENV.call {U : State} (h : ENV D cI cB cQ ad adV X base U) (g : JFrame) (mk : MethodId) (a : Array Value) : ENV D cI cB cQ ad adV X base (U.calling g mk a) := by
  obtain ⟨h1, h2, h3, h4, h5, h6, hz7⟩ := h
  refine ⟨va_K.moved (u := U) (U := U.calling g mk a) (Vm.Alike.refl U.vm) h1, fun w hw => ?_, va_AO.moved (u := U) (U := U.calling g mk a) (Vm.Alike.refl U.vm) h3, vk_R.same (u := U) (U := U.calling g mk a) rfl h4, va_X.moved (u := U) (U := U.calling g mk a) (Vm.Alike.refl U.vm) h5, vk_S.moved (u := U) (U := U.calling g mk a) (Vm.Alike.refl U.vm) h6, va_Z.moved (u := U) (U := U.calling g mk a) (Vm.Alike.refl U.vm) hz7⟩
  have h7 := (List.mem_filter.mp hw).2
  have h8 := h2 w hw
  cases w <;> first | (cases h7; done) | skip
  exact va_Nw.same (u := U) (U := U.calling g mk a) rfl rfl h8
/-- behind a call -/
theorem wcall {rv : Option Value} {mc ms : Nat} {rest st0 : List Value} {Qa : State → Outcome → State → Prop} {free : Addr → Prop} (hr : va_Run p l e R s m args below meth c H locs cells slots mc ms (F0 m pc rs st0) rest Qa free)
    (hq : ∀ (z : State) (v : Option Value) (t : State), z.heap = H → Qa z (.returned v) t → v = rv ∧ WH D ad cI cB cQ base sh' w' t.heap ∧ va_F (fun q => base ≤ q) z t) (hfree : ∀ q, free q → base ≤ q) (hS : va_S (fun q => base ≤ q) s.heap H locs)
    (kk : ∀ (H1 : Heap) (locs1 : List Loc), WH D ad cI cB cQ base sh' w' H1 → va_S (fun q => base ≤ q) s.heap H1 locs1 → W p l e R s m args below meth c H1 locs1 (cells + mc) (slots + ms) Q (F0 m (pc + 3) rs (rv.toList ++ rest))) :
    W p l e R s m args below meth c H locs cells slots Q (F0 m pc rs st0) := by
  intro T hT Y
  obtain ⟨v, z, t, T', L, h0, X', hL, e1, e2, hQ, stp⟩ := hr T hT Y
  obtain ⟨rfl, hw, hF⟩ := hq z v t h0 hQ
  have hF1 : H.size ≤ t.heap.size := by rw [← h0]; exact hF.1
  have hS2 : va_S (fun q => base ≤ q) s.heap T'.heap (locs ++ L) := by
    refine ⟨by rw [e1]; exact Nat.le_trans hS.1 hF1, fun q a1 a2 => ?_, fun q hq => ?_⟩
    · rw [e1, hF.2 q (by rw [h0]; exact Nat.lt_of_lt_of_le a1 hS.1) a2, h0]
      exact hS.2.1 q a1 a2
    · rcases List.mem_append.mp hq with h | h
      · exact hS.2.2 q h
      · exact hfree _ (hL q h)
  obtain ⟨t2, a1, b1⟩ := kk T'.heap (locs ++ L) (by rw [e1]; exact hw) hS2 T' rfl X'
  exact ⟨t2, stp t2 a1, b1⟩
set_option maxHeartbeats 4000000 in
theorem s_prim {n0 z0 d : Nat} (hStr : StrMet l (ENV D cI cB cQ ad adV X base) (ad 100001)) (hE : ENV D cI cB cQ ad adV X base s) (hb0 : ad 100000 < base) (had : ∀ a, a < 100000 → ad a = base + a) (hS : va_S (fun q => base ≤ q) s.heap H locs) (hW : WH D ad cI cB cQ base sh w H) (hs0 : s.heap.size = base + n0) (hc : n0 + cells = sh.length) (hz : z0 + slots = shSz sh)
    (hRc : sh'.length ≤ n0 + R.cells) (hRz : shSz sh' ≤ z0 + R.slots) (hRf : d ≤ R.frames) (hRl : 400 * d ≤ R.locals)
    (C0 : CX p s m args meth c k) (hrs : rs.size = MLN k) (hR : RW k pc len raw i) (hk : pkind i = 3) (hk3 : rkind raw = 35) (hp : pwrite d i st sh w = some (st', sh', w'))
    (kk : ∀ (H1 : Heap) (locs1 : List Loc) (cells1 slots1 : Nat), n0 + cells1 = sh'.length → z0 + slots1 = shSz sh' → WH D ad cI cB cQ base sh' w' H1 → va_S (fun q => base ≤ q) s.heap H1 locs1 → W p l e R s m args below meth c H1 locs1 cells1 slots1 Q (F0 m (pc + len) rs (st'.map (upv ad)))) :
    W p l e R s m args below meth c H locs cells slots Q (F0 m pc rs (st.map (upv ad))) := by
  have hW1 := hW
  obtain ⟨hx, hb, hml, hrt, hlk, hown, hts, hin⟩ := C0
  obtain ⟨hd, hlen, hr⟩ := hR
  obtain ⟨hsz, hP⟩ := hW
  have hK := hE.1
  have hlt : ∀ {a : Nat} {x : ShC}, sh[a]? = some x → ad a = base + a := fun h => had _ (Nat.lt_of_lt_of_le (List.getElem?_eq_some_iff.mp h).1 hsz)
  have hmr : c.maxLocals = rs.size := hml.trans hrs.symm
  cases raw <;> first | (cases hk3; done) | (simp [rkind] at hk3; done) | skip
  case invokespecial idx =>
    have h1 : len = 3 := len_of hlen rfl
    subst h1
    dsimp only [rsv] at hr
    split at hr <;> first | (cases hr; done) | skip
    rename_i q hq
    have hm := lnM_ok hq
    split at hr
    · rename_i h3
      cases hr
      simp only [mOK, h3, Bool.and_eq_true, decide_eq_true_eq] at hm
      obtain ⟨d1, a, r0, rfl, rfl, hsum, hp⟩ := pw_obj hp
      cases hp
      refine W.objInit (g := F0 m pc rs (.ref (ad a) :: _)) hx hb hown (hts _ (tb_in hm.1 rfl)) (hts _ wObj) (hts _ wObc) rfl (by rw [hml]; exact hrs) rfl hd (by omega) ?_ (kk H locs cells slots hc hz hW1 hS)
      show 2 * 0 + _ + 12 ≤ _
      rw [upv_sum]
      omega
    · split at hr <;> first | (cases hr; done) | skip
      rename_i h3
      cases hr
      exfalso
      have h01 : q.2.2.2.1 = 0 ∨ q.2.2.2.1 = 1 := by omega
      rcases h01 with h4 | h4 <;> (simp only [mOK, h4, Bool.and_eq_true, decide_eq_true_eq] at hm; simp only [pkind] at hk; split at hk <;> first | (exact hm.2.2.2.2 (by assumption)) | (cases hk))
  case invokevirtual idx =>
    have h1 : len = 3 := len_of hlen rfl
    subst h1
    dsimp only [rsv] at hr
    split at hr <;> first | (cases hr; done) | skip
    rename_i q hq
    have hm := lnM_ok hq
    split at hr
    · rename_i h3
      cases hr
      simp only [mOK, h3, Bool.and_eq_true, decide_eq_true_eq] at hm
      obtain ⟨d1, x, r0, rfl, rfl, hsum, hp⟩ := pw_idx hp
      cases hp
      obtain ⟨w1, w2, w3, w4⟩ := idx_word
      have hG : GoodIn TB (wsV (CNO (MOW k)) idx "java/lang/String" ⟨"java/lang/String", "indexOf", "(I)I"⟩ (.code ⟨"java/lang/String", "indexOf", "(I)I"⟩ prog_18_method_79_code 2 (some .int) :: TB)) := by
        refine good_TB fun w hw => ?_
        simp only [wsV, List.cons_append, List.nil_append, List.mem_cons] at hw
        rcases hw with rfl | rfl | rfl | rfl | rfl | hw
        · exact tb_in hm.1 rfl
        · exact w2
        · exact w3
        · exact w4
        · exact w1
        · exact hw
      have cw := cwV (R := R) (s := s) (args := args) (own := CNO (MOW k)) (C := "java/lang/String") (index := idx) (y := ⟨"java/lang/String", "indexOf", "(I)I"⟩) (bytes := prog_18_method_79_code) (maxL := 2) (ret := some .int) (rm := { frames := 5, cells := 0, slots := 0, locals := 2000 }) (mc := 0) (ms := 0) 1 hts hG rfl rfl rfl (by decide +kernel) ⟨by show 5 + 1 ≤ R.frames; omega, by show 8 + (2 + 11) + 2000 ≤ R.locals; omega⟩
      refine wcall (rv := some (.int (idxOf x))) (sh' := sh) (w' := w) (mc := 0) (ms := 0) (va_runV (As := [.int x]) (rest := _) ⟨hx, hb, hml, hown, hts⟩ (hStr x) cw ⟨fun a U g mk q => ⟨q.1, q.2.call g mk a⟩, vk_recv (i := 0) hE.2.2.2.2.2.1 (Nat.zero_lt_succ 0) hS, fun U hU hW2 => ⟨rfl, hE.to hb0 (by omega) (fun q a1 a2 => by rw [hU]; exact hS.2.1 q a1 a2) hW2⟩⟩ rfl rfl hrs rfl (lv_room (by rw [upv_sum]; exact hsum)) hd ⟨by omega, by omega⟩) (fun z v t hz2 hq2 => ?_) (fun q h => h.elim) hS (fun H1 locs1 g1 g2 => kk H1 locs1 cells slots hc hz g1 g2)
      obtain ⟨r, e1, e2, e3⟩ := hq2
      cases e1
      rw [e2]
      exact ⟨rfl, by rw [e3, hz2]; exact hW1, by rw [e3]; exact Nat.le_refl _, fun q _ _ => by rw [e3]⟩
    · split at hr <;> first | (cases hr; done) | skip
      rename_i h3
      cases hr
      exfalso
      have h01 : q.2.2.2.1 = 0 ∨ q.2.2.2.1 = 1 := by omega
      rcases h01 with h4 | h4 <;> (simp only [mOK, h4, Bool.and_eq_true, decide_eq_true_eq] at hm; simp only [pkind] at hk; split at hk <;> first | (exact hm.2.2.2.2 (by assumption)) | (cases hk))
  case invokestatic idx =>
    have h1 : len = 3 := len_of hlen rfl
    subst h1
    dsimp only [rsv] at hr
    split at hr <;> first | (cases hr; done) | skip
    rename_i q hq
    have hm := lnM_ok hq
    split at hr
    · rename_i h3
      cases hr
      simp only [mOK, h3, Bool.and_eq_true, decide_eq_true_eq] at hm
      obtain ⟨d1, n, dp, sp, a1, a0, k0, k1, r0, rfl, rfl, hs1, hs2, hcon, hp⟩ := pw_cpy hp
      show W p l e R s m args below meth c H locs cells slots Q (F0 m pc rs (.int n :: .int dp :: .ref (ad a1) :: .int sp :: .ref (ad a0) :: r0.map (upv ad)))
      rw [hlt hs1, hlt hs2]
      cases hp
      refine va_copyi (ty := .int) hx hb hmr hown (hts _ (tb_in hm.1 rfl)) (hts _ wNat) (hts _ wSta) (hts _ wIni) hK hP cells_D hS a0 a1 0 0 (cells_at hs1) (cells_at hs2) rfl rfl rfl (fun h => hcon (Or.inr (Or.inl h))) (fun h => hcon (Or.inr (Or.inr (Or.inl h)))) (fun h => hcon (Or.inl h)) (by omega) (by omega) (fun _ _ => rfl) (by omega) ?_ hd (fun H1 locs1 g1 _ g3 => kk H1 locs1 cells slots hc hz ⟨hsz, ?_⟩ g3)
      · rw [upv_sum]
        have e1 : nativeFrameWords "java/lang/System" "arraycopy" 5 = 7 := by decide +kernel
        rw [e1]
        omega
      · rw [← cells_up (f := va_cpy (w a0) (w a1) sp.toNatClampNeg dp.toNatClampNeg n.toNatClampNeg) hs2 (w2 := cp2 w a0 a1 sp.toNatClampNeg dp.toNatClampNeg n.toNatClampNeg) (if_pos rfl) (fun b hb => if_neg hb)]
        exact g1
    · split at hr
      · rename_i h3
        cases hr
        simp only [mOK, h3, Bool.and_eq_true, decide_eq_true_eq] at hm
        obtain ⟨d1, y, x, r0, rfl, rfl, hsum, hp⟩ := pw_max hp
        cases hp
        exact va_mmax hx hb hmr hown (hts _ (tb_in hm.1 rfl)) (hts _ wMaxS) (hts _ wMth) (hts _ wMax) (by omega) (by rw [upv_sum]; omega) (by omega) (by omega) hd (kk H locs cells slots hc hz hW1 hS)
      · split at hr
        · rename_i h3
          cases hr
          simp only [mOK, h3, Bool.and_eq_true, decide_eq_true_eq] at hm
          obtain ⟨d1, y, x, r0, rfl, rfl, hsum, hp⟩ := pw_min hp
          cases hp
          exact va_mmin hx hb hmr hown (hts _ (tb_in hm.1 rfl)) (hts _ wMinS) (hts _ wMth) (hts _ wMin) (by omega) (by rw [upv_sum]; omega) (by omega) (by omega) hd (kk H locs cells slots hc hz hW1 hS)
        · split at hr
          · rename_i h3
            cases hr
            simp only [mOK, h3, Bool.and_eq_true, decide_eq_true_eq] at hm
            obtain ⟨d1, x, r0, rfl, rfl, hsum, hp⟩ := pw_abs hp
            cases hp
            exact va_mabs hx hb hmr hown (hts _ (tb_in hm.1 rfl)) (hts _ wAbsS) (hts _ wMth) (hts _ wAbs) (by omega) (by rw [upv_sum]; omega) (by omega) (by omega) hd (kk H locs cells slots hc hz hW1 hS)
          · split at hr <;> first | (cases hr; done) | skip
            rename_i h3
            cases hr
            exfalso
            have h01 : q.2.2.2.1 = 0 ∨ q.2.2.2.1 = 1 := by omega
            rcases h01 with h4 | h4 <;> (simp only [mOK, h4, Bool.and_eq_true, decide_eq_true_eq] at hm; simp only [pkind] at hk; split at hk <;> first | (exact hm.2.2.2.2 (by assumption)) | (cases hk))
end SND6
