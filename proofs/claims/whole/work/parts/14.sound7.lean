/-! THE MACHINE IS SOUND, 5: calls -/
theorem wOK_all {k : Nat} (h : k < 260) : wOK k = true := by
  have key : ∀ {a n : Nat}, (List.range' a n).all wOK = true → a ≤ k → k < a + n → wOK k = true := fun h1 h2 h3 => List.all_eq_true.mp h1 k (List.mem_range'_1.mpr ⟨h2, h3⟩)
  by_cases h1 : k < 40
  · exact key MTB_ok_0 (by omega) (by omega)
  by_cases h2 : k < 80
  · exact key MTB_ok_1 (by omega) (by omega)
  by_cases h3 : k < 120
  · exact key MTB_ok_2 (by omega) (by omega)
  by_cases h4 : k < 160
  · exact key MTB_ok_3 (by omega) (by omega)
  by_cases h5 : k < 200
  · exact key MTB_ok_4 (by omega) (by omega)
  by_cases h6 : k < 240
  · exact key MTB_ok_5 (by omega) (by omega)
  · exact key MTB_ok_6 (by omega) (by omega)
/-- a method's own words -/
def MWF (k : Nat) : Prop := (Cond.initialized (MNM k).cls) ∈ TB ∧ (MKD k = 0 → (Cond.static (MNM k)) ∈ TB) ∧ (¬ MKD k = 0 → (Cond.instanceMethod (MNM k)) ∈ TB) ∧ (MKD k = 1 → (Cond.selects (MNM k).cls (MNM k) (MNM k)) ∈ TB) ∧ (MNM k).cls = CNO (MOW k) ∧ (MKD k = 2 → (MNM k).name = "<init>" ∧ MRT k = 0) ∧ (parseMethodDescriptor (MNM k).desc).map (fun d => d.parameters.length) = some (MNP k) ∧ plainName (MNM k).cls = true ∧ ((MNM k).cls ≠ "java/lang/invoke/MethodHandle" ∧ (MNM k).cls ≠ "java/lang/invoke/VarHandle") ∧ MLN k ≤ 45 ∧ MRT k < 4
theorem meth_ok {k : Nat} (h : k < 260) : MWF k := by
  have h1 := wOK_all h
  unfold wOK at h1
  cases hq : MTB[k]? with
  | none => simp [hq] at h1
  | some q =>
    cases hr : MPW[k]? with
    | none => simp [hq, hr] at h1
    | some r =>
      simp only [hq, hr, Bool.and_eq_true, decide_eq_true_eq] at h1
      obtain ⟨a1, a2, a3, a4, a5, a6, a7, a8, a9, a10⟩ := h1
      have e1 : MNM k = q.1 := by simp [MNM, hq]
      have e2 : MKD k = q.2.2.2.2.2.1 := by simp [MKD, hq]
      have e3 : MOW k = q.2.2.2.2.1 := by simp [MOW, hq]
      have e4 : MNP k = q.2.2.2.2.2.2 := by simp [MNP, hq]
      have e5 : MLN k = q.2.2.1 := by simp [MLN, hq]
      have e6 : MRT k = q.2.2.2.1 := by simp [MRT, hq]
      unfold MWF
      rw [e1, e2, e3, e4, e5, e6]
      refine ⟨tb_in a1 rfl, fun h0 => ?_, fun h0 => ?_, fun h0 => ?_, a4, fun h0 => ?_, a6, a7, a8, a9, a10⟩
      · rw [if_pos h0] at a2
        exact tb_in a2 rfl
      · rw [if_neg h0] at a2
        exact tb_in a2 rfl
      · rw [if_pos h0] at a3
        exact tb_in (of_decide_eq_true a3) rfl
      · rw [if_pos h0] at a5
        simp only [Bool.and_eq_true, decide_eq_true_eq] at a5
        exact a5
theorem own_lt : ∀ k, k < 260 → MOW k < 17 := by decide +kernel
theorem cls_nm {ci : Nat} {r : vw_C} (h : CLS[ci]? = some r) : r.1 = CNO ci := by
  have hl := cls_lt h
  match ci, h, hl with
  | 0, h, _ => cases h; rfl
  | 1, h, _ => cases h; rfl
  | 2, h, _ => cases h; rfl
  | 3, h, _ => cases h; rfl
  | 4, h, _ => cases h; rfl
  | 5, h, _ => cases h; rfl
  | 6, h, _ => cases h; rfl
  | 7, h, _ => cases h; rfl
  | 8, h, _ => cases h; rfl
  | 9, h, _ => cases h; rfl
  | 10, h, _ => cases h; rfl
  | 11, h, _ => cases h; rfl
  | 12, h, _ => cases h; rfl
  | k + 13, h, hl => exact absurd hl (by omega)
def PCT (D : va_G) (cI cB cQ : ClassId) (ad adV : Nat → Nat) (X : Scr) (base : Nat) (av : List Value) (sh : Sh) (w : Wd) : Array Value → State → Prop := va_Pc (av.map (upv ad)) (fun U => U.heap.size = base + sh.length ∧ WH D ad cI cB cQ base sh w U.heap ∧ ENV D cI cB cQ ad adV X base U)
def QCT (D : va_G) (cI cB cQ : ClassId) (ad : Nat → Nat) (base : Nat) (rv : Option Value) (sh : Sh) (w : Wd) : Array Value → State → Outcome → State → Prop := fun _ z o t => (o = .returned (rv.map (upv ad)) ∧ WH D ad cI cB cQ base sh w t.heap) ∧ va_F (fun q => base ≤ q) z t
def rmO (d mc ms : Nat) : Room := { frames := d, cells := mc, slots := ms, locals := 400 * d }
abbrev wsO (k : Nat) : List Cond := .code (MNM k) (MBY k) (MLN k) (RTY (MRT k)) :: TB
def MET (l : Launch) (D : va_G) (cI cB cQ : ClassId) (ad adV : Nat → Nat) (X : Scr) (base : Nat) (d k : Nat) (av : List Value) (sh : Sh) (w : Wd) (rv : Option Value) (sh' : Sh) (w' : Wd) : Prop :=
  Met l (MNM k) (wsO k) (rmO d (sh'.length - sh.length) (shSz sh' - shSz sh)) (PCT D cI cB cQ ad adV X base av sh w) (QCT D cI cB cQ ad base rv sh' w') (sh'.length - sh.length) (shSz sh' - shSz sh) (fun q => base ≤ q)
section SND7
variable {p : Program} {l : Launch} {e : Env} {R : Room} {s : State} {m : MethodId} {args : Array Value} {below : List Frame} {meth : Method} {c : Code} {H : Heap} {locs : List Loc} {cells slots : Nat} {Q : State → Prop}
variable {ad adV : Nat → Nat} {k pc len : Nat} {raw i : Instr} {ls ls' : PLs} {st st' : List Value} {rs : Array Slot} {D : va_G} {cI cB cQ : ClassId} {base : Nat} {sh sh' : Sh} {w w' : Wd} {X : Scr}
theorem wh_ge (hW : WH D ad cI cB cQ base sh w H) (hS : va_S (fun q => base ≤ q) s.heap H locs) {n0 : Nat} (hs0 : s.heap.size = base + n0) : base + sh.length ≤ H.size := by
  by_cases h : sh.length = 0
  · have := hS.1
    omega
  · have hl : sh.length - 1 < sh.length := by omega
    have h1 := hW.2 (sh.length - 1) _ (cells_at (List.getElem?_eq_getElem hl))
    have h2 := h1.lt
    dsimp only at h2
    omega
theorem pct_blind {av : List Value} : FrameBlind (PCT D cI cB cQ ad adV X base av sh w) := fun a U g mk q => ⟨q.1, q.2.1, q.2.2.1, q.2.2.2.call g mk a⟩
theorem good_O {kc : Nat} (hk : kc < 260) : GoodIn TB (wsO kc) := by
  refine good_TB fun w hw => ?_
  rcases List.mem_cons.mp hw with rfl | hw
  · obtain ⟨q, hq⟩ := MCD kc hk
    exact tb_in hq rfl
  · exact hw
set_option maxHeartbeats 4000000 in
theorem s_call {n0 z0 d kc : Nat} {av r : List Value} {rv : Option Value} (hE : ENV D cI cB cQ ad adV X base s) (hb0 : ad 100000 < base) (had : ∀ a, a < 100000 → ad a = base + a) (hS : va_S (fun q => base ≤ q) s.heap H locs) (hW : WH D ad cI cB cQ base sh w H) (hs0 : s.heap.size = base + n0) (hc : n0 + cells = sh.length) (hz : z0 + slots = shSz sh)
    (hl1 : sh.length ≤ sh'.length) (hl2 : shSz sh ≤ shSz sh') (hRc : sh'.length ≤ n0 + R.cells) (hRz : shSz sh' ≤ z0 + R.slots) (hRf : d + 1 ≤ R.frames) (hRl : 400 * (d + 1) ≤ R.locals)
    (C0 : CX p s m args meth c k) (hrs : rs.size = MLN k) (hR : RW k pc len raw i) (hk : pkind i = 5) (hp : pcall i st sh = some (kc, av, r)) (hkc : kc < 260 → MET l D cI cB cQ ad adV X base d kc av sh w rv sh' w')
    (kk : ∀ (H1 : Heap) (locs1 : List Loc) (cells1 slots1 : Nat), n0 + cells1 = sh'.length → z0 + slots1 = shSz sh' → WH D ad cI cB cQ base sh' w' H1 → va_S (fun q => base ≤ q) s.heap H1 locs1 → W p l e R s m args below meth c H1 locs1 cells1 slots1 Q (F0 m (pc + len) rs ((rv.toList ++ r).map (upv ad)))) :
    W p l e R s m args below meth c H locs cells slots Q (F0 m pc rs (st.map (upv ad))) := by
  obtain ⟨hx, hb, hml, hrt, hlk, hown, hts, hin⟩ := C0
  obtain ⟨hd, hlen, hr⟩ := hR
  have hk3 : rkind raw = 35 := by
    rcases rsv_kind hr with h | ⟨h, h2⟩
    · cases raw <;> first | rfl | (rw [hk] at h; cases h; done) | (rw [hk] at h; simp [rkind] at h; done)
    · exact h
  refine W.sz fun hsz => ?_
  have hHs : H.size = base + sh.length := by
    have := wh_ge hW hS hs0
    omega
  have hsub : (rv.map (upv ad)).toList ++ r.map (upv ad) = (rv.toList ++ r).map (upv ad) := by cases rv <;> rfl
  have hq : ∀ (z : State) (v : Option Value) (t : State), z.heap = H → QCT D cI cB cQ ad base rv sh' w' (av.map (upv ad)).toArray z (.returned v) t → v = rv.map (upv ad) ∧ WH D ad cI cB cQ base sh' w' t.heap ∧ va_F (fun q => base ≤ q) z t := by
    intro z v t _ hq
    obtain ⟨⟨e1, e2⟩, e3⟩ := hq
    cases e1
    exact ⟨rfl, e2, e3⟩
  have hfin : ∀ (H1 : Heap) (locs1 : List Loc), len = 3 → WH D ad cI cB cQ base sh' w' H1 → va_S (fun q => base ≤ q) s.heap H1 locs1 → W p l e R s m args below meth c H1 locs1 (cells + (sh'.length - sh.length)) (slots + (shSz sh' - shSz sh)) Q (F0 m (pc + 3) rs ((rv.map (upv ad)).toList ++ r.map (upv ad))) := by
    intro H1 locs1 h3 g1 g2
    rw [hsub, ← h3]
    exact kk H1 locs1 _ _ (by omega) (by omega) g1 g2
  have hpre : ∀ U : State, U.heap = H → s.WarmedH U.vm → PCT D cI cB cQ ad adV X base av sh w (av.map (upv ad)).toArray U := fun U hU hW2 => ⟨rfl, by rw [hU]; exact hHs, by rw [hU]; exact hW, hE.to hb0 (by omega) (fun q a1 a2 => by rw [hU]; exact hS.2.1 q a1 a2) hW2⟩
  have hroom : cells + (sh'.length - sh.length) ≤ R.cells ∧ slots + (shSz sh' - shSz sh) ≤ R.slots := ⟨by omega, by omega⟩
  have hrm : kc < 260 → (rmO d (sh'.length - sh.length) (shSz sh' - shSz sh)).frames + 1 ≤ R.frames ∧ 8 + (MLN kc + 11) + (rmO d (sh'.length - sh.length) (shSz sh' - shSz sh)).locals ≤ R.locals := by
    intro h
    obtain ⟨-, -, -, -, -, -, -, -, -, h9, -⟩ := meth_ok h
    refine ⟨by show d + 1 ≤ _; omega, ?_⟩
    show 8 + (MLN kc + 11) + 400 * d ≤ _
    omega
  cases raw <;> first | (cases hk3; done) | (simp [rkind] at hk3; done) | skip
  case invokestatic idx =>
    have h1 : len = 3 := len_of hlen rfl
    dsimp only [rsv] at hr
    cases hq0 : lnM (MOW k) idx with
    | none => rw [hq0] at hr; cases hr
    | some q =>
      rw [hq0] at hr
      dsimp only at hr
      have hm := lnM_ok hq0
      by_cases g1 : q.2.2.2.1 = 2
      · rw [if_pos g1] at hr; cases hr; cases hk
      rw [if_neg g1] at hr
      by_cases g2 : q.2.2.2.1 = 5
      · rw [if_pos g2] at hr; cases hr; cases hk
      rw [if_neg g2] at hr
      by_cases g3 : q.2.2.2.1 = 6
      · rw [if_pos g3] at hr; cases hr; cases hk
      rw [if_neg g3] at hr
      by_cases g4 : q.2.2.2.1 = 7
      · rw [if_pos g4] at hr; cases hr; cases hk
      rw [if_neg g4] at hr
      by_cases g5 : q.2.2.2.1 ≤ 1 ∧ MKD (q.2.2.1 % 1000) = 0
      · rw [if_pos g5] at hr
        cases hr
        dsimp only [pcall] at hp
        by_cases p1 : q.2.2.1 / 1000 % 16 ≤ st.length
        · rw [if_pos p1] at hp
          by_cases p2 : ((st.drop (q.2.2.1 / 1000 % 16)).map fun v => v.category).sum ≤ 8
          · rw [if_pos p2] at hp
            cases hp
            have hst : st.map (upv ad) = (((st.take (q.2.2.1 / 1000 % 16)).reverse).map (upv ad)).reverse ++ (st.drop (q.2.2.1 / 1000 % 16)).map (upv ad) := by
              rw [← List.map_reverse, List.reverse_reverse, ← List.map_append, List.take_append_drop]
            have hlenA : (((st.take (q.2.2.1 / 1000 % 16)).reverse).map (upv ad)).length = q.2.2.1 / 1000 % 16 := by
              rw [List.length_map, List.length_reverse, List.length_take]
              omega
            rcases (show q.2.2.2.1 = 0 ∨ q.2.2.2.1 = 1 by omega) with g6 | g6
            · simp only [mOK, g6, Bool.and_eq_true, decide_eq_true_eq] at hm
              obtain ⟨m1, m2, m3, m4, m5⟩ := hm
              obtain ⟨o1, o2, o3, o4, o5, o6, o7, o8, o9, o10, o11⟩ := meth_ok m4
              have cb := callB_of (R := R) (mc := sh'.length - sh.length) (ms := shSz sh' - shSz sh) (MNP (q.2.2.1 % 1000)) hts (good_O m4) (bytes := MBY (q.2.2.1 % 1000)) (maxL := MLN (q.2.2.1 % 1000)) (ret := RTY (MRT (q.2.2.1 % 1000))) (ws' := TB) rfl (rm := rmO d (sh'.length - sh.length) (shSz sh' - shSz sh)) rfl rfl (hts _ o1) (hts _ (tb_in m1 rfl)) ⟨o9.1, o9.2, o7⟩ (hrm m4)
              exact wcall (va_runS (As := ((st.take (q.2.2.1 / 1000 % 16)).reverse).map (upv ad)) (rest := (st.drop (q.2.2.1 / 1000 % 16)).map (upv ad)) ⟨hx, hb, hml, hown, hts⟩ (hkc m4) ⟨cb, hts _ (o2 g5.2)⟩ ⟨pct_blind, hpre⟩ rfl (hlenA.trans m2) hrs hst (lv_room (by rw [upv_sum]; exact p2)) (by rw [← h1]; exact h1 ▸ hd) hroom) hq (fun _ h => h) hS (fun H1 locs1 a1 a2 => hfin H1 locs1 h1 a1 a2)
            · simp only [mOK, g6, Bool.and_eq_true, decide_eq_true_eq] at hm
              obtain ⟨m1, m2, m3, m4, m5⟩ := hm
              obtain ⟨o1, o2, o3, o4, o5, o6, o7, o8, o9, o10, o11⟩ := meth_ok m4
              have cb := va_cnB (R := R) (mc := sh'.length - sh.length) (ms := shSz sh' - shSz sh) (MNP (q.2.2.1 % 1000)) hts (good_O m4) (bytes := MBY (q.2.2.1 % 1000)) (maxL := MLN (q.2.2.1 % 1000)) (ret := RTY (MRT (q.2.2.1 % 1000))) (ws' := TB) rfl (rm := rmO d (sh'.length - sh.length) (shSz sh' - shSz sh)) rfl rfl (hE.2.1 _ (List.mem_filter.mpr ⟨List.mem_of_getElem? m1, rfl⟩)) (hts _ o1) ⟨o9.1, o9.2, o7⟩ (hrm m4)
              exact wcall (va_runSN (As := ((st.take (q.2.2.1 / 1000 % 16)).reverse).map (upv ad)) (rest := (st.drop (q.2.2.1 / 1000 % 16)).map (upv ad)) ⟨hx, hb, hml, hown, hts⟩ (hkc m4) ⟨cb, hts _ (o2 g5.2), trivial⟩ ⟨pct_blind, hpre⟩ rfl (hlenA.trans m2) hrs hst (lv_room (by rw [upv_sum]; exact p2)) (by rw [← h1]; exact h1 ▸ hd) hroom) hq (fun _ h => h) hS (fun H1 locs1 a1 a2 => hfin H1 locs1 h1 a1 a2)
          · rw [if_neg p2] at hp; cases hp
        · rw [if_neg p1] at hp; cases hp
      · rw [if_neg g5] at hr; cases hr
  case invokespecial idx =>
    have h1 : len = 3 := len_of hlen rfl
    dsimp only [rsv] at hr
    cases hq0 : lnM (MOW k) idx with
    | none => rw [hq0] at hr; cases hr
    | some q =>
      rw [hq0] at hr
      dsimp only at hr
      have hm := lnM_ok hq0
      by_cases g1 : q.2.2.2.1 = 3
      · rw [if_pos g1] at hr; cases hr; cases hk
      rw [if_neg g1] at hr
      by_cases g5 : q.2.2.2.1 ≤ 1 ∧ MKD (q.2.2.1 % 1000) = 2
      · rw [if_pos g5] at hr
        cases hr
        dsimp only [pcall] at hp
        cases hdr : st.drop (q.2.2.1 / 1000 % 16) with
        | nil => rw [hdr] at hp; cases hp
        | cons v0 r1 =>
          rw [hdr] at hp
          cases v0 <;> first | (cases hp; done) | skip
          rename_i a
          dsimp only at hp
          by_cases p2 : (r1.map fun v => v.category).sum ≤ 8
          · rw [if_pos p2] at hp
            cases hp
            have hst : st.map (upv ad) = (((st.take (q.2.2.1 / 1000 % 16)).reverse).map (upv ad)).reverse ++ .ref (ad a) :: r.map (upv ad) := by
              rw [← List.map_reverse, List.reverse_reverse]
              have e1 : st = st.take (q.2.2.1 / 1000 % 16) ++ .ref a :: r := by rw [← hdr, List.take_append_drop]
              calc st.map (upv ad) = (st.take (q.2.2.1 / 1000 % 16) ++ .ref a :: r).map (upv ad) := by rw [← e1]
                _ = _ := by rw [List.map_append]; rfl
            have hlenA : (((st.take (q.2.2.1 / 1000 % 16)).reverse).map (upv ad)).length = q.2.2.1 / 1000 % 16 := by
              rw [List.length_map, List.length_reverse, List.length_take]
              have e2 : (st.drop (q.2.2.1 / 1000 % 16)).length = r.length + 1 := by rw [hdr]; rfl
              rw [List.length_drop] at e2
              omega
            rcases (show q.2.2.2.1 = 0 ∨ q.2.2.2.1 = 1 by omega) with g6 | g6
            · simp only [mOK, g6, Bool.and_eq_true, decide_eq_true_eq] at hm
              obtain ⟨m1, m2, m3, m4, m5⟩ := hm
              obtain ⟨o1, o2, o3, o4, o5, o6, o7, o8, o9, o10, o11⟩ := meth_ok m4
              have hret : RTY (MRT (q.2.2.1 % 1000)) = none := by rw [(o6 g5.2).2]; rfl
              have cb := callB_of (R := R) (mc := sh'.length - sh.length) (ms := shSz sh' - shSz sh) (MNP (q.2.2.1 % 1000)) hts (good_O m4) (bytes := MBY (q.2.2.1 % 1000)) (maxL := MLN (q.2.2.1 % 1000)) (ret := none) (ws' := TB) (by show Cond.code (MNM (q.2.2.1 % 1000)) (MBY (q.2.2.1 % 1000)) (MLN (q.2.2.1 % 1000)) (RTY (MRT (q.2.2.1 % 1000))) :: TB = _; rw [hret]) (rm := rmO d (sh'.length - sh.length) (shSz sh' - shSz sh)) rfl rfl (hts _ o1) (hts _ (tb_in m1 rfl)) ⟨o9.1, o9.2, o7⟩ (hrm m4)
              exact wcall (va_runI (As := ((st.take (q.2.2.1 / 1000 % 16)).reverse).map (upv ad)) (rest := r.map (upv ad)) ⟨hx, hb, hml, hown, hts⟩ (hkc m4) ⟨cb, (o6 g5.2).1, hts _ (o3 (by rw [g5.2]; decide))⟩ ⟨pct_blind, hpre⟩ rfl (hlenA.trans m2) hrs hst (lv_room (by rw [upv_sum]; exact p2)) (by rw [← h1]; exact h1 ▸ hd) hroom) hq (fun _ h => h) hS (fun H1 locs1 a1 a2 => hfin H1 locs1 h1 a1 a2)
            · simp only [mOK, g6, Bool.and_eq_true, decide_eq_true_eq] at hm
              obtain ⟨m1, m2, m3, m4, m5⟩ := hm
              obtain ⟨o1, o2, o3, o4, o5, o6, o7, o8, o9, o10, o11⟩ := meth_ok m4
              have hret : RTY (MRT (q.2.2.1 % 1000)) = none := by rw [(o6 g5.2).2]; rfl
              have cb := va_cnB (R := R) (mc := sh'.length - sh.length) (ms := shSz sh' - shSz sh) (MNP (q.2.2.1 % 1000)) hts (good_O m4) (bytes := MBY (q.2.2.1 % 1000)) (maxL := MLN (q.2.2.1 % 1000)) (ret := none) (ws' := TB) (by show Cond.code (MNM (q.2.2.1 % 1000)) (MBY (q.2.2.1 % 1000)) (MLN (q.2.2.1 % 1000)) (RTY (MRT (q.2.2.1 % 1000))) :: TB = _; rw [hret]) (rm := rmO d (sh'.length - sh.length) (shSz sh' - shSz sh)) rfl rfl (hE.2.1 _ (List.mem_filter.mpr ⟨List.mem_of_getElem? m1, rfl⟩)) (hts _ o1) ⟨o9.1, o9.2, o7⟩ (hrm m4)
              exact wcall (va_runIN (As := ((st.take (q.2.2.1 / 1000 % 16)).reverse).map (upv ad)) (rest := r.map (upv ad)) ⟨hx, hb, hml, hown, hts⟩ (hkc m4) ⟨cb, (o6 g5.2).1, hts _ (o3 (by rw [g5.2]; decide))⟩ ⟨pct_blind, hpre⟩ rfl (hlenA.trans m2) hrs hst (lv_room (by rw [upv_sum]; exact p2)) (by rw [← h1]; exact h1 ▸ hd) hroom) hq (fun _ h => h) hS (fun H1 locs1 a1 a2 => hfin H1 locs1 h1 a1 a2)
          · rw [if_neg p2] at hp; cases hp
      · rw [if_neg g5] at hr; cases hr
  case invokevirtual idx =>
    have h1 : len = 3 := len_of hlen rfl
    dsimp only [rsv] at hr
    cases hq0 : lnM (MOW k) idx with
    | none => rw [hq0] at hr; cases hr
    | some q =>
      rw [hq0] at hr
      dsimp only at hr
      have hm := lnM_ok hq0
      by_cases g1 : q.2.2.2.1 = 4
      · rw [if_pos g1] at hr; cases hr; cases hk
      rw [if_neg g1] at hr
      by_cases g5 : q.2.2.2.1 ≤ 1 ∧ MKD (q.2.2.1 % 1000) = 1
      · rw [if_pos g5] at hr
        cases hr
        dsimp only [pcall] at hp
        cases hdr : st.drop (q.2.2.1 / 1000 % 16) with
        | nil => rw [hdr] at hp; cases hp
        | cons v0 r1 =>
          rw [hdr] at hp
          cases v0 <;> first | (cases hp; done) | skip
          rename_i a
          dsimp only at hp
          cases hsa : sh[a]? with
          | none => rw [hsa] at hp; cases hp
          | some cl0 =>
            rw [hsa] at hp
            cases cl0 with
            | inl y => cases hp
            | inr y =>
              obtain ⟨ci, rs0⟩ := y
              dsimp only at hp
              by_cases p3 : ci = q.2.2.1 / 16000
              · rw [if_pos p3] at hp
                by_cases p2 : (r1.map fun v => v.category).sum ≤ 8
                · rw [if_pos p2] at hp
                  cases hp
                  have hst : st.map (upv ad) = (((st.take (q.2.2.1 / 1000 % 16)).reverse).map (upv ad)).reverse ++ .ref (ad a) :: r.map (upv ad) := by
                    rw [← List.map_reverse, List.reverse_reverse]
                    have e1 : st = st.take (q.2.2.1 / 1000 % 16) ++ .ref a :: r := by rw [← hdr, List.take_append_drop]
                    calc st.map (upv ad) = (st.take (q.2.2.1 / 1000 % 16) ++ .ref a :: r).map (upv ad) := by rw [← e1]
                      _ = _ := by rw [List.map_append]; rfl
                  have hlenA : (((st.take (q.2.2.1 / 1000 % 16)).reverse).map (upv ad)).length = q.2.2.1 / 1000 % 16 := by
                    rw [List.length_map, List.length_reverse, List.length_take]
                    have e2 : (st.drop (q.2.2.1 / 1000 % 16)).length = r.length + 1 := by rw [hdr]; rfl
                    rw [List.length_drop] at e2
                    omega
                  have hrecv : q.2.2.1 / 16000 = MOW (q.2.2.1 % 1000) → q.2.2.1 % 1000 < 260 → (MNM (q.2.2.1 % 1000)).cls = CNO (MOW (q.2.2.1 % 1000)) → ∃ cellB : Cell, H[ad a]? = some cellB ∧ cellB.vm.isStatics = false ∧ s.vm.findClass (MNM (q.2.2.1 % 1000)).cls = some cellB.cls := by
                    intro b1 b2 b3
                    have b4 := own_lt _ b2
                    have hne : ¬ ci = 100 := by omega
                    have hcell := cells_at (ad := ad) (cI := cI) (cB := cB) (cQ := cQ) (base := base) (w := w) hsa
                    simp only [toE, if_neg hne] at hcell
                    obtain ⟨rr, b5, -⟩ := hW.2 a _ hcell
                    obtain ⟨cell, b6, b7, b8⟩ := va_recv hE.1 hW.2 b5 hcell
                    rw [had a (Nat.lt_of_lt_of_le (List.getElem?_eq_some_iff.mp hsa).1 hW.1)]
                    refine ⟨cell, b6, b7, ?_⟩
                    rw [b3, ← b1, ← p3, ← cls_nm b5]
                    exact b8
                  rcases (show q.2.2.2.1 = 0 ∨ q.2.2.2.1 = 1 by omega) with g6 | g6
                  · simp only [mOK, g6, Bool.and_eq_true, decide_eq_true_eq] at hm
                    obtain ⟨m1, m2, m3, m4, m5⟩ := hm
                    obtain ⟨o1, o2, o3, o4, o5, o6, o7, o8, o9, o10, o11⟩ := meth_ok m4
                    have cb := callB_of (R := R) (mc := sh'.length - sh.length) (ms := shSz sh' - shSz sh) (MNP (q.2.2.1 % 1000)) hts (good_O m4) (bytes := MBY (q.2.2.1 % 1000)) (maxL := MLN (q.2.2.1 % 1000)) (ret := RTY (MRT (q.2.2.1 % 1000))) (ws' := TB) rfl (rm := rmO d (sh'.length - sh.length) (shSz sh' - shSz sh)) rfl rfl (hts _ o1) (hts _ (tb_in m1 rfl)) ⟨o9.1, o9.2, o7⟩ (hrm m4)
                    exact wcall (va_runV (C := (MNM (q.2.2.1 % 1000)).cls) (As := ((st.take (q.2.2.1 / 1000 % 16)).reverse).map (upv ad)) (rest := r.map (upv ad)) ⟨hx, hb, hml, hown, hts⟩ (hkc m4) ⟨cb, hts _ (o3 (by rw [g5.2]; decide)), hts _ (o4 g5.2)⟩ ⟨pct_blind, hrecv m3 m4 o5, hpre⟩ rfl (hlenA.trans m2) hrs hst (lv_room (by rw [upv_sum]; exact p2)) (by rw [← h1]; exact h1 ▸ hd) hroom) hq (fun _ h => h) hS (fun H1 locs1 a1 a2 => hfin H1 locs1 h1 a1 a2)
                  · simp only [mOK, g6, Bool.and_eq_true, decide_eq_true_eq] at hm
                    obtain ⟨m1, m2, m3, m4, m5⟩ := hm
                    obtain ⟨o1, o2, o3, o4, o5, o6, o7, o8, o9, o10, o11⟩ := meth_ok m4
                    have cb := va_cnB (R := R) (mc := sh'.length - sh.length) (ms := shSz sh' - shSz sh) (MNP (q.2.2.1 % 1000)) hts (good_O m4) (bytes := MBY (q.2.2.1 % 1000)) (maxL := MLN (q.2.2.1 % 1000)) (ret := RTY (MRT (q.2.2.1 % 1000))) (ws' := TB) rfl (rm := rmO d (sh'.length - sh.length) (shSz sh' - shSz sh)) rfl rfl (hE.2.1 _ (List.mem_filter.mpr ⟨List.mem_of_getElem? m1, rfl⟩)) (hts _ o1) ⟨o9.1, o9.2, o7⟩ (hrm m4)
                    exact wcall (va_runVN (C := (MNM (q.2.2.1 % 1000)).cls) (As := ((st.take (q.2.2.1 / 1000 % 16)).reverse).map (upv ad)) (rest := r.map (upv ad)) ⟨hx, hb, hml, hown, hts⟩ (hkc m4) ⟨cb, hts _ (o3 (by rw [g5.2]; decide)), hts _ (o4 g5.2)⟩ ⟨pct_blind, hrecv m3 m4 o5, hpre⟩ rfl (hlenA.trans m2) hrs hst (lv_room (by rw [upv_sum]; exact p2)) (by rw [← h1]; exact h1 ▸ hd) hroom) hq (fun _ h => h) hS (fun H1 locs1 a1 a2 => hfin H1 locs1 h1 a1 a2)
                · rw [if_neg p2] at hp; cases hp
              · rw [if_neg p3] at hp; cases hp
      · rw [if_neg g5] at hr; cases hr
end SND7
