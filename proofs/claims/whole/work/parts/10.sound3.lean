/-! THE MACHINE IS SOUND, 2: the world -/
def fvs (ad : Nat → Nat) (ci : Nat) (rs : List (Option Nat)) (f : Nat → Int32) : List Value := (List.range (nFd ci)).map fun k => if flagOf (tyF ci k) = 1 then va_rf ((rs.getD k none).map ad) else .int (f k)
def toE (ad : Nat → Nat) (cI cB cQ : ClassId) (c : ShC) (f : Nat → Int32) : va_E := match c with
  | .inl (t, n) => .inl (if t = 0 then cI else cB, n, .inl f)
  | .inr (ci, rs) => if ci = 100 then .inl (cQ, rs.length, .inr (.inr (.inr (.inr (fun j => (rs.getD j none).map ad))))) else .inr (ci, fvs ad ci rs f)
def cellsOf (ad : Nat → Nat) (cI cB cQ : ClassId) (base : Nat) (sh : Sh) (w : Wd) : va_W := sh.mapIdx fun i c => (base + i, toE ad cI cB cQ c (w i))
abbrev TYS (cI cB cQ : ClassId) : List (ClassId × FieldType) := [(cI, .int), (cB, .byte), (cQ, .object "YearFigures$Program")]
def cellSz (c : ShC) : Nat := match c with
  | .inl (_, n) => n
  | .inr (ci, rs) => if ci = 100 then rs.length else nFd ci
def shSz (sh : Sh) : Nat := (sh.map cellSz).sum
def WH (D : va_G) (ad : Nat → Nat) (cI cB cQ : ClassId) (base : Nat) (sh : Sh) (w : Wd) (H : Heap) : Prop := sh.length ≤ 100000 ∧ va_P D CLS (cellsOf ad cI cB cQ base sh w) H
section WLD
variable {D : va_G} {ad : Nat → Nat} {cI cB cQ : ClassId} {base : Nat} {sh : Sh} {w : Wd} {H : Heap}
theorem cells_at {a : Nat} {c : ShC} (h : sh[a]? = some c) : (cellsOf ad cI cB cQ base sh w)[a]? = some (base + a, toE ad cI cB cQ c (w a)) := by
  simp [cellsOf, List.getElem?_mapIdx, h]
theorem cells_get {a : Nat} {x : Nat × va_E} (h : (cellsOf ad cI cB cQ base sh w)[a]? = some x) : ∃ c, sh[a]? = some c ∧ x = (base + a, toE ad cI cB cQ c (w a)) := by
  simp only [cellsOf, List.getElem?_mapIdx, Option.map_eq_some_iff] at h
  obtain ⟨c, h1, h2⟩ := h
  exact ⟨c, h1, h2.symm⟩
theorem cells_len : (cellsOf ad cI cB cQ base sh w).length = sh.length := by simp [cellsOf]
theorem cells_D : va_D (fun q => base ≤ q) (cellsOf ad cI cB cQ base sh w) := by
  refine ⟨fun i j x y hi hj hxy => ?_, fun k x hk => ?_⟩
  · obtain ⟨c, -, rfl⟩ := cells_get hi
    obtain ⟨d, -, rfl⟩ := cells_get hj
    dsimp only at hxy
    omega
  · obtain ⟨c, -, rfl⟩ := cells_get hk
    dsimp only
    omega
theorem cells_up {a : Nat} {c : ShC} {f : Nat → Int32} (h : sh[a]? = some c) {w2 : Wd} (h1 : w2 a = f) (h2 : ∀ b, b ≠ a → w2 b = w b) : (cellsOf ad cI cB cQ base sh w).set a (base + a, toE ad cI cB cQ c f) = cellsOf ad cI cB cQ base sh w2 := by
  apply List.ext_getElem?
  intro j
  by_cases hj : j = a
  · subst hj
    rw [List.getElem?_set_self (by rw [cells_len]; exact (List.getElem?_eq_some_iff.mp h).1), cells_at h, h1]
  · rw [List.getElem?_set_ne (Ne.symm hj)]
    cases hc : sh[j]? with
    | none => simp [cellsOf, List.getElem?_mapIdx, hc]
    | some c2 => rw [cells_at hc, cells_at hc, h2 j hj]
theorem cells_sh {a : Nat} {c c2 : ShC} (h : sh[a]? = some c) : (cellsOf ad cI cB cQ base sh w).set a (base + a, toE ad cI cB cQ c2 (w a)) = cellsOf ad cI cB cQ base (sh.set a c2) w := by
  have hl := (List.getElem?_eq_some_iff.mp h).1
  apply List.ext_getElem?
  intro j
  by_cases hj : j = a
  · subst hj
    rw [List.getElem?_set_self (by rw [cells_len]; exact hl), cells_at (List.getElem?_set_self hl)]
  · rw [List.getElem?_set_ne (Ne.symm hj)]
    cases hc : sh[j]? with
    | none => simp [cellsOf, List.getElem?_mapIdx, List.getElem?_set_ne (Ne.symm hj), hc]
    | some c3 => rw [cells_at hc, cells_at ((List.getElem?_set_ne (Ne.symm hj)).trans hc)]
theorem cells_push {c : ShC} {w2 : Wd} (h2 : ∀ b, b < sh.length → w2 b = w b) : cellsOf ad cI cB cQ base sh w ++ [(base + sh.length, toE ad cI cB cQ c (w2 sh.length))] = cellsOf ad cI cB cQ base (sh ++ [c]) w2 := by
  apply List.ext_getElem?
  intro j
  by_cases hj : j < sh.length
  · rw [List.getElem?_append_left (by rw [cells_len]; exact hj)]
    have hc : sh[j]? = some sh[j] := List.getElem?_eq_getElem hj
    rw [cells_at hc, cells_at ((List.getElem?_append_left hj).trans hc), h2 j hj]
  · rw [List.getElem?_append_right (by rw [cells_len]; omega), cells_len]
    by_cases hj2 : j = sh.length
    · subst hj2
      rw [cells_at (a := sh.length) (c := c) (by simp)]
      simp
    · rw [List.getElem?_eq_none (by simp; omega)]
      rw [List.getElem?_eq_none (by rw [cells_len]; simp; omega)]
theorem up2_self {a k : Nat} {v : Int32} : up2 w a k v a = upd (w a) k v := if_pos rfl
theorem up2_ne {a k b : Nat} {v : Int32} (h : b ≠ a) : up2 w a k v b = w b := if_neg h
theorem fvs_get {ci k : Nat} {rs : List (Option Nat)} {f : Nat → Int32} (hk : k < nFd ci) : (fvs ad ci rs f)[k]? = some (if flagOf (tyF ci k) = 1 then va_rf ((rs.getD k none).map ad) else .int (f k)) := by
  simp [fvs, List.getElem?_map, List.getElem?_range hk]
theorem fvs_len {ci : Nat} {rs : List (Option Nat)} {f : Nat → Int32} : (fvs ad ci rs f).length = nFd ci := by simp [fvs]
theorem fvs_int {ci k : Nat} {rs : List (Option Nat)} {f : Nat → Int32} {x : Int32} (hk : k < nFd ci) (hf : ¬ flagOf (tyF ci k) = 1) : (fvs ad ci rs f).set k (.int x) = fvs ad ci rs (upd f k x) := by
  apply List.ext_getElem?
  intro j
  by_cases hj : j = k
  · subst hj
    rw [List.getElem?_set_self (by rw [fvs_len]; exact hk), fvs_get hk, if_neg hf]
    simp [upd]
  · rw [List.getElem?_set_ne (Ne.symm hj)]
    by_cases hl : j < nFd ci
    · rw [fvs_get hl, fvs_get hl]
      simp [upd, hj]
    · rw [List.getElem?_eq_none (by rw [fvs_len]; omega), List.getElem?_eq_none (by rw [fvs_len]; omega)]
theorem fvs_ref {ci k b : Nat} {rs : List (Option Nat)} {f : Nat → Int32} (hk : k < nFd ci) (hr : k < rs.length) (hf : flagOf (tyF ci k) = 1) : (fvs ad ci rs f).set k (.ref (ad b)) = fvs ad ci (rs.set k (some b)) f := by
  apply List.ext_getElem?
  intro j
  by_cases hj : j = k
  · subst hj
    rw [List.getElem?_set_self (by rw [fvs_len]; exact hk), fvs_get hk, if_pos hf]
    simp [hr, va_rf]
  · rw [List.getElem?_set_ne (Ne.symm hj)]
    by_cases hl : j < nFd ci
    · rw [fvs_get hl, fvs_get hl]
      simp [List.getElem?_set_ne (Ne.symm hj)]
    · rw [List.getElem?_eq_none (by rw [fvs_len]; omega), List.getElem?_eq_none (by rw [fvs_len]; omega)]
end WLD
theorem nFd_eq {ci : Nat} {r : vw_C} (h : CLS[ci]? = some r) : nFd ci = r.2.2 := by simp [nFd, h]
theorem cls_lt {ci : Nat} {r : vw_C} (h : CLS[ci]? = some r) : ci < 13 := (List.getElem?_eq_some_iff.mp h).1
theorem cls_part {ci : Nat} {r : vw_C} (h : CLS[ci]? = some r) : ∃ q, CPW[ci]? = some q ∧ lw_tbl[q.1]? = some (.instantiable r.1 r.2.2) ∧ lw_tbl[q.2]? = some (.initialized r.1) ∧ ∀ j, j < r.2.2 → u_lay r.1 r.2.1 j ∈ lw_tbl ∧ goodWord (u_lay r.1 r.2.1 j) = true ∧ (r.2.1 j).1 = CNO ci := by
  have h1 := List.all_eq_true.mp CLS_ok ci (List.mem_range.mpr (cls_lt h))
  unfold kPart at h1
  rw [h] at h1
  split at h1
  · rename_i r2 q hr2 hq
    cases hr2
    simp only [Bool.and_eq_true, decide_eq_true_eq, List.all_eq_true, List.mem_range] at h1
    exact ⟨q, hq, h1.1, h1.2.1, fun j hj => ⟨(h1.2.2 j hj).1, (h1.2.2 j hj).2.1, (h1.2.2 j hj).2.2⟩⟩
  · cases h1
theorem cls_ws {ci : Nat} {r : vw_C} (h : CLS[ci]? = some r) : ∀ w ∈ u_ws r.1 r.2.1 r.2.2, w ∈ TB := by
  obtain ⟨q, -, -, -, h4⟩ := cls_part h
  intro w hw
  obtain ⟨j, hj, rfl⟩ := List.mem_map.mp hw
  have h5 := h4 j (List.mem_range.mp hj)
  exact List.mem_filter.mpr ⟨h5.1, h5.2.1⟩
theorem cls_ty {ci : Nat} {r : vw_C} (h : CLS[ci]? = some r) : (∀ k, k < r.2.2 → parseFieldDescriptor (r.2.1 k).2.2.1 = some (tyF ci k)) ∧ ∀ a, a < r.2.2 → ∀ b, b < r.2.2 → a ≠ b → (r.2.1 a).2.1 ≠ (r.2.1 b).2.1 := by
  have hl := cls_lt h
  match ci, h, hl with
  | 0, h, _ => cases h; exact ⟨tyX0_ok, nmX0⟩
  | 1, h, _ => cases h; exact ⟨tyX1_ok, nmX1⟩
  | 2, h, _ => cases h; exact ⟨tyX2_ok, nmX2⟩
  | 3, h, _ => cases h; exact ⟨tyX3_ok, nmX3⟩
  | 4, h, _ => cases h; exact ⟨tyX4_ok, nmX4⟩
  | 5, h, _ => cases h; exact ⟨tyX5_ok, nmX5⟩
  | 6, h, _ => cases h; exact ⟨tyX6_ok, nmX6⟩
  | 7, h, _ => cases h; exact ⟨tyX7_ok, nmX7⟩
  | 8, h, _ => cases h; exact ⟨tyX8_ok, nmX8⟩
  | 9, h, _ => cases h; exact ⟨tyX9_ok, nmX9⟩
  | 10, h, _ => cases h; exact ⟨tyX10_ok, nmX10⟩
  | 11, h, _ => cases h; exact ⟨tyX11_ok, nmX11⟩
  | 12, h, _ => cases h; exact ⟨tyX12_ok, nmX12⟩
  | k + 13, h, hl => exact absurd hl (by omega)
theorem lnF_ok {o idx : Nat} {q : Nat × Nat × Nat × Nat} (h : lnF o idx = some q) : ∃ r : vw_C, CLS[q.2.2.1 / 512]? = some r ∧ q.2.2.1 / 4 % 128 < r.2.2 ∧ (Cond.fieldLink (CNO o) idx (r.2.1 (q.2.2.1 / 4 % 128)).1 (r.2.1 (q.2.2.1 / 4 % 128)).2.1 (r.2.1 (q.2.2.1 / 4 % 128)).2.2.1) ∈ TB ∧ flagOf (tyF (q.2.2.1 / 512) (q.2.2.1 / 4 % 128)) = q.2.2.1 % 4 := by
  have h1 := List.all_eq_true.mp LNF_ok q (List.mem_of_find?_eq_some h)
  have h2 := List.find?_some h
  simp only [Bool.and_eq_true, beq_iff_eq] at h2
  unfold fOK at h1
  split at h1
  · rename_i r hr
    simp only [Bool.and_eq_true, decide_eq_true_eq] at h1
    rw [h2.1, h2.2] at h1
    exact ⟨r, hr, h1.1, tb_in h1.2.1 rfl, h1.2.2⟩
  · cases h1
theorem inB_in {i : Int32} {n : Nat} (h : inB i n = true) : vp_in i n := by
  simp only [inB, Bool.not_eq_true', Bool.or_eq_false_iff, decide_eq_false_iff_not] at h
  exact fun h2 => h2.elim h.1 h.2
section SND3
variable {p : Program} {l : Launch} {e : Env} {R : Room} {s : State} {m : MethodId} {args : Array Value} {below : List Frame} {meth : Method} {c : Code} {H : Heap} {locs : List Loc} {cells slots : Nat} {Q : State → Prop}
variable {ad : Nat → Nat} {k pc len : Nat} {raw i : Instr} {ls ls' : PLs} {st st' : List Value} {rs : Array Slot} {D : va_G} {cI cB cQ : ClassId} {base : Nat} {sh sh' : Sh} {w w' : Wd} {X : Scr}
set_option maxHeartbeats 4000000 in
theorem s_read (had : ∀ a, a < 100000 → ad a = base + a) (hK : va_K D CLS (TYS cI cB cQ) s) (hX : va_X (ad 100000) X.1 X.2 s s.heap) (hb0 : ad 100000 < base) (hb1 : base ≤ s.heap.size) (hS : va_S (fun q => base ≤ q) s.heap H locs) (hW : WH D ad cI cB cQ base sh w H)
    (C0 : CX p s m args meth c k) (hR : RW k pc len raw i) (hk : pkind i = 2) (hp : pread X i st sh w = some st')
    (kk : W p l e R s m args below meth c H locs cells slots Q (F0 m (pc + len) rs (st'.map (upv ad)))) : W p l e R s m args below meth c H locs cells slots Q (F0 m pc rs (st.map (upv ad))) := by
  obtain ⟨hx, hb, hml, hrt, hlk, hown, hts, hin⟩ := C0
  obtain ⟨hd, hlen, hr⟩ := hR
  obtain ⟨hsz, hP⟩ := hW
  have hk2 : rkind raw = 2 := by rcases rsv_kind hr with h | ⟨h, h2⟩ <;> omega
  have hbl : ad 100000 < s.heap.size := by omega
  have hbA : ¬ (fun q => base ≤ q) (ad 100000) := by show ¬ base ≤ ad 100000; omega
  have hlt : ∀ {a : Nat} {x : ShC}, sh[a]? = some x → ad a = base + a := fun h => had _ (Nat.lt_of_lt_of_le (List.getElem?_eq_some_iff.mp h).1 hsz)
  cases raw <;> first | (cases hk2; done) | (simp [rkind] at hk2; done) | skip
  case getfield idx =>
    have h1 : len = 3 := len_of hlen rfl
    subst h1
    obtain ⟨q, hq, rfl⟩ := Option.map_eq_some_iff.mp hr
    obtain ⟨r, hr1, hr2, hr3, hr4⟩ := lnF_ok hq
    dsimp only [pread] at hp
    split at hp <;> first | (cases hp; done) | skip
    rename_i a r0
    split at hp <;> first | (cases hp; done) | skip
    rename_i ci rs0 hsh
    split at hp <;> first | (cases hp; done) | skip
    rename_i hci
    have hne : ¬ ci = 100 := by have := cls_lt hr1; omega
    rw [← hci] at hr1 hr4
    have hcell := cells_at (ad := ad) (cI := cI) (cB := cB) (cQ := cQ) (base := base) (w := w) hsh
    simp only [toE, if_neg hne] at hcell
    have hf : q.2.2.1 / 4 % 128 < nFd ci := by rw [nFd_eq hr1]; exact hr2
    show W p l e R s m args below meth c H locs cells slots Q (F0 m pc rs (.ref (ad a) :: r0.map (upv ad)))
    rw [hlt hsh]
    split at hp
    · rename_i hfl
      split at hp <;> first | (cases hp; done) | skip
      rename_i b hb2
      cases hp
      refine va_get (D := D) (ci := ci) (v := .ref (ad b)) hx hb hts (cls_ws hr1) hown hK hP a hcell hr1 (q.2.2.1 / 4 % 128) hr2 (hts _ hr3) (fun _ h => h) ?_ hd kk
      rw [fvs_get hf, if_pos (hr4.trans hfl)]
      simp [hb2, va_rf]
    · rename_i hfl
      cases hp
      refine va_get (D := D) (ci := ci) (v := .int (w a (q.2.2.1 / 4 % 128))) hx hb hts (cls_ws hr1) hown hK hP a hcell hr1 (q.2.2.1 / 4 % 128) hr2 (hts _ hr3) (fun _ h => h) ?_ hd kk
      rw [fvs_get hf, if_neg (by rw [hr4]; exact hfl)]
  case iaload =>
    cases hr
    have h1 : len = 1 := len_of hlen rfl
    subst h1
    dsimp only [pread] at hp
    split at hp <;> first | (cases hp; done) | skip
    rename_i j a r0
    split at hp
    · rename_i ha
      subst ha
      split at hp <;> first | (cases hp; done) | skip
      split at hp <;> first | (cases hp; done) | skip
      rename_i hj
      cases hp
      exact va_sld hx hb hX hbl hbA hS (inB_in hj) hd kk
    · split at hp <;> first | (cases hp; done) | skip
      rename_i n hsh
      split at hp <;> first | (cases hp; done) | skip
      rename_i hj
      cases hp
      show W p l e R s m args below meth c H locs cells slots Q (F0 m pc rs (.int j :: .ref (ad a) :: r0.map (upv ad)))
      rw [hlt hsh]
      exact va_iald hx hb hK hP a 0 (cells_at hsh) rfl (inB_in hj) hd kk
  case baload =>
    cases hr
    have h1 : len = 1 := len_of hlen rfl
    subst h1
    dsimp only [pread] at hp
    split at hp <;> first | (cases hp; done) | skip
    rename_i j a r0
    split at hp <;> first | (cases hp; done) | skip
    rename_i n hsh
    split at hp <;> first | (cases hp; done) | skip
    rename_i hj
    cases hp
    show W p l e R s m args below meth c H locs cells slots Q (F0 m pc rs (.int j :: .ref (ad a) :: r0.map (upv ad)))
    rw [hlt hsh]
    exact va_bald hx hb hK hP a 1 (cells_at hsh) rfl (inB_in hj) hd kk
  case aaload =>
    cases hr
    have h1 : len = 1 := len_of hlen rfl
    subst h1
    dsimp only [pread] at hp
    split at hp <;> first | (cases hp; done) | skip
    rename_i j a r0
    split at hp <;> first | (cases hp; done) | skip
    rename_i rs0 hsh
    split at hp <;> first | (cases hp; done) | skip
    rename_i hj
    split at hp <;> first | (cases hp; done) | skip
    rename_i b hb2
    cases hp
    show W p l e R s m args below meth c H locs cells slots Q (F0 m pc rs (.int j :: .ref (ad a) :: r0.map (upv ad)))
    rw [hlt hsh]
    refine va_aldq hx hb hK hP a 2 (cells_at hsh) rfl (inB_in hj) hd ?_
    have e1 : va_rf ((rs0.getD j.toNatClampNeg none).map ad) = .ref (ad b) := by simp [hb2, va_rf]
    rw [e1]
    exact kk
  case arraylength =>
    cases hr
    have h1 : len = 1 := len_of hlen rfl
    subst h1
    dsimp only [pread] at hp
    split at hp <;> first | (cases hp; done) | skip
    rename_i a r0
    split at hp
    · rename_i ha
      subst ha
      split at hp <;> first | (cases hp; done) | skip
      cases hp
      exact va_slen hx hb hX hbl hbA hS hd kk
    · split at hp <;> first | (cases hp; done) | skip
      · rename_i t n hsh
        cases hp
        show W p l e R s m args below meth c H locs cells slots Q (F0 m pc rs (.ref (ad a) :: r0.map (upv ad)))
        rw [hlt hsh]
        by_cases ht : t = 0
        · subst ht
          exact va_alen (ty := .int) hx hb hK hP a 0 (cells_at hsh) rfl rfl hd kk
        · have hc := cells_at (ad := ad) (cI := cI) (cB := cB) (cQ := cQ) (base := base) (w := w) hsh
          simp only [toE, if_neg ht] at hc
          exact va_alen (ty := .byte) hx hb hK hP a 1 hc rfl rfl hd kk
      · rename_i rs0 hsh
        cases hp
        show W p l e R s m args below meth c H locs cells slots Q (F0 m pc rs (.ref (ad a) :: r0.map (upv ad)))
        rw [hlt hsh]
        exact va_alen (ty := .object "YearFigures$Program") hx hb hK hP a 2 (cells_at hsh) rfl rfl hd kk
end SND3
