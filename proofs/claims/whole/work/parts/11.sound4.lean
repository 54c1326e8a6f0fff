/-! THE MACHINE IS SOUND, 3: stores, new cells, what is called without a walk -/
section SND4
variable {p : Program} {l : Launch} {e : Env} {R : Room} {s : State} {m : MethodId} {args : Array Value} {below : List Frame} {meth : Method} {c : Code} {H : Heap} {locs : List Loc} {cells slots : Nat} {Q : State → Prop}
variable {ad : Nat → Nat} {k pc len : Nat} {raw i : Instr} {ls ls' : PLs} {st st' : List Value} {rs : Array Slot} {D : va_G} {cI cB cQ : ClassId} {base : Nat} {sh sh' : Sh} {w w' : Wd} {X : Scr}
theorem W.sz {g : JFrame} (k : H.size ≤ s.heap.size + cells → W p l e R s m args below meth c H locs cells slots Q g) : W p l e R s m args below meth c H locs cells slots Q g := fun T hT Y => k (by rw [← hT]; exact Y.heapSize) T hT Y
theorem shSz_push {c : ShC} : shSz (sh ++ [c]) = shSz sh + cellSz c := by simp [shSz]
theorem shSz_set {a : Nat} {c c2 : ShC} (h : sh[a]? = some c) (hc : cellSz c2 = cellSz c) : shSz (sh.set a c2) = shSz sh := by
  unfold shSz
  congr 1
  apply List.ext_getElem?
  intro j
  rw [List.getElem?_map, List.getElem?_map]
  by_cases hj : j = a
  · subst hj
    rw [List.getElem?_set_self (List.getElem?_eq_some_iff.mp h).1, h]
    simp [hc]
  · rw [List.getElem?_set_ne (Ne.symm hj)]
/-- the place of a new cell -/
theorem new_at {q n0 : Nat} {x : va_E} {H1 : Heap} (hW : va_P D CLS (cellsOf ad cI cB cQ base sh w ++ [(q, x)]) H1) (hD : va_D (fun q => base ≤ q) (cellsOf ad cI cB cQ base sh w ++ [(q, x)])) (hs : s.heap.size = base + n0) (hc : n0 + cells = sh.length) (hz : H1.size ≤ s.heap.size + (cells + 1)) : q = base + sh.length := by
  have hlast : (cellsOf ad cI cB cQ base sh w ++ [(q, x)])[sh.length]? = some (q, x) := by
    rw [List.getElem?_append_right (by rw [cells_len]; exact Nat.le_refl _), cells_len]
    simp
  have h1 : q < H1.size := (hW sh.length _ hlast).lt
  have h2 : base ≤ q := hD.2 sh.length _ hlast
  have h3 : ¬ q < base + sh.length := by
    intro h
    have hl : q - base < sh.length := by omega
    have e1 : (cellsOf ad cI cB cQ base sh w ++ [(q, x)])[q - base]? = some (base + (q - base), toE ad cI cB cQ sh[q - base] (w (q - base))) := by
      rw [List.getElem?_append_left (by rw [cells_len]; exact hl)]
      exact cells_at (List.getElem?_eq_getElem hl)
    have := hD.1 (q - base) sh.length _ _ e1 hlast (by dsimp only; omega)
    omega
  omega
theorem lnM_ok {o idx : Nat} {q : Nat × Nat × Nat × Nat × Nat} (h : lnM o idx = some q) : mOK (o, idx, q.2.2) = true := by
  have h1 := List.all_eq_true.mp LNM_ok q (List.mem_of_find?_eq_some h)
  have h2 := List.find?_some h
  simp only [Bool.and_eq_true, beq_iff_eq] at h2
  obtain ⟨a, b, r⟩ := q
  obtain ⟨rfl, rfl⟩ := h2
  exact h1
theorem lnC_ok {o idx : Nat} {q : Nat × Nat × Nat × Nat} (h : lnC o idx = some q) : ∃ r : vw_C, CLS[q.2.2.1]? = some r ∧ (Cond.classLink (CNO o) idx r.1) ∈ TB := by
  have h1 := List.all_eq_true.mp LNC_ok q (List.mem_of_find?_eq_some h)
  have h2 := List.find?_some h
  simp only [Bool.and_eq_true, beq_iff_eq] at h2
  unfold cOK at h1
  split at h1
  · rename_i r hr
    simp only [decide_eq_true_eq] at h1
    rw [h2.1, h2.2] at h1
    exact ⟨r, hr, tb_in h1 rfl⟩
  · cases h1
theorem wAC : (Cond.arrayClass .int) ∈ TB := tb_in (p := 146) (by decide +kernel) rfl
theorem wAB : (Cond.arrayClass .byte) ∈ TB := tb_in (p := 793) (by decide +kernel) rfl
theorem wNat : (Cond.native arraycopyName) ∈ TB := tb_in (p := 792) (by decide +kernel) rfl
theorem wSta : (Cond.static arraycopyName) ∈ TB := tb_in (p := 791) (by decide +kernel) rfl
theorem wIni : (Cond.initialized "java/lang/System") ∈ TB := tb_in (p := 113) (by decide +kernel) rfl
theorem wObj : (Cond.instanceMethod objectInit) ∈ TB := tb_in (p := 121) (by decide +kernel) rfl
theorem wObc : (Cond.code objectInit ⟨#[0xb1]⟩ 1 none) ∈ TB := tb_in (p := 122) (by decide +kernel) rfl
theorem wMax : (Cond.code Lib.Math.max.name Lib.Math.max.code 2 (some .int)) ∈ TB := tb_in (p := 686) (by decide +kernel) rfl
theorem wMin : (Cond.code Lib.Math.min.name Lib.Math.min.code 2 (some .int)) ∈ TB := tb_in (p := 689) (by decide +kernel) rfl
theorem wAbs : (Cond.code Lib.Math.abs.name Lib.Math.abs.code 1 (some .int)) ∈ TB := tb_in (p := 1070) (by decide +kernel) rfl
theorem wMaxS : (Cond.static Lib.Math.max.name) ∈ TB := tb_in (p := 685) (by decide +kernel) rfl
theorem wMinS : (Cond.static Lib.Math.min.name) ∈ TB := tb_in (p := 688) (by decide +kernel) rfl
theorem wAbsS : (Cond.static Lib.Math.abs.name) ∈ TB := tb_in (p := 1069) (by decide +kernel) rfl
theorem wMth : (Cond.initialized "java/lang/Math") ∈ TB := tb_in (p := 109) (by decide +kernel) rfl
theorem upv_sum (r : List Value) : ((r.map (upv ad)).map fun v => v.category).sum = (r.map fun v => v.category).sum := by
  rw [List.map_map]
  congr 1
  apply List.map_congr_left
  intro v _
  exact upv_cat ad v
theorem flag0 {t : FieldType} (h : flagOf t = 0) : t = .int := by cases t <;> first | rfl | (cases h)
theorem flag2 {t : FieldType} (h : flagOf t = 2) : t = .boolean := by cases t <;> first | rfl | (cases h)
theorem flag1 {t : FieldType} (h : flagOf t = 1) (a : Nat) : narrow t (.ref a) = .ref a ∧ fits t (.ref a) = true := by cases t <;> first | exact ⟨rfl, rfl⟩ | (cases h)
set_option maxHeartbeats 4000000 in
/-- a field is written -/
theorem s_put {n0 z0 : Nat} (had : ∀ a, a < 100000 → ad a = base + a) (hK : va_K D CLS (TYS cI cB cQ) s) (hS : va_S (fun q => base ≤ q) s.heap H locs) (hW : WH D ad cI cB cQ base sh w H) (hc : n0 + cells = sh.length) (hz : z0 + slots = shSz sh)
    (C0 : CX p s m args meth c k) {idx dd : Nat} (hR : RW k pc len (.putfield idx) i) (hp : pwrite dd i st sh w = some (st', sh', w'))
    (kk : ∀ (H1 : Heap) (locs1 : List Loc), n0 + cells = sh'.length → z0 + slots = shSz sh' → WH D ad cI cB cQ base sh' w' H1 → va_S (fun q => base ≤ q) s.heap H1 locs1 → W p l e R s m args below meth c H1 locs1 cells slots Q (F0 m (pc + len) rs (st'.map (upv ad)))) :
    W p l e R s m args below meth c H locs cells slots Q (F0 m pc rs (st.map (upv ad))) := by
  obtain ⟨hx, hb, hml, hrt, hlk, hown, hts, hin⟩ := C0
  obtain ⟨hd, hlen, hr⟩ := hR
  obtain ⟨hsz, hP⟩ := hW
  have hlt : ∀ {a : Nat} {x : ShC}, sh[a]? = some x → ad a = base + a := fun h => had _ (Nat.lt_of_lt_of_le (List.getElem?_eq_some_iff.mp h).1 hsz)
  have h1 : len = 3 := len_of hlen rfl
  subst h1
  dsimp only [rsv] at hr
  split at hr <;> first | (cases hr; done) | skip
  rename_i q hq
  split at hr <;> first | (cases hr; done) | skip
  rename_i hok
  cases hr
  obtain ⟨r, hr1, hr2, hr3, hr4⟩ := lnF_ok hq
  -- one row for both kinds of field
  have put : ∀ {a ci : Nat} {rs0 : List (Option Nat)} {v : Value} {r0 : List Value} {c2 : ShC} {f2 : Nat → Int32}, sh[a]? = some (.inr (ci, rs0)) → ci = q.2.2.1 / 512 → narrow (tyF ci (q.2.2.1 / 4 % 128)) v = v → fits (tyF ci (q.2.2.1 / 4 % 128)) v = true →
      (∀ H1 locs1, va_P D CLS ((cellsOf ad cI cB cQ base sh w).set a (base + a, .inr (ci, (fvs ad ci rs0 (w a)).set (q.2.2.1 / 4 % 128) v))) H1 → va_S (fun q => base ≤ q) s.heap H1 locs1 → W p l e R s m args below meth c H1 locs1 cells slots Q (F0 m (pc + 3) rs r0)) →
      W p l e R s m args below meth c H locs cells slots Q (F0 m pc rs (v :: .ref (base + a) :: r0)) := by
    intro a ci rs0 v r0 c2 f2 hsh hci hn hf kk2
    have hne : ¬ ci = 100 := by have := cls_lt hr1; omega
    rw [← hci] at hr1 hr4
    have hcell := cells_at (ad := ad) (cI := cI) (cB := cB) (cQ := cQ) (base := base) (w := w) hsh
    simp only [toE, if_neg hne] at hcell
    obtain ⟨hty, hnm⟩ := cls_ty hr1
    by_cases hfin : (r.2.1 (q.2.2.1 / 4 % 128)).2.2.2 = true
    · have hok2 : MKD k = 2 ∧ MOW k = ci := by
        unfold putOK isFin at hok
        rw [← hci, hr1] at hok
        simp only [hfin, if_true, Bool.and_eq_true, beq_iff_eq] at hok
        exact hok
      obtain ⟨_, -, -, -, h9⟩ := cls_part hr1
      refine va_putF (D := D) (ci := ci) (v := v) hx hb hts (cls_ws hr1) (tyF ci) hty hnm hown hK hP cells_D hS a hcell hr1 (q.2.2.1 / 4 % 128) hr2 (hts _ hr3) (fun _ h => h) hfin (hin hok2.1) (by rw [(h9 _ hr2).2.2, hok2.2]) (hty _ hr2) hn hf (by rw [fvs_len, nFd_eq hr1]; exact hr2) hd (fun H1 locs1 g1 _ g3 => kk2 H1 locs1 g1 g3)
    · refine va_put (D := D) (ci := ci) (v := v) hx hb hts (cls_ws hr1) (tyF ci) hty hnm hown hK hP cells_D hS a hcell hr1 (q.2.2.1 / 4 % 128) hr2 (hts _ hr3) (fun _ h => h) (by simpa using hfin) (hty _ hr2) hn hf (by rw [fvs_len, nFd_eq hr1]; exact hr2) hd (fun H1 locs1 g1 _ g3 => kk2 H1 locs1 g1 g3)
  dsimp only [pwrite] at hp
  split at hp
  · rename_i x a r0
    split at hp <;> first | (cases hp; done) | skip
    rename_i ci rs0 hsh
    split at hp <;> first | (cases hp; done) | skip
    rename_i hci
    have hne : ¬ ci = 100 := by have := cls_lt hr1; omega
    have hf : q.2.2.1 / 4 % 128 < nFd ci := by rw [hci, nFd_eq hr1]; exact hr2
    rw [← hci] at hr4
    have fin : ∀ {H1 : Heap} {locs1 : List Loc}, ¬ flagOf (tyF ci (q.2.2.1 / 4 % 128)) = 1 → va_P D CLS ((cellsOf ad cI cB cQ base sh w).set a (base + a, .inr (ci, (fvs ad ci rs0 (w a)).set (q.2.2.1 / 4 % 128) (.int x)))) H1 → WH D ad cI cB cQ base sh (up2 w a (q.2.2.1 / 4 % 128) x) H1 := by
      intro H1 locs1 hfl g1
      refine ⟨hsz, ?_⟩
      rw [fvs_int hf hfl] at g1
      rw [← cells_up (f := upd (w a) (q.2.2.1 / 4 % 128) x) hsh up2_self (fun b hb => up2_ne hb)]
      simp only [toE, if_neg hne]
      exact g1
    show W p l e R s m args below meth c H locs cells slots Q (F0 m pc rs (.int x :: .ref (ad a) :: r0.map (upv ad)))
    rw [hlt hsh]
    split at hp
    · rename_i hfl
      cases hp
      have ht := flag0 (hr4.trans hfl)
      exact put (c2 := .inl (0, 0)) (f2 := w a) hsh hci (by rw [ht]; rfl) (by rw [ht]; rfl) (fun H1 locs1 g1 g3 => kk H1 locs1 hc hz (fin (locs1 := locs1) (by rw [hr4, hfl]; decide) g1) g3)
    · split at hp <;> first | (cases hp; done) | skip
      rename_i hfl
      split at hp <;> first | (cases hp; done) | skip
      rename_i h01
      cases hp
      have ht := flag2 (hr4.trans hfl)
      exact put (c2 := .inl (0, 0)) (f2 := w a) hsh hci (by rw [ht]; rcases h01 with h | h <;> (subst h; rfl)) (by rw [ht]; rcases h01 with h | h <;> (subst h; rfl)) (fun H1 locs1 g1 g3 => kk H1 locs1 hc hz (fin (locs1 := locs1) (by rw [hr4, hfl]; decide) g1) g3)
  · rename_i b a r0
    split at hp <;> first | (cases hp; done) | skip
    rename_i ci rs0 hsh
    split at hp <;> first | (cases hp; done) | skip
    rename_i hci
    have hne : ¬ ci = 100 := by have := cls_lt hr1; omega
    have hf : q.2.2.1 / 4 % 128 < nFd ci := by rw [hci, nFd_eq hr1]; exact hr2
    rw [← hci] at hr4
    split at hp <;> first | (cases hp; done) | skip
    rename_i hfl
    split at hp <;> first | (cases hp; done) | skip
    rename_i hrl
    have ht := flag1 (hr4.trans hfl) (ad b)
    show W p l e R s m args below meth c H locs cells slots Q (F0 m pc rs (.ref (ad b) :: .ref (ad a) :: r0.map (upv ad)))
    rw [hlt hsh]
    cases hp
    refine put (c2 := .inl (0, 0)) (f2 := w a) hsh hci ht.1 ht.2 (fun H1 locs1 g1 g3 => kk H1 locs1 (by rw [List.length_set]; exact hc) ?_ ⟨by rw [List.length_set]; exact hsz, ?_⟩ g3)
    · rw [shSz_set hsh (by simp [cellSz, hne])]; exact hz
    · rw [fvs_ref hf hrl (hr4.trans hfl)] at g1
      rw [← cells_sh hsh]
      simp only [toE, if_neg hne]
      exact g1
  · cases hp
end SND4
