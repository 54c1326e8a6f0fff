section SND5
variable {p : Program} {l : Launch} {e : Env} {R : Room} {s : State} {m : MethodId} {args : Array Value} {below : List Frame} {meth : Method} {c : Code} {H : Heap} {locs : List Loc} {cells slots : Nat} {Q : State → Prop}
variable {ad : Nat → Nat} {k pc len : Nat} {raw i : Instr} {ls ls' : PLs} {st st' : List Value} {rs : Array Slot} {D : va_G} {cI cB cQ : ClassId} {base : Nat} {sh sh' : Sh} {w w' : Wd} {X : Scr}
theorem rep_none (n j : Nat) : ((List.replicate n (none : Option Nat)).getD j none) = none := by
  rw [List.getD_eq_getElem?_getD, List.getElem?_replicate]
  split <;> rfl
/-- what String.indexOf answers on the letters: its contract -/
def StrMet (l : Launch) (EVp : State → Prop) (kS : Nat) : Prop :=
  ∀ x : Int32, Met l ⟨"java/lang/String", "indexOf", "(I)I"⟩ (.code ⟨"java/lang/String", "indexOf", "(I)I"⟩ prog_18_method_79_code 2 (some .int) :: TB) { frames := 5, cells := 0, slots := 0, locals := 2000 } (va_Pc [.ref kS, .int x] EVp) (vp_Si fun r => r = idxOf x) 0 0 (fun _ => False)
theorem idx_word : (Cond.code ⟨"java/lang/String", "indexOf", "(I)I"⟩ prog_18_method_79_code 2 (some .int)) ∈ TB ∧ (Cond.instanceMethod ⟨"java/lang/String", "indexOf", "(I)I"⟩) ∈ TB ∧ (Cond.selects "java/lang/String" ⟨"java/lang/String", "indexOf", "(I)I"⟩ ⟨"java/lang/String", "indexOf", "(I)I"⟩) ∈ TB ∧ (Cond.initialized "java/lang/String") ∈ TB := by
  refine ⟨?_, ?_, ?_, ?_⟩ <;> decide +kernel
set_option maxHeartbeats 4000000 in
theorem s_store {n0 z0 d : Nat} (had : ∀ a, a < 100000 → ad a = base + a) (hK : va_K D CLS (TYS cI cB cQ) s) (hAO : va_AO "YearFigures$Program" s) (hS : va_S (fun q => base ≤ q) s.heap H locs) (hW : WH D ad cI cB cQ base sh w H) (hs0 : s.heap.size = base + n0) (hc : n0 + cells = sh.length) (hz : z0 + slots = shSz sh)
    (hRc : sh'.length ≤ n0 + R.cells) (hRz : shSz sh' ≤ z0 + R.slots) (hRf : d ≤ R.frames) (hRl : 400 * d ≤ R.locals)
    (C0 : CX p s m args meth c k) (hrs : rs.size = MLN k) (hR : RW k pc len raw i) (hk : pkind i = 3) (hk3 : rkind raw = 3) (hp : pwrite d i st sh w = some (st', sh', w'))
    (kk : ∀ (H1 : Heap) (locs1 : List Loc) (cells1 slots1 : Nat), n0 + cells1 = sh'.length → z0 + slots1 = shSz sh' → WH D ad cI cB cQ base sh' w' H1 → va_S (fun q => base ≤ q) s.heap H1 locs1 → W p l e R s m args below meth c H1 locs1 cells1 slots1 Q (F0 m (pc + len) rs (st'.map (upv ad)))) :
    W p l e R s m args below meth c H locs cells slots Q (F0 m pc rs (st.map (upv ad))) := by
  have C1 := C0
  have hR1 := hR
  have hW1 := hW
  obtain ⟨hx, hb, hml, hrt, hlk, hown, hts, hin⟩ := C0
  obtain ⟨hd, hlen, hr⟩ := hR
  obtain ⟨hsz, hP⟩ := hW
  have hlt : ∀ {a : Nat} {x : ShC}, sh[a]? = some x → ad a = base + a := fun h => had _ (Nat.lt_of_lt_of_le (List.getElem?_eq_some_iff.mp h).1 hsz)
  have hA : ∀ q, s.heap.size ≤ q → (fun q => base ≤ q) q := fun q h => by show base ≤ q; omega
  cases raw <;> first | (cases hk3; done) | (simp [rkind] at hk3; done) | skip
  case putfield idx => exact s_put had hK hS hW1 hc hz C1 hR1 hp (fun H1 locs1 a1 a2 a3 a4 => kk H1 locs1 cells slots a1 a2 a3 a4)
  case iastore =>
    cases hr
    have h1 : len = 1 := len_of hlen rfl
    subst h1
    dsimp only [pwrite] at hp
    split at hp <;> first | (cases hp; done) | skip
    rename_i x j a r0
    split at hp <;> first | (cases hp; done) | skip
    rename_i n hsh
    split at hp <;> first | (cases hp; done) | skip
    rename_i hj
    show W p l e R s m args below meth c H locs cells slots Q (F0 m pc rs (.int x :: .int j :: .ref (ad a) :: r0.map (upv ad)))
    rw [hlt hsh]
    cases hp
    refine va_iast hx hb hK hP cells_D hS a 0 (cells_at hsh) rfl (inB_in hj) hd (fun H1 locs1 g1 _ g3 => kk H1 locs1 cells slots hc hz ⟨hsz, ?_⟩ g3)
    rw [← cells_up (f := upd (w a) j.toNatClampNeg x) hsh up2_self (fun b hb => up2_ne hb)]
    exact g1
  case bastore =>
    cases hr
    have h1 : len = 1 := len_of hlen rfl
    subst h1
    dsimp only [pwrite] at hp
    split at hp <;> first | (cases hp; done) | skip
    rename_i x j a r0
    split at hp <;> first | (cases hp; done) | skip
    rename_i n hsh
    split at hp <;> first | (cases hp; done) | skip
    rename_i hj
    show W p l e R s m args below meth c H locs cells slots Q (F0 m pc rs (.int x :: .int j :: .ref (ad a) :: r0.map (upv ad)))
    rw [hlt hsh]
    cases hp
    refine va_bast hx hb hK hP cells_D hS a 1 (cells_at hsh) rfl (inB_in hj) hd (fun H1 locs1 g1 _ g3 => kk H1 locs1 cells slots hc hz ⟨hsz, ?_⟩ g3)
    rw [← cells_up (f := upd (w a) j.toNatClampNeg (vp_nar .byte x)) hsh up2_self (fun b hb => up2_ne hb)]
    exact g1
  case aastore =>
    cases hr
    have h1 : len = 1 := len_of hlen rfl
    subst h1
    dsimp only [pwrite] at hp
    split at hp <;> first | (cases hp; done) | skip
    rename_i v j a r0
    split at hp <;> first | (cases hp; done) | skip
    rename_i rs0 rs1 hsh hsv
    split at hp <;> first | (cases hp; done) | skip
    rename_i hj
    show W p l e R s m args below meth c H locs cells slots Q (F0 m pc rs (.ref (ad v) :: .int j :: .ref (ad a) :: r0.map (upv ad)))
    rw [hlt hsh, hlt hsv]
    cases hp
    refine va_astq hx hb hK hP cells_D hS a 2 v 7 (cells_at hsh) rfl (cells_at hsv) rfl (inB_in hj) hd (fun H1 locs1 g1 _ g3 => kk H1 locs1 cells slots (by rw [List.length_set]; exact hc) ?_ ⟨by rw [List.length_set]; exact hsz, ?_⟩ g3)
    · rw [shSz_set hsh (by simp [cellSz])]; exact hz
    · rw [← cells_sh hsh]
      have e1 : va_up (fun j => (rs0.getD j none).map ad) j.toNatClampNeg (some (base + v)) = fun q => ((rs0.set j.toNatClampNeg (some v)).getD q none).map ad := by
        funext q
        have hjl : j.toNatClampNeg < rs0.length := Nat.not_le.mp fun h => inB_in hj (Or.inr h)
        by_cases hq : q = j.toNatClampNeg
        · subst hq
          simp [va_up, hjl, hlt hsv]
        · simp [va_up, hq, List.getElem?_set_ne (Ne.symm hq)]
      rw [e1] at g1
      simp only [toE, if_true, List.length_set]
      exact g1
  case new idx =>
    have h1 : len = 3 := len_of hlen rfl
    subst h1
    obtain ⟨q, hq, rfl⟩ := Option.map_eq_some_iff.mp hr
    obtain ⟨r, hr1, hr2⟩ := lnC_ok hq
    obtain ⟨q9, -, i1, i2, i3⟩ := cls_part hr1
    obtain ⟨hty, hnm⟩ := cls_ty hr1
    dsimp only [pwrite] at hp
    split at hp <;> first | (cases hp; done) | skip
    rename_i hl
    cases hp
    have hne : ¬ q.2.2.1 = 100 := by have := cls_lt hr1; omega
    have hcs : cellSz (.inr (q.2.2.1, List.replicate (nFd q.2.2.1) none)) = r.2.2 := by simp [cellSz, hne, nFd_eq hr1]
    rw [shSz_push, hcs] at hRz
    rw [List.length_append] at hRc
    refine va_new (D := D) (ci := q.2.2.1) (fs := fvs ad q.2.2.1 (List.replicate (nFd q.2.2.1) none) (fun _ => 0)) hx hb hts (cls_ws hr1) (tyF q.2.2.1) hty hown (hts _ hr2) (hts _ (tb_in i1 rfl)) (hts _ (tb_in i2 rfl)) hK hP cells_D hS hA hr1 ?_ (by simp at hRc; omega) (by omega) hd (fun q2 H1 g1 g2 g3 => ?_)
    · intro j hj
      rw [← nFd_eq hr1] at hj
      have e1 := fvs_get (ad := ad) (rs := List.replicate (nFd q.2.2.1) none) (f := fun _ => 0) hj
      simp only [vp_V, List.getD_eq_getElem?_getD, e1, Option.getD_some]
      have hcl := cls_lt hr1
      have hfl : ∀ t : FieldType, flagOf t ≠ 3 → defaultValue t = if flagOf t = 1 then Value.null else .int 0 := by
        intro t ht
        cases t <;> first | rfl | exact absurd rfl ht
      have hall : ∀ ci, ci < 13 → ∀ j, j < nFd ci → flagOf (tyF ci j) ≠ 3 := by decide +kernel
      rw [hfl _ (hall _ hcl j hj)]
      split
      · rw [← List.getD_eq_getElem?_getD, rep_none]; rfl
      · rfl
    · refine W.sz fun hz1 => ?_
      have hq2 := new_at (n0 := n0) g1 g2 hs0 hc hz1
      subst hq2
      have hW2 : WH D ad cI cB cQ base (sh ++ [.inr (q.2.2.1, List.replicate (nFd q.2.2.1) none)]) (zr2 w sh.length) H1 := by
        refine ⟨by simp; omega, ?_⟩
        rw [← cells_push (sh := sh) (w := w) (w2 := zr2 w sh.length) (fun b hb => if_neg (by omega))]
        have e2 : zr2 w sh.length sh.length = fun _ => 0 := if_pos rfl
        simp only [toE, if_neg hne, e2]
        exact g1
      have hg := kk H1 locs (cells + 1) (slots + r.2.2) (by simp; omega) (by rw [shSz_push, hcs]; omega) hW2 g3
      rw [← had sh.length (by omega)]
      exact hg
  case newarray t =>
    cases hr
    have h1 : len = 2 := len_of hlen rfl
    subst h1
    dsimp only [pwrite] at hp
    split at hp <;> first | (cases hp; done) | skip
    rename_i n r0
    split at hp <;> first | (cases hp; done) | skip
    rename_i hn
    split at hp <;> first | (cases hp; done) | skip
    rename_i hl
    have key : ∀ (at0 : ArrayType) (ty : FieldType) (t0 tg : Nat) (cA0 : ClassId), newarray.typeOf at0 = ty → (Cond.arrayClass (newarray.typeOf at0)).before args s = true → (TYS cI cB cQ)[t0]? = some (cA0, ty) → (if tg = 0 then cI else cB) = cA0 → (∀ cA : ClassId, vp_cell cA (n.toNatClampNeg, .inl fun _ => 0) = arrV cA n.toNatClampNeg (fun _ => defaultValue ty)) → componentBytes ty ≤ 8 → va_RA s cA0 ty → (∀ cA, va_RA s cA ty → cA = cA0) → decode (MBY k) pc = .ok (.newarray at0, 2) →
        (st', sh', w') = (.ref sh.length :: r0, sh ++ [.inl (tg, n.toNatClampNeg)], zr2 w sh.length) → W p l e R s m args below meth c H locs cells slots Q (F0 m pc rs (.int n :: r0.map (upv ad))) := by
      intro at0 ty t0 tg cA0 e1 e2 e3 e4 e5 e6 e7 e8 e9 e10
      cases e10
      have hcs : cellSz (.inl (tg, n.toNatClampNeg)) = n.toNatClampNeg := rfl
      rw [shSz_push, hcs] at hRz
      rw [List.length_append] at hRc
      refine va_newa (a0 := (n.toNatClampNeg, .inl fun _ => 0)) hx hb e2 e1 hK hP cells_D hS hA e5 hn rfl (by have : n.toNatClampNeg * componentBytes ty ≤ 100000 * 8 := Nat.mul_le_mul (by omega) e6; omega) (by simp at hRc; omega) (by omega) e9 (fun q2 cA H1 g0 g1 g2 g3 => ?_)
      refine W.sz fun hz1 => ?_
      have hcA : cA = cA0 := e8 cA (g0.2 3 (cA, ty) rfl).2
      subst hcA
      have hq2 := new_at (n0 := n0) g1 g2 hs0 hc hz1
      subst hq2
      have hW2 : WH D ad cI cB cQ base (sh ++ [.inl (tg, n.toNatClampNeg)]) (zr2 w sh.length) H1 := by
        refine ⟨by simp; omega, ?_⟩
        rw [← cells_push (sh := sh) (w := w) (w2 := zr2 w sh.length) (fun b hb => if_neg (by omega))]
        have e2 : zr2 w sh.length sh.length = fun _ => 0 := if_pos rfl
        simp only [toE, e2, e4]
        exact g1
      have hg := kk H1 locs (cells + 1) (slots + n.toNatClampNeg) (by simp; omega) (by rw [shSz_push, hcs]; omega) hW2 g3
      rw [← had sh.length (by omega)]
      exact hg
    split at hp
    · exact key .int .int 0 0 cI rfl (hts _ wAC) rfl rfl (fun _ => rfl) (by decide) (hK.2 0 (cI, .int) rfl).2 (fun cA h => Option.some.inj (h.symm.trans (hK.2 0 (cI, .int) rfl).2)) hd (Option.some.inj hp).symm
    · exact key .byte .byte 1 1 cB rfl (hts _ wAB) rfl rfl (fun _ => rfl) (by decide) (hK.2 1 (cB, .byte) rfl).2 (fun cA h => Option.some.inj (h.symm.trans (hK.2 1 (cB, .byte) rfl).2)) hd (Option.some.inj hp).symm
    · cases hp
  case anewarray idx =>
    have h1 : len = 3 := len_of hlen rfl
    subst h1
    dsimp only [rsv] at hr
    split at hr <;> first | (cases hr; done) | skip
    rename_i q hq
    split at hr <;> first | (cases hr; done) | skip
    rename_i hq7
    cases hr
    obtain ⟨r, hr1, hr2⟩ := lnC_ok hq
    rw [hq7] at hr1
    cases hr1
    dsimp only [pwrite] at hp
    split at hp <;> first | (cases hp; done) | skip
    rename_i n r0
    split at hp <;> first | (cases hp; done) | skip
    rename_i hn
    split at hp <;> first | (cases hp; done) | skip
    rename_i hl
    cases hp
    have hcs : cellSz (.inr (100, List.replicate n.toNatClampNeg none)) = n.toNatClampNeg := by simp [cellSz]
    rw [shSz_push, hcs] at hRz
    rw [List.length_append] at hRc
    refine va_newq (N' := n.toNatClampNeg) hx hb hown (hts _ hr2) hAO hK hP cells_D hS hA hn rfl (by omega) (by simp at hRc; omega) (by omega) hd (fun q2 cA H1 g0 g1 g2 g3 => ?_)
    refine W.sz fun hz1 => ?_
    have hcA : cA = cQ := by
      obtain ⟨_, _, _, _, _, a1⟩ := (g0.2 3 (cA, _) rfl).2
      obtain ⟨_, _, _, _, _, a2⟩ := (hK.2 2 (cQ, _) rfl).2
      exact Option.some.inj (a1.symm.trans a2)
    subst hcA
    have hq2 := new_at (n0 := n0) g1 g2 hs0 hc hz1
    subst hq2
    have hW2 : WH D ad cI cB cA base (sh ++ [.inr (100, List.replicate n.toNatClampNeg none)]) (zr2 w sh.length) H1 := by
      refine ⟨by simp; omega, ?_⟩
      rw [← cells_push (sh := sh) (w := w) (w2 := zr2 w sh.length) (fun b hb => if_neg (by omega))]
      have e3 : (fun j => ((List.replicate n.toNatClampNeg (none : Option Nat)).getD j none).map ad) = fun _ => none := by
        funext j
        rw [rep_none]
        rfl
      simp only [toE, if_true, List.length_replicate, e3]
      exact g1
    have hg := kk H1 locs (cells + 1) (slots + n.toNatClampNeg) (by simp; omega) (by rw [shSz_push, hcs]; omega) hW2 g3
    rw [← had sh.length (by omega)]
    exact hg
end SND5
