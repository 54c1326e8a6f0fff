/-! the law's loop, 1: its body, case by case -/
section LAWA
theorem cdI_seg {cl seg : List (Option (Instr × Nat))} {off n : Nat} (h : (cl.drop off).take n = seg) (pc : Nat) (h1 : off ≤ pc) (h2 : pc < off + n) : cdI cl pc = cdI seg (pc - off) := by
  obtain ⟨p, rfl⟩ : ∃ p, pc = off + p := ⟨pc - off, by omega⟩
  have e1 : off + p - off = p := by omega
  have e2 : seg[p]? = cl[off + p]? := by
    rw [← h, List.getElem?_take, if_pos (by omega), List.getElem?_drop]
  rw [e1]
  unfold cdI
  rw [e2]
def stpS (X : Scr) (d off n : Nat) (seg : List (Option (Instr × Nat))) (q : PSt) : Option PSt := match Nat.ble off q.1, Nat.ble (q.1 + 1) (off + n) with
  | true, true => match cdI seg (q.1 - off) with
    | some (i, len) => pstep X d i len q
    | none => none
  | _, _ => none
def stpNS (X : Scr) (d off n : Nat) (seg : List (Option (Instr × Nat))) : Nat → PSt → Option PSt
  | 0, q => some q
  | m + 1, q => match stpS X d off n seg q with
    | some q2 => stpNS X d off n seg m q2
    | none => none
theorem EV.stepsS {X : Scr} {d k off n : Nat} {cl seg : List (Option (Instr × Nat))} {Q : Option Value → Sh → Wd → Prop} (hl : RCT[k]? = some cl) (hs : (cl.drop off).take n = seg) : ∀ (m : Nat) {q q2 : PSt}, stpNS X d off n seg m q = some q2 → EV X d k q2 Q → EV X d k q Q
  | 0, q, q2, h, hq => by
    cases h
    exact hq
  | m + 1, q, q2, h, hq => by
    unfold stpNS at h
    cases hs2 : stpS X d off n seg q with
    | none => rw [hs2] at h; cases h
    | some q3 =>
      rw [hs2] at h
      refine EV.stp1 hl (q2 := q3) ?_ (EV.stepsS hl hs m h hq)
      unfold stpS at hs2
      split at hs2
      · rename_i h1 h2
        unfold stp
        rw [cdI_seg hs q.1 (Nat.le_of_ble_eq_true h1) (Nat.le_of_ble_eq_true h2)]
        exact hs2
      · cases hs2
theorem EV.sload {X : Scr} {d k pc : Nat} {ls : PLs} {r : List Value} {sh : Sh} {w : Wd} {cl : List (Option (Instr × Nat))} {j : Int32} {Q : Option Value → Sh → Wd → Prop} (hl : RCT[k]? = some cl) (hc : cdI cl pc = some (.iaload, 1)) (hX : X.1 < 4000) (hj : inB j X.1 = true) (kk : EV X d k (pc + 1, ls, .int (X.2 j.toNatClampNeg) :: r, sh, w) Q) : EV X d k (pc, ls, .int j :: .ref 100000 :: r, sh, w) Q := by
  refine EV.stp1 hl (q2 := (pc + 1, ls, .int (X.2 j.toNatClampNeg) :: r, sh, w)) ?_ kk
  unfold stp
  rw [hc]
  have h0 : (100000 : Nat) = 100000 := rfl
  simp only [pstep, pkind, pread, if_pos h0, if_pos hX, if_pos hj, if_true]
theorem EV.slen {X : Scr} {d k pc : Nat} {ls : PLs} {r : List Value} {sh : Sh} {w : Wd} {cl : List (Option (Instr × Nat))} {Q : Option Value → Sh → Wd → Prop} (hl : RCT[k]? = some cl) (hc : cdI cl pc = some (.arraylength, 1)) (hX : X.1 < 4000) (kk : EV X d k (pc + 1, ls, .int (Int32.ofNat X.1) :: r, sh, w) Q) : EV X d k (pc, ls, .ref 100000 :: r, sh, w) Q := by
  refine EV.stp1 hl (q2 := (pc + 1, ls, .int (Int32.ofNat X.1) :: r, sh, w)) ?_ kk
  unfold stp
  rw [hc]
  have h0 : (100000 : Nat) = 100000 := rfl
  simp only [pstep, pkind, pread, if_pos h0, if_pos hX, if_true]
abbrev LSi (i : Int32) : PLs := [some (.ref 100000), some (.ref 0), some (.ref 110), some (.int i)]
abbrev sci (X : Scr) (i : Int32) (j : Int) : Int32 := X.2 (i + kI j).toNatClampNeg
set_option maxRecDepth 100000 in
theorem rct_260 : RCT[260]? = some rc_260 := rfl
def bz (x : Int32) : Int32 := if x = 0 then 0 else 1
def sgl_0 : List (Option (Instr × Nat)) := [some (.aload 1, 1), some (.aload 0, 1), some (.iload 3, 1), some (.iconst 1, 1), some (.iadd, 1), some (.iaload, 1), some (.aload 0, 1), some (.iload 3, 1), some (.iconst 2, 1), some (.iadd, 1), some (.iaload, 1), some (.invokevirtual 178117, 3), none, none, some (.aload 2, 1), some (.aload 0, 1), some (.iload 3, 1), some (.iconst 1, 1), some (.iadd, 1), some (.iaload, 1), some (.aload 0, 1), some (.iload 3, 1), some (.iconst 2, 1), some (.iadd, 1), some (.iaload, 1), some (.invokevirtual 194169, 3), none, none, some (.if_icmp .eq 1293, 3), none, none, some (.iconst 0, 1), some (.ireturn, 1)]
set_option maxRecDepth 100000 in
theorem sgl_0_ok : (rc_260.drop 184).take 33 = sgl_0 := by decide +kernel
set_option maxRecDepth 100000 in
theorem lcs_0 {X : Scr} {w : Wd} {i : Int32} {Q : Int32 → Wd → Prop} (h : II w) (hX : X.1 < 4000) (hj : ∀ j : Nat, j ≤ 5 → inB (i + kI (j : Int)) X.1 = true) (K : ∀ w2, II w2 → EI X 60 260 (1293, LSi i, [], SH, w2) Q) : EI X 60 260 (184, LSi i, [], SH, w) Q := by
  refine EV.stepsS rct_260 sgl_0_ok 5 (q2 := (189, LSi i, [.int (i + kI 1), .ref 100000, .ref 0], SH, w)) rfl ?_
  refine EV.sload rct_260 ((cdI_seg sgl_0_ok 189 (by decide) (by decide)).trans rfl) hX (hj 1 (by decide)) ?_
  refine EV.stepsS rct_260 sgl_0_ok 4 (q2 := (194, LSi i, [.int (i + kI 2), .ref 100000, .int (sci X i 1), .ref 0], SH, w)) rfl ?_
  refine EV.sload rct_260 ((cdI_seg sgl_0_ok 194 (by decide) (by decide)).trans rfl) hX (hj 2 (by decide)) ?_
  have hJ := J_county (X := X) h ((sci X i 1)) ((sci X i 2))
  unfold JJ CI at hJ
  refine EV.call rct_260 ((cdI_seg sgl_0_ok 195 (by decide) (by decide)).trans rfl) rfl rfl hJ ?_
  intro v s1 w1 e1
  obtain ⟨x, rfl, rfl, e1⟩ := e1
  try unfold CI at e1
  try unfold CL at e1
  refine EV.stepsS rct_260 sgl_0_ok 5 (q2 := (203, LSi i, [.int (i + kI 1), .ref 100000, .ref 110, .int x], SH, w1)) rfl ?_
  refine EV.sload rct_260 ((cdI_seg sgl_0_ok 203 (by decide) (by decide)).trans rfl) hX (hj 1 (by decide)) ?_
  refine EV.stepsS rct_260 sgl_0_ok 4 (q2 := (208, LSi i, [.int (i + kI 2), .ref 100000, .int (sci X i 1), .ref 110, .int x], SH, w1)) rfl ?_
  refine EV.sload rct_260 ((cdI_seg sgl_0_ok 208 (by decide) (by decide)).trans rfl) hX (hj 2 (by decide)) ?_
  refine EV.call rct_260 ((cdI_seg sgl_0_ok 209 (by decide) (by decide)).trans rfl) rfl rfl e1 ?_
  intro v s1 w2 e2
  obtain ⟨y, rfl, rfl, e2, i2⟩ := e2
  subst e2
  refine EV.i_eq rct_260 ((cdI_seg sgl_0_ok 212 (by decide) (by decide)).trans rfl) (fun e => ?_) (fun e => absurd rfl e)
  exact K w2 i2
def sgl_1 : List (Option (Instr × Nat)) := [some (.aload 1, 1), some (.aload 0, 1), some (.iload 3, 1), some (.iconst 1, 1), some (.iadd, 1), some (.iaload, 1), some (.aload 0, 1), some (.iload 3, 1), some (.iconst 2, 1), some (.iadd, 1), some (.iaload, 1), some (.aload 0, 1), some (.iload 3, 1), some (.iconst 3, 1), some (.iadd, 1), some (.iaload, 1), some (.ifCond .eq 240, 3), none, none, some (.iconst 1, 1), some (.goto 241, 3), none, none, some (.iconst 0, 1), some (.invokevirtual 179118, 3), none, none, some (.aload 2, 1), some (.aload 0, 1), some (.iload 3, 1), some (.iconst 1, 1), some (.iadd, 1), some (.iaload, 1), some (.aload 0, 1), some (.iload 3, 1), some (.iconst 2, 1), some (.iadd, 1), some (.iaload, 1), some (.aload 0, 1), some (.iload 3, 1), some (.iconst 3, 1), some (.iadd, 1), some (.iaload, 1), some (.ifCond .eq 267, 3), none, none, some (.iconst 1, 1), some (.goto 268, 3), none, none, some (.iconst 0, 1), some (.invokevirtual 195170, 3), none, none, some (.if_icmp .eq 1293, 3), none, none, some (.iconst 0, 1), some (.ireturn, 1)]
set_option maxRecDepth 100000 in
theorem sgl_1_ok : (rc_260.drop 217).take 59 = sgl_1 := by decide +kernel
set_option maxRecDepth 100000 in
theorem lcs_1 {X : Scr} {w : Wd} {i : Int32} {Q : Int32 → Wd → Prop} (h : II w) (hX : X.1 < 4000) (hj : ∀ j : Nat, j ≤ 5 → inB (i + kI (j : Int)) X.1 = true) (K : ∀ w2, II w2 → EI X 60 260 (1293, LSi i, [], SH, w2) Q) : EI X 60 260 (217, LSi i, [], SH, w) Q := by
  refine EV.stepsS rct_260 sgl_1_ok 5 (q2 := (222, LSi i, [.int (i + kI 1), .ref 100000, .ref 0], SH, w)) rfl ?_
  refine EV.sload rct_260 ((cdI_seg sgl_1_ok 222 (by decide) (by decide)).trans rfl) hX (hj 1 (by decide)) ?_
  refine EV.stepsS rct_260 sgl_1_ok 4 (q2 := (227, LSi i, [.int (i + kI 2), .ref 100000, .int (sci X i 1), .ref 0], SH, w)) rfl ?_
  refine EV.sload rct_260 ((cdI_seg sgl_1_ok 227 (by decide) (by decide)).trans rfl) hX (hj 2 (by decide)) ?_
  refine EV.stepsS rct_260 sgl_1_ok 4 (q2 := (232, LSi i, [.int (i + kI 3), .ref 100000, .int (sci X i 2), .int (sci X i 1), .ref 0], SH, w)) rfl ?_
  refine EV.sload rct_260 ((cdI_seg sgl_1_ok 232 (by decide) (by decide)).trans rfl) hX (hj 3 (by decide)) ?_
  have kk0 : EV X 60 260 (241, LSi i, [.int (bz (sci X i 3)), .int (sci X i 2), .int (sci X i 1), .ref 0], SH, w) (fun r s1 w1 => ∃ x, r = some (.int x) ∧ s1 = SH ∧ Q x w1) → EV X 60 260 (233, LSi i, [.int (sci X i 3), .int (sci X i 2), .int (sci X i 1), .ref 0], SH, w) (fun r s1 w1 => ∃ x, r = some (.int x) ∧ s1 = SH ∧ Q x w1) := by
    intro kk
    refine EV.z_eq rct_260 ((cdI_seg sgl_1_ok 233 (by decide) (by decide)).trans rfl) (fun e => ?_) (fun e => ?_)
    · refine EV.stepsS rct_260 sgl_1_ok 1 (q2 := (241, LSi i, [.int 0, .int (sci X i 2), .int (sci X i 1), .ref 0], SH, w)) rfl ?_
      have e2 : bz (sci X i 3) = 0 := if_pos e
      rw [e2] at kk; exact kk
    · refine EV.stepsS rct_260 sgl_1_ok 2 (q2 := (241, LSi i, [.int 1, .int (sci X i 2), .int (sci X i 1), .ref 0], SH, w)) rfl ?_
      have e2 : bz (sci X i 3) = 1 := if_neg e
      rw [e2] at kk; exact kk
  refine kk0 ?_
  have hJ := J_next (X := X) h ((sci X i 1)) ((sci X i 2)) ((bz (sci X i 3)))
  unfold JJ CI at hJ
  refine EV.call rct_260 ((cdI_seg sgl_1_ok 241 (by decide) (by decide)).trans rfl) rfl rfl hJ ?_
  intro v s1 w1 e1
  obtain ⟨x, rfl, rfl, e1⟩ := e1
  try unfold CI at e1
  try unfold CL at e1
  refine EV.stepsS rct_260 sgl_1_ok 5 (q2 := (249, LSi i, [.int (i + kI 1), .ref 100000, .ref 110, .int x], SH, w1)) rfl ?_
  refine EV.sload rct_260 ((cdI_seg sgl_1_ok 249 (by decide) (by decide)).trans rfl) hX (hj 1 (by decide)) ?_
  refine EV.stepsS rct_260 sgl_1_ok 4 (q2 := (254, LSi i, [.int (i + kI 2), .ref 100000, .int (sci X i 1), .ref 110, .int x], SH, w1)) rfl ?_
  refine EV.sload rct_260 ((cdI_seg sgl_1_ok 254 (by decide) (by decide)).trans rfl) hX (hj 2 (by decide)) ?_
  refine EV.stepsS rct_260 sgl_1_ok 4 (q2 := (259, LSi i, [.int (i + kI 3), .ref 100000, .int (sci X i 2), .int (sci X i 1), .ref 110, .int x], SH, w1)) rfl ?_
  refine EV.sload rct_260 ((cdI_seg sgl_1_ok 259 (by decide) (by decide)).trans rfl) hX (hj 3 (by decide)) ?_
  have kk1 : EV X 60 260 (268, LSi i, [.int (bz (sci X i 3)), .int (sci X i 2), .int (sci X i 1), .ref 110, .int x], SH, w1) (fun r s1 w1 => ∃ x, r = some (.int x) ∧ s1 = SH ∧ Q x w1) → EV X 60 260 (260, LSi i, [.int (sci X i 3), .int (sci X i 2), .int (sci X i 1), .ref 110, .int x], SH, w1) (fun r s1 w1 => ∃ x, r = some (.int x) ∧ s1 = SH ∧ Q x w1) := by
    intro kk
    refine EV.z_eq rct_260 ((cdI_seg sgl_1_ok 260 (by decide) (by decide)).trans rfl) (fun e => ?_) (fun e => ?_)
    · refine EV.stepsS rct_260 sgl_1_ok 1 (q2 := (268, LSi i, [.int 0, .int (sci X i 2), .int (sci X i 1), .ref 110, .int x], SH, w1)) rfl ?_
      have e2 : bz (sci X i 3) = 0 := if_pos e
      rw [e2] at kk; exact kk
    · refine EV.stepsS rct_260 sgl_1_ok 2 (q2 := (268, LSi i, [.int 1, .int (sci X i 2), .int (sci X i 1), .ref 110, .int x], SH, w1)) rfl ?_
      have e2 : bz (sci X i 3) = 1 := if_neg e
      rw [e2] at kk; exact kk
  refine kk1 ?_
  refine EV.call rct_260 ((cdI_seg sgl_1_ok 268 (by decide) (by decide)).trans rfl) rfl rfl e1 ?_
  intro v s1 w2 e2
  obtain ⟨y, rfl, rfl, e2, i2⟩ := e2
  subst e2
  refine EV.i_eq rct_260 ((cdI_seg sgl_1_ok 271 (by decide) (by decide)).trans rfl) (fun e => ?_) (fun e => absurd rfl e)
  exact K w2 i2
def sgl_2 : List (Option (Instr × Nat)) := [some (.aload 1, 1), some (.aload 0, 1), some (.iload 3, 1), some (.iconst 1, 1), some (.iadd, 1), some (.iaload, 1), some (.aload 0, 1), some (.iload 3, 1), some (.iconst 2, 1), some (.iadd, 1), some (.iaload, 1), some (.invokevirtual 178119, 3), none, none, some (.aload 2, 1), some (.aload 0, 1), some (.iload 3, 1), some (.iconst 1, 1), some (.iadd, 1), some (.iaload, 1), some (.aload 0, 1), some (.iload 3, 1), some (.iconst 2, 1), some (.iadd, 1), some (.iaload, 1), some (.invokevirtual 194171, 3), none, none, some (.if_icmp .eq 1293, 3), none, none, some (.iconst 0, 1), some (.ireturn, 1)]
set_option maxRecDepth 100000 in
theorem sgl_2_ok : (rc_260.drop 276).take 33 = sgl_2 := by decide +kernel
set_option maxRecDepth 100000 in
theorem lcs_2 {X : Scr} {w : Wd} {i : Int32} {Q : Int32 → Wd → Prop} (h : II w) (hX : X.1 < 4000) (hj : ∀ j : Nat, j ≤ 5 → inB (i + kI (j : Int)) X.1 = true) (K : ∀ w2, II w2 → EI X 60 260 (1293, LSi i, [], SH, w2) Q) : EI X 60 260 (276, LSi i, [], SH, w) Q := by
  refine EV.stepsS rct_260 sgl_2_ok 5 (q2 := (281, LSi i, [.int (i + kI 1), .ref 100000, .ref 0], SH, w)) rfl ?_
  refine EV.sload rct_260 ((cdI_seg sgl_2_ok 281 (by decide) (by decide)).trans rfl) hX (hj 1 (by decide)) ?_
  refine EV.stepsS rct_260 sgl_2_ok 4 (q2 := (286, LSi i, [.int (i + kI 2), .ref 100000, .int (sci X i 1), .ref 0], SH, w)) rfl ?_
  refine EV.sload rct_260 ((cdI_seg sgl_2_ok 286 (by decide) (by decide)).trans rfl) hX (hj 2 (by decide)) ?_
  have hJ := J_figure (X := X) h ((sci X i 1)) ((sci X i 2))
  unfold JJ CI at hJ
  refine EV.call rct_260 ((cdI_seg sgl_2_ok 287 (by decide) (by decide)).trans rfl) rfl rfl hJ ?_
  intro v s1 w1 e1
  obtain ⟨x, rfl, rfl, e1⟩ := e1
  try unfold CI at e1
  try unfold CL at e1
  refine EV.stepsS rct_260 sgl_2_ok 5 (q2 := (295, LSi i, [.int (i + kI 1), .ref 100000, .ref 110, .int x], SH, w1)) rfl ?_
  refine EV.sload rct_260 ((cdI_seg sgl_2_ok 295 (by decide) (by decide)).trans rfl) hX (hj 1 (by decide)) ?_
  refine EV.stepsS rct_260 sgl_2_ok 4 (q2 := (300, LSi i, [.int (i + kI 2), .ref 100000, .int (sci X i 1), .ref 110, .int x], SH, w1)) rfl ?_
  refine EV.sload rct_260 ((cdI_seg sgl_2_ok 300 (by decide) (by decide)).trans rfl) hX (hj 2 (by decide)) ?_
  refine EV.call rct_260 ((cdI_seg sgl_2_ok 301 (by decide) (by decide)).trans rfl) rfl rfl e1 ?_
  intro v s1 w2 e2
  obtain ⟨y, rfl, rfl, e2, i2⟩ := e2
  subst e2
  refine EV.i_eq rct_260 ((cdI_seg sgl_2_ok 304 (by decide) (by decide)).trans rfl) (fun e => ?_) (fun e => absurd rfl e)
  exact K w2 i2
def sgl_3 : List (Option (Instr × Nat)) := [some (.aload 1, 1), some (.aload 0, 1), some (.iload 3, 1), some (.iconst 1, 1), some (.iadd, 1), some (.iaload, 1), some (.invokevirtual 177120, 3), none, none, some (.aload 2, 1), some (.aload 0, 1), some (.iload 3, 1), some (.iconst 1, 1), some (.iadd, 1), some (.iaload, 1), some (.invokevirtual 193172, 3), none, none, some (.if_icmp .eq 1293, 3), none, none, some (.iconst 0, 1), some (.ireturn, 1)]
set_option maxRecDepth 100000 in
theorem sgl_3_ok : (rc_260.drop 309).take 23 = sgl_3 := by decide +kernel
set_option maxRecDepth 100000 in
theorem lcs_3 {X : Scr} {w : Wd} {i : Int32} {Q : Int32 → Wd → Prop} (h : II w) (hX : X.1 < 4000) (hj : ∀ j : Nat, j ≤ 5 → inB (i + kI (j : Int)) X.1 = true) (K : ∀ w2, II w2 → EI X 60 260 (1293, LSi i, [], SH, w2) Q) : EI X 60 260 (309, LSi i, [], SH, w) Q := by
  refine EV.stepsS rct_260 sgl_3_ok 5 (q2 := (314, LSi i, [.int (i + kI 1), .ref 100000, .ref 0], SH, w)) rfl ?_
  refine EV.sload rct_260 ((cdI_seg sgl_3_ok 314 (by decide) (by decide)).trans rfl) hX (hj 1 (by decide)) ?_
  have hJ := J_staff (X := X) h ((sci X i 1))
  unfold JJ CI at hJ
  refine EV.call rct_260 ((cdI_seg sgl_3_ok 315 (by decide) (by decide)).trans rfl) rfl rfl hJ ?_
  intro v s1 w1 e1
  obtain ⟨x, rfl, rfl, e1⟩ := e1
  try unfold CI at e1
  try unfold CL at e1
  refine EV.stepsS rct_260 sgl_3_ok 5 (q2 := (323, LSi i, [.int (i + kI 1), .ref 100000, .ref 110, .int x], SH, w1)) rfl ?_
  refine EV.sload rct_260 ((cdI_seg sgl_3_ok 323 (by decide) (by decide)).trans rfl) hX (hj 1 (by decide)) ?_
  refine EV.call rct_260 ((cdI_seg sgl_3_ok 324 (by decide) (by decide)).trans rfl) rfl rfl e1 ?_
  intro v s1 w2 e2
  obtain ⟨y, rfl, rfl, e2, i2⟩ := e2
  subst e2
  refine EV.i_eq rct_260 ((cdI_seg sgl_3_ok 327 (by decide) (by decide)).trans rfl) (fun e => ?_) (fun e => absurd rfl e)
  exact K w2 i2
def sgl_4 : List (Option (Instr × Nat)) := [some (.aload 1, 1), some (.aload 0, 1), some (.iload 3, 1), some (.iconst 1, 1), some (.iadd, 1), some (.iaload, 1), some (.aload 0, 1), some (.iload 3, 1), some (.iconst 2, 1), some (.iadd, 1), some (.iaload, 1), some (.aload 0, 1), some (.iload 3, 1), some (.iconst 3, 1), some (.iadd, 1), some (.iaload, 1), some (.aload 0, 1), some (.iload 3, 1), some (.iconst 4, 1), some (.iadd, 1), some (.iaload, 1), some (.aload 0, 1), some (.iload 3, 1), some (.iconst 5, 1), some (.iadd, 1), some (.iaload, 1), some (.invokevirtual 181121, 3), none, none, some (.aload 2, 1), some (.aload 0, 1), some (.iload 3, 1), some (.iconst 1, 1), some (.iadd, 1), some (.iaload, 1), some (.aload 0, 1), some (.iload 3, 1), some (.iconst 2, 1), some (.iadd, 1), some (.iaload, 1), some (.aload 0, 1), some (.iload 3, 1), some (.iconst 3, 1), some (.iadd, 1), some (.iaload, 1), some (.aload 0, 1), some (.iload 3, 1), some (.iconst 4, 1), some (.iadd, 1), some (.iaload, 1), some (.aload 0, 1), some (.iload 3, 1), some (.iconst 5, 1), some (.iadd, 1), some (.iaload, 1), some (.invokevirtual 197174, 3), none, none, some (.if_icmp .eq 1293, 3), none, none, some (.iconst 0, 1), some (.ireturn, 1)]
set_option maxRecDepth 100000 in
theorem sgl_4_ok : (rc_260.drop 332).take 63 = sgl_4 := by decide +kernel
set_option maxRecDepth 100000 in
theorem lcs_4 {X : Scr} {w : Wd} {i : Int32} {Q : Int32 → Wd → Prop} (h : II w) (hX : X.1 < 4000) (hj : ∀ j : Nat, j ≤ 5 → inB (i + kI (j : Int)) X.1 = true) (K : ∀ w2, II w2 → EI X 60 260 (1293, LSi i, [], SH, w2) Q) : EI X 60 260 (332, LSi i, [], SH, w) Q := by
  refine EV.stepsS rct_260 sgl_4_ok 5 (q2 := (337, LSi i, [.int (i + kI 1), .ref 100000, .ref 0], SH, w)) rfl ?_
  refine EV.sload rct_260 ((cdI_seg sgl_4_ok 337 (by decide) (by decide)).trans rfl) hX (hj 1 (by decide)) ?_
  refine EV.stepsS rct_260 sgl_4_ok 4 (q2 := (342, LSi i, [.int (i + kI 2), .ref 100000, .int (sci X i 1), .ref 0], SH, w)) rfl ?_
  refine EV.sload rct_260 ((cdI_seg sgl_4_ok 342 (by decide) (by decide)).trans rfl) hX (hj 2 (by decide)) ?_
  refine EV.stepsS rct_260 sgl_4_ok 4 (q2 := (347, LSi i, [.int (i + kI 3), .ref 100000, .int (sci X i 2), .int (sci X i 1), .ref 0], SH, w)) rfl ?_
  refine EV.sload rct_260 ((cdI_seg sgl_4_ok 347 (by decide) (by decide)).trans rfl) hX (hj 3 (by decide)) ?_
  refine EV.stepsS rct_260 sgl_4_ok 4 (q2 := (352, LSi i, [.int (i + kI 4), .ref 100000, .int (sci X i 3), .int (sci X i 2), .int (sci X i 1), .ref 0], SH, w)) rfl ?_
  refine EV.sload rct_260 ((cdI_seg sgl_4_ok 352 (by decide) (by decide)).trans rfl) hX (hj 4 (by decide)) ?_
  refine EV.stepsS rct_260 sgl_4_ok 4 (q2 := (357, LSi i, [.int (i + kI 5), .ref 100000, .int (sci X i 4), .int (sci X i 3), .int (sci X i 2), .int (sci X i 1), .ref 0], SH, w)) rfl ?_
  refine EV.sload rct_260 ((cdI_seg sgl_4_ok 357 (by decide) (by decide)).trans rfl) hX (hj 5 (by decide)) ?_
  have hJ := J_feed (X := X) h ((sci X i 1)) ((sci X i 2)) ((sci X i 3)) ((sci X i 4)) ((sci X i 5))
  unfold JJ CI at hJ
  refine EV.call rct_260 ((cdI_seg sgl_4_ok 358 (by decide) (by decide)).trans rfl) rfl rfl hJ ?_
  intro v s1 w1 e1
  obtain ⟨x, rfl, rfl, e1⟩ := e1
  try unfold CI at e1
  try unfold CL at e1
  refine EV.stepsS rct_260 sgl_4_ok 5 (q2 := (366, LSi i, [.int (i + kI 1), .ref 100000, .ref 110, .int x], SH, w1)) rfl ?_
  refine EV.sload rct_260 ((cdI_seg sgl_4_ok 366 (by decide) (by decide)).trans rfl) hX (hj 1 (by decide)) ?_
  refine EV.stepsS rct_260 sgl_4_ok 4 (q2 := (371, LSi i, [.int (i + kI 2), .ref 100000, .int (sci X i 1), .ref 110, .int x], SH, w1)) rfl ?_
  refine EV.sload rct_260 ((cdI_seg sgl_4_ok 371 (by decide) (by decide)).trans rfl) hX (hj 2 (by decide)) ?_
  refine EV.stepsS rct_260 sgl_4_ok 4 (q2 := (376, LSi i, [.int (i + kI 3), .ref 100000, .int (sci X i 2), .int (sci X i 1), .ref 110, .int x], SH, w1)) rfl ?_
  refine EV.sload rct_260 ((cdI_seg sgl_4_ok 376 (by decide) (by decide)).trans rfl) hX (hj 3 (by decide)) ?_
  refine EV.stepsS rct_260 sgl_4_ok 4 (q2 := (381, LSi i, [.int (i + kI 4), .ref 100000, .int (sci X i 3), .int (sci X i 2), .int (sci X i 1), .ref 110, .int x], SH, w1)) rfl ?_
  refine EV.sload rct_260 ((cdI_seg sgl_4_ok 381 (by decide) (by decide)).trans rfl) hX (hj 4 (by decide)) ?_
  refine EV.stepsS rct_260 sgl_4_ok 4 (q2 := (386, LSi i, [.int (i + kI 5), .ref 100000, .int (sci X i 4), .int (sci X i 3), .int (sci X i 2), .int (sci X i 1), .ref 110, .int x], SH, w1)) rfl ?_
  refine EV.sload rct_260 ((cdI_seg sgl_4_ok 386 (by decide) (by decide)).trans rfl) hX (hj 5 (by decide)) ?_
  refine EV.call rct_260 ((cdI_seg sgl_4_ok 387 (by decide) (by decide)).trans rfl) rfl rfl e1 ?_
  intro v s1 w2 e2
  obtain ⟨y, rfl, rfl, e2, i2⟩ := e2
  subst e2
  refine EV.i_eq rct_260 ((cdI_seg sgl_4_ok 390 (by decide) (by decide)).trans rfl) (fun e => ?_) (fun e => absurd rfl e)
  exact K w2 i2
def sgl_5 : List (Option (Instr × Nat)) := [some (.aload 1, 1), some (.aload 0, 1), some (.iload 3, 1), some (.iconst 1, 1), some (.iadd, 1), some (.iaload, 1), some (.invokevirtual 177122, 3), none, none, some (.aload 2, 1), some (.aload 0, 1), some (.iload 3, 1), some (.iconst 1, 1), some (.iadd, 1), some (.iaload, 1), some (.invokevirtual 193196, 3), none, none, some (.if_icmp .eq 1293, 3), none, none, some (.iconst 0, 1), some (.ireturn, 1)]
set_option maxRecDepth 100000 in
theorem sgl_5_ok : (rc_260.drop 395).take 23 = sgl_5 := by decide +kernel
set_option maxRecDepth 100000 in
theorem lcs_5 {X : Scr} {w : Wd} {i : Int32} {Q : Int32 → Wd → Prop} (h : II w) (hX : X.1 < 4000) (hj : ∀ j : Nat, j ≤ 5 → inB (i + kI (j : Int)) X.1 = true) (K : ∀ w2, II w2 → EI X 60 260 (1293, LSi i, [], SH, w2) Q) : EI X 60 260 (395, LSi i, [], SH, w) Q := by
  refine EV.stepsS rct_260 sgl_5_ok 5 (q2 := (400, LSi i, [.int (i + kI 1), .ref 100000, .ref 0], SH, w)) rfl ?_
  refine EV.sload rct_260 ((cdI_seg sgl_5_ok 400 (by decide) (by decide)).trans rfl) hX (hj 1 (by decide)) ?_
  have hJ := J_law (X := X) h ((sci X i 1))
  unfold JJ CI at hJ
  refine EV.call rct_260 ((cdI_seg sgl_5_ok 401 (by decide) (by decide)).trans rfl) rfl rfl hJ ?_
  intro v s1 w1 e1
  obtain ⟨x, rfl, rfl, e1⟩ := e1
  try unfold CI at e1
  try unfold CL at e1
  refine EV.stepsS rct_260 sgl_5_ok 5 (q2 := (409, LSi i, [.int (i + kI 1), .ref 100000, .ref 110, .int x], SH, w1)) rfl ?_
  refine EV.sload rct_260 ((cdI_seg sgl_5_ok 409 (by decide) (by decide)).trans rfl) hX (hj 1 (by decide)) ?_
  refine EV.call rct_260 ((cdI_seg sgl_5_ok 410 (by decide) (by decide)).trans rfl) rfl rfl e1 ?_
  intro v s1 w2 e2
  obtain ⟨y, rfl, rfl, e2, i2⟩ := e2
  subst e2
  refine EV.i_eq rct_260 ((cdI_seg sgl_5_ok 413 (by decide) (by decide)).trans rfl) (fun e => ?_) (fun e => absurd rfl e)
  exact K w2 i2
def sgl_6 : List (Option (Instr × Nat)) := [some (.aload 1, 1), some (.aload 0, 1), some (.iload 3, 1), some (.iconst 1, 1), some (.iadd, 1), some (.iaload, 1), some (.invokevirtual 177123, 3), none, none, some (.aload 2, 1), some (.aload 0, 1), some (.iload 3, 1), some (.iconst 1, 1), some (.iadd, 1), some (.iaload, 1), some (.invokevirtual 193203, 3), none, none, some (.if_icmp .eq 1293, 3), none, none, some (.iconst 0, 1), some (.ireturn, 1)]
set_option maxRecDepth 100000 in
theorem sgl_6_ok : (rc_260.drop 418).take 23 = sgl_6 := by decide +kernel
set_option maxRecDepth 100000 in
theorem lcs_6 {X : Scr} {w : Wd} {i : Int32} {Q : Int32 → Wd → Prop} (h : II w) (hX : X.1 < 4000) (hj : ∀ j : Nat, j ≤ 5 → inB (i + kI (j : Int)) X.1 = true) (K : ∀ w2, II w2 → EI X 60 260 (1293, LSi i, [], SH, w2) Q) : EI X 60 260 (418, LSi i, [], SH, w) Q := by
  refine EV.stepsS rct_260 sgl_6_ok 5 (q2 := (423, LSi i, [.int (i + kI 1), .ref 100000, .ref 0], SH, w)) rfl ?_
  refine EV.sload rct_260 ((cdI_seg sgl_6_ok 423 (by decide) (by decide)).trans rfl) hX (hj 1 (by decide)) ?_
  have hJ := J_report (X := X) h ((sci X i 1))
  unfold JJ CI at hJ
  refine EV.call rct_260 ((cdI_seg sgl_6_ok 424 (by decide) (by decide)).trans rfl) rfl rfl hJ ?_
  intro v s1 w1 e1
  obtain ⟨x, rfl, rfl, e1⟩ := e1
  try unfold CI at e1
  try unfold CL at e1
  refine EV.stepsS rct_260 sgl_6_ok 5 (q2 := (432, LSi i, [.int (i + kI 1), .ref 100000, .ref 110, .int x], SH, w1)) rfl ?_
  refine EV.sload rct_260 ((cdI_seg sgl_6_ok 432 (by decide) (by decide)).trans rfl) hX (hj 1 (by decide)) ?_
  refine EV.call rct_260 ((cdI_seg sgl_6_ok 433 (by decide) (by decide)).trans rfl) rfl rfl e1 ?_
  intro v s1 w2 e2
  obtain ⟨y, rfl, rfl, e2, i2⟩ := e2
  subst e2
  refine EV.i_eq rct_260 ((cdI_seg sgl_6_ok 436 (by decide) (by decide)).trans rfl) (fun e => ?_) (fun e => absurd rfl e)
  exact K w2 i2
def sgl_7 : List (Option (Instr × Nat)) := [some (.aload 1, 1), some (.aload 0, 1), some (.iload 3, 1), some (.iconst 1, 1), some (.iadd, 1), some (.iaload, 1), some (.invokevirtual 177124, 3), none, none, some (.aload 2, 1), some (.aload 0, 1), some (.iload 3, 1), some (.iconst 1, 1), some (.iadd, 1), some (.iaload, 1), some (.invokevirtual 193212, 3), none, none, some (.if_icmp .eq 1293, 3), none, none, some (.iconst 0, 1), some (.ireturn, 1)]
set_option maxRecDepth 100000 in
theorem sgl_7_ok : (rc_260.drop 441).take 23 = sgl_7 := by decide +kernel
set_option maxRecDepth 100000 in
theorem lcs_7 {X : Scr} {w : Wd} {i : Int32} {Q : Int32 → Wd → Prop} (h : II w) (hX : X.1 < 4000) (hj : ∀ j : Nat, j ≤ 5 → inB (i + kI (j : Int)) X.1 = true) (K : ∀ w2, II w2 → EI X 60 260 (1293, LSi i, [], SH, w2) Q) : EI X 60 260 (441, LSi i, [], SH, w) Q := by
  refine EV.stepsS rct_260 sgl_7_ok 5 (q2 := (446, LSi i, [.int (i + kI 1), .ref 100000, .ref 0], SH, w)) rfl ?_
  refine EV.sload rct_260 ((cdI_seg sgl_7_ok 446 (by decide) (by decide)).trans rfl) hX (hj 1 (by decide)) ?_
  have hJ := J_months (X := X) h ((sci X i 1))
  unfold JJ CI at hJ
  refine EV.call rct_260 ((cdI_seg sgl_7_ok 447 (by decide) (by decide)).trans rfl) rfl rfl hJ ?_
  intro v s1 w1 e1
  obtain ⟨x, rfl, rfl, e1⟩ := e1
  try unfold CI at e1
  try unfold CL at e1
  refine EV.stepsS rct_260 sgl_7_ok 5 (q2 := (455, LSi i, [.int (i + kI 1), .ref 100000, .ref 110, .int x], SH, w1)) rfl ?_
  refine EV.sload rct_260 ((cdI_seg sgl_7_ok 455 (by decide) (by decide)).trans rfl) hX (hj 1 (by decide)) ?_
  refine EV.call rct_260 ((cdI_seg sgl_7_ok 456 (by decide) (by decide)).trans rfl) rfl rfl e1 ?_
  intro v s1 w2 e2
  obtain ⟨y, rfl, rfl, e2, i2⟩ := e2
  subst e2
  refine EV.i_eq rct_260 ((cdI_seg sgl_7_ok 459 (by decide) (by decide)).trans rfl) (fun e => ?_) (fun e => absurd rfl e)
  exact K w2 i2
def sgl_8 : List (Option (Instr × Nat)) := [some (.aload 1, 1), some (.aload 0, 1), some (.iload 3, 1), some (.iconst 1, 1), some (.iadd, 1), some (.iaload, 1), some (.aload 0, 1), some (.iload 3, 1), some (.iconst 2, 1), some (.iadd, 1), some (.iaload, 1), some (.invokevirtual 178125, 3), none, none, some (.aload 2, 1), some (.aload 0, 1), some (.iload 3, 1), some (.iconst 1, 1), some (.iadd, 1), some (.iaload, 1), some (.aload 0, 1), some (.iload 3, 1), some (.iconst 2, 1), some (.iadd, 1), some (.iaload, 1), some (.invokevirtual 194213, 3), none, none, some (.if_icmp .eq 1293, 3), none, none, some (.iconst 0, 1), some (.ireturn, 1)]
set_option maxRecDepth 100000 in
theorem sgl_8_ok : (rc_260.drop 464).take 33 = sgl_8 := by decide +kernel
set_option maxRecDepth 100000 in
theorem lcs_8 {X : Scr} {w : Wd} {i : Int32} {Q : Int32 → Wd → Prop} (h : II w) (hX : X.1 < 4000) (hj : ∀ j : Nat, j ≤ 5 → inB (i + kI (j : Int)) X.1 = true) (K : ∀ w2, II w2 → EI X 60 260 (1293, LSi i, [], SH, w2) Q) : EI X 60 260 (464, LSi i, [], SH, w) Q := by
  refine EV.stepsS rct_260 sgl_8_ok 5 (q2 := (469, LSi i, [.int (i + kI 1), .ref 100000, .ref 0], SH, w)) rfl ?_
  refine EV.sload rct_260 ((cdI_seg sgl_8_ok 469 (by decide) (by decide)).trans rfl) hX (hj 1 (by decide)) ?_
  refine EV.stepsS rct_260 sgl_8_ok 4 (q2 := (474, LSi i, [.int (i + kI 2), .ref 100000, .int (sci X i 1), .ref 0], SH, w)) rfl ?_
  refine EV.sload rct_260 ((cdI_seg sgl_8_ok 474 (by decide) (by decide)).trans rfl) hX (hj 2 (by decide)) ?_
  have hJ := J_tried (X := X) h ((sci X i 1)) ((sci X i 2))
  unfold JJ CI at hJ
  refine EV.call rct_260 ((cdI_seg sgl_8_ok 475 (by decide) (by decide)).trans rfl) rfl rfl hJ ?_
  intro v s1 w1 e1
  obtain ⟨x, rfl, rfl, e1⟩ := e1
  try unfold CI at e1
  try unfold CL at e1
  refine EV.stepsS rct_260 sgl_8_ok 5 (q2 := (483, LSi i, [.int (i + kI 1), .ref 100000, .ref 110, .int x], SH, w1)) rfl ?_
  refine EV.sload rct_260 ((cdI_seg sgl_8_ok 483 (by decide) (by decide)).trans rfl) hX (hj 1 (by decide)) ?_
  refine EV.stepsS rct_260 sgl_8_ok 4 (q2 := (488, LSi i, [.int (i + kI 2), .ref 100000, .int (sci X i 1), .ref 110, .int x], SH, w1)) rfl ?_
  refine EV.sload rct_260 ((cdI_seg sgl_8_ok 488 (by decide) (by decide)).trans rfl) hX (hj 2 (by decide)) ?_
  refine EV.call rct_260 ((cdI_seg sgl_8_ok 489 (by decide) (by decide)).trans rfl) rfl rfl e1 ?_
  intro v s1 w2 e2
  obtain ⟨y, rfl, rfl, e2, i2⟩ := e2
  subst e2
  refine EV.i_eq rct_260 ((cdI_seg sgl_8_ok 492 (by decide) (by decide)).trans rfl) (fun e => ?_) (fun e => absurd rfl e)
  exact K w2 i2
def sgl_9 : List (Option (Instr × Nat)) := [some (.aload 1, 1), some (.aload 0, 1), some (.iload 3, 1), some (.iconst 1, 1), some (.iadd, 1), some (.iaload, 1), some (.aload 0, 1), some (.iload 3, 1), some (.iconst 2, 1), some (.iadd, 1), some (.iaload, 1), some (.invokevirtual 178126, 3), none, none, some (.aload 2, 1), some (.aload 0, 1), some (.iload 3, 1), some (.iconst 1, 1), some (.iadd, 1), some (.iaload, 1), some (.aload 0, 1), some (.iload 3, 1), some (.iconst 2, 1), some (.iadd, 1), some (.iaload, 1), some (.invokevirtual 194214, 3), none, none, some (.if_icmp .eq 1293, 3), none, none, some (.iconst 0, 1), some (.ireturn, 1)]
set_option maxRecDepth 100000 in
theorem sgl_9_ok : (rc_260.drop 497).take 33 = sgl_9 := by decide +kernel
set_option maxRecDepth 100000 in
theorem lcs_9 {X : Scr} {w : Wd} {i : Int32} {Q : Int32 → Wd → Prop} (h : II w) (hX : X.1 < 4000) (hj : ∀ j : Nat, j ≤ 5 → inB (i + kI (j : Int)) X.1 = true) (K : ∀ w2, II w2 → EI X 60 260 (1293, LSi i, [], SH, w2) Q) : EI X 60 260 (497, LSi i, [], SH, w) Q := by
  refine EV.stepsS rct_260 sgl_9_ok 5 (q2 := (502, LSi i, [.int (i + kI 1), .ref 100000, .ref 0], SH, w)) rfl ?_
  refine EV.sload rct_260 ((cdI_seg sgl_9_ok 502 (by decide) (by decide)).trans rfl) hX (hj 1 (by decide)) ?_
  refine EV.stepsS rct_260 sgl_9_ok 4 (q2 := (507, LSi i, [.int (i + kI 2), .ref 100000, .int (sci X i 1), .ref 0], SH, w)) rfl ?_
  refine EV.sload rct_260 ((cdI_seg sgl_9_ok 507 (by decide) (by decide)).trans rfl) hX (hj 2 (by decide)) ?_
  have hJ := J_counted (X := X) h ((sci X i 1)) ((sci X i 2))
  unfold JJ CI at hJ
  refine EV.call rct_260 ((cdI_seg sgl_9_ok 508 (by decide) (by decide)).trans rfl) rfl rfl hJ ?_
  intro v s1 w1 e1
  obtain ⟨x, rfl, rfl, e1⟩ := e1
  try unfold CI at e1
  try unfold CL at e1
  refine EV.stepsS rct_260 sgl_9_ok 5 (q2 := (516, LSi i, [.int (i + kI 1), .ref 100000, .ref 110, .int x], SH, w1)) rfl ?_
  refine EV.sload rct_260 ((cdI_seg sgl_9_ok 516 (by decide) (by decide)).trans rfl) hX (hj 1 (by decide)) ?_
  refine EV.stepsS rct_260 sgl_9_ok 4 (q2 := (521, LSi i, [.int (i + kI 2), .ref 100000, .int (sci X i 1), .ref 110, .int x], SH, w1)) rfl ?_
  refine EV.sload rct_260 ((cdI_seg sgl_9_ok 521 (by decide) (by decide)).trans rfl) hX (hj 2 (by decide)) ?_
  refine EV.call rct_260 ((cdI_seg sgl_9_ok 522 (by decide) (by decide)).trans rfl) rfl rfl e1 ?_
  intro v s1 w2 e2
  obtain ⟨y, rfl, rfl, e2, i2⟩ := e2
  subst e2
  refine EV.i_eq rct_260 ((cdI_seg sgl_9_ok 525 (by decide) (by decide)).trans rfl) (fun e => ?_) (fun e => absurd rfl e)
  exact K w2 i2
def sgl_10 : List (Option (Instr × Nat)) := [some (.aload 1, 1), some (.aload 0, 1), some (.iload 3, 1), some (.iconst 1, 1), some (.iadd, 1), some (.iaload, 1), some (.aload 0, 1), some (.iload 3, 1), some (.iconst 2, 1), some (.iadd, 1), some (.iaload, 1), some (.invokevirtual 178127, 3), none, none, some (.aload 2, 1), some (.aload 0, 1), some (.iload 3, 1), some (.iconst 1, 1), some (.iadd, 1), some (.iaload, 1), some (.aload 0, 1), some (.iload 3, 1), some (.iconst 2, 1), some (.iadd, 1), some (.iaload, 1), some (.invokevirtual 194217, 3), none, none, some (.if_icmp .eq 1293, 3), none, none, some (.iconst 0, 1), some (.ireturn, 1)]
set_option maxRecDepth 100000 in
theorem sgl_10_ok : (rc_260.drop 530).take 33 = sgl_10 := by decide +kernel
set_option maxRecDepth 100000 in
theorem lcs_10 {X : Scr} {w : Wd} {i : Int32} {Q : Int32 → Wd → Prop} (h : II w) (hX : X.1 < 4000) (hj : ∀ j : Nat, j ≤ 5 → inB (i + kI (j : Int)) X.1 = true) (K : ∀ w2, II w2 → EI X 60 260 (1293, LSi i, [], SH, w2) Q) : EI X 60 260 (530, LSi i, [], SH, w) Q := by
  refine EV.stepsS rct_260 sgl_10_ok 5 (q2 := (535, LSi i, [.int (i + kI 1), .ref 100000, .ref 0], SH, w)) rfl ?_
  refine EV.sload rct_260 ((cdI_seg sgl_10_ok 535 (by decide) (by decide)).trans rfl) hX (hj 1 (by decide)) ?_
  refine EV.stepsS rct_260 sgl_10_ok 4 (q2 := (540, LSi i, [.int (i + kI 2), .ref 100000, .int (sci X i 1), .ref 0], SH, w)) rfl ?_
  refine EV.sload rct_260 ((cdI_seg sgl_10_ok 540 (by decide) (by decide)).trans rfl) hX (hj 2 (by decide)) ?_
  have hJ := J_figureIs (X := X) h ((sci X i 1)) ((sci X i 2))
  unfold JJ CI at hJ
  refine EV.call rct_260 ((cdI_seg sgl_10_ok 541 (by decide) (by decide)).trans rfl) rfl rfl hJ ?_
  intro v s1 w1 e1
  obtain ⟨x, rfl, rfl, e1⟩ := e1
  try unfold CI at e1
  try unfold CL at e1
  refine EV.stepsS rct_260 sgl_10_ok 5 (q2 := (549, LSi i, [.int (i + kI 1), .ref 100000, .ref 110, .int x], SH, w1)) rfl ?_
  refine EV.sload rct_260 ((cdI_seg sgl_10_ok 549 (by decide) (by decide)).trans rfl) hX (hj 1 (by decide)) ?_
  refine EV.stepsS rct_260 sgl_10_ok 4 (q2 := (554, LSi i, [.int (i + kI 2), .ref 100000, .int (sci X i 1), .ref 110, .int x], SH, w1)) rfl ?_
  refine EV.sload rct_260 ((cdI_seg sgl_10_ok 554 (by decide) (by decide)).trans rfl) hX (hj 2 (by decide)) ?_
  refine EV.call rct_260 ((cdI_seg sgl_10_ok 555 (by decide) (by decide)).trans rfl) rfl rfl e1 ?_
  intro v s1 w2 e2
  obtain ⟨y, rfl, rfl, e2, i2⟩ := e2
  subst e2
  refine EV.i_eq rct_260 ((cdI_seg sgl_10_ok 558 (by decide) (by decide)).trans rfl) (fun e => ?_) (fun e => absurd rfl e)
  exact K w2 i2
def sgl_11 : List (Option (Instr × Nat)) := [some (.aload 1, 1), some (.aload 0, 1), some (.iload 3, 1), some (.iconst 1, 1), some (.iadd, 1), some (.iaload, 1), some (.aload 0, 1), some (.iload 3, 1), some (.iconst 2, 1), some (.iadd, 1), some (.iaload, 1), some (.aload 0, 1), some (.iload 3, 1), some (.iconst 3, 1), some (.iadd, 1), some (.iaload, 1), some (.invokevirtual 179128, 3), none, none, some (.aload 2, 1), some (.aload 0, 1), some (.iload 3, 1), some (.iconst 1, 1), some (.iadd, 1), some (.iaload, 1), some (.aload 0, 1), some (.iload 3, 1), some (.iconst 2, 1), some (.iadd, 1), some (.iaload, 1), some (.aload 0, 1), some (.iload 3, 1), some (.iconst 3, 1), some (.iadd, 1), some (.iaload, 1), some (.invokevirtual 195223, 3), none, none, some (.if_icmp .eq 1293, 3), none, none, some (.iconst 0, 1), some (.ireturn, 1)]
set_option maxRecDepth 100000 in
theorem sgl_11_ok : (rc_260.drop 563).take 43 = sgl_11 := by decide +kernel
set_option maxRecDepth 100000 in
theorem lcs_11 {X : Scr} {w : Wd} {i : Int32} {Q : Int32 → Wd → Prop} (h : II w) (hX : X.1 < 4000) (hj : ∀ j : Nat, j ≤ 5 → inB (i + kI (j : Int)) X.1 = true) (K : ∀ w2, II w2 → EI X 60 260 (1293, LSi i, [], SH, w2) Q) : EI X 60 260 (563, LSi i, [], SH, w) Q := by
  refine EV.stepsS rct_260 sgl_11_ok 5 (q2 := (568, LSi i, [.int (i + kI 1), .ref 100000, .ref 0], SH, w)) rfl ?_
  refine EV.sload rct_260 ((cdI_seg sgl_11_ok 568 (by decide) (by decide)).trans rfl) hX (hj 1 (by decide)) ?_
  refine EV.stepsS rct_260 sgl_11_ok 4 (q2 := (573, LSi i, [.int (i + kI 2), .ref 100000, .int (sci X i 1), .ref 0], SH, w)) rfl ?_
  refine EV.sload rct_260 ((cdI_seg sgl_11_ok 573 (by decide) (by decide)).trans rfl) hX (hj 2 (by decide)) ?_
  refine EV.stepsS rct_260 sgl_11_ok 4 (q2 := (578, LSi i, [.int (i + kI 3), .ref 100000, .int (sci X i 2), .int (sci X i 1), .ref 0], SH, w)) rfl ?_
  refine EV.sload rct_260 ((cdI_seg sgl_11_ok 578 (by decide) (by decide)).trans rfl) hX (hj 3 (by decide)) ?_
  have hJ := J_share (X := X) h ((sci X i 1)) ((sci X i 2)) ((sci X i 3))
  unfold JJ CI at hJ
  refine EV.call rct_260 ((cdI_seg sgl_11_ok 579 (by decide) (by decide)).trans rfl) rfl rfl hJ ?_
  intro v s1 w1 e1
  obtain ⟨x, rfl, rfl, e1⟩ := e1
  try unfold CI at e1
  try unfold CL at e1
  refine EV.stepsS rct_260 sgl_11_ok 5 (q2 := (587, LSi i, [.int (i + kI 1), .ref 100000, .ref 110, .int x], SH, w1)) rfl ?_
  refine EV.sload rct_260 ((cdI_seg sgl_11_ok 587 (by decide) (by decide)).trans rfl) hX (hj 1 (by decide)) ?_
  refine EV.stepsS rct_260 sgl_11_ok 4 (q2 := (592, LSi i, [.int (i + kI 2), .ref 100000, .int (sci X i 1), .ref 110, .int x], SH, w1)) rfl ?_
  refine EV.sload rct_260 ((cdI_seg sgl_11_ok 592 (by decide) (by decide)).trans rfl) hX (hj 2 (by decide)) ?_
  refine EV.stepsS rct_260 sgl_11_ok 4 (q2 := (597, LSi i, [.int (i + kI 3), .ref 100000, .int (sci X i 2), .int (sci X i 1), .ref 110, .int x], SH, w1)) rfl ?_
  refine EV.sload rct_260 ((cdI_seg sgl_11_ok 597 (by decide) (by decide)).trans rfl) hX (hj 3 (by decide)) ?_
  refine EV.call rct_260 ((cdI_seg sgl_11_ok 598 (by decide) (by decide)).trans rfl) rfl rfl e1 ?_
  intro v s1 w2 e2
  obtain ⟨y, rfl, rfl, e2, i2⟩ := e2
  subst e2
  refine EV.i_eq rct_260 ((cdI_seg sgl_11_ok 601 (by decide) (by decide)).trans rfl) (fun e => ?_) (fun e => absurd rfl e)
  exact K w2 i2
def sgl_12 : List (Option (Instr × Nat)) := [some (.aload 1, 1), some (.aload 0, 1), some (.iload 3, 1), some (.iconst 1, 1), some (.iadd, 1), some (.iaload, 1), some (.aload 0, 1), some (.iload 3, 1), some (.iconst 2, 1), some (.iadd, 1), some (.iaload, 1), some (.invokevirtual 178129, 3), none, none, some (.aload 2, 1), some (.aload 0, 1), some (.iload 3, 1), some (.iconst 1, 1), some (.iadd, 1), some (.iaload, 1), some (.aload 0, 1), some (.iload 3, 1), some (.iconst 2, 1), some (.iadd, 1), some (.iaload, 1), some (.invokevirtual 194224, 3), none, none, some (.if_icmp .eq 1293, 3), none, none, some (.iconst 0, 1), some (.ireturn, 1)]
set_option maxRecDepth 100000 in
theorem sgl_12_ok : (rc_260.drop 606).take 33 = sgl_12 := by decide +kernel
set_option maxRecDepth 100000 in
theorem lcs_12 {X : Scr} {w : Wd} {i : Int32} {Q : Int32 → Wd → Prop} (h : II w) (hX : X.1 < 4000) (hj : ∀ j : Nat, j ≤ 5 → inB (i + kI (j : Int)) X.1 = true) (K : ∀ w2, II w2 → EI X 60 260 (1293, LSi i, [], SH, w2) Q) : EI X 60 260 (606, LSi i, [], SH, w) Q := by
  refine EV.stepsS rct_260 sgl_12_ok 5 (q2 := (611, LSi i, [.int (i + kI 1), .ref 100000, .ref 0], SH, w)) rfl ?_
  refine EV.sload rct_260 ((cdI_seg sgl_12_ok 611 (by decide) (by decide)).trans rfl) hX (hj 1 (by decide)) ?_
  refine EV.stepsS rct_260 sgl_12_ok 4 (q2 := (616, LSi i, [.int (i + kI 2), .ref 100000, .int (sci X i 1), .ref 0], SH, w)) rfl ?_
  refine EV.sload rct_260 ((cdI_seg sgl_12_ok 616 (by decide) (by decide)).trans rfl) hX (hj 2 (by decide)) ?_
  have hJ := J_loses (X := X) h ((sci X i 1)) ((sci X i 2))
  unfold JJ CI at hJ
  refine EV.call rct_260 ((cdI_seg sgl_12_ok 617 (by decide) (by decide)).trans rfl) rfl rfl hJ ?_
  intro v s1 w1 e1
  obtain ⟨x, rfl, rfl, e1⟩ := e1
  try unfold CI at e1
  try unfold CL at e1
  refine EV.stepsS rct_260 sgl_12_ok 5 (q2 := (625, LSi i, [.int (i + kI 1), .ref 100000, .ref 110, .int x], SH, w1)) rfl ?_
  refine EV.sload rct_260 ((cdI_seg sgl_12_ok 625 (by decide) (by decide)).trans rfl) hX (hj 1 (by decide)) ?_
  refine EV.stepsS rct_260 sgl_12_ok 4 (q2 := (630, LSi i, [.int (i + kI 2), .ref 100000, .int (sci X i 1), .ref 110, .int x], SH, w1)) rfl ?_
  refine EV.sload rct_260 ((cdI_seg sgl_12_ok 630 (by decide) (by decide)).trans rfl) hX (hj 2 (by decide)) ?_
  refine EV.call rct_260 ((cdI_seg sgl_12_ok 631 (by decide) (by decide)).trans rfl) rfl rfl e1 ?_
  intro v s1 w2 e2
  obtain ⟨y, rfl, rfl, e2, i2⟩ := e2
  subst e2
  refine EV.i_eq rct_260 ((cdI_seg sgl_12_ok 634 (by decide) (by decide)).trans rfl) (fun e => ?_) (fun e => absurd rfl e)
  exact K w2 i2
def sgl_13 : List (Option (Instr × Nat)) := [some (.aload 1, 1), some (.aload 0, 1), some (.iload 3, 1), some (.iconst 1, 1), some (.iadd, 1), some (.iaload, 1), some (.aload 0, 1), some (.iload 3, 1), some (.iconst 2, 1), some (.iadd, 1), some (.iaload, 1), some (.invokevirtual 178130, 3), none, none, some (.aload 2, 1), some (.aload 0, 1), some (.iload 3, 1), some (.iconst 1, 1), some (.iadd, 1), some (.iaload, 1), some (.aload 0, 1), some (.iload 3, 1), some (.iconst 2, 1), some (.iadd, 1), some (.iaload, 1), some (.invokevirtual 194225, 3), none, none, some (.if_icmp .eq 1293, 3), none, none, some (.iconst 0, 1), some (.ireturn, 1)]
set_option maxRecDepth 100000 in
theorem sgl_13_ok : (rc_260.drop 639).take 33 = sgl_13 := by decide +kernel
set_option maxRecDepth 100000 in
theorem lcs_13 {X : Scr} {w : Wd} {i : Int32} {Q : Int32 → Wd → Prop} (h : II w) (hX : X.1 < 4000) (hj : ∀ j : Nat, j ≤ 5 → inB (i + kI (j : Int)) X.1 = true) (K : ∀ w2, II w2 → EI X 60 260 (1293, LSi i, [], SH, w2) Q) : EI X 60 260 (639, LSi i, [], SH, w) Q := by
  refine EV.stepsS rct_260 sgl_13_ok 5 (q2 := (644, LSi i, [.int (i + kI 1), .ref 100000, .ref 0], SH, w)) rfl ?_
  refine EV.sload rct_260 ((cdI_seg sgl_13_ok 644 (by decide) (by decide)).trans rfl) hX (hj 1 (by decide)) ?_
  refine EV.stepsS rct_260 sgl_13_ok 4 (q2 := (649, LSi i, [.int (i + kI 2), .ref 100000, .int (sci X i 1), .ref 0], SH, w)) rfl ?_
  refine EV.sload rct_260 ((cdI_seg sgl_13_ok 649 (by decide) (by decide)).trans rfl) hX (hj 2 (by decide)) ?_
  have hJ := J_breaks (X := X) h ((sci X i 1)) ((sci X i 2))
  unfold JJ CI at hJ
  refine EV.call rct_260 ((cdI_seg sgl_13_ok 650 (by decide) (by decide)).trans rfl) rfl rfl hJ ?_
  intro v s1 w1 e1
  obtain ⟨x, rfl, rfl, e1⟩ := e1
  try unfold CI at e1
  try unfold CL at e1
  refine EV.stepsS rct_260 sgl_13_ok 5 (q2 := (658, LSi i, [.int (i + kI 1), .ref 100000, .ref 110, .int x], SH, w1)) rfl ?_
  refine EV.sload rct_260 ((cdI_seg sgl_13_ok 658 (by decide) (by decide)).trans rfl) hX (hj 1 (by decide)) ?_
  refine EV.stepsS rct_260 sgl_13_ok 4 (q2 := (663, LSi i, [.int (i + kI 2), .ref 100000, .int (sci X i 1), .ref 110, .int x], SH, w1)) rfl ?_
  refine EV.sload rct_260 ((cdI_seg sgl_13_ok 663 (by decide) (by decide)).trans rfl) hX (hj 2 (by decide)) ?_
  refine EV.call rct_260 ((cdI_seg sgl_13_ok 664 (by decide) (by decide)).trans rfl) rfl rfl e1 ?_
  intro v s1 w2 e2
  obtain ⟨y, rfl, rfl, e2, i2⟩ := e2
  subst e2
  refine EV.i_eq rct_260 ((cdI_seg sgl_13_ok 667 (by decide) (by decide)).trans rfl) (fun e => ?_) (fun e => absurd rfl e)
  exact K w2 i2
def sgl_14 : List (Option (Instr × Nat)) := [some (.aload 1, 1), some (.aload 0, 1), some (.iload 3, 1), some (.iconst 1, 1), some (.iadd, 1), some (.iaload, 1), some (.invokevirtual 177131, 3), none, none, some (.aload 2, 1), some (.aload 0, 1), some (.iload 3, 1), some (.iconst 1, 1), some (.iadd, 1), some (.iaload, 1), some (.invokevirtual 193227, 3), none, none, some (.if_icmp .eq 1293, 3), none, none, some (.iconst 0, 1), some (.ireturn, 1)]
set_option maxRecDepth 100000 in
theorem sgl_14_ok : (rc_260.drop 672).take 23 = sgl_14 := by decide +kernel
set_option maxRecDepth 100000 in
theorem lcs_14 {X : Scr} {w : Wd} {i : Int32} {Q : Int32 → Wd → Prop} (h : II w) (hX : X.1 < 4000) (hj : ∀ j : Nat, j ≤ 5 → inB (i + kI (j : Int)) X.1 = true) (K : ∀ w2, II w2 → EI X 60 260 (1293, LSi i, [], SH, w2) Q) : EI X 60 260 (672, LSi i, [], SH, w) Q := by
  refine EV.stepsS rct_260 sgl_14_ok 5 (q2 := (677, LSi i, [.int (i + kI 1), .ref 100000, .ref 0], SH, w)) rfl ?_
  refine EV.sload rct_260 ((cdI_seg sgl_14_ok 677 (by decide) (by decide)).trans rfl) hX (hj 1 (by decide)) ?_
  have hJ := J_regions (X := X) h ((sci X i 1))
  unfold JJ CI at hJ
  refine EV.call rct_260 ((cdI_seg sgl_14_ok 678 (by decide) (by decide)).trans rfl) rfl rfl hJ ?_
  intro v s1 w1 e1
  obtain ⟨x, rfl, rfl, e1⟩ := e1
  try unfold CI at e1
  try unfold CL at e1
  refine EV.stepsS rct_260 sgl_14_ok 5 (q2 := (686, LSi i, [.int (i + kI 1), .ref 100000, .ref 110, .int x], SH, w1)) rfl ?_
  refine EV.sload rct_260 ((cdI_seg sgl_14_ok 686 (by decide) (by decide)).trans rfl) hX (hj 1 (by decide)) ?_
  refine EV.call rct_260 ((cdI_seg sgl_14_ok 687 (by decide) (by decide)).trans rfl) rfl rfl e1 ?_
  intro v s1 w2 e2
  obtain ⟨y, rfl, rfl, e2, i2⟩ := e2
  subst e2
  refine EV.i_eq rct_260 ((cdI_seg sgl_14_ok 690 (by decide) (by decide)).trans rfl) (fun e => ?_) (fun e => absurd rfl e)
  exact K w2 i2
def sgl_15 : List (Option (Instr × Nat)) := [some (.aload 1, 1), some (.aload 0, 1), some (.iload 3, 1), some (.iconst 1, 1), some (.iadd, 1), some (.iaload, 1), some (.aload 0, 1), some (.iload 3, 1), some (.iconst 2, 1), some (.iadd, 1), some (.iaload, 1), some (.aload 0, 1), some (.iload 3, 1), some (.iconst 3, 1), some (.iadd, 1), some (.iaload, 1), some (.aload 0, 1), some (.iload 3, 1), some (.iconst 4, 1), some (.iadd, 1), some (.iaload, 1), some (.invokevirtual 180132, 3), none, none, some (.aload 2, 1), some (.aload 0, 1), some (.iload 3, 1), some (.iconst 1, 1), some (.iadd, 1), some (.iaload, 1), some (.aload 0, 1), some (.iload 3, 1), some (.iconst 2, 1), some (.iadd, 1), some (.iaload, 1), some (.aload 0, 1), some (.iload 3, 1), some (.iconst 3, 1), some (.iadd, 1), some (.iaload, 1), some (.aload 0, 1), some (.iload 3, 1), some (.iconst 4, 1), some (.iadd, 1), some (.iaload, 1), some (.invokevirtual 196231, 3), none, none, some (.if_icmp .eq 1293, 3), none, none, some (.iconst 0, 1), some (.ireturn, 1)]
set_option maxRecDepth 100000 in
theorem sgl_15_ok : (rc_260.drop 695).take 53 = sgl_15 := by decide +kernel
set_option maxRecDepth 100000 in
theorem lcs_15 {X : Scr} {w : Wd} {i : Int32} {Q : Int32 → Wd → Prop} (h : II w) (hX : X.1 < 4000) (hj : ∀ j : Nat, j ≤ 5 → inB (i + kI (j : Int)) X.1 = true) (K : ∀ w2, II w2 → EI X 60 260 (1293, LSi i, [], SH, w2) Q) : EI X 60 260 (695, LSi i, [], SH, w) Q := by
  refine EV.stepsS rct_260 sgl_15_ok 5 (q2 := (700, LSi i, [.int (i + kI 1), .ref 100000, .ref 0], SH, w)) rfl ?_
  refine EV.sload rct_260 ((cdI_seg sgl_15_ok 700 (by decide) (by decide)).trans rfl) hX (hj 1 (by decide)) ?_
  refine EV.stepsS rct_260 sgl_15_ok 4 (q2 := (705, LSi i, [.int (i + kI 2), .ref 100000, .int (sci X i 1), .ref 0], SH, w)) rfl ?_
  refine EV.sload rct_260 ((cdI_seg sgl_15_ok 705 (by decide) (by decide)).trans rfl) hX (hj 2 (by decide)) ?_
  refine EV.stepsS rct_260 sgl_15_ok 4 (q2 := (710, LSi i, [.int (i + kI 3), .ref 100000, .int (sci X i 2), .int (sci X i 1), .ref 0], SH, w)) rfl ?_
  refine EV.sload rct_260 ((cdI_seg sgl_15_ok 710 (by decide) (by decide)).trans rfl) hX (hj 3 (by decide)) ?_
  refine EV.stepsS rct_260 sgl_15_ok 4 (q2 := (715, LSi i, [.int (i + kI 4), .ref 100000, .int (sci X i 3), .int (sci X i 2), .int (sci X i 1), .ref 0], SH, w)) rfl ?_
  refine EV.sload rct_260 ((cdI_seg sgl_15_ok 715 (by decide) (by decide)).trans rfl) hX (hj 4 (by decide)) ?_
  have hJ := J_table (X := X) h ((sci X i 1)) ((sci X i 2)) ((sci X i 3)) ((sci X i 4))
  unfold JJ CI at hJ
  refine EV.call rct_260 ((cdI_seg sgl_15_ok 716 (by decide) (by decide)).trans rfl) rfl rfl hJ ?_
  intro v s1 w1 e1
  obtain ⟨x, rfl, rfl, e1⟩ := e1
  try unfold CI at e1
  try unfold CL at e1
  refine EV.stepsS rct_260 sgl_15_ok 5 (q2 := (724, LSi i, [.int (i + kI 1), .ref 100000, .ref 110, .int x], SH, w1)) rfl ?_
  refine EV.sload rct_260 ((cdI_seg sgl_15_ok 724 (by decide) (by decide)).trans rfl) hX (hj 1 (by decide)) ?_
  refine EV.stepsS rct_260 sgl_15_ok 4 (q2 := (729, LSi i, [.int (i + kI 2), .ref 100000, .int (sci X i 1), .ref 110, .int x], SH, w1)) rfl ?_
  refine EV.sload rct_260 ((cdI_seg sgl_15_ok 729 (by decide) (by decide)).trans rfl) hX (hj 2 (by decide)) ?_
  refine EV.stepsS rct_260 sgl_15_ok 4 (q2 := (734, LSi i, [.int (i + kI 3), .ref 100000, .int (sci X i 2), .int (sci X i 1), .ref 110, .int x], SH, w1)) rfl ?_
  refine EV.sload rct_260 ((cdI_seg sgl_15_ok 734 (by decide) (by decide)).trans rfl) hX (hj 3 (by decide)) ?_
  refine EV.stepsS rct_260 sgl_15_ok 4 (q2 := (739, LSi i, [.int (i + kI 4), .ref 100000, .int (sci X i 3), .int (sci X i 2), .int (sci X i 1), .ref 110, .int x], SH, w1)) rfl ?_
  refine EV.sload rct_260 ((cdI_seg sgl_15_ok 739 (by decide) (by decide)).trans rfl) hX (hj 4 (by decide)) ?_
  refine EV.call rct_260 ((cdI_seg sgl_15_ok 740 (by decide) (by decide)).trans rfl) rfl rfl e1 ?_
  intro v s1 w2 e2
  obtain ⟨y, rfl, rfl, e2, i2⟩ := e2
  subst e2
  refine EV.i_eq rct_260 ((cdI_seg sgl_15_ok 743 (by decide) (by decide)).trans rfl) (fun e => ?_) (fun e => absurd rfl e)
  exact K w2 i2
def sgl_16 : List (Option (Instr × Nat)) := [some (.aload 1, 1), some (.aload 0, 1), some (.iload 3, 1), some (.iconst 1, 1), some (.iadd, 1), some (.iaload, 1), some (.aload 0, 1), some (.iload 3, 1), some (.iconst 2, 1), some (.iadd, 1), some (.iaload, 1), some (.invokevirtual 178133, 3), none, none, some (.aload 2, 1), some (.aload 0, 1), some (.iload 3, 1), some (.iconst 1, 1), some (.iadd, 1), some (.iaload, 1), some (.aload 0, 1), some (.iload 3, 1), some (.iconst 2, 1), some (.iadd, 1), some (.iaload, 1), some (.invokevirtual 194233, 3), none, none, some (.if_icmp .eq 1293, 3), none, none, some (.iconst 0, 1), some (.ireturn, 1)]
set_option maxRecDepth 100000 in
theorem sgl_16_ok : (rc_260.drop 748).take 33 = sgl_16 := by decide +kernel
set_option maxRecDepth 100000 in
theorem lcs_16 {X : Scr} {w : Wd} {i : Int32} {Q : Int32 → Wd → Prop} (h : II w) (hX : X.1 < 4000) (hj : ∀ j : Nat, j ≤ 5 → inB (i + kI (j : Int)) X.1 = true) (K : ∀ w2, II w2 → EI X 60 260 (1293, LSi i, [], SH, w2) Q) : EI X 60 260 (748, LSi i, [], SH, w) Q := by
  refine EV.stepsS rct_260 sgl_16_ok 5 (q2 := (753, LSi i, [.int (i + kI 1), .ref 100000, .ref 0], SH, w)) rfl ?_
  refine EV.sload rct_260 ((cdI_seg sgl_16_ok 753 (by decide) (by decide)).trans rfl) hX (hj 1 (by decide)) ?_
  refine EV.stepsS rct_260 sgl_16_ok 4 (q2 := (758, LSi i, [.int (i + kI 2), .ref 100000, .int (sci X i 1), .ref 0], SH, w)) rfl ?_
  refine EV.sload rct_260 ((cdI_seg sgl_16_ok 758 (by decide) (by decide)).trans rfl) hX (hj 2 (by decide)) ?_
  have hJ := J_bled (X := X) h ((sci X i 1)) ((sci X i 2))
  unfold JJ CI at hJ
  refine EV.call rct_260 ((cdI_seg sgl_16_ok 759 (by decide) (by decide)).trans rfl) rfl rfl hJ ?_
  intro v s1 w1 e1
  obtain ⟨x, rfl, rfl, e1⟩ := e1
  try unfold CI at e1
  try unfold CL at e1
  refine EV.stepsS rct_260 sgl_16_ok 5 (q2 := (767, LSi i, [.int (i + kI 1), .ref 100000, .ref 110, .int x], SH, w1)) rfl ?_
  refine EV.sload rct_260 ((cdI_seg sgl_16_ok 767 (by decide) (by decide)).trans rfl) hX (hj 1 (by decide)) ?_
  refine EV.stepsS rct_260 sgl_16_ok 4 (q2 := (772, LSi i, [.int (i + kI 2), .ref 100000, .int (sci X i 1), .ref 110, .int x], SH, w1)) rfl ?_
  refine EV.sload rct_260 ((cdI_seg sgl_16_ok 772 (by decide) (by decide)).trans rfl) hX (hj 2 (by decide)) ?_
  refine EV.call rct_260 ((cdI_seg sgl_16_ok 773 (by decide) (by decide)).trans rfl) rfl rfl e1 ?_
  intro v s1 w2 e2
  obtain ⟨y, rfl, rfl, e2, i2⟩ := e2
  subst e2
  refine EV.i_eq rct_260 ((cdI_seg sgl_16_ok 776 (by decide) (by decide)).trans rfl) (fun e => ?_) (fun e => absurd rfl e)
  exact K w2 i2
def sgl_17 : List (Option (Instr × Nat)) := [some (.aload 1, 1), some (.aload 0, 1), some (.iload 3, 1), some (.iconst 1, 1), some (.iadd, 1), some (.iaload, 1), some (.invokevirtual 177134, 3), none, none, some (.aload 2, 1), some (.aload 0, 1), some (.iload 3, 1), some (.iconst 1, 1), some (.iadd, 1), some (.iaload, 1), some (.invokevirtual 193234, 3), none, none, some (.if_icmp .eq 1293, 3), none, none, some (.iconst 0, 1), some (.ireturn, 1)]
set_option maxRecDepth 100000 in
theorem sgl_17_ok : (rc_260.drop 781).take 23 = sgl_17 := by decide +kernel
set_option maxRecDepth 100000 in
theorem lcs_17 {X : Scr} {w : Wd} {i : Int32} {Q : Int32 → Wd → Prop} (h : II w) (hX : X.1 < 4000) (hj : ∀ j : Nat, j ≤ 5 → inB (i + kI (j : Int)) X.1 = true) (K : ∀ w2, II w2 → EI X 60 260 (1293, LSi i, [], SH, w2) Q) : EI X 60 260 (781, LSi i, [], SH, w) Q := by
  refine EV.stepsS rct_260 sgl_17_ok 5 (q2 := (786, LSi i, [.int (i + kI 1), .ref 100000, .ref 0], SH, w)) rfl ?_
  refine EV.sload rct_260 ((cdI_seg sgl_17_ok 786 (by decide) (by decide)).trans rfl) hX (hj 1 (by decide)) ?_
  have hJ := J_canComeOut (X := X) h ((sci X i 1))
  unfold JJ CI at hJ
  refine EV.call rct_260 ((cdI_seg sgl_17_ok 787 (by decide) (by decide)).trans rfl) rfl rfl hJ ?_
  intro v s1 w1 e1
  obtain ⟨x, rfl, rfl, e1⟩ := e1
  try unfold CI at e1
  try unfold CL at e1
  refine EV.stepsS rct_260 sgl_17_ok 5 (q2 := (795, LSi i, [.int (i + kI 1), .ref 100000, .ref 110, .int x], SH, w1)) rfl ?_
  refine EV.sload rct_260 ((cdI_seg sgl_17_ok 795 (by decide) (by decide)).trans rfl) hX (hj 1 (by decide)) ?_
  refine EV.call rct_260 ((cdI_seg sgl_17_ok 796 (by decide) (by decide)).trans rfl) rfl rfl e1 ?_
  intro v s1 w2 e2
  obtain ⟨y, rfl, rfl, e2, i2⟩ := e2
  subst e2
  refine EV.i_eq rct_260 ((cdI_seg sgl_17_ok 799 (by decide) (by decide)).trans rfl) (fun e => ?_) (fun e => absurd rfl e)
  exact K w2 i2
def sgl_18 : List (Option (Instr × Nat)) := [some (.aload 1, 1), some (.aload 0, 1), some (.iload 3, 1), some (.iconst 1, 1), some (.iadd, 1), some (.iaload, 1), some (.aload 0, 1), some (.iload 3, 1), some (.iconst 2, 1), some (.iadd, 1), some (.iaload, 1), some (.aload 0, 1), some (.iload 3, 1), some (.iconst 3, 1), some (.iadd, 1), some (.iaload, 1), some (.aload 0, 1), some (.iload 3, 1), some (.iconst 4, 1), some (.iadd, 1), some (.iaload, 1), some (.aload 0, 1), some (.iload 3, 1), some (.iconst 5, 1), some (.iadd, 1), some (.iaload, 1), some (.invokevirtual 181135, 3), none, none, some (.aload 2, 1), some (.aload 0, 1), some (.iload 3, 1), some (.iconst 1, 1), some (.iadd, 1), some (.iaload, 1), some (.aload 0, 1), some (.iload 3, 1), some (.iconst 2, 1), some (.iadd, 1), some (.iaload, 1), some (.aload 0, 1), some (.iload 3, 1), some (.iconst 3, 1), some (.iadd, 1), some (.iaload, 1), some (.aload 0, 1), some (.iload 3, 1), some (.iconst 4, 1), some (.iadd, 1), some (.iaload, 1), some (.aload 0, 1), some (.iload 3, 1), some (.iconst 5, 1), some (.iadd, 1), some (.iaload, 1), some (.invokevirtual 197235, 3), none, none, some (.if_icmp .eq 1293, 3), none, none, some (.iconst 0, 1), some (.ireturn, 1)]
set_option maxRecDepth 100000 in
theorem sgl_18_ok : (rc_260.drop 804).take 63 = sgl_18 := by decide +kernel
set_option maxRecDepth 100000 in
theorem lcs_18 {X : Scr} {w : Wd} {i : Int32} {Q : Int32 → Wd → Prop} (h : II w) (hX : X.1 < 4000) (hj : ∀ j : Nat, j ≤ 5 → inB (i + kI (j : Int)) X.1 = true) (K : ∀ w2, II w2 → EI X 60 260 (1293, LSi i, [], SH, w2) Q) : EI X 60 260 (804, LSi i, [], SH, w) Q := by
  refine EV.stepsS rct_260 sgl_18_ok 5 (q2 := (809, LSi i, [.int (i + kI 1), .ref 100000, .ref 0], SH, w)) rfl ?_
  refine EV.sload rct_260 ((cdI_seg sgl_18_ok 809 (by decide) (by decide)).trans rfl) hX (hj 1 (by decide)) ?_
  refine EV.stepsS rct_260 sgl_18_ok 4 (q2 := (814, LSi i, [.int (i + kI 2), .ref 100000, .int (sci X i 1), .ref 0], SH, w)) rfl ?_
  refine EV.sload rct_260 ((cdI_seg sgl_18_ok 814 (by decide) (by decide)).trans rfl) hX (hj 2 (by decide)) ?_
  refine EV.stepsS rct_260 sgl_18_ok 4 (q2 := (819, LSi i, [.int (i + kI 3), .ref 100000, .int (sci X i 2), .int (sci X i 1), .ref 0], SH, w)) rfl ?_
  refine EV.sload rct_260 ((cdI_seg sgl_18_ok 819 (by decide) (by decide)).trans rfl) hX (hj 3 (by decide)) ?_
  refine EV.stepsS rct_260 sgl_18_ok 4 (q2 := (824, LSi i, [.int (i + kI 4), .ref 100000, .int (sci X i 3), .int (sci X i 2), .int (sci X i 1), .ref 0], SH, w)) rfl ?_
  refine EV.sload rct_260 ((cdI_seg sgl_18_ok 824 (by decide) (by decide)).trans rfl) hX (hj 4 (by decide)) ?_
  refine EV.stepsS rct_260 sgl_18_ok 4 (q2 := (829, LSi i, [.int (i + kI 5), .ref 100000, .int (sci X i 4), .int (sci X i 3), .int (sci X i 2), .int (sci X i 1), .ref 0], SH, w)) rfl ?_
  refine EV.sload rct_260 ((cdI_seg sgl_18_ok 829 (by decide) (by decide)).trans rfl) hX (hj 5 (by decide)) ?_
  have hJ := J_record (X := X) h ((sci X i 1)) ((sci X i 2)) ((sci X i 3)) ((sci X i 4)) ((sci X i 5))
  unfold JJ CI at hJ
  refine EV.call rct_260 ((cdI_seg sgl_18_ok 830 (by decide) (by decide)).trans rfl) rfl rfl hJ ?_
  intro v s1 w1 e1
  obtain ⟨x, rfl, rfl, e1⟩ := e1
  try unfold CI at e1
  try unfold CL at e1
  refine EV.stepsS rct_260 sgl_18_ok 5 (q2 := (838, LSi i, [.int (i + kI 1), .ref 100000, .ref 110, .int x], SH, w1)) rfl ?_
  refine EV.sload rct_260 ((cdI_seg sgl_18_ok 838 (by decide) (by decide)).trans rfl) hX (hj 1 (by decide)) ?_
  refine EV.stepsS rct_260 sgl_18_ok 4 (q2 := (843, LSi i, [.int (i + kI 2), .ref 100000, .int (sci X i 1), .ref 110, .int x], SH, w1)) rfl ?_
  refine EV.sload rct_260 ((cdI_seg sgl_18_ok 843 (by decide) (by decide)).trans rfl) hX (hj 2 (by decide)) ?_
  refine EV.stepsS rct_260 sgl_18_ok 4 (q2 := (848, LSi i, [.int (i + kI 3), .ref 100000, .int (sci X i 2), .int (sci X i 1), .ref 110, .int x], SH, w1)) rfl ?_
  refine EV.sload rct_260 ((cdI_seg sgl_18_ok 848 (by decide) (by decide)).trans rfl) hX (hj 3 (by decide)) ?_
  refine EV.stepsS rct_260 sgl_18_ok 4 (q2 := (853, LSi i, [.int (i + kI 4), .ref 100000, .int (sci X i 3), .int (sci X i 2), .int (sci X i 1), .ref 110, .int x], SH, w1)) rfl ?_
  refine EV.sload rct_260 ((cdI_seg sgl_18_ok 853 (by decide) (by decide)).trans rfl) hX (hj 4 (by decide)) ?_
  refine EV.stepsS rct_260 sgl_18_ok 4 (q2 := (858, LSi i, [.int (i + kI 5), .ref 100000, .int (sci X i 4), .int (sci X i 3), .int (sci X i 2), .int (sci X i 1), .ref 110, .int x], SH, w1)) rfl ?_
  refine EV.sload rct_260 ((cdI_seg sgl_18_ok 858 (by decide) (by decide)).trans rfl) hX (hj 5 (by decide)) ?_
  refine EV.call rct_260 ((cdI_seg sgl_18_ok 859 (by decide) (by decide)).trans rfl) rfl rfl e1 ?_
  intro v s1 w2 e2
  obtain ⟨y, rfl, rfl, e2, i2⟩ := e2
  subst e2
  refine EV.i_eq rct_260 ((cdI_seg sgl_18_ok 862 (by decide) (by decide)).trans rfl) (fun e => ?_) (fun e => absurd rfl e)
  exact K w2 i2
def sgl_19 : List (Option (Instr × Nat)) := [some (.aload 1, 1), some (.aload 0, 1), some (.iload 3, 1), some (.iconst 1, 1), some (.iadd, 1), some (.iaload, 1), some (.aload 0, 1), some (.iload 3, 1), some (.iconst 2, 1), some (.iadd, 1), some (.iaload, 1), some (.invokevirtual 178136, 3), none, none, some (.aload 2, 1), some (.aload 0, 1), some (.iload 3, 1), some (.iconst 1, 1), some (.iadd, 1), some (.iaload, 1), some (.aload 0, 1), some (.iload 3, 1), some (.iconst 2, 1), some (.iadd, 1), some (.iaload, 1), some (.invokevirtual 194238, 3), none, none, some (.if_icmp .eq 1293, 3), none, none, some (.iconst 0, 1), some (.ireturn, 1)]
set_option maxRecDepth 100000 in
theorem sgl_19_ok : (rc_260.drop 867).take 33 = sgl_19 := by decide +kernel
set_option maxRecDepth 100000 in
theorem lcs_19 {X : Scr} {w : Wd} {i : Int32} {Q : Int32 → Wd → Prop} (h : II w) (hX : X.1 < 4000) (hj : ∀ j : Nat, j ≤ 5 → inB (i + kI (j : Int)) X.1 = true) (K : ∀ w2, II w2 → EI X 60 260 (1293, LSi i, [], SH, w2) Q) : EI X 60 260 (867, LSi i, [], SH, w) Q := by
  refine EV.stepsS rct_260 sgl_19_ok 5 (q2 := (872, LSi i, [.int (i + kI 1), .ref 100000, .ref 0], SH, w)) rfl ?_
  refine EV.sload rct_260 ((cdI_seg sgl_19_ok 872 (by decide) (by decide)).trans rfl) hX (hj 1 (by decide)) ?_
  refine EV.stepsS rct_260 sgl_19_ok 4 (q2 := (877, LSi i, [.int (i + kI 2), .ref 100000, .int (sci X i 1), .ref 0], SH, w)) rfl ?_
  refine EV.sload rct_260 ((cdI_seg sgl_19_ok 877 (by decide) (by decide)).trans rfl) hX (hj 2 (by decide)) ?_
  have hJ := J_definition (X := X) h ((sci X i 1)) ((sci X i 2))
  unfold JJ CI at hJ
  refine EV.call rct_260 ((cdI_seg sgl_19_ok 878 (by decide) (by decide)).trans rfl) rfl rfl hJ ?_
  intro v s1 w1 e1
  obtain ⟨x, rfl, rfl, e1⟩ := e1
  try unfold CI at e1
  try unfold CL at e1
  refine EV.stepsS rct_260 sgl_19_ok 5 (q2 := (886, LSi i, [.int (i + kI 1), .ref 100000, .ref 110, .int x], SH, w1)) rfl ?_
  refine EV.sload rct_260 ((cdI_seg sgl_19_ok 886 (by decide) (by decide)).trans rfl) hX (hj 1 (by decide)) ?_
  refine EV.stepsS rct_260 sgl_19_ok 4 (q2 := (891, LSi i, [.int (i + kI 2), .ref 100000, .int (sci X i 1), .ref 110, .int x], SH, w1)) rfl ?_
  refine EV.sload rct_260 ((cdI_seg sgl_19_ok 891 (by decide) (by decide)).trans rfl) hX (hj 2 (by decide)) ?_
  refine EV.call rct_260 ((cdI_seg sgl_19_ok 892 (by decide) (by decide)).trans rfl) rfl rfl e1 ?_
  intro v s1 w2 e2
  obtain ⟨y, rfl, rfl, e2, i2⟩ := e2
  subst e2
  refine EV.i_eq rct_260 ((cdI_seg sgl_19_ok 895 (by decide) (by decide)).trans rfl) (fun e => ?_) (fun e => absurd rfl e)
  exact K w2 i2
def sgl_20 : List (Option (Instr × Nat)) := [some (.aload 1, 1), some (.aload 0, 1), some (.iload 3, 1), some (.iconst 1, 1), some (.iadd, 1), some (.iaload, 1), some (.invokevirtual 177137, 3), none, none, some (.aload 2, 1), some (.aload 0, 1), some (.iload 3, 1), some (.iconst 1, 1), some (.iadd, 1), some (.iaload, 1), some (.invokevirtual 193239, 3), none, none, some (.if_icmp .eq 1293, 3), none, none, some (.iconst 0, 1), some (.ireturn, 1)]
set_option maxRecDepth 100000 in
theorem sgl_20_ok : (rc_260.drop 900).take 23 = sgl_20 := by decide +kernel
set_option maxRecDepth 100000 in
theorem lcs_20 {X : Scr} {w : Wd} {i : Int32} {Q : Int32 → Wd → Prop} (h : II w) (hX : X.1 < 4000) (hj : ∀ j : Nat, j ≤ 5 → inB (i + kI (j : Int)) X.1 = true) (K : ∀ w2, II w2 → EI X 60 260 (1293, LSi i, [], SH, w2) Q) : EI X 60 260 (900, LSi i, [], SH, w) Q := by
  refine EV.stepsS rct_260 sgl_20_ok 5 (q2 := (905, LSi i, [.int (i + kI 1), .ref 100000, .ref 0], SH, w)) rfl ?_
  refine EV.sload rct_260 ((cdI_seg sgl_20_ok 905 (by decide) (by decide)).trans rfl) hX (hj 1 (by decide)) ?_
  have hJ := J_fallsUnder (X := X) h ((sci X i 1))
  unfold JJ CI at hJ
  refine EV.call rct_260 ((cdI_seg sgl_20_ok 906 (by decide) (by decide)).trans rfl) rfl rfl hJ ?_
  intro v s1 w1 e1
  obtain ⟨x, rfl, rfl, e1⟩ := e1
  try unfold CI at e1
  try unfold CL at e1
  refine EV.stepsS rct_260 sgl_20_ok 5 (q2 := (914, LSi i, [.int (i + kI 1), .ref 100000, .ref 110, .int x], SH, w1)) rfl ?_
  refine EV.sload rct_260 ((cdI_seg sgl_20_ok 914 (by decide) (by decide)).trans rfl) hX (hj 1 (by decide)) ?_
  refine EV.call rct_260 ((cdI_seg sgl_20_ok 915 (by decide) (by decide)).trans rfl) rfl rfl e1 ?_
  intro v s1 w2 e2
  obtain ⟨y, rfl, rfl, e2, i2⟩ := e2
  subst e2
  refine EV.i_eq rct_260 ((cdI_seg sgl_20_ok 918 (by decide) (by decide)).trans rfl) (fun e => ?_) (fun e => absurd rfl e)
  exact K w2 i2
def sgl_21 : List (Option (Instr × Nat)) := [some (.aload 1, 1), some (.aload 0, 1), some (.iload 3, 1), some (.iconst 1, 1), some (.iadd, 1), some (.iaload, 1), some (.aload 0, 1), some (.iload 3, 1), some (.iconst 2, 1), some (.iadd, 1), some (.iaload, 1), some (.invokevirtual 178138, 3), none, none, some (.aload 2, 1), some (.aload 0, 1), some (.iload 3, 1), some (.iconst 1, 1), some (.iadd, 1), some (.iaload, 1), some (.aload 0, 1), some (.iload 3, 1), some (.iconst 2, 1), some (.iadd, 1), some (.iaload, 1), some (.invokevirtual 194240, 3), none, none, some (.if_icmp .eq 1293, 3), none, none, some (.iconst 0, 1), some (.ireturn, 1)]
set_option maxRecDepth 100000 in
theorem sgl_21_ok : (rc_260.drop 923).take 33 = sgl_21 := by decide +kernel
set_option maxRecDepth 100000 in
theorem lcs_21 {X : Scr} {w : Wd} {i : Int32} {Q : Int32 → Wd → Prop} (h : II w) (hX : X.1 < 4000) (hj : ∀ j : Nat, j ≤ 5 → inB (i + kI (j : Int)) X.1 = true) (K : ∀ w2, II w2 → EI X 60 260 (1293, LSi i, [], SH, w2) Q) : EI X 60 260 (923, LSi i, [], SH, w) Q := by
  refine EV.stepsS rct_260 sgl_21_ok 5 (q2 := (928, LSi i, [.int (i + kI 1), .ref 100000, .ref 0], SH, w)) rfl ?_
  refine EV.sload rct_260 ((cdI_seg sgl_21_ok 928 (by decide) (by decide)).trans rfl) hX (hj 1 (by decide)) ?_
  refine EV.stepsS rct_260 sgl_21_ok 4 (q2 := (933, LSi i, [.int (i + kI 2), .ref 100000, .int (sci X i 1), .ref 0], SH, w)) rfl ?_
  refine EV.sload rct_260 ((cdI_seg sgl_21_ok 933 (by decide) (by decide)).trans rfl) hX (hj 2 (by decide)) ?_
  have hJ := J_joined (X := X) h ((sci X i 1)) ((sci X i 2))
  unfold JJ CI at hJ
  refine EV.call rct_260 ((cdI_seg sgl_21_ok 934 (by decide) (by decide)).trans rfl) rfl rfl hJ ?_
  intro v s1 w1 e1
  obtain ⟨x, rfl, rfl, e1⟩ := e1
  try unfold CI at e1
  try unfold CL at e1
  refine EV.stepsS rct_260 sgl_21_ok 5 (q2 := (942, LSi i, [.int (i + kI 1), .ref 100000, .ref 110, .int x], SH, w1)) rfl ?_
  refine EV.sload rct_260 ((cdI_seg sgl_21_ok 942 (by decide) (by decide)).trans rfl) hX (hj 1 (by decide)) ?_
  refine EV.stepsS rct_260 sgl_21_ok 4 (q2 := (947, LSi i, [.int (i + kI 2), .ref 100000, .int (sci X i 1), .ref 110, .int x], SH, w1)) rfl ?_
  refine EV.sload rct_260 ((cdI_seg sgl_21_ok 947 (by decide) (by decide)).trans rfl) hX (hj 2 (by decide)) ?_
  refine EV.call rct_260 ((cdI_seg sgl_21_ok 948 (by decide) (by decide)).trans rfl) rfl rfl e1 ?_
  intro v s1 w2 e2
  obtain ⟨y, rfl, rfl, e2, i2⟩ := e2
  subst e2
  refine EV.i_eq rct_260 ((cdI_seg sgl_21_ok 951 (by decide) (by decide)).trans rfl) (fun e => ?_) (fun e => absurd rfl e)
  exact K w2 i2
def sgl_22 : List (Option (Instr × Nat)) := [some (.aload 1, 1), some (.aload 0, 1), some (.iload 3, 1), some (.iconst 1, 1), some (.iadd, 1), some (.iaload, 1), some (.aload 0, 1), some (.iload 3, 1), some (.iconst 2, 1), some (.iadd, 1), some (.iaload, 1), some (.aload 0, 1), some (.iload 3, 1), some (.iconst 3, 1), some (.iadd, 1), some (.iaload, 1), some (.invokevirtual 179139, 3), none, none, some (.aload 2, 1), some (.aload 0, 1), some (.iload 3, 1), some (.iconst 1, 1), some (.iadd, 1), some (.iaload, 1), some (.aload 0, 1), some (.iload 3, 1), some (.iconst 2, 1), some (.iadd, 1), some (.iaload, 1), some (.aload 0, 1), some (.iload 3, 1), some (.iconst 3, 1), some (.iadd, 1), some (.iaload, 1), some (.invokevirtual 195242, 3), none, none, some (.if_icmp .eq 1293, 3), none, none, some (.iconst 0, 1), some (.ireturn, 1)]
set_option maxRecDepth 100000 in
theorem sgl_22_ok : (rc_260.drop 956).take 43 = sgl_22 := by decide +kernel
set_option maxRecDepth 100000 in
theorem lcs_22 {X : Scr} {w : Wd} {i : Int32} {Q : Int32 → Wd → Prop} (h : II w) (hX : X.1 < 4000) (hj : ∀ j : Nat, j ≤ 5 → inB (i + kI (j : Int)) X.1 = true) (K : ∀ w2, II w2 → EI X 60 260 (1293, LSi i, [], SH, w2) Q) : EI X 60 260 (956, LSi i, [], SH, w) Q := by
  refine EV.stepsS rct_260 sgl_22_ok 5 (q2 := (961, LSi i, [.int (i + kI 1), .ref 100000, .ref 0], SH, w)) rfl ?_
  refine EV.sload rct_260 ((cdI_seg sgl_22_ok 961 (by decide) (by decide)).trans rfl) hX (hj 1 (by decide)) ?_
  refine EV.stepsS rct_260 sgl_22_ok 4 (q2 := (966, LSi i, [.int (i + kI 2), .ref 100000, .int (sci X i 1), .ref 0], SH, w)) rfl ?_
  refine EV.sload rct_260 ((cdI_seg sgl_22_ok 966 (by decide) (by decide)).trans rfl) hX (hj 2 (by decide)) ?_
  refine EV.stepsS rct_260 sgl_22_ok 4 (q2 := (971, LSi i, [.int (i + kI 3), .ref 100000, .int (sci X i 2), .int (sci X i 1), .ref 0], SH, w)) rfl ?_
  refine EV.sload rct_260 ((cdI_seg sgl_22_ok 971 (by decide) (by decide)).trans rfl) hX (hj 3 (by decide)) ?_
  have hJ := J_window (X := X) h ((sci X i 1)) ((sci X i 2)) ((sci X i 3))
  unfold JJ CI at hJ
  refine EV.call rct_260 ((cdI_seg sgl_22_ok 972 (by decide) (by decide)).trans rfl) rfl rfl hJ ?_
  intro v s1 w1 e1
  obtain ⟨x, rfl, rfl, e1⟩ := e1
  try unfold CI at e1
  try unfold CL at e1
  refine EV.stepsS rct_260 sgl_22_ok 5 (q2 := (980, LSi i, [.int (i + kI 1), .ref 100000, .ref 110, .int x], SH, w1)) rfl ?_
  refine EV.sload rct_260 ((cdI_seg sgl_22_ok 980 (by decide) (by decide)).trans rfl) hX (hj 1 (by decide)) ?_
  refine EV.stepsS rct_260 sgl_22_ok 4 (q2 := (985, LSi i, [.int (i + kI 2), .ref 100000, .int (sci X i 1), .ref 110, .int x], SH, w1)) rfl ?_
  refine EV.sload rct_260 ((cdI_seg sgl_22_ok 985 (by decide) (by decide)).trans rfl) hX (hj 2 (by decide)) ?_
  refine EV.stepsS rct_260 sgl_22_ok 4 (q2 := (990, LSi i, [.int (i + kI 3), .ref 100000, .int (sci X i 2), .int (sci X i 1), .ref 110, .int x], SH, w1)) rfl ?_
  refine EV.sload rct_260 ((cdI_seg sgl_22_ok 990 (by decide) (by decide)).trans rfl) hX (hj 3 (by decide)) ?_
  refine EV.call rct_260 ((cdI_seg sgl_22_ok 991 (by decide) (by decide)).trans rfl) rfl rfl e1 ?_
  intro v s1 w2 e2
  obtain ⟨y, rfl, rfl, e2, i2⟩ := e2
  subst e2
  refine EV.i_eq rct_260 ((cdI_seg sgl_22_ok 994 (by decide) (by decide)).trans rfl) (fun e => ?_) (fun e => absurd rfl e)
  exact K w2 i2
def sgl_23 : List (Option (Instr × Nat)) := [some (.aload 1, 1), some (.aload 0, 1), some (.iload 3, 1), some (.iconst 1, 1), some (.iadd, 1), some (.iaload, 1), some (.aload 0, 1), some (.iload 3, 1), some (.iconst 2, 1), some (.iadd, 1), some (.iaload, 1), some (.invokevirtual 178140, 3), none, none, some (.aload 2, 1), some (.aload 0, 1), some (.iload 3, 1), some (.iconst 1, 1), some (.iadd, 1), some (.iaload, 1), some (.aload 0, 1), some (.iload 3, 1), some (.iconst 2, 1), some (.iadd, 1), some (.iaload, 1), some (.invokevirtual 194243, 3), none, none, some (.if_icmp .eq 1293, 3), none, none, some (.iconst 0, 1), some (.ireturn, 1)]
set_option maxRecDepth 100000 in
theorem sgl_23_ok : (rc_260.drop 999).take 33 = sgl_23 := by decide +kernel
set_option maxRecDepth 100000 in
theorem lcs_23 {X : Scr} {w : Wd} {i : Int32} {Q : Int32 → Wd → Prop} (h : II w) (hX : X.1 < 4000) (hj : ∀ j : Nat, j ≤ 5 → inB (i + kI (j : Int)) X.1 = true) (K : ∀ w2, II w2 → EI X 60 260 (1293, LSi i, [], SH, w2) Q) : EI X 60 260 (999, LSi i, [], SH, w) Q := by
  refine EV.stepsS rct_260 sgl_23_ok 5 (q2 := (1004, LSi i, [.int (i + kI 1), .ref 100000, .ref 0], SH, w)) rfl ?_
  refine EV.sload rct_260 ((cdI_seg sgl_23_ok 1004 (by decide) (by decide)).trans rfl) hX (hj 1 (by decide)) ?_
  refine EV.stepsS rct_260 sgl_23_ok 4 (q2 := (1009, LSi i, [.int (i + kI 2), .ref 100000, .int (sci X i 1), .ref 0], SH, w)) rfl ?_
  refine EV.sload rct_260 ((cdI_seg sgl_23_ok 1009 (by decide) (by decide)).trans rfl) hX (hj 2 (by decide)) ?_
  have hJ := J_middle (X := X) h ((sci X i 1)) ((sci X i 2))
  unfold JJ CI at hJ
  refine EV.call rct_260 ((cdI_seg sgl_23_ok 1010 (by decide) (by decide)).trans rfl) rfl rfl hJ ?_
  intro v s1 w1 e1
  obtain ⟨x, rfl, rfl, e1⟩ := e1
  try unfold CI at e1
  try unfold CL at e1
  refine EV.stepsS rct_260 sgl_23_ok 5 (q2 := (1018, LSi i, [.int (i + kI 1), .ref 100000, .ref 110, .int x], SH, w1)) rfl ?_
  refine EV.sload rct_260 ((cdI_seg sgl_23_ok 1018 (by decide) (by decide)).trans rfl) hX (hj 1 (by decide)) ?_
  refine EV.stepsS rct_260 sgl_23_ok 4 (q2 := (1023, LSi i, [.int (i + kI 2), .ref 100000, .int (sci X i 1), .ref 110, .int x], SH, w1)) rfl ?_
  refine EV.sload rct_260 ((cdI_seg sgl_23_ok 1023 (by decide) (by decide)).trans rfl) hX (hj 2 (by decide)) ?_
  refine EV.call rct_260 ((cdI_seg sgl_23_ok 1024 (by decide) (by decide)).trans rfl) rfl rfl e1 ?_
  intro v s1 w2 e2
  obtain ⟨y, rfl, rfl, e2, i2⟩ := e2
  subst e2
  refine EV.i_eq rct_260 ((cdI_seg sgl_23_ok 1027 (by decide) (by decide)).trans rfl) (fun e => ?_) (fun e => absurd rfl e)
  exact K w2 i2
def sgl_24 : List (Option (Instr × Nat)) := [some (.aload 1, 1), some (.aload 0, 1), some (.iload 3, 1), some (.iconst 1, 1), some (.iadd, 1), some (.iaload, 1), some (.aload 0, 1), some (.iload 3, 1), some (.iconst 2, 1), some (.iadd, 1), some (.iaload, 1), some (.invokevirtual 178141, 3), none, none, some (.aload 2, 1), some (.aload 0, 1), some (.iload 3, 1), some (.iconst 1, 1), some (.iadd, 1), some (.iaload, 1), some (.aload 0, 1), some (.iload 3, 1), some (.iconst 2, 1), some (.iadd, 1), some (.iaload, 1), some (.invokevirtual 194244, 3), none, none, some (.if_icmp .eq 1293, 3), none, none, some (.iconst 0, 1), some (.ireturn, 1)]
set_option maxRecDepth 100000 in
theorem sgl_24_ok : (rc_260.drop 1032).take 33 = sgl_24 := by decide +kernel
set_option maxRecDepth 100000 in
theorem lcs_24 {X : Scr} {w : Wd} {i : Int32} {Q : Int32 → Wd → Prop} (h : II w) (hX : X.1 < 4000) (hj : ∀ j : Nat, j ≤ 5 → inB (i + kI (j : Int)) X.1 = true) (K : ∀ w2, II w2 → EI X 60 260 (1293, LSi i, [], SH, w2) Q) : EI X 60 260 (1032, LSi i, [], SH, w) Q := by
  refine EV.stepsS rct_260 sgl_24_ok 5 (q2 := (1037, LSi i, [.int (i + kI 1), .ref 100000, .ref 0], SH, w)) rfl ?_
  refine EV.sload rct_260 ((cdI_seg sgl_24_ok 1037 (by decide) (by decide)).trans rfl) hX (hj 1 (by decide)) ?_
  refine EV.stepsS rct_260 sgl_24_ok 4 (q2 := (1042, LSi i, [.int (i + kI 2), .ref 100000, .int (sci X i 1), .ref 0], SH, w)) rfl ?_
  refine EV.sload rct_260 ((cdI_seg sgl_24_ok 1042 (by decide) (by decide)).trans rfl) hX (hj 2 (by decide)) ?_
  have hJ := J_published (X := X) h ((sci X i 1)) ((sci X i 2))
  unfold JJ CI at hJ
  refine EV.call rct_260 ((cdI_seg sgl_24_ok 1043 (by decide) (by decide)).trans rfl) rfl rfl hJ ?_
  intro v s1 w1 e1
  obtain ⟨x, rfl, rfl, e1⟩ := e1
  try unfold CI at e1
  try unfold CL at e1
  refine EV.stepsS rct_260 sgl_24_ok 5 (q2 := (1051, LSi i, [.int (i + kI 1), .ref 100000, .ref 110, .int x], SH, w1)) rfl ?_
  refine EV.sload rct_260 ((cdI_seg sgl_24_ok 1051 (by decide) (by decide)).trans rfl) hX (hj 1 (by decide)) ?_
  refine EV.stepsS rct_260 sgl_24_ok 4 (q2 := (1056, LSi i, [.int (i + kI 2), .ref 100000, .int (sci X i 1), .ref 110, .int x], SH, w1)) rfl ?_
  refine EV.sload rct_260 ((cdI_seg sgl_24_ok 1056 (by decide) (by decide)).trans rfl) hX (hj 2 (by decide)) ?_
  refine EV.call rct_260 ((cdI_seg sgl_24_ok 1057 (by decide) (by decide)).trans rfl) rfl rfl e1 ?_
  intro v s1 w2 e2
  obtain ⟨y, rfl, rfl, e2, i2⟩ := e2
  subst e2
  refine EV.i_eq rct_260 ((cdI_seg sgl_24_ok 1060 (by decide) (by decide)).trans rfl) (fun e => ?_) (fun e => absurd rfl e)
  exact K w2 i2
def sgl_25 : List (Option (Instr × Nat)) := [some (.aload 1, 1), some (.aload 0, 1), some (.iload 3, 1), some (.iconst 1, 1), some (.iadd, 1), some (.iaload, 1), some (.invokevirtual 177142, 3), none, none, some (.aload 2, 1), some (.aload 0, 1), some (.iload 3, 1), some (.iconst 1, 1), some (.iadd, 1), some (.iaload, 1), some (.invokevirtual 193245, 3), none, none, some (.if_icmp .eq 1293, 3), none, none, some (.iconst 0, 1), some (.ireturn, 1)]
set_option maxRecDepth 100000 in
theorem sgl_25_ok : (rc_260.drop 1065).take 23 = sgl_25 := by decide +kernel
set_option maxRecDepth 100000 in
theorem lcs_25 {X : Scr} {w : Wd} {i : Int32} {Q : Int32 → Wd → Prop} (h : II w) (hX : X.1 < 4000) (hj : ∀ j : Nat, j ≤ 5 → inB (i + kI (j : Int)) X.1 = true) (K : ∀ w2, II w2 → EI X 60 260 (1293, LSi i, [], SH, w2) Q) : EI X 60 260 (1065, LSi i, [], SH, w) Q := by
  refine EV.stepsS rct_260 sgl_25_ok 5 (q2 := (1070, LSi i, [.int (i + kI 1), .ref 100000, .ref 0], SH, w)) rfl ?_
  refine EV.sload rct_260 ((cdI_seg sgl_25_ok 1070 (by decide) (by decide)).trans rfl) hX (hj 1 (by decide)) ?_
  have hJ := J_inARow (X := X) h ((sci X i 1))
  unfold JJ CI at hJ
  refine EV.call rct_260 ((cdI_seg sgl_25_ok 1071 (by decide) (by decide)).trans rfl) rfl rfl hJ ?_
  intro v s1 w1 e1
  obtain ⟨x, rfl, rfl, e1⟩ := e1
  try unfold CI at e1
  try unfold CL at e1
  refine EV.stepsS rct_260 sgl_25_ok 5 (q2 := (1079, LSi i, [.int (i + kI 1), .ref 100000, .ref 110, .int x], SH, w1)) rfl ?_
  refine EV.sload rct_260 ((cdI_seg sgl_25_ok 1079 (by decide) (by decide)).trans rfl) hX (hj 1 (by decide)) ?_
  refine EV.call rct_260 ((cdI_seg sgl_25_ok 1080 (by decide) (by decide)).trans rfl) rfl rfl e1 ?_
  intro v s1 w2 e2
  obtain ⟨y, rfl, rfl, e2, i2⟩ := e2
  subst e2
  refine EV.i_eq rct_260 ((cdI_seg sgl_25_ok 1083 (by decide) (by decide)).trans rfl) (fun e => ?_) (fun e => absurd rfl e)
  exact K w2 i2
def sgl_26 : List (Option (Instr × Nat)) := [some (.aload 1, 1), some (.aload 0, 1), some (.iload 3, 1), some (.iconst 1, 1), some (.iadd, 1), some (.iaload, 1), some (.invokevirtual 177143, 3), none, none, some (.aload 2, 1), some (.aload 0, 1), some (.iload 3, 1), some (.iconst 1, 1), some (.iadd, 1), some (.iaload, 1), some (.invokevirtual 193249, 3), none, none, some (.if_icmp .eq 1293, 3), none, none, some (.iconst 0, 1), some (.ireturn, 1)]
set_option maxRecDepth 100000 in
theorem sgl_26_ok : (rc_260.drop 1088).take 23 = sgl_26 := by decide +kernel
set_option maxRecDepth 100000 in
theorem lcs_26 {X : Scr} {w : Wd} {i : Int32} {Q : Int32 → Wd → Prop} (h : II w) (hX : X.1 < 4000) (hj : ∀ j : Nat, j ≤ 5 → inB (i + kI (j : Int)) X.1 = true) (K : ∀ w2, II w2 → EI X 60 260 (1293, LSi i, [], SH, w2) Q) : EI X 60 260 (1088, LSi i, [], SH, w) Q := by
  refine EV.stepsS rct_260 sgl_26_ok 5 (q2 := (1093, LSi i, [.int (i + kI 1), .ref 100000, .ref 0], SH, w)) rfl ?_
  refine EV.sload rct_260 ((cdI_seg sgl_26_ok 1093 (by decide) (by decide)).trans rfl) hX (hj 1 (by decide)) ?_
  have hJ := J_halves (X := X) h ((sci X i 1))
  unfold JJ CI at hJ
  refine EV.call rct_260 ((cdI_seg sgl_26_ok 1094 (by decide) (by decide)).trans rfl) rfl rfl hJ ?_
  intro v s1 w1 e1
  obtain ⟨x, rfl, rfl, e1⟩ := e1
  try unfold CI at e1
  try unfold CL at e1
  refine EV.stepsS rct_260 sgl_26_ok 5 (q2 := (1102, LSi i, [.int (i + kI 1), .ref 100000, .ref 110, .int x], SH, w1)) rfl ?_
  refine EV.sload rct_260 ((cdI_seg sgl_26_ok 1102 (by decide) (by decide)).trans rfl) hX (hj 1 (by decide)) ?_
  refine EV.call rct_260 ((cdI_seg sgl_26_ok 1103 (by decide) (by decide)).trans rfl) rfl rfl e1 ?_
  intro v s1 w2 e2
  obtain ⟨y, rfl, rfl, e2, i2⟩ := e2
  subst e2
  refine EV.i_eq rct_260 ((cdI_seg sgl_26_ok 1106 (by decide) (by decide)).trans rfl) (fun e => ?_) (fun e => absurd rfl e)
  exact K w2 i2
def sgl_27 : List (Option (Instr × Nat)) := [some (.aload 1, 1), some (.aload 0, 1), some (.iload 3, 1), some (.iconst 1, 1), some (.iadd, 1), some (.iaload, 1), some (.aload 0, 1), some (.iload 3, 1), some (.iconst 2, 1), some (.iadd, 1), some (.iaload, 1), some (.invokevirtual 178144, 3), none, none, some (.aload 2, 1), some (.aload 0, 1), some (.iload 3, 1), some (.iconst 1, 1), some (.iadd, 1), some (.iaload, 1), some (.aload 0, 1), some (.iload 3, 1), some (.iconst 2, 1), some (.iadd, 1), some (.iaload, 1), some (.invokevirtual 194251, 3), none, none, some (.if_icmp .eq 1293, 3), none, none, some (.iconst 0, 1), some (.ireturn, 1)]
set_option maxRecDepth 100000 in
theorem sgl_27_ok : (rc_260.drop 1111).take 33 = sgl_27 := by decide +kernel
set_option maxRecDepth 100000 in
theorem lcs_27 {X : Scr} {w : Wd} {i : Int32} {Q : Int32 → Wd → Prop} (h : II w) (hX : X.1 < 4000) (hj : ∀ j : Nat, j ≤ 5 → inB (i + kI (j : Int)) X.1 = true) (K : ∀ w2, II w2 → EI X 60 260 (1293, LSi i, [], SH, w2) Q) : EI X 60 260 (1111, LSi i, [], SH, w) Q := by
  refine EV.stepsS rct_260 sgl_27_ok 5 (q2 := (1116, LSi i, [.int (i + kI 1), .ref 100000, .ref 0], SH, w)) rfl ?_
  refine EV.sload rct_260 ((cdI_seg sgl_27_ok 1116 (by decide) (by decide)).trans rfl) hX (hj 1 (by decide)) ?_
  refine EV.stepsS rct_260 sgl_27_ok 4 (q2 := (1121, LSi i, [.int (i + kI 2), .ref 100000, .int (sci X i 1), .ref 0], SH, w)) rfl ?_
  refine EV.sload rct_260 ((cdI_seg sgl_27_ok 1121 (by decide) (by decide)).trans rfl) hX (hj 2 (by decide)) ?_
  have hJ := J_rising (X := X) h ((sci X i 1)) ((sci X i 2))
  unfold JJ CI at hJ
  refine EV.call rct_260 ((cdI_seg sgl_27_ok 1122 (by decide) (by decide)).trans rfl) rfl rfl hJ ?_
  intro v s1 w1 e1
  obtain ⟨x, rfl, rfl, e1⟩ := e1
  try unfold CI at e1
  try unfold CL at e1
  refine EV.stepsS rct_260 sgl_27_ok 5 (q2 := (1130, LSi i, [.int (i + kI 1), .ref 100000, .ref 110, .int x], SH, w1)) rfl ?_
  refine EV.sload rct_260 ((cdI_seg sgl_27_ok 1130 (by decide) (by decide)).trans rfl) hX (hj 1 (by decide)) ?_
  refine EV.stepsS rct_260 sgl_27_ok 4 (q2 := (1135, LSi i, [.int (i + kI 2), .ref 100000, .int (sci X i 1), .ref 110, .int x], SH, w1)) rfl ?_
  refine EV.sload rct_260 ((cdI_seg sgl_27_ok 1135 (by decide) (by decide)).trans rfl) hX (hj 2 (by decide)) ?_
  refine EV.call rct_260 ((cdI_seg sgl_27_ok 1136 (by decide) (by decide)).trans rfl) rfl rfl e1 ?_
  intro v s1 w2 e2
  obtain ⟨y, rfl, rfl, e2, i2⟩ := e2
  subst e2
  refine EV.i_eq rct_260 ((cdI_seg sgl_27_ok 1139 (by decide) (by decide)).trans rfl) (fun e => ?_) (fun e => absurd rfl e)
  exact K w2 i2
def sgl_28 : List (Option (Instr × Nat)) := [some (.aload 1, 1), some (.aload 0, 1), some (.iload 3, 1), some (.iconst 1, 1), some (.iadd, 1), some (.iaload, 1), some (.aload 0, 1), some (.iload 3, 1), some (.iconst 2, 1), some (.iadd, 1), some (.iaload, 1), some (.aload 0, 1), some (.iload 3, 1), some (.iconst 3, 1), some (.iadd, 1), some (.iaload, 1), some (.invokevirtual 179145, 3), none, none, some (.aload 2, 1), some (.aload 0, 1), some (.iload 3, 1), some (.iconst 1, 1), some (.iadd, 1), some (.iaload, 1), some (.aload 0, 1), some (.iload 3, 1), some (.iconst 2, 1), some (.iadd, 1), some (.iaload, 1), some (.aload 0, 1), some (.iload 3, 1), some (.iconst 3, 1), some (.iadd, 1), some (.iaload, 1), some (.invokevirtual 195252, 3), none, none, some (.lcmp, 1), some (.ifCond .eq 1293, 3), none, none, some (.iconst 0, 1), some (.ireturn, 1)]
set_option maxRecDepth 100000 in
theorem sgl_28_ok : (rc_260.drop 1144).take 44 = sgl_28 := by decide +kernel
set_option maxRecDepth 100000 in
theorem lcs_28 {X : Scr} {w : Wd} {i : Int32} {Q : Int32 → Wd → Prop} (h : II w) (hX : X.1 < 4000) (hj : ∀ j : Nat, j ≤ 5 → inB (i + kI (j : Int)) X.1 = true) (K : ∀ w2, II w2 → EI X 60 260 (1293, LSi i, [], SH, w2) Q) : EI X 60 260 (1144, LSi i, [], SH, w) Q := by
  refine EV.stepsS rct_260 sgl_28_ok 5 (q2 := (1149, LSi i, [.int (i + kI 1), .ref 100000, .ref 0], SH, w)) rfl ?_
  refine EV.sload rct_260 ((cdI_seg sgl_28_ok 1149 (by decide) (by decide)).trans rfl) hX (hj 1 (by decide)) ?_
  refine EV.stepsS rct_260 sgl_28_ok 4 (q2 := (1154, LSi i, [.int (i + kI 2), .ref 100000, .int (sci X i 1), .ref 0], SH, w)) rfl ?_
  refine EV.sload rct_260 ((cdI_seg sgl_28_ok 1154 (by decide) (by decide)).trans rfl) hX (hj 2 (by decide)) ?_
  refine EV.stepsS rct_260 sgl_28_ok 4 (q2 := (1159, LSi i, [.int (i + kI 3), .ref 100000, .int (sci X i 2), .int (sci X i 1), .ref 0], SH, w)) rfl ?_
  refine EV.sload rct_260 ((cdI_seg sgl_28_ok 1159 (by decide) (by decide)).trans rfl) hX (hj 3 (by decide)) ?_
  have hJ := J_spaced (X := X) h ((sci X i 1)) ((sci X i 2)) ((sci X i 3))
  unfold JL CL at hJ
  refine EV.call rct_260 ((cdI_seg sgl_28_ok 1160 (by decide) (by decide)).trans rfl) rfl rfl hJ ?_
  intro v s1 w1 e1
  obtain ⟨x, rfl, rfl, e1⟩ := e1
  try unfold CI at e1
  try unfold CL at e1
  refine EV.stepsS rct_260 sgl_28_ok 5 (q2 := (1168, LSi i, [.int (i + kI 1), .ref 100000, .ref 110, .long x], SH, w1)) rfl ?_
  refine EV.sload rct_260 ((cdI_seg sgl_28_ok 1168 (by decide) (by decide)).trans rfl) hX (hj 1 (by decide)) ?_
  refine EV.stepsS rct_260 sgl_28_ok 4 (q2 := (1173, LSi i, [.int (i + kI 2), .ref 100000, .int (sci X i 1), .ref 110, .long x], SH, w1)) rfl ?_
  refine EV.sload rct_260 ((cdI_seg sgl_28_ok 1173 (by decide) (by decide)).trans rfl) hX (hj 2 (by decide)) ?_
  refine EV.stepsS rct_260 sgl_28_ok 4 (q2 := (1178, LSi i, [.int (i + kI 3), .ref 100000, .int (sci X i 2), .int (sci X i 1), .ref 110, .long x], SH, w1)) rfl ?_
  refine EV.sload rct_260 ((cdI_seg sgl_28_ok 1178 (by decide) (by decide)).trans rfl) hX (hj 3 (by decide)) ?_
  refine EV.call rct_260 ((cdI_seg sgl_28_ok 1179 (by decide) (by decide)).trans rfl) rfl rfl e1 ?_
  intro v s1 w2 e2
  obtain ⟨y, rfl, rfl, e2, i2⟩ := e2
  subst e2
  refine EV.stepsS rct_260 sgl_28_ok 1 (q2 := (1183, LSi i, [.int (lg_cmp y y)], SH, w2)) rfl ?_
  have ecm : lg_cmp y y = 0 := by unfold lg_cmp; simp
  rw [ecm]
  refine EV.z_eq rct_260 ((cdI_seg sgl_28_ok 1183 (by decide) (by decide)).trans rfl) (fun e => ?_) (fun e => absurd rfl e)
  exact K w2 i2
def sgl_29 : List (Option (Instr × Nat)) := [some (.aload 1, 1), some (.aload 0, 1), some (.iload 3, 1), some (.iconst 1, 1), some (.iadd, 1), some (.iaload, 1), some (.invokevirtual 177146, 3), none, none, some (.aload 2, 1), some (.aload 0, 1), some (.iload 3, 1), some (.iconst 1, 1), some (.iadd, 1), some (.iaload, 1), some (.invokevirtual 193253, 3), none, none, some (.if_icmp .eq 1293, 3), none, none, some (.iconst 0, 1), some (.ireturn, 1)]
set_option maxRecDepth 100000 in
theorem sgl_29_ok : (rc_260.drop 1188).take 23 = sgl_29 := by decide +kernel
set_option maxRecDepth 100000 in
theorem lcs_29 {X : Scr} {w : Wd} {i : Int32} {Q : Int32 → Wd → Prop} (h : II w) (hX : X.1 < 4000) (hj : ∀ j : Nat, j ≤ 5 → inB (i + kI (j : Int)) X.1 = true) (K : ∀ w2, II w2 → EI X 60 260 (1293, LSi i, [], SH, w2) Q) : EI X 60 260 (1188, LSi i, [], SH, w) Q := by
  refine EV.stepsS rct_260 sgl_29_ok 5 (q2 := (1193, LSi i, [.int (i + kI 1), .ref 100000, .ref 0], SH, w)) rfl ?_
  refine EV.sload rct_260 ((cdI_seg sgl_29_ok 1193 (by decide) (by decide)).trans rfl) hX (hj 1 (by decide)) ?_
  have hJ := J_seed (X := X) h ((sci X i 1))
  unfold JJ CI at hJ
  refine EV.call rct_260 ((cdI_seg sgl_29_ok 1194 (by decide) (by decide)).trans rfl) rfl rfl hJ ?_
  intro v s1 w1 e1
  obtain ⟨x, rfl, rfl, e1⟩ := e1
  try unfold CI at e1
  try unfold CL at e1
  refine EV.stepsS rct_260 sgl_29_ok 5 (q2 := (1202, LSi i, [.int (i + kI 1), .ref 100000, .ref 110, .int x], SH, w1)) rfl ?_
  refine EV.sload rct_260 ((cdI_seg sgl_29_ok 1202 (by decide) (by decide)).trans rfl) hX (hj 1 (by decide)) ?_
  refine EV.call rct_260 ((cdI_seg sgl_29_ok 1203 (by decide) (by decide)).trans rfl) rfl rfl e1 ?_
  intro v s1 w2 e2
  obtain ⟨y, rfl, rfl, e2, i2⟩ := e2
  subst e2
  refine EV.i_eq rct_260 ((cdI_seg sgl_29_ok 1206 (by decide) (by decide)).trans rfl) (fun e => ?_) (fun e => absurd rfl e)
  exact K w2 i2
def sgl_30 : List (Option (Instr × Nat)) := [some (.aload 1, 1), some (.invokevirtual 176147, 3), none, none, some (.aload 2, 1), some (.invokevirtual 192254, 3), none, none, some (.if_icmp .eq 1293, 3), none, none, some (.iconst 0, 1), some (.ireturn, 1)]
set_option maxRecDepth 100000 in
theorem sgl_30_ok : (rc_260.drop 1211).take 13 = sgl_30 := by decide +kernel
set_option maxRecDepth 100000 in
theorem lcs_30 {X : Scr} {w : Wd} {i : Int32} {Q : Int32 → Wd → Prop} (h : II w) (hX : X.1 < 4000) (hj : ∀ j : Nat, j ≤ 5 → inB (i + kI (j : Int)) X.1 = true) (K : ∀ w2, II w2 → EI X 60 260 (1293, LSi i, [], SH, w2) Q) : EI X 60 260 (1211, LSi i, [], SH, w) Q := by
  refine EV.stepsS rct_260 sgl_30_ok 1 (q2 := (1212, LSi i, [.ref 0], SH, w)) rfl ?_
  have hJ := J_keep (X := X) h 
  unfold JJ CI at hJ
  refine EV.call rct_260 ((cdI_seg sgl_30_ok 1212 (by decide) (by decide)).trans rfl) rfl rfl hJ ?_
  intro v s1 w1 e1
  obtain ⟨x, rfl, rfl, e1⟩ := e1
  try unfold CI at e1
  try unfold CL at e1
  refine EV.stepsS rct_260 sgl_30_ok 1 (q2 := (1216, LSi i, [.ref 110, .int x], SH, w1)) rfl ?_
  refine EV.call rct_260 ((cdI_seg sgl_30_ok 1216 (by decide) (by decide)).trans rfl) rfl rfl e1 ?_
  intro v s1 w2 e2
  obtain ⟨y, rfl, rfl, e2, i2⟩ := e2
  subst e2
  refine EV.i_eq rct_260 ((cdI_seg sgl_30_ok 1219 (by decide) (by decide)).trans rfl) (fun e => ?_) (fun e => absurd rfl e)
  exact K w2 i2
def sgl_31 : List (Option (Instr × Nat)) := [some (.aload 1, 1), some (.invokevirtual 176148, 3), none, none, some (.aload 2, 1), some (.invokevirtual 192255, 3), none, none, some (.if_icmp .eq 1293, 3), none, none, some (.iconst 0, 1), some (.ireturn, 1)]
set_option maxRecDepth 100000 in
theorem sgl_31_ok : (rc_260.drop 1224).take 13 = sgl_31 := by decide +kernel
set_option maxRecDepth 100000 in
theorem lcs_31 {X : Scr} {w : Wd} {i : Int32} {Q : Int32 → Wd → Prop} (h : II w) (hX : X.1 < 4000) (hj : ∀ j : Nat, j ≤ 5 → inB (i + kI (j : Int)) X.1 = true) (K : ∀ w2, II w2 → EI X 60 260 (1293, LSi i, [], SH, w2) Q) : EI X 60 260 (1224, LSi i, [], SH, w) Q := by
  refine EV.stepsS rct_260 sgl_31_ok 1 (q2 := (1225, LSi i, [.ref 0], SH, w)) rfl ?_
  have hJ := J_undo (X := X) h 
  unfold JJ CI at hJ
  refine EV.call rct_260 ((cdI_seg sgl_31_ok 1225 (by decide) (by decide)).trans rfl) rfl rfl hJ ?_
  intro v s1 w1 e1
  obtain ⟨x, rfl, rfl, e1⟩ := e1
  try unfold CI at e1
  try unfold CL at e1
  refine EV.stepsS rct_260 sgl_31_ok 1 (q2 := (1229, LSi i, [.ref 110, .int x], SH, w1)) rfl ?_
  refine EV.call rct_260 ((cdI_seg sgl_31_ok 1229 (by decide) (by decide)).trans rfl) rfl rfl e1 ?_
  intro v s1 w2 e2
  obtain ⟨y, rfl, rfl, e2, i2⟩ := e2
  subst e2
  refine EV.i_eq rct_260 ((cdI_seg sgl_31_ok 1232 (by decide) (by decide)).trans rfl) (fun e => ?_) (fun e => absurd rfl e)
  exact K w2 i2
def sgl_32 : List (Option (Instr × Nat)) := [some (.aload 1, 1), some (.aload 0, 1), some (.iload 3, 1), some (.iconst 1, 1), some (.iadd, 1), some (.iaload, 1), some (.aload 0, 1), some (.iload 3, 1), some (.iconst 2, 1), some (.iadd, 1), some (.iaload, 1), some (.invokevirtual 178149, 3), none, none, some (.aload 2, 1), some (.aload 0, 1), some (.iload 3, 1), some (.iconst 1, 1), some (.iadd, 1), some (.iaload, 1), some (.aload 0, 1), some (.iload 3, 1), some (.iconst 2, 1), some (.iadd, 1), some (.iaload, 1), some (.invokevirtual 194256, 3), none, none, some (.if_icmp .eq 1293, 3), none, none, some (.iconst 0, 1), some (.ireturn, 1)]
set_option maxRecDepth 100000 in
theorem sgl_32_ok : (rc_260.drop 1237).take 33 = sgl_32 := by decide +kernel
set_option maxRecDepth 100000 in
theorem lcs_32 {X : Scr} {w : Wd} {i : Int32} {Q : Int32 → Wd → Prop} (h : II w) (hX : X.1 < 4000) (hj : ∀ j : Nat, j ≤ 5 → inB (i + kI (j : Int)) X.1 = true) (K : ∀ w2, II w2 → EI X 60 260 (1293, LSi i, [], SH, w2) Q) : EI X 60 260 (1237, LSi i, [], SH, w) Q := by
  refine EV.stepsS rct_260 sgl_32_ok 5 (q2 := (1242, LSi i, [.int (i + kI 1), .ref 100000, .ref 0], SH, w)) rfl ?_
  refine EV.sload rct_260 ((cdI_seg sgl_32_ok 1242 (by decide) (by decide)).trans rfl) hX (hj 1 (by decide)) ?_
  refine EV.stepsS rct_260 sgl_32_ok 4 (q2 := (1247, LSi i, [.int (i + kI 2), .ref 100000, .int (sci X i 1), .ref 0], SH, w)) rfl ?_
  refine EV.sload rct_260 ((cdI_seg sgl_32_ok 1247 (by decide) (by decide)).trans rfl) hX (hj 2 (by decide)) ?_
  have hJ := J_check (X := X) h ((sci X i 1)) ((sci X i 2))
  unfold JJ CI at hJ
  refine EV.call rct_260 ((cdI_seg sgl_32_ok 1248 (by decide) (by decide)).trans rfl) rfl rfl hJ ?_
  intro v s1 w1 e1
  obtain ⟨x, rfl, rfl, e1⟩ := e1
  try unfold CI at e1
  try unfold CL at e1
  refine EV.stepsS rct_260 sgl_32_ok 5 (q2 := (1256, LSi i, [.int (i + kI 1), .ref 100000, .ref 110, .int x], SH, w1)) rfl ?_
  refine EV.sload rct_260 ((cdI_seg sgl_32_ok 1256 (by decide) (by decide)).trans rfl) hX (hj 1 (by decide)) ?_
  refine EV.stepsS rct_260 sgl_32_ok 4 (q2 := (1261, LSi i, [.int (i + kI 2), .ref 100000, .int (sci X i 1), .ref 110, .int x], SH, w1)) rfl ?_
  refine EV.sload rct_260 ((cdI_seg sgl_32_ok 1261 (by decide) (by decide)).trans rfl) hX (hj 2 (by decide)) ?_
  refine EV.call rct_260 ((cdI_seg sgl_32_ok 1262 (by decide) (by decide)).trans rfl) rfl rfl e1 ?_
  intro v s1 w2 e2
  obtain ⟨y, rfl, rfl, e2, i2⟩ := e2
  subst e2
  refine EV.i_eq rct_260 ((cdI_seg sgl_32_ok 1265 (by decide) (by decide)).trans rfl) (fun e => ?_) (fun e => absurd rfl e)
  exact K w2 i2
def sgl_33 : List (Option (Instr × Nat)) := [some (.aload 1, 1), some (.aload 0, 1), some (.iload 3, 1), some (.iconst 1, 1), some (.iadd, 1), some (.iaload, 1), some (.invokevirtual 177150, 3), none, none, some (.aload 2, 1), some (.aload 0, 1), some (.iload 3, 1), some (.iconst 1, 1), some (.iadd, 1), some (.iaload, 1), some (.invokevirtual 193257, 3), none, none, some (.if_icmp .eq 1293, 3), none, none, some (.iconst 0, 1), some (.ireturn, 1)]
set_option maxRecDepth 100000 in
theorem sgl_33_ok : (rc_260.drop 1270).take 23 = sgl_33 := by decide +kernel
set_option maxRecDepth 100000 in
theorem lcs_33 {X : Scr} {w : Wd} {i : Int32} {Q : Int32 → Wd → Prop} (h : II w) (hX : X.1 < 4000) (hj : ∀ j : Nat, j ≤ 5 → inB (i + kI (j : Int)) X.1 = true) (K : ∀ w2, II w2 → EI X 60 260 (1293, LSi i, [], SH, w2) Q) : EI X 60 260 (1270, LSi i, [], SH, w) Q := by
  refine EV.stepsS rct_260 sgl_33_ok 5 (q2 := (1275, LSi i, [.int (i + kI 1), .ref 100000, .ref 0], SH, w)) rfl ?_
  refine EV.sload rct_260 ((cdI_seg sgl_33_ok 1275 (by decide) (by decide)).trans rfl) hX (hj 1 (by decide)) ?_
  have hJ := J_count (X := X) h ((sci X i 1))
  unfold JJ CI at hJ
  refine EV.call rct_260 ((cdI_seg sgl_33_ok 1276 (by decide) (by decide)).trans rfl) rfl rfl hJ ?_
  intro v s1 w1 e1
  obtain ⟨x, rfl, rfl, e1⟩ := e1
  try unfold CI at e1
  try unfold CL at e1
  refine EV.stepsS rct_260 sgl_33_ok 5 (q2 := (1284, LSi i, [.int (i + kI 1), .ref 100000, .ref 110, .int x], SH, w1)) rfl ?_
  refine EV.sload rct_260 ((cdI_seg sgl_33_ok 1284 (by decide) (by decide)).trans rfl) hX (hj 1 (by decide)) ?_
  refine EV.call rct_260 ((cdI_seg sgl_33_ok 1285 (by decide) (by decide)).trans rfl) rfl rfl e1 ?_
  intro v s1 w2 e2
  obtain ⟨y, rfl, rfl, e2, i2⟩ := e2
  subst e2
  refine EV.i_eq rct_260 ((cdI_seg sgl_33_ok 1288 (by decide) (by decide)).trans rfl) (fun e => ?_) (fun e => absurd rfl e)
  exact K w2 i2
end LAWA
