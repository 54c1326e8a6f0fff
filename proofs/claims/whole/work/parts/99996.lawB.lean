/-! the law's loop, 2 -/
section LAWB
def sgl_h : List (Option (Instr × Nat)) := [some (.new 11, 3), none, none, some (.dup, 1), some (.invokespecial 176116, 3), none, none, some (.astore 1, 1), some (.new 12, 3), none, none, some (.dup, 1), some (.invokespecial 192156, 3), none, none, some (.astore 2, 1), some (.iconst 0, 1), some (.istore 3, 1), some (.iload 3, 1), some (.aload 0, 1), some (.arraylength, 1), some (.iconst 6, 2), none, some (.isub, 1), some (.if_icmp .gt 1299, 3), none, none, some (.aload 0, 1), some (.iload 3, 1), some (.iaload, 1), some (.iconst 63, 2), none, some (.iand, 1), some (.tableswitch 1260 0 33 #[151, 184, 243, 276, 299, 362, 385, 408, 431, 464, 497, 530, 573, 606, 639, 662, 715, 748, 771, 834, 867, 890, 923, 966, 999, 1032, 1055, 1078, 1111, 1155, 1178, 1191, 1204, 1237], 151)]
set_option maxRecDepth 100000 in
theorem sgl_h_ok : (rc_260.drop 0).take 34 = sgl_h := by decide +kernel
def sgl_e : List (Option (Instr × Nat)) := [some (.iinc 3 6, 3), none, none, some (.goto 18, 3), none, none, some (.iconst 1, 1), some (.ireturn, 1)]
set_option maxRecDepth 100000 in
theorem sgl_e_ok : (rc_260.drop 1293).take 8 = sgl_e := by decide +kernel
theorem lw_inB {L n : Nat} (hL : L ≤ 3072) (h : n < L) : inB (nI n) L = true := inB_of (by rw [nI_toInt (by omega)]; omega) (by rw [nI_toInt (by omega)]; omega)
theorem lw_gt {L n : Nat} (hL : L ≤ 3072) (hn : n ≤ 4000) : Int32.ofNat L - kI 6 < nI n ↔ L < n + 6 := by
  show nI L - nI 6 < nI n ↔ L < n + 6
  rw [Int32.lt_iff_toInt_lt, pk_sub_toInt (by omega) (by omega), nI_toInt (by omega)]
  omega
set_option maxRecDepth 100000 in
theorem lw_body {X : Scr} {w : Wd} {n : Nat} {Q : Int32 → Wd → Prop} (h : II w) (hL : X.1 ≤ 3072) (hn : n + 6 ≤ X.1) (K : ∀ w2, II w2 → EI X 60 260 (1293, LSi (nI n), [], SH, w2) Q) : EI X 60 260 (27, LSi (nI n), [], SH, w) Q := by
  have hX : X.1 < 4000 := by omega
  have hj : ∀ j : Nat, j ≤ 5 → inB (nI n + kI (j : Int)) X.1 = true := fun j hj => by
    have e : nI n + kI (j : Int) = nI (n + j) := nI_add n j
    rw [e]
    exact lw_inB hL (by omega)
  refine EV.stepsS rct_260 sgl_h_ok 2 (q2 := (29, LSi (nI n), [.int (nI n), .ref 100000], SH, w)) rfl ?_
  refine EV.sload rct_260 ((cdI_seg sgl_h_ok 29 (by decide) (by decide)).trans rfl) hX (lw_inB hL (by omega)) ?_
  refine EV.stepsS rct_260 sgl_h_ok 2 (q2 := (33, LSi (nI n), [.int (X.2 (nI n).toNatClampNeg &&& kI 63)], SH, w)) rfl ?_
  obtain ⟨t, ht, e⟩ := pk_andE (X.2 (nI n).toNatClampNeg) (m := kI 63) 6 (by decide)
  rw [e]
  have ht : t < 64 := ht
  clear e
  match t, ht with
  | 0, _ => exact EV.swEq (e := kI 0) rct_260 ((cdI_seg sgl_h_ok 33 (by decide) (by decide)).trans rfl) rfl rfl (t := 184) rfl (lcs_0 h hX hj K)
  | 1, _ => exact EV.swEq (e := kI 1) rct_260 ((cdI_seg sgl_h_ok 33 (by decide) (by decide)).trans rfl) rfl rfl (t := 217) rfl (lcs_1 h hX hj K)
  | 2, _ => exact EV.swEq (e := kI 2) rct_260 ((cdI_seg sgl_h_ok 33 (by decide) (by decide)).trans rfl) rfl rfl (t := 276) rfl (lcs_2 h hX hj K)
  | 3, _ => exact EV.swEq (e := kI 3) rct_260 ((cdI_seg sgl_h_ok 33 (by decide) (by decide)).trans rfl) rfl rfl (t := 309) rfl (lcs_3 h hX hj K)
  | 4, _ => exact EV.swEq (e := kI 4) rct_260 ((cdI_seg sgl_h_ok 33 (by decide) (by decide)).trans rfl) rfl rfl (t := 332) rfl (lcs_4 h hX hj K)
  | 5, _ => exact EV.swEq (e := kI 5) rct_260 ((cdI_seg sgl_h_ok 33 (by decide) (by decide)).trans rfl) rfl rfl (t := 395) rfl (lcs_5 h hX hj K)
  | 6, _ => exact EV.swEq (e := kI 6) rct_260 ((cdI_seg sgl_h_ok 33 (by decide) (by decide)).trans rfl) rfl rfl (t := 418) rfl (lcs_6 h hX hj K)
  | 7, _ => exact EV.swEq (e := kI 7) rct_260 ((cdI_seg sgl_h_ok 33 (by decide) (by decide)).trans rfl) rfl rfl (t := 441) rfl (lcs_7 h hX hj K)
  | 8, _ => exact EV.swEq (e := kI 8) rct_260 ((cdI_seg sgl_h_ok 33 (by decide) (by decide)).trans rfl) rfl rfl (t := 464) rfl (lcs_8 h hX hj K)
  | 9, _ => exact EV.swEq (e := kI 9) rct_260 ((cdI_seg sgl_h_ok 33 (by decide) (by decide)).trans rfl) rfl rfl (t := 497) rfl (lcs_9 h hX hj K)
  | 10, _ => exact EV.swEq (e := kI 10) rct_260 ((cdI_seg sgl_h_ok 33 (by decide) (by decide)).trans rfl) rfl rfl (t := 530) rfl (lcs_10 h hX hj K)
  | 11, _ => exact EV.swEq (e := kI 11) rct_260 ((cdI_seg sgl_h_ok 33 (by decide) (by decide)).trans rfl) rfl rfl (t := 563) rfl (lcs_11 h hX hj K)
  | 12, _ => exact EV.swEq (e := kI 12) rct_260 ((cdI_seg sgl_h_ok 33 (by decide) (by decide)).trans rfl) rfl rfl (t := 606) rfl (lcs_12 h hX hj K)
  | 13, _ => exact EV.swEq (e := kI 13) rct_260 ((cdI_seg sgl_h_ok 33 (by decide) (by decide)).trans rfl) rfl rfl (t := 639) rfl (lcs_13 h hX hj K)
  | 14, _ => exact EV.swEq (e := kI 14) rct_260 ((cdI_seg sgl_h_ok 33 (by decide) (by decide)).trans rfl) rfl rfl (t := 672) rfl (lcs_14 h hX hj K)
  | 15, _ => exact EV.swEq (e := kI 15) rct_260 ((cdI_seg sgl_h_ok 33 (by decide) (by decide)).trans rfl) rfl rfl (t := 695) rfl (lcs_15 h hX hj K)
  | 16, _ => exact EV.swEq (e := kI 16) rct_260 ((cdI_seg sgl_h_ok 33 (by decide) (by decide)).trans rfl) rfl rfl (t := 748) rfl (lcs_16 h hX hj K)
  | 17, _ => exact EV.swEq (e := kI 17) rct_260 ((cdI_seg sgl_h_ok 33 (by decide) (by decide)).trans rfl) rfl rfl (t := 781) rfl (lcs_17 h hX hj K)
  | 18, _ => exact EV.swEq (e := kI 18) rct_260 ((cdI_seg sgl_h_ok 33 (by decide) (by decide)).trans rfl) rfl rfl (t := 804) rfl (lcs_18 h hX hj K)
  | 19, _ => exact EV.swEq (e := kI 19) rct_260 ((cdI_seg sgl_h_ok 33 (by decide) (by decide)).trans rfl) rfl rfl (t := 867) rfl (lcs_19 h hX hj K)
  | 20, _ => exact EV.swEq (e := kI 20) rct_260 ((cdI_seg sgl_h_ok 33 (by decide) (by decide)).trans rfl) rfl rfl (t := 900) rfl (lcs_20 h hX hj K)
  | 21, _ => exact EV.swEq (e := kI 21) rct_260 ((cdI_seg sgl_h_ok 33 (by decide) (by decide)).trans rfl) rfl rfl (t := 923) rfl (lcs_21 h hX hj K)
  | 22, _ => exact EV.swEq (e := kI 22) rct_260 ((cdI_seg sgl_h_ok 33 (by decide) (by decide)).trans rfl) rfl rfl (t := 956) rfl (lcs_22 h hX hj K)
  | 23, _ => exact EV.swEq (e := kI 23) rct_260 ((cdI_seg sgl_h_ok 33 (by decide) (by decide)).trans rfl) rfl rfl (t := 999) rfl (lcs_23 h hX hj K)
  | 24, _ => exact EV.swEq (e := kI 24) rct_260 ((cdI_seg sgl_h_ok 33 (by decide) (by decide)).trans rfl) rfl rfl (t := 1032) rfl (lcs_24 h hX hj K)
  | 25, _ => exact EV.swEq (e := kI 25) rct_260 ((cdI_seg sgl_h_ok 33 (by decide) (by decide)).trans rfl) rfl rfl (t := 1065) rfl (lcs_25 h hX hj K)
  | 26, _ => exact EV.swEq (e := kI 26) rct_260 ((cdI_seg sgl_h_ok 33 (by decide) (by decide)).trans rfl) rfl rfl (t := 1088) rfl (lcs_26 h hX hj K)
  | 27, _ => exact EV.swEq (e := kI 27) rct_260 ((cdI_seg sgl_h_ok 33 (by decide) (by decide)).trans rfl) rfl rfl (t := 1111) rfl (lcs_27 h hX hj K)
  | 28, _ => exact EV.swEq (e := kI 28) rct_260 ((cdI_seg sgl_h_ok 33 (by decide) (by decide)).trans rfl) rfl rfl (t := 1144) rfl (lcs_28 h hX hj K)
  | 29, _ => exact EV.swEq (e := kI 29) rct_260 ((cdI_seg sgl_h_ok 33 (by decide) (by decide)).trans rfl) rfl rfl (t := 1188) rfl (lcs_29 h hX hj K)
  | 30, _ => exact EV.swEq (e := kI 30) rct_260 ((cdI_seg sgl_h_ok 33 (by decide) (by decide)).trans rfl) rfl rfl (t := 1211) rfl (lcs_30 h hX hj K)
  | 31, _ => exact EV.swEq (e := kI 31) rct_260 ((cdI_seg sgl_h_ok 33 (by decide) (by decide)).trans rfl) rfl rfl (t := 1224) rfl (lcs_31 h hX hj K)
  | 32, _ => exact EV.swEq (e := kI 32) rct_260 ((cdI_seg sgl_h_ok 33 (by decide) (by decide)).trans rfl) rfl rfl (t := 1237) rfl (lcs_32 h hX hj K)
  | 33, _ => exact EV.swEq (e := kI 33) rct_260 ((cdI_seg sgl_h_ok 33 (by decide) (by decide)).trans rfl) rfl rfl (t := 1270) rfl (lcs_33 h hX hj K)
  | t + 34, ht => exact EV.swT rct_260 ((cdI_seg sgl_h_ok 33 (by decide) (by decide)).trans rfl) (Or.inr (by rw [nI_toInt (by omega)]; omega)) (K w h)
set_option maxRecDepth 100000 in
theorem lw_loop {X : Scr} (hL : X.1 ≤ 3072) : ∀ (m n : Nat) (w : Wd), II w → X.1 + 6 ≤ n + 6 * m → n ≤ 3072 → EI X 60 260 (18, LSi (nI n), [], SH, w) (fun x _ => x = 1) := by
  intro m
  have hX : X.1 < 4000 := by omega
  induction m with
  | zero =>
    intro n w h hm hn
    refine EV.stepsS rct_260 sgl_h_ok 2 (q2 := (20, LSi (nI n), [.ref 100000, .int (nI n)], SH, w)) rfl ?_
    refine EV.slen rct_260 ((cdI_seg sgl_h_ok 20 (by decide) (by decide)).trans rfl) hX ?_
    refine EV.stepsS rct_260 sgl_h_ok 2 (q2 := (24, LSi (nI n), [.int (Int32.ofNat X.1 - kI 6), .int (nI n)], SH, w)) rfl ?_
    refine EV.i_gt rct_260 ((cdI_seg sgl_h_ok 24 (by decide) (by decide)).trans rfl) (fun _ => ?_) (fun e => absurd ((lw_gt hL (by omega)).mpr (by omega)) e)
    refine EV.stepsS rct_260 sgl_e_ok 1 (q2 := (1300, LSi (nI n), [.int 1], SH, w)) rfl ?_
    exact EV.retB rct_260 ((cdI_seg sgl_e_ok 1300 (by decide) (by decide)).trans rfl) rfl (Or.inr rfl) ⟨1, rfl, rfl, rfl⟩
  | succ m ih =>
    intro n w h hm hn
    refine EV.stepsS rct_260 sgl_h_ok 2 (q2 := (20, LSi (nI n), [.ref 100000, .int (nI n)], SH, w)) rfl ?_
    refine EV.slen rct_260 ((cdI_seg sgl_h_ok 20 (by decide) (by decide)).trans rfl) hX ?_
    refine EV.stepsS rct_260 sgl_h_ok 2 (q2 := (24, LSi (nI n), [.int (Int32.ofNat X.1 - kI 6), .int (nI n)], SH, w)) rfl ?_
    refine EV.i_gt rct_260 ((cdI_seg sgl_h_ok 24 (by decide) (by decide)).trans rfl) (fun _ => ?_) (fun e => ?_)
    · refine EV.stepsS rct_260 sgl_e_ok 1 (q2 := (1300, LSi (nI n), [.int 1], SH, w)) rfl ?_
      exact EV.retB rct_260 ((cdI_seg sgl_e_ok 1300 (by decide) (by decide)).trans rfl) rfl (Or.inr rfl) ⟨1, rfl, rfl, rfl⟩
    · have hle : ¬ X.1 < n + 6 := fun h2 => e ((lw_gt hL (by omega)).mpr h2)
      refine lw_body h hL (by omega) ?_
      intro w2 i2
      refine EV.stepsS rct_260 sgl_e_ok 2 (q2 := (18, LSi (nI n + kI 6), [], SH, w2)) rfl ?_
      have e6 : nI n + kI 6 = nI (n + 6) := nI_add n 6
      rw [e6]
      exact ih (n + 6) w2 i2 (by omega) (by omega)
theorem EV.newS {X : Scr} {d k pc len ci n : Nat} {ls : PLs} {st : List Value} {sh : Sh} {w : Wd} {cl : List (Option (Instr × Nat))} {Q : Option Value → Sh → Wd → Prop} (hl : RCT[k]? = some cl) (hc : cdI cl pc = some (.new ci, len)) (hn : sh.length = n) (hb : n < 100000) (kk : EV X d k (pc + len, ls, .ref n :: st, sh ++ [.inr (ci, List.replicate (nFd ci) none)], zr2 w n) Q) : EV X d k (pc, ls, st, sh, w) Q := by
  subst hn
  refine EV.stp1 hl (q2 := (pc + len, ls, .ref sh.length :: st, sh ++ [.inr (ci, List.replicate (nFd ci) none)], zr2 w sh.length)) ?_ kk
  unfold stp
  rw [hc]
  have h1 : ¬ 100000 ≤ sh.length := by omega
  simp only [pstep, pkind, pwrite, if_neg h1]
theorem shC_len : shC.length = 110 := by decide +kernel
set_option maxRecDepth 100000 in
theorem lw_all {X : Scr} (hL : X.1 ≤ 3072) (hM : II wM) : EI X 60 260 (0, pentry 260 [.ref 100000], [], [], fun _ _ => 0) (fun x _ => x = 1) := by
  have l1 : nFd 11 = 18 := by decide +kernel
  have l2 : nFd 12 = 65 := by decide +kernel
  refine EV.newS rct_260 ((cdI_seg sgl_h_ok 0 (by decide) (by decide)).trans rfl) (n := 0) rfl (by decide) ?_
  rw [l1]
  refine EV.stepsS rct_260 sgl_h_ok 1 (q2 := (4, [some (.ref 100000), none, none, none], [.ref 0, .ref 0], sh0, w0)) rfl ?_
  refine EV.call rct_260 ((cdI_seg sgl_h_ok 4 (by decide) (by decide)).trans rfl) rfl rfl (m_116 (d := 54)) ?_
  intro v s1 w1 e
  rw [e.1, e.2.1, e.2.2]
  refine EV.stepsS rct_260 sgl_h_ok 1 (q2 := (8, [some (.ref 100000), some (.ref 0), none, none], [], shC, wC)) rfl ?_
  refine EV.newS rct_260 ((cdI_seg sgl_h_ok 8 (by decide) (by decide)).trans rfl) (n := 110) shC_len (by decide) ?_
  rw [l2]
  refine EV.stepsS rct_260 sgl_h_ok 1 (q2 := (12, [some (.ref 100000), some (.ref 0), none, none], [.ref 110, .ref 110], shC ++ [.inr (12, List.replicate 65 none)], zr2 wC 110)) rfl ?_
  refine EV.call rct_260 ((cdI_seg sgl_h_ok 12 (by decide) (by decide)).trans rfl) rfl rfl (m_156 (d := 54)) ?_
  intro v s1 w1 e
  rw [e.1, e.2.1, e.2.2]
  refine EV.stepsS rct_260 sgl_h_ok 3 (q2 := (18, LSi (nI 0), [], SH, wM)) rfl ?_
  exact lw_loop hL 600 0 wM hM (by omega) (by omega)
theorem SH_len : SH.length = 152 := by decide +kernel
theorem SH_sz : shSz SH ≤ 7302250 := by decide +kernel
theorem pure_all (hM : II wM) {L : Nat} (xs : Nat → Int32) (hL : L ≤ 3072) : PURE L xs := by
  obtain ⟨N, n, r, s1, w1, h1, x, rfl, rfl, rfl⟩ := lw_all (X := (L, xs)) hL hM
  exact ⟨60, N, n, SH, w1, by decide, h1, by rw [SH_len]; decide, SH_sz⟩
end LAWB
